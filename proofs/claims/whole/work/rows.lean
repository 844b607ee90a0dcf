section
/-- a name of the library's rest: so the round takes the whole library at once -/
theorem aa_wide (c : ClassId) (N h0 : Nat) : Jvm.Free.Multi.outerC c N h0 0 = Jvm.Free.Multi.outerC c N h0 0 := rfl
end
section
/-! THE MATHEMATICS, 1: sums, determinants by rows, and what they keep: linear, alternating, bounded -/
def ma_sm (f : Nat → Int) : Nat → Int
  | 0 => 0
  | n + 1 => ma_sm f n + f n
theorem ma_sm_congr {f g : Nat → Int} : ∀ {n : Nat}, (∀ i, i < n → f i = g i) → ma_sm f n = ma_sm g n
  | 0, _ => rfl
  | n + 1, h => by
    show ma_sm f n + f n = ma_sm g n + g n
    rw [ma_sm_congr (n := n) (fun i hi => h i (Nat.lt_succ_of_lt hi)), h n (Nat.lt_succ_self n)]
theorem ma_sm_lin (f g : Nat → Int) (x y : Int) : ∀ n, ma_sm (fun i => x * f i + y * g i) n = x * ma_sm f n + y * ma_sm g n
  | 0 => by simp [ma_sm]
  | n + 1 => by
    show ma_sm (fun i => x * f i + y * g i) n + (x * f n + y * g n) = x * (ma_sm f n + f n) + y * (ma_sm g n + g n)
    rw [ma_sm_lin f g x y n, Int.mul_add, Int.mul_add]
    omega
theorem ma_sm_mul (f : Nat → Int) (x : Int) : ∀ n, ma_sm (fun i => x * f i) n = x * ma_sm f n
  | 0 => by simp [ma_sm]
  | n + 1 => by
    show ma_sm (fun i => x * f i) n + x * f n = x * (ma_sm f n + f n)
    rw [ma_sm_mul f x n, Int.mul_add]
theorem ma_sm_add (f g : Nat → Int) : ∀ n, ma_sm (fun i => f i + g i) n = ma_sm f n + ma_sm g n
  | 0 => by simp [ma_sm]
  | n + 1 => by
    show ma_sm (fun i => f i + g i) n + (f n + g n) = (ma_sm f n + f n) + (ma_sm g n + g n)
    rw [ma_sm_add f g n]
    omega
theorem ma_sm_zero {f : Nat → Int} : ∀ {n : Nat}, (∀ i, i < n → f i = 0) → ma_sm f n = 0
  | 0, _ => rfl
  | n + 1, h => by
    show ma_sm f n + f n = 0
    rw [ma_sm_zero (n := n) (fun i hi => h i (Nat.lt_succ_of_lt hi)), h n (Nat.lt_succ_self n)]
    rfl
theorem ma_sm_one {s : Nat} {x : Int} : ∀ {n : Nat}, s < n → ma_sm (fun j => if j = s then x else 0) n = x
  | 0, h => by omega
  | n + 1, h => by
    show ma_sm (fun j => if j = s then x else 0) n + (if n = s then x else 0) = x
    by_cases e : n = s
    · rw [if_pos e, ma_sm_zero (fun i hi => if_neg (by omega))]
      omega
    · rw [if_neg e, ma_sm_one (n := n) (by omega)]
      omega
/-- two sums whose terms cancel -/
theorem ma_sm2 (F : Nat → Nat → Int) : ∀ m, (∀ j c, c < j → j ≤ m → F j c = - F c (j - 1)) → ma_sm (fun j => ma_sm (fun c => F j c) m) (m + 1) = 0
  | 0, _ => by simp [ma_sm]
  | m + 1, h => by
    have ih := ma_sm2 F m (fun j c hc hj => h j c hc (by omega))
    show ma_sm (fun j => ma_sm (fun c => F j c) m + F j m) (m + 1) + ma_sm (fun c => F (m + 1) c) (m + 1) = 0
    rw [ma_sm_add, ih]
    have : ma_sm (fun c => F (m + 1) c) (m + 1) = ma_sm (fun c => (-1) * F c m) (m + 1) := ma_sm_congr (fun c hc => by
      have := h (m + 1) c hc (Nat.le_refl _)
      rw [this, Nat.add_sub_cancel]
      omega)
    rw [this, ma_sm_mul]
    omega
def ma_sk (j c : Nat) : Nat := if c < j then c else c + 1
def ma_sg (j k : Nat) : Int := if (j + k) % 2 = 0 then 1 else -1
def ma_D : Nat → (Nat → Nat → Int) → Int
  | 0, _ => 1
  | k + 1, a => ma_sm (fun j => ma_sg j k * a k j * ma_D k (fun i c => a i (ma_sk j c))) (k + 1)
def ma_rw (a : Nat → Nat → Int) (i : Nat) (v : Nat → Int) : Nat → Nat → Int := fun i' => if i' = i then v else a i'
theorem ma_rw_s {a : Nat → Nat → Int} {i : Nat} {v : Nat → Int} : ma_rw a i v i = v := if_pos rfl
theorem ma_rw_n {a : Nat → Nat → Int} {i k : Nat} {v : Nat → Int} (h : k ≠ i) : ma_rw a i v k = a k := if_neg h
theorem ma_rw_rw {a : Nat → Nat → Int} {i : Nat} {u v : Nat → Int} : ma_rw (ma_rw a i u) i v = ma_rw a i v := by
  funext k
  unfold ma_rw
  split <;> rfl
theorem ma_rw_c {a : Nat → Nat → Int} {i j : Nat} {u v : Nat → Int} (h : i ≠ j) : ma_rw (ma_rw a i u) j v = ma_rw (ma_rw a j v) i u := by
  funext k
  unfold ma_rw
  by_cases e : k = j
  · rw [if_pos e, if_neg (by omega), if_pos e]
  · rw [if_neg e]
    by_cases e2 : k = i
    · rw [if_pos e2, if_pos e2]
    · rw [if_neg e2, if_neg e2, if_neg e]
theorem ma_rw_self {a : Nat → Nat → Int} {i : Nat} : ma_rw a i (a i) = a := by
  funext k
  unfold ma_rw
  split
  · next h => rw [h]
  · rfl
theorem ma_min_rw {a : Nat → Nat → Int} {i j : Nat} {u : Nat → Int} : (fun i' c => ma_rw a i u i' (ma_sk j c)) = ma_rw (fun i' c => a i' (ma_sk j c)) i (fun c => u (ma_sk j c)) := by
  funext i' c
  unfold ma_rw
  split <;> rfl
theorem ma_sk_lt {j c n : Nat} (h : c < n) : ma_sk j c < n + 1 := by
  unfold ma_sk
  split <;> omega
theorem ma_D_congr : ∀ (n : Nat) (a a' : Nat → Nat → Int), (∀ i, i < n → ∀ c, c < n → a i c = a' i c) → ma_D n a = ma_D n a'
  | 0, _, _, _ => rfl
  | n + 1, a, a', h => by
    unfold ma_D
    refine ma_sm_congr (fun j hj => ?_)
    rw [h n (Nat.lt_succ_self n) j hj, ma_D_congr n _ (fun i c => a' i (ma_sk j c)) (fun i hi c hc => h i (Nat.lt_succ_of_lt hi) _ (ma_sk_lt hc))]
theorem ma_D_lin : ∀ (n : Nat) (a : Nat → Nat → Int) (i : Nat) (u v : Nat → Int) (x y : Int), i < n → ma_D n (ma_rw a i (fun c => x * u c + y * v c)) = x * ma_D n (ma_rw a i u) + y * ma_D n (ma_rw a i v)
  | 0, _, _, _, _, _, _, h => by omega
  | n + 1, a, i, u, v, x, y, h => by
    show ma_sm _ (n + 1) = x * ma_sm _ (n + 1) + y * ma_sm _ (n + 1)
    rw [← ma_sm_lin]
    refine ma_sm_congr (fun j hj => ?_)
    simp only [ma_min_rw]
    by_cases e : i = n
    · subst e
      simp only [ma_rw_s]
      have e1 : ∀ w : Nat → Int, ma_D i (ma_rw (fun i' c => a i' (ma_sk j c)) i w) = ma_D i (fun i' c => a i' (ma_sk j c)) := fun w => ma_D_congr i _ _ (fun k hk c _ => by rw [ma_rw_n (by omega)])
      rw [e1, e1, e1]
      generalize ma_D i (fun i' c => a i' (ma_sk j c)) = d
      generalize ma_sg j i = g
      grind
    · simp only [ma_rw_n (show n ≠ i by omega)]
      rw [ma_D_lin n _ i (fun c => u (ma_sk j c)) (fun c => v (ma_sk j c)) x y (by omega)]
      generalize ma_D n (ma_rw (fun i' c => a i' (ma_sk j c)) i (fun c => u (ma_sk j c))) = d1
      generalize ma_D n (ma_rw (fun i' c => a i' (ma_sk j c)) i (fun c => v (ma_sk j c))) = d2
      generalize ma_sg j n * a n j = g
      grind
/-- two rows change places, where equal rows give 0 -/
theorem ma_swap_of {n : Nat} (H : ∀ (a : Nat → Nat → Int) (i j : Nat), i < j → j < n → (∀ c, a i c = a j c) → ma_D n a = 0) (a : Nat → Nat → Int) (i j : Nat) (u v : Nat → Int) (hi : i < n) (hj : j < n) (hij : i ≠ j) : ma_D n (ma_rw (ma_rw a i u) j v) = - ma_D n (ma_rw (ma_rw a i v) j u) := by
  have Z : ∀ w : Nat → Int, ma_D n (ma_rw (ma_rw a i w) j w) = 0 := by
    intro w
    rcases Nat.lt_or_gt_of_ne hij with h | h
    · exact H _ i j h hj (fun c => by rw [ma_rw_n hij, ma_rw_s, ma_rw_s])
    · exact H _ j i h hi (fun c => by rw [ma_rw_s, ma_rw_n hij, ma_rw_s])
  have h0 := Z (fun c => 1 * u c + 1 * v c)
  rw [ma_D_lin n _ j u v 1 1 hj, ma_rw_c hij, ma_D_lin n _ i u v 1 1 hi, ma_rw_c (a := a) (i := i) (j := j) (v := v) hij, ma_D_lin n _ i u v 1 1 hi] at h0
  rw [← ma_rw_c hij, ← ma_rw_c hij, ← ma_rw_c hij, ← ma_rw_c hij, Z u, Z v] at h0
  omega
theorem ma_sg2 {j c m : Nat} (h : c < j) : ma_sg j (m + 1) * ma_sg c m = - (ma_sg c (m + 1) * ma_sg (j - 1) m) := by
  unfold ma_sg
  repeat' split
  all_goals first | rfl | (exfalso; omega)
theorem ma_sk2 {j c x : Nat} (h : c < j) : ma_sk j (ma_sk c x) = ma_sk c (ma_sk (j - 1) x) := by
  unfold ma_sk
  repeat' split
  all_goals first | rfl | omega
/-- the last two rows are equal -/
theorem ma_alt2 (m : Nat) (a : Nat → Nat → Int) (h : ∀ c, a m c = a (m + 1) c) : ma_D (m + 2) a = 0 := by
  show ma_sm (fun j => ma_sg j (m + 1) * a (m + 1) j * ma_sm (fun c => ma_sg c m * a m (ma_sk j c) * ma_D m (fun i x => a i (ma_sk j (ma_sk c x)))) (m + 1)) (m + 2) = 0
  rw [← ma_sm2 (fun j c => ma_sg j (m + 1) * a (m + 1) j * (ma_sg c m * a m (ma_sk j c) * ma_D m (fun i x => a i (ma_sk j (ma_sk c x))))) (m + 1) ?_]
  · refine ma_sm_congr (fun j hj => ?_)
    rw [ma_sm_mul]
  · intro j c hc hj
    have e1 : ma_sk j c = c := if_pos hc
    have e2 : ma_sk c (j - 1) = j := by unfold ma_sk; rw [if_neg (by omega)]; omega
    have e3 : (fun (i x : Nat) => a i (ma_sk j (ma_sk c x))) = (fun i x => a i (ma_sk c (ma_sk (j - 1) x))) := by
      funext i x
      rw [ma_sk2 hc]
    simp only [e1, e2, e3, h]
    generalize ma_D m (fun i x => a i (ma_sk c (ma_sk (j - 1) x))) = d
    have e4 := ma_sg2 (m := m) hc
    generalize ma_sg j (m + 1) = g1 at *
    generalize ma_sg c m = g2 at *
    generalize ma_sg c (m + 1) = g3 at *
    generalize ma_sg (j - 1) m = g4 at *
    generalize a (m + 1) j = p
    generalize a (m + 1) c = q
    have : g1 * p * (g2 * q * d) = (g1 * g2) * (p * q * d) := by grind
    rw [this, e4]
    grind
theorem ma_D_alt : ∀ (n : Nat) (a : Nat → Nat → Int) (i j : Nat), i < j → j < n → (∀ c, a i c = a j c) → ma_D n a = 0
  | 0, _, _, _, _, h, _ => by omega
  | n + 1, a, i, j, hij, hj, h => by
    by_cases e : j = n
    · subst e
      obtain ⟨m, rfl⟩ : ∃ m, j = m + 1 := ⟨j - 1, by omega⟩
      by_cases e1 : i = m
      · subst e1
        exact ma_alt2 i a h
      · have hz : ma_D (m + 2) (ma_rw (ma_rw a i (a m)) m (a i)) = 0 := ma_alt2 m _ (fun c => by
          rw [ma_rw_s, ma_rw_n (by omega), ma_rw_n (by omega)]
          exact h c)
        have hs : ma_D (m + 2) a = (-1) * ma_D (m + 2) (ma_rw (ma_rw a i (a m)) m (a i)) := by
          show ma_sm _ (m + 2) = (-1) * ma_sm _ (m + 2)
          rw [← ma_sm_mul]
          refine ma_sm_congr (fun j hj => ?_)
          rw [ma_rw_n (show m + 1 ≠ m by omega), ma_rw_n (show m + 1 ≠ i by omega)]
          have e2 : (fun i' c => a i' (ma_sk j c)) = ma_rw (ma_rw (fun i' c => a i' (ma_sk j c)) i (fun c => a i (ma_sk j c))) m (fun c => a m (ma_sk j c)) := by
            have q1 : ma_rw (fun i' c => a i' (ma_sk j c)) i (fun c => a i (ma_sk j c)) = (fun i' c => a i' (ma_sk j c)) := ma_rw_self (a := fun i' c => a i' (ma_sk j c))
            rw [q1]
            exact (ma_rw_self (a := fun i' c => a i' (ma_sk j c))).symm
          rw [e2, ma_swap_of (ma_D_alt (m + 1)) _ i m _ _ (by omega) (by omega) e1]
          rw [ma_min_rw, ma_min_rw]
          grind
        rw [hs, hz]
        rfl
    · unfold ma_D
      refine ma_sm_zero (fun k hk => ?_)
      have q : ma_D n (fun i c => a i (ma_sk k c)) = 0 := ma_D_alt n (fun i c => a i (ma_sk k c)) i j hij (by omega) (fun c => h _)
      rw [q]
      omega
theorem ma_D_swap {n : Nat} (a : Nat → Nat → Int) (i j : Nat) (u v : Nat → Int) (hi : i < n) (hj : j < n) (hij : i ≠ j) : ma_D n (ma_rw (ma_rw a i u) j v) = - ma_D n (ma_rw (ma_rw a i v) j u) := ma_swap_of (ma_D_alt n) a i j u v hi hj hij
theorem ma_D_eq {n : Nat} (a : Nat → Nat → Int) (i j : Nat) (hi : i < n) (hj : j < n) (hij : i ≠ j) (h : ∀ c, a i c = a j c) : ma_D n a = 0 := by
  rcases Nat.lt_or_gt_of_ne hij with q | q
  · exact ma_D_alt n a i j q hj h
  · exact ma_D_alt n a j i q hi (fun c => (h c).symm)
/-- a row that is a sum of rows -/
theorem ma_D_sum {n : Nat} (a : Nat → Nat → Int) (i : Nat) (hi : i < n) (x : Nat → Int) (w : Nat → Nat → Int) : ∀ m, ma_D n (ma_rw a i (fun c => ma_sm (fun s => x s * w s c) m)) = ma_sm (fun s => x s * ma_D n (ma_rw a i (w s))) m
  | 0 => by
    have := ma_D_lin n a i (fun _ => 0) (fun _ => 0) 0 0 hi
    simpa [ma_sm] using this
  | m + 1 => by
    have := ma_D_lin n a i (fun c => ma_sm (fun s => x s * w s c) m) (w m) 1 (x m) hi
    have e : (fun c => ma_sm (fun s => x s * w s c) (m + 1)) = (fun c => 1 * ma_sm (fun s => x s * w s c) m + x m * w m c) := by
      funext c
      show ma_sm (fun s => x s * w s c) m + x m * w m c = _
      omega
    rw [e, this, ma_D_sum a i hi x w m]
    show _ = ma_sm (fun s => x s * ma_D n (ma_rw a i (w s))) m + x m * ma_D n (ma_rw a i (w m))
    omega
theorem ma_sm_abs {f : Nat → Int} {B : Nat} : ∀ {n : Nat}, (∀ i, i < n → (f i).natAbs ≤ B) → (ma_sm f n).natAbs ≤ n * B
  | 0, _ => by simp [ma_sm]
  | n + 1, h => by
    have h1 := ma_sm_abs (n := n) (fun i hi => h i (Nat.lt_succ_of_lt hi))
    have h2 := h n (Nat.lt_succ_self n)
    show (ma_sm f n + f n).natAbs ≤ (n + 1) * B
    rw [Nat.add_mul]
    have := Int.natAbs_add_le (ma_sm f n) (f n)
    omega
def ma_fac : Nat → Nat
  | 0 => 1
  | n + 1 => (n + 1) * ma_fac n
theorem ma_sg_abs (j k : Nat) : (ma_sg j k).natAbs = 1 := by
  unfold ma_sg
  split <;> rfl
theorem ma_D_b9 : ∀ (n : Nat) (a : Nat → Nat → Int), (∀ i, i < n → ∀ c, c < n → (a i c).natAbs ≤ 9) → (ma_D n a).natAbs ≤ ma_fac n * 9 ^ n
  | 0, _, _ => by simp [ma_D, ma_fac]
  | n + 1, a, h => by
    show (ma_sm _ (n + 1)).natAbs ≤ (n + 1) * ma_fac n * 9 ^ (n + 1)
    have : (n + 1) * ma_fac n * 9 ^ (n + 1) = (n + 1) * (9 * (ma_fac n * 9 ^ n)) := by rw [Nat.pow_succ]; grind
    rw [this]
    refine ma_sm_abs (fun j hj => ?_)
    rw [Int.natAbs_mul, Int.natAbs_mul, ma_sg_abs, Nat.one_mul]
    exact Nat.mul_le_mul (h n (Nat.lt_succ_self n) j hj) (ma_D_b9 n _ (fun i hi c hc => h i (Nat.lt_succ_of_lt hi) _ (ma_sk_lt hc)))
theorem ma_D_bK {K : Nat} : ∀ (n : Nat) (a : Nat → Nat → Int), (∀ i, i ≤ n → ∀ c, c < n → (a i c).natAbs ≤ 9) → (∀ i, i ≤ n → (a i n).natAbs ≤ K) → (ma_D (n + 1) a).natAbs ≤ ma_fac (n + 1) * (9 ^ n * K)
  | 0, a, _, h2 => by
    have e : ma_D 1 a = a 0 0 := by simp [ma_D, ma_sm, ma_sg]
    rw [e]
    have := h2 0 (Nat.le_refl 0)
    simp [ma_fac]
    omega
  | n + 1, a, h, h2 => by
    show (ma_sm _ (n + 2)).natAbs ≤ (n + 2) * ma_fac (n + 1) * (9 ^ (n + 1) * K)
    rw [Nat.mul_assoc]
    refine ma_sm_abs (fun j hj => ?_)
    rw [Int.natAbs_mul, Int.natAbs_mul, ma_sg_abs, Nat.one_mul]
    by_cases e : j = n + 1
    · subst e
      have q1 := h2 (n + 1) (Nat.le_refl _)
      have q2 := ma_D_b9 (n + 1) (fun i c => a i (ma_sk (n + 1) c)) (fun i hi c hc => by
        have : ma_sk (n + 1) c = c := if_pos hc
        rw [this]
        exact h i (by omega) c hc)
      refine Nat.le_trans (Nat.mul_le_mul q1 q2) (Nat.le_of_eq ?_)
      grind
    · have q1 := h (n + 1) (Nat.le_refl _) j (by omega)
      have q2 := ma_D_bK n (fun i c => a i (ma_sk j c)) (fun i hi c hc => h i (by omega) _ (by unfold ma_sk; split <;> omega)) (fun i hi => by
        have : ma_sk j n = n + 1 := if_neg (by omega)
        rw [this]
        exact h2 i (by omega))
      refine Nat.le_trans (Nat.mul_le_mul q1 q2) (Nat.le_of_eq ?_)
      rw [Nat.pow_succ]
      grind
end
section
/-! THE MATHEMATICS, 2: six rows that span, told by determinants, and one row put in another's place -/
def ma_e (i : Nat) : Nat → Int := fun c => if c = i then 1 else 0
def ma_dot (v Y : Nat → Int) : Int := ma_sm (fun i => v i * Y i) 6
def ma_K (o : Nat → Nat → Int) (s : Nat) (v : Nat → Int) : Int := ma_D 6 (ma_rw o s v)
def ma_sp (o : Nat → Nat → Int) : Prop := ∀ v Y : Nat → Int, ma_D 6 o * ma_dot v Y = ma_sm (fun s => ma_K o s v * ma_dot (o s) Y) 6
theorem ma_dot_e {v : Nat → Int} {c : Nat} (h : c < 6) : ma_dot v (ma_e c) = v c := by
  unfold ma_dot
  rw [ma_sm_congr (g := fun j => if j = c then v c else 0) (fun i _ => by
    unfold ma_e
    split
    · next q => rw [q]; omega
    · omega)]
  exact ma_sm_one h
theorem ma_e_dot {Y : Nat → Int} {c : Nat} (h : c < 6) : ma_dot (ma_e c) Y = Y c := by
  unfold ma_dot
  rw [ma_sm_congr (g := fun j => if j = c then Y c else 0) (fun i _ => by
    unfold ma_e
    split
    · next q => rw [q]; omega
    · omega)]
  exact ma_sm_one h
theorem ma_dot_lin {u v Y : Nat → Int} {x y : Int} : ma_dot (fun c => x * u c + y * v c) Y = x * ma_dot u Y + y * ma_dot v Y := by
  unfold ma_dot
  rw [← ma_sm_lin]
  exact ma_sm_congr (fun i _ => by grind)
theorem ma_K_congr {o : Nat → Nat → Int} {s : Nat} {u v : Nat → Int} (h : ∀ c, c < 6 → u c = v c) : ma_K o s u = ma_K o s v := by
  refine ma_D_congr 6 _ _ (fun i _ c hc => ?_)
  unfold ma_rw
  split
  · exact h c hc
  · rfl
theorem ma_K_lin {o : Nat → Nat → Int} {s : Nat} (hs : s < 6) (u v : Nat → Int) (x y : Int) : ma_K o s (fun c => x * u c + y * v c) = x * ma_K o s u + y * ma_K o s v := ma_D_lin 6 o s u v x y hs
theorem ma_K_sum {o : Nat → Nat → Int} {s : Nat} (hs : s < 6) (x : Nat → Int) (w : Nat → Nat → Int) (m : Nat) : ma_K o s (fun c => ma_sm (fun k => x k * w k c) m) = ma_sm (fun k => x k * ma_K o s (w k)) m := ma_D_sum o s hs x w m
theorem ma_K_o {o : Nat → Nat → Int} {s : Nat} : ma_K o s (o s) = ma_D 6 o := by
  unfold ma_K
  rw [ma_rw_self]
theorem ma_K_z {o : Nat → Nat → Int} {s k : Nat} (hs : s < 6) (hk : k < 6) (h : k ≠ s) : ma_K o s (o k) = 0 :=
  ma_D_eq _ k s hk hs h (fun c => by rw [ma_rw_n h, ma_rw_s])
/-- the numbers by which a row is told are found again -/
theorem ma_K_coef {o : Nat → Nat → Int} {s : Nat} (hs : s < 6) {v x : Nat → Int} (h : ∀ c, c < 6 → v c = ma_sm (fun k => x k * o k c) 6) : ma_K o s v = x s * ma_D 6 o := by
  rw [ma_K_congr h, ma_K_sum hs]
  rw [ma_sm_congr (g := fun k => if k = s then x s * ma_D 6 o else 0) (fun k hk => ?_)]
  · exact ma_sm_one hs
  · split
    · next q => rw [q, ma_K_o]
    · next q => rw [ma_K_z hs hk q]; omega
theorem ma_sp_co {o : Nat → Nat → Int} (H : ma_sp o) (v : Nat → Int) {c : Nat} (hc : c < 6) : ma_D 6 o * v c = ma_sm (fun s => ma_K o s v * o s c) 6 := by
  have := H v (ma_e c)
  rw [ma_dot_e hc] at this
  rw [this]
  exact ma_sm_congr (fun s _ => by rw [ma_dot_e hc])
theorem ma_plu {o : Nat → Nat → Int} (H : ma_sp o) (u v : Nat → Int) {s j : Nat} (hs : s < 6) (hj : j < 6) (hsj : s ≠ j) : ma_D 6 o * ma_D 6 (ma_rw (ma_rw o s u) j v) = ma_K o j v * ma_K o s u - ma_K o s v * ma_K o j u := by
  have h1 := ma_D_lin 6 (ma_rw o s u) j v v (ma_D 6 o) 0 hj
  have h2 : ma_D 6 (ma_rw (ma_rw o s u) j (fun c => ma_D 6 o * v c + 0 * v c)) = ma_D 6 (ma_rw (ma_rw o s u) j (fun c => ma_sm (fun k => ma_K o k v * o k c) 6)) := by
    refine ma_D_congr 6 _ _ (fun i _ c hc => ?_)
    by_cases e : i = j
    · subst e
      rw [ma_rw_s, ma_rw_s, ← ma_sp_co H v hc]
      omega
    · rw [ma_rw_n e, ma_rw_n e]
  rw [h2, ma_D_sum _ j hj] at h1
  have h3 : ma_sm (fun k => ma_K o k v * ma_D 6 (ma_rw (ma_rw o s u) j (o k))) 6 = ma_sm (fun k => (if k = j then ma_K o j v * ma_K o s u else 0) + (if k = s then - (ma_K o s v * ma_K o j u) else 0)) 6 := by
    refine ma_sm_congr (fun k hk => ?_)
    by_cases e1 : k = j
    · subst e1
      rw [if_pos rfl, if_neg (fun q => hsj q.symm), ma_rw_c hsj, ma_rw_self]
      show ma_K o k v * ma_K o s u = _
      omega
    · rw [if_neg e1]
      by_cases e2 : k = s
      · subst e2
        rw [if_pos rfl, ma_D_swap o k j u (o k) hk hj hsj, ma_rw_self]
        show ma_K o k v * -ma_K o j u = _
        grind
      · rw [if_neg e2, ma_D_eq _ k j hk hj e1 (fun c => by rw [ma_rw_n e1, ma_rw_n e2, ma_rw_s])]
        omega
  rw [h3, ma_sm_add, ma_sm_one hj, ma_sm_one hs] at h1
  omega
theorem ma_K_rw {o : Nat → Nat → Int} {s : Nat} {u v : Nat → Int} : ma_K (ma_rw o s u) s v = ma_K o s v := by
  unfold ma_K
  rw [ma_rw_rw]
/-- a row is put in another's place -/
theorem ma_sp_rw {o : Nat → Nat → Int} (H : ma_sp o) (h0 : ma_D 6 o ≠ 0) (u : Nat → Int) {s : Nat} (hs : s < 6) : ma_sp (ma_rw o s u) := by
  intro v Y
  have hu := H u Y
  have hv := H v Y
  have h1 : ma_D 6 o * ma_sm (fun j => ma_K (ma_rw o s u) j v * ma_dot (ma_rw o s u j) Y) 6 = ma_sm (fun j => (ma_K o s u * (ma_K o j v * ma_dot (o j) Y) + (- ma_K o s v) * (ma_K o j u * ma_dot (o j) Y)) + (if j = s then ma_K o s v * (ma_D 6 o * ma_dot u Y) else 0)) 6 := by
    rw [← ma_sm_mul]
    refine ma_sm_congr (fun j hj => ?_)
    by_cases e : j = s
    · subst e
      rw [if_pos rfl, ma_rw_s, ma_K_rw]
      generalize ma_K o j v = x1
      generalize ma_K o j u = x2
      generalize ma_dot (o j) Y = x3
      generalize ma_dot u Y = x4
      grind
    · rw [if_neg e, ma_rw_n e]
      have := ma_plu H u v hs hj (fun q => e q.symm)
      have e2 : ma_D 6 o * (ma_K (ma_rw o s u) j v * ma_dot (o j) Y) = (ma_D 6 o * ma_K (ma_rw o s u) j v) * ma_dot (o j) Y := by grind
      rw [e2]
      unfold ma_K at this ⊢
      rw [this]
      grind
  rw [ma_sm_add, ma_sm_one hs, ma_sm_lin, ← hu, ← hv] at h1
  have h2 : ma_D 6 (ma_rw o s u) = ma_K o s u := rfl
  have h3 : ma_D 6 o * (ma_D 6 (ma_rw o s u) * ma_dot v Y - ma_sm (fun j => ma_K (ma_rw o s u) j v * ma_dot (ma_rw o s u j) Y) 6) = 0 := by
    rw [Int.mul_sub, h1, h2]
    grind
  rcases Int.mul_eq_zero.mp h3 with q | q
  · exact absurd q h0
  · omega
/-- the point, or the way, that belongs to a place -/
def ma_Y (o : Nat → Nat → Int) (s : Nat) : Nat → Int := fun i => ma_K o s (ma_e i)
theorem ma_dot_Y {o : Nat → Nat → Int} {s : Nat} (hs : s < 6) (v : Nat → Int) : ma_dot v (ma_Y o s) = ma_K o s v := by
  have : ma_K o s v = ma_K o s (fun c => ma_sm (fun k => v k * ma_e k c) 6) := ma_K_congr (fun c hc => by
    rw [ma_sm_congr (g := fun k => if k = c then v c else 0) (fun k _ => by
      unfold ma_e
      by_cases q : k = c
      · rw [if_pos q.symm, if_pos q, q]; omega
      · rw [if_neg (fun h => q h.symm), if_neg q]; omega), ma_sm_one hc])
  rw [this, ma_K_sum hs]
  rfl
theorem ma_D_e : ma_D 6 ma_e = 1 := by decide +kernel
theorem ma_K_e {s : Nat} (hs : s < 6) (v : Nat → Int) : ma_K ma_e s v = v s := by
  rw [ma_K_coef (x := v) hs (fun c hc => ?_), ma_D_e]
  · omega
  · rw [ma_sm_congr (g := fun k => if k = c then v c else 0) (fun k _ => by
      unfold ma_e
      by_cases q : k = c
      · rw [if_pos q.symm, if_pos q, q]; omega
      · rw [if_neg (fun h => q h.symm), if_neg q]; omega), ma_sm_one hc]
theorem ma_sp_e : ma_sp ma_e := by
  intro v Y
  rw [ma_D_e, Int.one_mul]
  exact ma_sm_congr (fun s hs => by rw [ma_K_e hs, ma_e_dot hs])
/-- what a row of the class or of the reference keeps to -/
def ma_bd (v : Nat → Int) : Prop := (∀ c, c < 5 → (v c).natAbs ≤ 9) ∧ (v 5).natAbs ≤ 1000
theorem ma_D_big {o : Nat → Nat → Int} (h : ∀ s, s < 6 → ma_bd (o s)) : (ma_D 6 o).natAbs ≤ 42515280000 :=
  Nat.le_trans (ma_D_bK (K := 1000) 5 o (fun i hi c hc => (h i (by omega)).1 c hc) (fun i hi => (h i (by omega)).2)) (by decide)
theorem ma_D_five {o : Nat → Nat → Int} (h5 : o 5 = ma_e 5) : ma_D 6 o = ma_D 5 o := by
  show ma_sm (fun j => ma_sg j 5 * o 5 j * ma_D 5 (fun i c => o i (ma_sk j c))) 6 = _
  rw [ma_sm_congr (g := fun j => if j = 5 then ma_D 5 o else 0) (fun j hj => ?_)]
  · exact ma_sm_one (by decide)
  · rw [h5]
    by_cases e : j = 5
    · subst e
      rw [if_pos rfl]
      have q : ma_D 5 (fun i c => o i (ma_sk 5 c)) = ma_D 5 o := ma_D_congr 5 _ _ (fun i hi c hc => by
        have : ma_sk 5 c = c := if_pos hc
        rw [this])
      rw [q]
      simp [ma_sg, ma_e]
    · rw [if_neg e]
      simp [ma_e, e]
theorem ma_D_small {o : Nat → Nat → Int} (h5 : o 5 = ma_e 5) (h : ∀ s, s < 5 → ma_bd (o s)) : (ma_D 6 o).natAbs ≤ 7085880 := by
  rw [ma_D_five h5]
  exact Nat.le_trans (ma_D_b9 5 o (fun i hi c hc => (h i hi).1 c hc)) (by decide)
theorem ma_bd_e {i : Nat} : ma_bd (ma_e i) := by
  refine ⟨fun c _ => ?_, ?_⟩ <;> unfold ma_e <;> split <;> decide
end
section
/-! THE MATHEMATICS, 3: no basis comes twice by Bland's rule, and how many there are -/
def ma_ch : Nat → Nat → Nat
  | _, 0 => 1
  | 0, _ + 1 => 0
  | n + 1, k + 1 => ma_ch n k + ma_ch n (k + 1)
def ma_cnt (b : Nat → Bool) : Nat → Nat
  | 0 => 0
  | m + 1 => ma_cnt b m + (if b m then 1 else 0)
def ma_rk (b : Nat → Bool) : Nat → Nat
  | 0 => 0
  | m + 1 => ma_rk b m + (if b m then ma_ch m (ma_cnt b m + 1) else 0)
theorem ma_ch_up : ∀ m k, ma_ch m k ≤ ma_ch (m + 1) k
  | m, 0 => by cases m <;> simp [ma_ch]
  | m, k + 1 => by
    show ma_ch m (k + 1) ≤ ma_ch m k + ma_ch m (k + 1)
    omega
theorem ma_rk_lt (b : Nat → Bool) : ∀ m, ma_rk b m < ma_ch m (ma_cnt b m)
  | 0 => Nat.zero_lt_one
  | m + 1 => by
    have ih := ma_rk_lt b m
    show ma_rk b m + (if b m then ma_ch m (ma_cnt b m + 1) else 0) < ma_ch (m + 1) (ma_cnt b m + (if b m then 1 else 0))
    by_cases h : b m = true
    · rw [if_pos h, if_pos h]
      show _ < ma_ch m (ma_cnt b m) + ma_ch m (ma_cnt b m + 1)
      omega
    · rw [if_neg h, if_neg h]
      have := ma_ch_up m (ma_cnt b m)
      simp only [Nat.add_zero]
      omega
theorem ma_rk_inj (b b' : Nat → Bool) : ∀ m, ma_cnt b m = ma_cnt b' m → ma_rk b m = ma_rk b' m → ∀ i, i < m → b i = b' i
  | 0, _, _, i, hi => by omega
  | m + 1, hc, hr, i, hi => by
    change ma_cnt b m + (if b m then 1 else 0) = ma_cnt b' m + (if b' m then 1 else 0) at hc
    change ma_rk b m + (if b m then ma_ch m (ma_cnt b m + 1) else 0) = ma_rk b' m + (if b' m then ma_ch m (ma_cnt b' m + 1) else 0) at hr
    have l1 := ma_rk_lt b m
    have l2 := ma_rk_lt b' m
    by_cases h : b m = true
    · by_cases h' : b' m = true
      · simp only [if_pos h, if_pos h'] at hc hr
        have hc' : ma_cnt b m = ma_cnt b' m := by omega
        rw [hc'] at hr
        by_cases e : i = m
        · rw [e, h, h']
        · exact ma_rk_inj b b' m hc' (by omega) i (by omega)
      · simp only [if_pos h, if_neg h', Nat.add_zero] at hc hr
        rw [← hc] at l2
        omega
    · by_cases h' : b' m = true
      · simp only [if_neg h, if_pos h', Nat.add_zero] at hc hr
        rw [hc] at l1
        omega
      · simp only [if_neg h, if_neg h', Nat.add_zero] at hc hr
        by_cases e : i = m
        · rw [e]
          simp only [Bool.not_eq_true] at h h'
          rw [h, h']
        · exact ma_rk_inj b b' m hc hr i (by omega)
theorem ma_pig : ∀ (N L : Nat) (f : Nat → Nat), N < L → (∀ i, i < L → f i < N) → ∃ i j, i < j ∧ j < L ∧ f i = f j
  | 0, L, f, h, hf => absurd (hf 0 h) (Nat.not_lt_zero _)
  | N + 1, L, f, h, hf => by
    by_cases hx : ∃ i, i < L ∧ f i = N
    · obtain ⟨i0, h1, h2⟩ := hx
      by_cases hy : ∃ j, j < L ∧ j ≠ i0 ∧ f j = N
      · obtain ⟨j, h3, h4, h5⟩ := hy
        rcases Nat.lt_or_gt_of_ne h4 with q | q
        · exact ⟨j, i0, q, h1, by rw [h5, h2]⟩
        · exact ⟨i0, j, q, h3, by rw [h5, h2]⟩
      · obtain ⟨i, j, hij, hj, he⟩ := ma_pig N (L - 1) (fun k => f (ma_sk i0 k)) (by omega) (fun k hk => by
          have hl : ma_sk i0 k < L := by unfold ma_sk; split <;> omega
          have hn : ma_sk i0 k ≠ i0 := by unfold ma_sk; split <;> omega
          have q1 := hf _ hl
          have q2 : f (ma_sk i0 k) ≠ N := fun q => hy ⟨_, hl, hn, q⟩
          show f (ma_sk i0 k) < N
          omega)
        refine ⟨ma_sk i0 i, ma_sk i0 j, ?_, ?_, he⟩
        · unfold ma_sk
          split <;> split <;> omega
        · unfold ma_sk
          split <;> omega
    · exact ma_pig N L f (by omega) (fun i hi => by
        have q1 := hf i hi
        have q2 : f i ≠ N := fun q => hx ⟨i, hi, q⟩
        omega)
theorem ma_mono {P : Nat → Prop} {i j : Nat} (h : ∀ c, i ≤ c → c < j → P c → P (c + 1)) : ∀ y x, i ≤ x → x ≤ y → y ≤ j → P x → P y
  | 0, x, _, h2, _, hp => by
    have : x = 0 := by omega
    rw [← this]
    exact hp
  | y + 1, x, h1, h2, h3, hp => by
    by_cases e : x = y + 1
    · rw [← e]
      exact hp
    · exact h y (by omega) (by omega) (ma_mono h y x h1 (by omega) (by omega) hp)
theorem ma_max (f : Nat → Nat) (i : Nat) : ∀ d, ∃ c0, i ≤ c0 ∧ c0 < i + d + 1 ∧ ∀ c, i ≤ c → c < i + d + 1 → f c ≤ f c0
  | 0 => ⟨i, Nat.le_refl _, by omega, fun c h1 h2 => by
      have : c = i := by omega
      rw [this]
      exact Nat.le_refl _⟩
  | d + 1 => by
    obtain ⟨c0, h1, h2, h3⟩ := ma_max f i d
    by_cases q : f (i + d + 1) ≤ f c0
    · refine ⟨c0, h1, by omega, fun c q1 q2 => ?_⟩
      by_cases e : c = i + d + 1
      · rw [e]; exact q
      · exact h3 c q1 (by omega)
    · refine ⟨i + d + 1, by omega, by omega, fun c q1 q2 => ?_⟩
      by_cases e : c = i + d + 1
      · rw [e]; exact Nat.le_refl _
      · have := h3 c q1 (by omega)
        omega
/-- what comes and goes while the same set comes back: the greatest of them comes and goes -/
theorem ma_cycle {out : Nat → Nat → Prop} {en le : Nat → Nat} {i j : Nat} (hij : i < j) (h1 : ∀ c, i ≤ c → c < j → out c (en c)) (h2 : ∀ c, i ≤ c → c < j → ¬ out c (le c)) (h3 : ∀ c, i ≤ c → c < j → ∀ v, out (c + 1) v ↔ (out c v ∧ v ≠ en c) ∨ v = le c) (he : ∀ v, out i v ↔ out j v) :
    ∃ t x y, i ≤ x ∧ x < j ∧ i ≤ y ∧ y < j ∧ le x = t ∧ en y = t ∧ (∀ c, i ≤ c → c < j → en c ≤ t ∧ le c ≤ t) ∧ (∀ v, t < v → ∀ c c', i ≤ c → c ≤ j → i ≤ c' → c' ≤ j → (out c v → out c' v)) := by
  obtain ⟨c0, q1, q2, q3⟩ := ma_max (fun c => max (en c) (le c)) i (j - i - 1)
  have q2' : c0 < j := by omega
  have q3' : ∀ c, i ≤ c → c < j → en c ≤ max (en c0) (le c0) ∧ le c ≤ max (en c0) (le c0) := by
    intro c g1 g2
    have this : max (en c) (le c) ≤ max (en c0) (le c0) := q3 c g1 (by omega)
    omega
  have hconst : ∀ v, max (en c0) (le c0) < v → ∀ c c', i ≤ c → c ≤ j → i ≤ c' → c' ≤ j → (out c v → out c' v) := by
    intro v hv
    have st : ∀ c, i ≤ c → c < j → (out c v ↔ out (c + 1) v) := by
      intro c g1 g2
      have g3 := q3' c g1 g2
      rw [h3 c g1 g2 v]
      constructor
      · intro g; exact Or.inl ⟨g, by omega⟩
      · intro g
        rcases g with g | g
        · exact g.1
        · omega
    have up : ∀ c, i ≤ c → c ≤ j → (out c v ↔ out i v) := by
      intro c g1 g2
      constructor
      · intro g
        apply Classical.byContradiction
        intro hn
        exact ma_mono (P := fun c => ¬ out c v) (i := i) (j := j) (fun c a1 a2 a3 a4 => a3 ((st c a1 a2).mpr a4)) c i (Nat.le_refl _) g1 g2 hn g
      · intro g
        exact ma_mono (P := fun c => out c v) (i := i) (j := j) (fun c a1 a2 a3 => (st c a1 a2).mp a3) c i (Nat.le_refl _) g1 g2 g
    intro c c' g1 g2 g3 g4 g
    exact (up c' g3 g4).mpr ((up c g1 g2).mp g)
  by_cases hm : le c0 ≤ en c0
  · have et : max (en c0) (le c0) = en c0 := by omega
    rw [et] at q3' hconst
    by_cases hx : ∃ x, i ≤ x ∧ x < j ∧ le x = en c0
    · obtain ⟨x, g1, g2, g3⟩ := hx
      exact ⟨en c0, x, c0, g1, g2, q1, q2', g3, rfl, q3', hconst⟩
    · exfalso
      have st : ∀ c, i ≤ c → c < j → ¬ out c (en c0) → ¬ out (c + 1) (en c0) := by
        intro c g1 g2 g3 g4
        rcases (h3 c g1 g2 _).mp g4 with g | g
        · exact g3 g.1
        · exact hx ⟨c, g1, g2, g.symm⟩
      have n1 : ¬ out (c0 + 1) (en c0) := by
        intro g4
        rcases (h3 c0 q1 q2' _).mp g4 with g | g
        · exact g.2 rfl
        · exact hx ⟨c0, q1, q2', g.symm⟩
      have n2 : ¬ out j (en c0) := ma_mono st j (c0 + 1) (by omega) (by omega) (Nat.le_refl _) n1
      have n3 : out i (en c0) := by
        apply Classical.byContradiction
        intro hn
        exact ma_mono st c0 i (Nat.le_refl _) q1 (by omega) hn (h1 c0 q1 q2')
      exact n2 ((he _).mp n3)
  · have et : max (en c0) (le c0) = le c0 := by omega
    rw [et] at q3' hconst
    by_cases hx : ∃ x, i ≤ x ∧ x < j ∧ en x = le c0
    · obtain ⟨x, g1, g2, g3⟩ := hx
      exact ⟨le c0, c0, x, q1, q2', g1, g2, rfl, g3, q3', hconst⟩
    · exfalso
      have st : ∀ c, i ≤ c → c < j → out c (le c0) → out (c + 1) (le c0) := by
        intro c g1 g2 g3
        exact (h3 c g1 g2 _).mpr (Or.inl ⟨g3, fun q => hx ⟨c, g1, g2, q.symm⟩⟩)
      have n1 : out (c0 + 1) (le c0) := (h3 c0 q1 q2' _).mpr (Or.inr rfl)
      have n2 : out j (le c0) := ma_mono st j (c0 + 1) (by omega) (by omega) (Nat.le_refl _) n1
      have n3 : ¬ out i (le c0) := fun g => h2 c0 q1 q2' (ma_mono st c0 i (Nat.le_refl _) q1 (by omega) g)
      exact n3 ((he _).mpr n2)
/-- a dictionary: u times every row is told by the six rows o, by the numbers k -/
def ma_LP (u : Int) (k : Nat → (Nat → Int) → Int) (o : Nat → Nat → Int) : Prop := 0 < u ∧ (∀ v Y : Nat → Int, u * ma_dot v Y = ma_sm (fun s => k s v * ma_dot (o s) Y) 6) ∧ (∀ s, s < 6 → ∀ v, ma_dot v (fun i => k s (ma_e i)) = k s v) ∧ (∀ s s', s < 6 → s' < 6 → k s (o s') = if s' = s then u else 0)
def ma_o (n : Nat) (V : Nat → Nat → Int) (O : Nat → Nat) : Nat → Nat → Int := fun s => if s < n then V (O s) else ma_e s
theorem ma_o_in {n : Nat} {V : Nat → Nat → Int} {O : Nat → Nat} {s : Nat} (h : s < n) : ma_o n V O s = V (O s) := if_pos h
theorem ma_o_out {n : Nat} {V : Nat → Nat → Int} {O : Nat → Nat} {s : Nat} (h : n ≤ s) : ma_o n V O s = ma_e s := if_neg (by omega)
theorem ma_sm_le {f : Nat → Int} : ∀ {n : Nat}, (∀ i, i < n → f i ≤ 0) → ma_sm f n ≤ 0
  | 0, _ => by simp [ma_sm]
  | n + 1, h => by
    have h1 := ma_sm_le (n := n) (fun i hi => h i (by omega))
    have h2 := h n (by omega)
    show ma_sm f n + f n ≤ 0
    omega
theorem ma_sm_lt {f : Nat → Int} {k : Nat} : ∀ {n : Nat}, (∀ i, i < n → f i ≤ 0) → k < n → f k < 0 → ma_sm f n < 0
  | 0, _, hk, _ => by omega
  | n + 1, h, hk, hf => by
    show ma_sm f n + f n < 0
    have h2 := h n (by omega)
    by_cases e : k = n
    · subst e
      have h1 := ma_sm_le (n := k) (fun i hi => h i (by omega))
      omega
    · have := ma_sm_lt (n := n) (fun i hi => h i (by omega)) (by omega) hf
      omega
theorem ma_np {x y : Int} (hx : x ≤ 0) (hy : 0 ≤ y) : x * y ≤ 0 := Int.mul_nonpos_of_nonpos_of_nonneg hx hy
theorem ma_dual {n : Nat} (hn : n ≤ 5) {V : Nat → Nat → Int} {ua ub : Int} {ka kb : Nat → (Nat → Int) → Int} {Oa Ob : Nat → Nat} (La : ma_LP ua ka (ma_o n V Oa)) (Lb : ma_LP ub kb (ma_o n V Ob)) {t u0 sb : Nat} (h1 : ka 5 (V t) < 0) (h2 : ∀ j, j < t → 0 ≤ ka 5 (V j)) (hu : u0 < t) (h3 : kb 5 (V u0) < 0) (hsb : sb < n) (hO : Ob sb = t) (h4 : 0 < kb sb (V u0)) (h5 : ∀ s, s < n → Ob s < t → kb s (V u0) ≤ 0) (h6 : ∀ s, s < n → t < Ob s → ka 5 (V (Ob s)) = 0) : False := by
  have h := Lb.2.1 (V u0) (fun i => ka 5 (ma_e i))
  rw [La.2.2.1 5 (by decide)] at h
  have hneg : ma_sm (fun s => kb s (V u0) * ma_dot (ma_o n V Ob s) (fun i => ka 5 (ma_e i))) 6 < 0 := by
    have hz : ∀ s, n ≤ s → s < 6 → ka 5 (ma_e s) = if s = 5 then ua else 0 := by
      intro s q1 q2
      have := La.2.2.2 5 s (by decide) q2
      rw [ma_o_out q1] at this
      exact this
    refine ma_sm_lt (k := 5) (fun s hs => ?_) (by decide) ?_
    · show kb s (V u0) * ma_dot (ma_o n V Ob s) (fun i => ka 5 (ma_e i)) ≤ 0
      rw [La.2.2.1 5 (by decide)]
      by_cases e : s < n
      · rw [ma_o_in e]
        rcases Nat.lt_trichotomy (Ob s) t with q | q | q
        · exact ma_np (h5 s e q) (h2 _ q)
        · by_cases e2 : s = sb
          · subst e2
            rw [q]
            have := Int.mul_pos h4 (show 0 < -ka 5 (V t) by omega)
            rw [Int.mul_neg] at this
            omega
          · exfalso
            have a1 := Lb.2.2.2 s sb (by omega) (by omega)
            have a2 := Lb.2.2.2 sb sb (by omega) (by omega)
            rw [if_neg (fun q => e2 q.symm), ma_o_in hsb] at a1
            have a3 := Lb.2.2.2 s s (by omega) (by omega)
            rw [if_pos rfl, ma_o_in e, q, ← hO, a1] at a3
            have := Lb.1
            omega
        · rw [h6 s e q]
          omega
      · rw [ma_o_out (by omega), hz s (by omega) hs]
        split
        · next q =>
          subst q
          exact Int.le_of_lt (Int.mul_neg_of_neg_of_pos h3 La.1)
        · omega
    · show kb 5 (V u0) * ma_dot (ma_o n V Ob 5) (fun i => ka 5 (ma_e i)) < 0
      rw [La.2.2.1 5 (by decide), ma_o_out (by omega), hz 5 (by omega) (by decide), if_pos rfl]
      exact Int.mul_neg_of_neg_of_pos h3 La.1
  have hpos : 0 ≤ ub * ka 5 (V u0) := Int.mul_nonneg (Int.le_of_lt Lb.1) (h2 _ hu)
  omega
theorem ma_primal {n : Nat} (hn : n ≤ 5) {V : Nat → Nat → Int} {ua ub : Int} {ka kb : Nat → (Nat → Int) → Int} {Oa Ob : Nat → Nat} (La : ma_LP ua ka (ma_o n V Oa)) (Lb : ma_LP ub kb (ma_o n V Ob)) {g : Nat → Int} {t sa sb : Nat} (hsa : sa < n) (hsb : sb < n) (h1 : ka sa g < 0) (h2 : ka sa (V t) < 0) (hO : Ob sb = t) (h3 : kb sb g < 0) (h4 : ∀ s, s < n → Ob s < t → 0 ≤ kb s g * ka sa (V (Ob s))) (h5 : ∀ s, s < n → t < Ob s → ka sa (V (Ob s)) = 0) : False := by
  have h := Lb.2.1 g (fun i => ka sa (ma_e i))
  rw [La.2.2.1 sa (by omega)] at h
  have hnn : ma_sm (fun s => (-1) * (kb s g * ma_dot (ma_o n V Ob s) (fun i => ka sa (ma_e i)))) 6 ≤ 0 := by
    refine ma_sm_le (fun s hs => ?_)
    show (-1) * (kb s g * ma_dot (ma_o n V Ob s) (fun i => ka sa (ma_e i))) ≤ 0
    rw [La.2.2.1 sa (by omega)]
    by_cases e : s < n
    · rw [ma_o_in e]
      rcases Nat.lt_trichotomy (Ob s) t with q | q | q
      · have := h4 s e q
        omega
      · by_cases e2 : s = sb
        · subst e2
          rw [q]
          have := Int.mul_pos_of_neg_of_neg h3 h2
          omega
        · exfalso
          have a1 := Lb.2.2.2 s sb (by omega) (by omega)
          rw [if_neg (fun q => e2 q.symm), ma_o_in hsb] at a1
          have a3 := Lb.2.2.2 s s (by omega) (by omega)
          rw [if_pos rfl, ma_o_in e, q, ← hO, a1] at a3
          have := Lb.1
          omega
      · rw [h5 s e q]
        omega
    · have := La.2.2.2 sa s (by omega) hs
      rw [ma_o_out (by omega), if_neg (by omega)] at this
      rw [ma_o_out (by omega), this]
      omega
  rw [ma_sm_mul, ← h] at hnn
  have := Int.mul_neg_of_pos_of_neg Lb.1 h1
  omega
end
section
/-! THE MATHEMATICS, 4: runs of pivots end -/
def ma_has (O : Nat → Nat) : Nat → Nat → Bool
  | 0, _ => false
  | n + 1, v => ma_has O n v || O n == v
theorem ma_has_iff {O : Nat → Nat} {v : Nat} : ∀ {n : Nat}, ma_has O n v = true ↔ ∃ s, s < n ∧ O s = v
  | 0 => by
    constructor
    · intro h; cases h
    · rintro ⟨s, h, -⟩; omega
  | n + 1 => by
    show (ma_has O n v || O n == v) = true ↔ _
    rw [Bool.or_eq_true, ma_has_iff (n := n), beq_iff_eq]
    constructor
    · rintro (⟨s, h1, h2⟩ | h)
      · exact ⟨s, by omega, h2⟩
      · exact ⟨n, by omega, h⟩
    · rintro ⟨s, h1, h2⟩
      by_cases e : s = n
      · rw [e] at h2; exact Or.inr h2
      · exact Or.inl ⟨s, by omega, h2⟩
theorem ma_cnt_add {b : Nat → Bool} {x : Nat} (hb : b x = false) : ∀ N, ma_cnt (fun v => b v || x == v) N = ma_cnt b N + (if x < N then 1 else 0)
  | 0 => by simp [ma_cnt]
  | m + 1 => by
    show ma_cnt (fun v => b v || x == v) m + (if (b m || x == m) then 1 else 0) = ma_cnt b m + (if b m then 1 else 0) + _
    rw [ma_cnt_add hb m]
    by_cases e : x = m
    · subst e
      rw [if_neg (show ¬ x < x by omega), if_pos (show x < x + 1 by omega), hb]
      simp
    · have : (x == m) = false := by simp [e]
      rw [this, Bool.or_false]
      by_cases h : x < m
      · rw [if_pos h, if_pos (show x < m + 1 by omega)]; omega
      · rw [if_neg h, if_neg (show ¬ x < m + 1 by omega)]; omega
theorem ma_cnt_has {O : Nat → Nat} {N : Nat} : ∀ {n : Nat}, (∀ s, s < n → O s < N) → (∀ s s', s < n → s' < n → O s = O s' → s = s') → ma_cnt (ma_has O n) N = n
  | 0, _, _ => by
    have : ∀ N, ma_cnt (ma_has O 0) N = 0 := by
      intro N
      induction N with
      | zero => rfl
      | succ m ih => show ma_cnt (ma_has O 0) m + (if ma_has O 0 m then 1 else 0) = 0; rw [ih]; rfl
    exact this N
  | n + 1, h1, h2 => by
    have e : ma_has O (n + 1) = (fun v => ma_has O n v || O n == v) := by funext v; rfl
    have hb : ma_has O n (O n) = false := by
      rw [Bool.eq_false_iff]
      intro q
      obtain ⟨s, a1, a2⟩ := ma_has_iff.mp q
      have := h2 s n (by omega) (by omega) a2
      omega
    rw [e, ma_cnt_add hb, ma_cnt_has (n := n) (fun s hs => h1 s (by omega)) (fun s s' a1 a2 => h2 s s' (by omega) (by omega)), if_pos (h1 n (by omega))]
def ma_run (n N L : Nat) (V : Nat → Nat → Int) (u : Nat → Int) (k : Nat → Nat → (Nat → Int) → Int) (O : Nat → Nat → Nat) (sa le : Nat → Nat) : Prop :=
  (∀ c, c ≤ L → ma_LP (u c) (k c) (ma_o n V (O c))) ∧ (∀ c, c ≤ L → ∀ s, s < n → O c s < N) ∧ (∀ c, c < L → sa c < n ∧ (∀ s, s < n → O (c + 1) s = if s = sa c then le c else O c s) ∧ ∀ s, s < n → O c s ≠ le c)
theorem ma_LP_inj {n : Nat} (hn : n ≤ 5) {V : Nat → Nat → Int} {u : Int} {k : Nat → (Nat → Int) → Int} {O : Nat → Nat} (Lb : ma_LP u k (ma_o n V O)) {s s' : Nat} (h1 : s < n) (h2 : s' < n) (h : O s = O s') : s = s' := by
  apply Classical.byContradiction
  intro e
  have a1 := Lb.2.2.2 s s' (by omega) (by omega)
  have a3 := Lb.2.2.2 s s (by omega) (by omega)
  rw [if_neg (fun q => e q.symm), ma_o_in h2] at a1
  rw [if_pos rfl, ma_o_in h1, h, a1] at a3
  have := Lb.1
  omega
/-- too long a run comes back to the same set -/
theorem ma_run_rep {n N L : Nat} (hn : n ≤ 5) {V : Nat → Nat → Int} {u : Nat → Int} {k : Nat → Nat → (Nat → Int) → Int} {O : Nat → Nat → Nat} {sa le : Nat → Nat} (R : ma_run n N L V u k O sa le) (hL : ma_ch N n ≤ L) : ∃ i j, i < j ∧ j ≤ L ∧ ∀ v, (∃ s, s < n ∧ O i s = v) ↔ (∃ s, s < n ∧ O j s = v) := by
  have hc : ∀ c, c ≤ L → ma_cnt (ma_has (O c) n) N = n := fun c hc => ma_cnt_has (R.2.1 c hc) (fun s s' a1 a2 a3 => ma_LP_inj hn (R.1 c hc) a1 a2 a3)
  obtain ⟨i, j, h1, h2, h3⟩ := ma_pig (ma_ch N n) (L + 1) (fun c => ma_rk (ma_has (O c) n) N) (by omega) (fun c hcl => by
    have := ma_rk_lt (ma_has (O c) n) N
    rw [hc c (by omega)] at this
    exact this)
  refine ⟨i, j, h1, by omega, fun v => ?_⟩
  have key : ∀ w, w < N → (ma_has (O i) n w = ma_has (O j) n w) := ma_rk_inj _ _ N (by rw [hc i (by omega), hc j (by omega)]) h3
  constructor
  · rintro ⟨s, a1, a2⟩
    have := R.2.1 i (by omega) s a1
    exact ma_has_iff.mp ((key v (by omega)) ▸ ma_has_iff.mpr ⟨s, a1, a2⟩)
  · rintro ⟨s, a1, a2⟩
    have := R.2.1 j (by omega) s a1
    exact ma_has_iff.mp ((key v (by omega)).symm ▸ ma_has_iff.mpr ⟨s, a1, a2⟩)
theorem ma_run_cycle {n N L : Nat} (hn : n ≤ 5) {V : Nat → Nat → Int} {u : Nat → Int} {k : Nat → Nat → (Nat → Int) → Int} {O : Nat → Nat → Nat} {sa le : Nat → Nat} (R : ma_run n N L V u k O sa le) {i j : Nat} (hij : i < j) (hj : j ≤ L) (he : ∀ v, (∃ s, s < n ∧ O i s = v) ↔ (∃ s, s < n ∧ O j s = v)) :
    ∃ t x y, i ≤ x ∧ x < j ∧ i ≤ y ∧ y < j ∧ le x = t ∧ O y (sa y) = t ∧ (∀ c, i ≤ c → c < j → O c (sa c) ≤ t ∧ le c ≤ t) ∧ (∀ v, t < v → ∀ c c', i ≤ c → c ≤ j → i ≤ c' → c' ≤ j → ((∃ s, s < n ∧ O c s = v) → (∃ s, s < n ∧ O c' s = v))) := by
  refine ma_cycle (out := fun c v => ∃ s, s < n ∧ O c s = v) (en := fun c => O c (sa c)) (le := le) hij (fun c a1 a2 => ⟨sa c, (R.2.2 c (by omega)).1, rfl⟩) (fun c a1 a2 => ?_) (fun c a1 a2 v => ?_) he
  · rintro ⟨s, b1, b2⟩
    exact (R.2.2 c (by omega)).2.2 s b1 b2
  · obtain ⟨r1, r2, r3⟩ := R.2.2 c (by omega)
    constructor
    · rintro ⟨s, b1, b2⟩
      rw [r2 s b1] at b2
      by_cases e : s = sa c
      · rw [if_pos e] at b2
        exact Or.inr b2.symm
      · rw [if_neg e] at b2
        refine Or.inl ⟨⟨s, b1, b2⟩, fun q => e ?_⟩
        exact ma_LP_inj hn (R.1 c (by omega)) b1 r1 (b2.trans q)
    · rintro (⟨⟨s, b1, b2⟩, b3⟩ | b)
      · refine ⟨s, b1, ?_⟩
        rw [r2 s b1, if_neg (fun q => b3 (by rw [← b2, q]))]
        exact b2
      · refine ⟨sa c, r1, ?_⟩
        rw [r2 _ r1, if_pos rfl]
        exact b.symm
theorem ma_dual_run {n N L : Nat} (hn : n ≤ 5) {V : Nat → Nat → Int} {u : Nat → Int} {k : Nat → Nat → (Nat → Int) → Int} {O : Nat → Nat → Nat} {sa le : Nat → Nat} (R : ma_run n N L V u k O sa le)
    (hD : ∀ c, c < L → k c 5 (V (le c)) < 0 ∧ (∀ j, j < le c → j < N → 0 ≤ k c 5 (V j)) ∧ 0 < k c (sa c) (V (le c)) ∧ (∀ s, s < n → O c s < O c (sa c) → k c s (V (le c)) ≤ 0)) : L < ma_ch N n := by
  apply Classical.byContradiction
  intro hL
  obtain ⟨i, j, hij, hj, he⟩ := ma_run_rep hn R (by omega)
  obtain ⟨t, x, y, x1, x2, y1, y2, hx, hy, hm, hc⟩ := ma_run_cycle hn R hij hj he
  obtain ⟨d1, d2, d3, d4⟩ := hD x (by omega)
  obtain ⟨e1, e2, e3, e4⟩ := hD y (by omega)
  obtain ⟨r1, r2, r3⟩ := R.2.2 y (by omega)
  have hlN : le x < N := by
    have := R.2.1 (x + 1) (by omega) (sa x) (R.2.2 x (by omega)).1
    rw [(R.2.2 x (by omega)).2.1 _ (R.2.2 x (by omega)).1, if_pos rfl] at this
    exact this
  refine ma_dual hn (R.1 x (by omega)) (R.1 y (by omega)) (t := t) (u0 := le y) (sb := sa y) ?_ ?_ ?_ e1 r1 hy e3 ?_ ?_
  · rw [← hx]; exact d1
  · intro w hw
    exact d2 w (by omega) (by omega)
  · have := (hm y y1 y2).2
    have : le y ≠ t := fun q => r3 (sa y) r1 (by rw [hy, q])
    omega
  · intro s hs hlt
    rw [← hy] at hlt
    exact e4 s hs hlt
  · intro s hs hlt
    obtain ⟨s', b1, b2⟩ := hc _ hlt y x y1 (by omega) x1 (by omega) ⟨s, hs, rfl⟩
    have := (R.1 x (by omega)).2.2.2 5 s' (by decide) (by omega)
    rw [if_neg (by omega), ma_o_in b1, b2] at this
    exact this
theorem ma_fr {a b c d e f : Int} (hb : 0 < b) (hd : 0 < d) (hf : 0 < f) (h1 : a * d ≤ c * b) (h2 : c * f ≤ e * d) : a * f ≤ e * b := by
  have q1 : a * d * f ≤ c * b * f := Int.mul_le_mul_of_nonneg_right h1 (Int.le_of_lt hf)
  have q2 : c * f * b ≤ e * d * b := Int.mul_le_mul_of_nonneg_right h2 (Int.le_of_lt hb)
  have q3 : a * f * d ≤ e * b * d := by
    have e1 : a * f * d = a * d * f := by grind
    have e2 : e * b * d = e * d * b := by grind
    have e3 : c * b * f = c * f * b := by grind
    omega
  exact Int.le_of_mul_le_mul_right q3 hd
theorem ma_fr1 {a b c d e f : Int} (hb : 0 < b) (hd : 0 < d) (hf : 0 < f) (h1 : a * d < c * b) (h2 : c * f ≤ e * d) : a * f < e * b := by
  have q1 : a * d * f < c * b * f := Int.mul_lt_mul_of_pos_right h1 hf
  have q2 : c * f * b ≤ e * d * b := Int.mul_le_mul_of_nonneg_right h2 (Int.le_of_lt hb)
  have q3 : a * f * d < e * b * d := by
    have e1 : a * f * d = a * d * f := by grind
    have e2 : e * b * d = e * d * b := by grind
    have e3 : c * b * f = c * f * b := by grind
    omega
  exact Int.lt_of_mul_lt_mul_right q3 (Int.le_of_lt hd)
theorem ma_fr2 {a b c d e f : Int} (hb : 0 < b) (hd : 0 < d) (hf : 0 < f) (h1 : a * d ≤ c * b) (h2 : c * f < e * d) : a * f < e * b := by
  have q1 : a * d * f ≤ c * b * f := Int.mul_le_mul_of_nonneg_right h1 (Int.le_of_lt hf)
  have q2 : c * f * b < e * d * b := Int.mul_lt_mul_of_pos_right h2 hb
  have q3 : a * f * d < e * b * d := by
    have e1 : a * f * d = a * d * f := by grind
    have e2 : e * b * d = e * d * b := by grind
    have e3 : c * b * f = c * f * b := by grind
    omega
  exact Int.lt_of_mul_lt_mul_right q3 (Int.le_of_lt hd)
/-- what a pivot does to the numbers at the point -/
theorem ma_step5 {n N L : Nat} (hn : n ≤ 5) {V : Nat → Nat → Int} {u : Nat → Int} {k : Nat → Nat → (Nat → Int) → Int} {O : Nat → Nat → Nat} {sa le : Nat → Nat} (R : ma_run n N L V u k O sa le) {c : Nat} (hc : c < L) (v : Nat → Int) : u c * k (c + 1) 5 v = k c (sa c) v * k (c + 1) 5 (V (O c (sa c))) + k c 5 v * u (c + 1) := by
  obtain ⟨r1, r2, r3⟩ := R.2.2 c hc
  have L1 := R.1 c (by omega)
  have L2 := R.1 (c + 1) (by omega)
  have h := L1.2.1 v (fun i => k (c + 1) 5 (ma_e i))
  rw [L2.2.2.1 5 (by decide)] at h
  rw [h, ma_sm_congr (g := fun s => (if s = sa c then k c (sa c) v * k (c + 1) 5 (V (O c (sa c))) else 0) + (if s = 5 then k c 5 v * u (c + 1) else 0)) (fun s hs => ?_)]
  · rw [ma_sm_add, ma_sm_one (by omega), ma_sm_one (by decide)]
  · show k c s v * ma_dot (ma_o n V (O c) s) (fun i => k (c + 1) 5 (ma_e i)) = _
    rw [L2.2.2.1 5 (by decide)]
    by_cases e : s = sa c
    · subst e
      rw [if_pos rfl, if_neg (by omega), ma_o_in r1]
      omega
    · rw [if_neg e]
      have q := L2.2.2.2 5 s (by decide) hs
      have e2 : ma_o n V (O (c + 1)) s = ma_o n V (O c) s := by
        by_cases e3 : s < n
        · rw [ma_o_in e3, ma_o_in e3, r2 s e3, if_neg e]
        · rw [ma_o_out (by omega), ma_o_out (by omega)]
      rw [e2] at q
      rw [q]
      split
      · next g => subst g; omega
      · omega
theorem ma_primal_run {n N L : Nat} (hn : n ≤ 5) {V : Nat → Nat → Int} {u : Nat → Int} {k : Nat → Nat → (Nat → Int) → Int} {O : Nat → Nat → Nat} {sa le : Nat → Nat} (R : ma_run n N L V u k O sa le) (g : Nat → Int) (F : Nat → Prop)
    (hF : ∀ c, c ≤ L → ∀ j, j < N → 0 ≤ k c 5 (V j))
    (hP : ∀ c, c < L → ¬ F (sa c) ∧ k c (sa c) g < 0 ∧ (∀ s, s < n → ¬ F s → O c s < O c (sa c) → 0 ≤ k c s g) ∧ k c (sa c) (V (le c)) < 0 ∧ (∀ j, j < N → k c (sa c) (V j) < 0 → k c 5 (V (le c)) * (- k c (sa c) (V j)) < k c 5 (V j) * (- k c (sa c) (V (le c))) ∨ (k c 5 (V (le c)) * (- k c (sa c) (V j)) = k c 5 (V j) * (- k c (sa c) (V (le c))) ∧ le c ≤ j))) : L < ma_ch N n := by
  apply Classical.byContradiction
  intro hL
  obtain ⟨i, j, hij, hj, he⟩ := ma_run_rep hn R (by omega)
  obtain ⟨t, x, y, x1, x2, y1, y2, hx, hy, hm, hc⟩ := ma_run_cycle hn R hij hj he
  have hu : ∀ c, c ≤ L → 0 < u c := fun c hc => (R.1 c hc).1
  have hth : ∀ c, c < L → 0 ≤ k (c + 1) 5 (V (O c (sa c))) := fun c hcl => hF (c + 1) (by omega) _ (R.2.1 c (by omega) _ (R.2.2 c hcl).1)
  have hz : ∀ c, c < L → k (c + 1) 5 g * u c ≤ k c 5 g * u (c + 1) := by
    intro c hcl
    have := ma_step5 hn R hcl g
    have h2 : k c (sa c) g * k (c + 1) 5 (V (O c (sa c))) ≤ 0 := Int.mul_nonpos_of_nonpos_of_nonneg (Int.le_of_lt (hP c hcl).2.1) (hth c hcl)
    rw [Int.mul_comm (k (c + 1) 5 g)]
    omega
  have hzz : ∀ y x, i ≤ x → x ≤ y → y ≤ j → k y 5 g * u x ≤ k x 5 g * u y := by
    intro y
    induction y with
    | zero =>
      intro x a1 a2 a3
      have : x = 0 := by omega
      rw [this]
      exact Int.le_refl _
    | succ y ih =>
      intro x a1 a2 a3
      by_cases e : x = y + 1
      · rw [e]; exact Int.le_refl _
      · exact ma_fr (hu _ (by omega)) (hu y (by omega)) (hu _ (by omega)) (hz y (by omega)) (ih x a1 (by omega) (by omega)) |> fun q => q
  have hend : k j 5 g * u i = k i 5 g * u j := by
    have h := (R.1 i (by omega)).2.1 g (fun w => k j 5 (ma_e w))
    rw [(R.1 j hj).2.2.1 5 (by decide)] at h
    rw [Int.mul_comm, h, ma_sm_congr (g := fun s => if s = 5 then k i 5 g * u j else 0) (fun s hs => ?_), ma_sm_one (by decide)]
    show k i s g * ma_dot (ma_o n V (O i) s) (fun w => k j 5 (ma_e w)) = _
    rw [(R.1 j hj).2.2.1 5 (by decide)]
    by_cases e : s < n
    · rw [ma_o_in e, if_neg (by omega)]
      obtain ⟨s', b1, b2⟩ := (he (O i s)).mp ⟨s, e, rfl⟩
      have := (R.1 j hj).2.2.2 5 s' (by decide) (by omega)
      rw [if_neg (by omega), ma_o_in b1, b2] at this
      rw [this]
      omega
    · have := (R.1 j hj).2.2.2 5 s (by decide) hs
      rw [ma_o_out (by omega)] at this
      rw [ma_o_out (by omega), this]
      split
      · next q => rw [q]
      · omega
  have hdeg : ∀ c, i ≤ c → c < j → k (c + 1) 5 (V (O c (sa c))) = 0 := by
    intro c a1 a2
    apply Classical.byContradiction
    intro hne
    have hpos : 0 < k (c + 1) 5 (V (O c (sa c))) := by
      have := hth c (by omega)
      omega
    have hs : k (c + 1) 5 g * u c < k c 5 g * u (c + 1) := by
      have := ma_step5 hn R (show c < L by omega) g
      have h2 : k c (sa c) g * k (c + 1) 5 (V (O c (sa c))) < 0 := Int.mul_neg_of_neg_of_pos (hP c (by omega)).2.1 hpos
      rw [Int.mul_comm (k (c + 1) 5 g)]
      omega
    have q1 := ma_fr1 (hu _ (by omega)) (hu c (by omega)) (hu i (by omega)) hs (hzz c i (Nat.le_refl _) a1 (by omega))
    have q2 := ma_fr2 (hu _ (by omega)) (hu (c + 1) (by omega)) (hu i (by omega)) (hzz j (c + 1) (by omega) (by omega) (Nat.le_refl _)) q1
    omega
  have hval : ∀ v : Nat → Int, ∀ x, i ≤ x → x ≤ j → (k x 5 v = 0 ↔ k i 5 v = 0) := by
    intro v
    have st : ∀ c, i ≤ c → c < j → (k c 5 v = 0 ↔ k (c + 1) 5 v = 0) := by
      intro c a1 a2
      have := ma_step5 hn R (show c < L by omega) v
      rw [hdeg c a1 a2, Int.mul_zero, Int.zero_add] at this
      have u1 := hu c (by omega)
      have u2 := hu (c + 1) (by omega)
      constructor
      · intro q
        rw [q, Int.zero_mul] at this
        rcases Int.mul_eq_zero.mp this with g | g
        · omega
        · exact g
      · intro q
        rw [q, Int.mul_zero] at this
        rcases Int.mul_eq_zero.mp this.symm with g | g
        · exact g
        · omega
    intro x a1 a2
    constructor
    · intro g
      apply Classical.byContradiction
      intro hn
      exact ma_mono (P := fun c => ¬ k c 5 v = 0) (i := i) (j := j) (fun c b1 b2 b3 b4 => b3 ((st c b1 b2).mpr b4)) x i (Nat.le_refl _) a1 a2 hn g
    · intro g
      exact ma_mono (P := fun c => k c 5 v = 0) (i := i) (j := j) (fun c b1 b2 b3 => (st c b1 b2).mp b3) x i (Nat.le_refl _) a1 a2 g
  have houtz : ∀ c, c ≤ L → ∀ s, s < n → k c 5 (V (O c s)) = 0 := by
    intro c hcl s hs
    have := (R.1 c hcl).2.2.2 5 s (by decide) (by omega)
    rw [if_neg (by omega), ma_o_in hs] at this
    exact this
  have hfz : ∀ s, s < n → F s → ∀ c, c ≤ L → O c s = O 0 s := by
    intro s hs hf c
    induction c with
    | zero => intro _; rfl
    | succ c ih =>
      intro hcl
      rw [(R.2.2 c (by omega)).2.1 s hs, if_neg (fun (q : s = sa c) => (hP c (by omega)).1 (q ▸ hf))]
      exact ih (by omega)
  obtain ⟨d1, d2, d3, d4, d5⟩ := hP x (by omega)
  obtain ⟨e1, e2, e3, e4, e5⟩ := hP y (by omega)
  obtain ⟨r1, r2, r3⟩ := R.2.2 y (by omega)
  obtain ⟨z1, z2, z3⟩ := R.2.2 x (by omega)
  refine ma_primal hn (R.1 x (by omega)) (R.1 y (by omega)) (g := g) (t := t) (sa := sa x) (sb := sa y) z1 r1 d2 (by rw [← hx]; exact d4) hy e2 ?_ ?_
  · intro s hs hlt
    by_cases hf : F s
    · have : O y s = O x s := by rw [hfz s hs hf y (by omega), hfz s hs hf x (by omega)]
      rw [this]
      have q := (R.1 x (by omega)).2.2.2 (sa x) s (by omega) (by omega)
      rw [if_neg (fun (q2 : s = sa x) => d1 (q2 ▸ hf)), ma_o_in hs] at q
      rw [q]
      omega
    · have k1 := e3 s hs hf (by rw [hy]; exact hlt)
      refine Int.mul_nonneg k1 ?_
      apply Classical.byContradiction
      intro hneg
      have hneg : k x (sa x) (V (O y s)) < 0 := by omega
      have vz : ∀ w, w < n → k x 5 (V (O y w)) = 0 := fun w hw => (hval _ x x1 (by omega)).mpr ((hval _ y y1 (by omega)).mp (houtz y (by omega) w hw))
      have vt : k x 5 (V (le x)) = 0 := by
        rw [hx, ← hy]
        exact vz _ r1
      have := d5 (O y s) (R.2.1 y (by omega) s hs) hneg
      rw [vt, vz s hs] at this
      omega
  · intro s hs hlt
    obtain ⟨s', b1, b2⟩ := hc _ hlt y x y1 (by omega) x1 (by omega) ⟨s, hs, rfl⟩
    have hne : s' ≠ sa x := fun q => by
      have := (hm x x1 x2).1
      rw [← q, b2] at this
      omega
    have := (R.1 x (by omega)).2.2.2 (sa x) s' (by omega) (by omega)
    rw [if_neg hne, ma_o_in b1, b2] at this
    exact this
theorem ma_ch_b : ∀ n, n ≤ 5 → ∀ N, N ≤ 26 → ma_ch N n ≤ 65780 := by decide +kernel
end
section
/-! THE MATHEMATICS, 5: the dictionary over a denominator above 0 -/
def ma_s (o : Nat → Nat → Int) : Int := if 0 < ma_D 6 o then 1 else -1
def ma_u (o : Nat → Nat → Int) : Int := ma_s o * ma_D 6 o
def ma_k (o : Nat → Nat → Int) (s : Nat) (v : Nat → Int) : Int := ma_s o * ma_K o s v
theorem ma_s_c (o : Nat → Nat → Int) : ma_s o = 1 ∨ ma_s o = -1 := by
  unfold ma_s
  split
  · exact Or.inl rfl
  · exact Or.inr rfl
theorem ma_u_pos {o : Nat → Nat → Int} (h : ma_D 6 o ≠ 0) : 0 < ma_u o := by
  unfold ma_u ma_s
  split <;> omega
theorem ma_LP_of {o : Nat → Nat → Int} (H : ma_sp o) (h : ma_D 6 o ≠ 0) : ma_LP (ma_u o) (ma_k o) o := by
  refine ⟨ma_u_pos h, fun v Y => ?_, fun s hs v => ?_, fun s s' h1 h2 => ?_⟩
  · unfold ma_u ma_k
    rw [Int.mul_assoc, H v Y, ← ma_sm_mul]
    exact ma_sm_congr (fun s _ => by rw [Int.mul_assoc])
  · have : ma_dot v (fun i => ma_k o s (ma_e i)) = ma_s o * ma_dot v (ma_Y o s) := by
      unfold ma_dot
      rw [← ma_sm_mul]
      exact ma_sm_congr (fun i _ => by unfold ma_k ma_Y; grind)
    rw [this, ma_dot_Y hs]
    rfl
  · unfold ma_k
    by_cases e : s' = s
    · subst e
      rw [if_pos rfl, ma_K_o]
      rfl
    · rw [if_neg e, ma_K_z h1 h2 e]
      omega
theorem ma_k_lin {o : Nat → Nat → Int} {s : Nat} (hs : s < 6) (u v : Nat → Int) (x y : Int) : ma_k o s (fun c => x * u c + y * v c) = x * ma_k o s u + y * ma_k o s v := by
  unfold ma_k
  rw [ma_K_lin hs]
  grind
theorem ma_k_congr {o : Nat → Nat → Int} {s : Nat} {u v : Nat → Int} (h : ∀ c, c < 6 → u c = v c) : ma_k o s u = ma_k o s v := by
  unfold ma_k
  rw [ma_K_congr h]
def ma_t (p : Int) : Int := if 0 < p then 1 else -1
theorem ma_s_rw {o : Nat → Nat → Int} {s : Nat} {w : Nat → Int} (hp : ma_k o s w ≠ 0) : ma_s (ma_rw o s w) = ma_t (ma_k o s w) * ma_s o := by
  have e : ma_D 6 (ma_rw o s w) = ma_K o s w := rfl
  unfold ma_t ma_k at *
  rw [ma_s, e]
  rcases ma_s_c o with q | q <;> rw [q] at hp ⊢
  · rw [Int.one_mul] at hp ⊢
    split <;> rfl
  · split <;> split <;> omega
theorem ma_piv_0 {o : Nat → Nat → Int} {s : Nat} {w : Nat → Int} (hp : ma_k o s w ≠ 0) : ma_D 6 (ma_rw o s w) ≠ 0 := by
  intro h
  apply hp
  have e : ma_K o s w = 0 := h
  unfold ma_k
  rw [e, Int.mul_zero]
theorem ma_piv_u {o : Nat → Nat → Int} {s : Nat} {w : Nat → Int} (hp : ma_k o s w ≠ 0) : ma_u (ma_rw o s w) = ma_t (ma_k o s w) * ma_k o s w := by
  unfold ma_u
  rw [ma_s_rw hp, Int.mul_assoc]
  rfl
theorem ma_piv_s {o : Nat → Nat → Int} {s : Nat} {w : Nat → Int} (hp : ma_k o s w ≠ 0) (v : Nat → Int) : ma_k (ma_rw o s w) s v = ma_t (ma_k o s w) * ma_k o s v := by
  show ma_s (ma_rw o s w) * ma_K (ma_rw o s w) s v = _
  rw [ma_s_rw hp, ma_K_rw, Int.mul_assoc]
  rfl
theorem ma_piv_j {o : Nat → Nat → Int} (H : ma_sp o) {s j : Nat} {w : Nat → Int} (hs : s < 6) (hj : j < 6) (hsj : s ≠ j) (hp : ma_k o s w ≠ 0) (v : Nat → Int) : ma_u o * ma_k (ma_rw o s w) j v = ma_t (ma_k o s w) * (ma_k o j v * ma_k o s w - ma_k o s v * ma_k o j w) := by
  have h := ma_plu H w v hs hj hsj
  have e : ma_k (ma_rw o s w) j v = ma_t (ma_k o s w) * ma_s o * ma_D 6 (ma_rw (ma_rw o s w) j v) := by
    show ma_s (ma_rw o s w) * ma_K (ma_rw o s w) j v = _
    rw [ma_s_rw hp]
    rfl
  rw [e]
  unfold ma_u
  generalize ma_t (ma_k o s w) = tt
  unfold ma_k
  generalize ma_D 6 (ma_rw (ma_rw o s w) j v) = d2 at *
  generalize ma_D 6 o = d1 at *
  generalize ma_K o j v = x1 at *
  generalize ma_K o s w = x2 at *
  generalize ma_K o s v = x3 at *
  generalize ma_K o j w = x4 at *
  rcases ma_s_c o with q | q <;> rw [q] <;> grind
theorem ma_t_c (p : Int) : ma_t p = 1 ∨ ma_t p = -1 := by
  unfold ma_t
  split
  · exact Or.inl rfl
  · exact Or.inr rfl
theorem ma_k_abs (o : Nat → Nat → Int) (s : Nat) (v : Nat → Int) : (ma_k o s v).natAbs = (ma_K o s v).natAbs := by
  unfold ma_k
  rcases ma_s_c o with q | q <;> rw [q] <;> omega
theorem ma_u_abs (o : Nat → Nat → Int) : (ma_u o).natAbs = (ma_D 6 o).natAbs := by
  unfold ma_u
  rcases ma_s_c o with q | q <;> rw [q] <;> omega
theorem ma_rw_bd {o : Nat → Nat → Int} {s n : Nat} {v : Nat → Int} (h : ∀ i, i < n → ma_bd (o i)) (hv : ma_bd v) : ∀ i, i < n → ma_bd (ma_rw o s v i) := by
  intro i hi
  unfold ma_rw
  split
  · exact hv
  · exact h i hi
theorem ma_k_big {o : Nat → Nat → Int} {s : Nat} {v : Nat → Int} (h : ∀ i, i < 6 → ma_bd (o i)) (hv : ma_bd v) : (ma_k o s v).natAbs ≤ 42515280000 := by
  rw [ma_k_abs]
  exact ma_D_big (ma_rw_bd h hv)
theorem ma_k_small {o : Nat → Nat → Int} {s : Nat} {v : Nat → Int} (hs : s < 5) (h5 : o 5 = ma_e 5) (h : ∀ i, i < 6 → ma_bd (o i)) (hv : ma_bd v) : (ma_k o s v).natAbs ≤ 7085880 := by
  rw [ma_k_abs]
  exact ma_D_small (by rw [ma_rw_n (by omega), h5]) (fun i hi => ma_rw_bd (n := 6) h hv i (by omega))
theorem ma_u_small {o : Nat → Nat → Int} (h5 : o 5 = ma_e 5) (h : ∀ i, i < 6 → ma_bd (o i)) : (ma_u o).natAbs ≤ 7085880 := by
  rw [ma_u_abs]
  exact ma_D_small h5 (fun i hi => h i (by omega))
/-! numbers of 64 and 32 bits that do not run over -/
theorem ma_bm {x : Int} (h : x.natAbs ≤ 9000000000000000000) : x.bmod (2 ^ 64) = x := Int.bmod_eq_of_le (by omega) (by omega)
theorem ma_mul {x y : Int64} {p q : Int} (hx : x.toInt = p) (hy : y.toInt = q) (h : (p * q).natAbs ≤ 9000000000000000000) : (x * y).toInt = p * q := by
  rw [Int64.toInt_mul, hx, hy, ma_bm h]
theorem ma_sub {x y : Int64} {p q : Int} (hx : x.toInt = p) (hy : y.toInt = q) (h : (p - q).natAbs ≤ 9000000000000000000) : (x - y).toInt = p - q := by
  rw [Int64.toInt_sub, hx, hy, ma_bm h]
theorem ma_add {x y : Int64} {p q : Int} (hx : x.toInt = p) (hy : y.toInt = q) (h : (p + q).natAbs ≤ 9000000000000000000) : (x + y).toInt = p + q := by
  rw [Int64.toInt_add, hx, hy, ma_bm h]
theorem ma_neg {x : Int64} {p : Int} (hx : x.toInt = p) (h : p.natAbs ≤ 9000000000000000000) : (-x).toInt = -p := by
  rw [Int64.toInt_neg, hx, ma_bm (by omega)]
theorem ma_div {x y : Int64} {d z : Int} (hx : x.toInt = d * z) (hy : y.toInt = d) (hd : d ≠ 0) (h : z.natAbs ≤ 9000000000000000000) : (x / y).toInt = z := by
  rw [Int64.toInt_div, hx, hy, Int.mul_tdiv_cancel_left z hd, ma_bm h]
theorem ma_mb {x y : Int} {A B : Nat} (hx : x.natAbs ≤ A) (hy : y.natAbs ≤ B) : (x * y).natAbs ≤ A * B := by
  rw [Int.natAbs_mul]
  exact Nat.mul_le_mul hx hy
theorem ma_l0 {x : Int64} : 0 ≤ x ↔ 0 ≤ x.toInt := by rw [Int64.le_iff_toInt_le, Int64.toInt_zero]
theorem ma_l0' {x : Int64} : x ≤ 0 ↔ x.toInt ≤ 0 := by rw [Int64.le_iff_toInt_le, Int64.toInt_zero]
theorem ma_p0 {x : Int64} : 0 < x ↔ 0 < x.toInt := by rw [Int64.lt_iff_toInt_lt, Int64.toInt_zero]
theorem ma_e0 {x : Int64} : x = 0 ↔ x.toInt = 0 := by rw [← Int64.toInt_inj, Int64.toInt_zero]
end
section
abbrev gF : Type := Nat → Nat → Int32
abbrev gL : Type := Nat → Nat → Int64
abbrev gS : Type := gF × gL × gF × gL
def gU {α : Type} (f : Nat → Nat → α) (k j : Nat) (v : α) : Nat → Nat → α := fun k' j' => if k' = k ∧ j' = j then v else f k' j'
theorem gU_s {α : Type} {f : Nat → Nat → α} {k j : Nat} {v : α} : gU f k j v k j = v := if_pos ⟨rfl, rfl⟩
theorem gU_n {α : Type} {f : Nat → Nat → α} {k j k' j' : Nat} {v : α} (h : k' ≠ k ∨ j' ≠ j) : gU f k j v k' j' = f k' j' := if_neg (fun q => h.elim (fun h => h q.1) (fun h => h q.2))
theorem gU_k {α : Type} {f : Nat → Nat → α} {k j k' : Nat} {v : α} (h : k' ≠ k) : gU f k j v k' = f k' := funext fun _ => gU_n (Or.inl h)
def d_thaw (a : gF) : Nat → gF
  | 0 => a
  | n + 1 => gU (d_thaw a n) 17 n 0
def d_freeze (a : gF) (b : gL) : Nat → gF
  | 0 => a
  | n + 1 => if b 18 n ≤ 0 then d_freeze a b n else gU (d_freeze a b n) 17 n 1
def d_broken (a : gF) (b : gL) : Nat → Int32
  | 0 => -1
  | n + 1 => if 0 ≤ b 14 n then d_broken a b n else if d_broken a b n < 0 then nI n else if a 15 (d_broken a b n).toNatClampNeg ≤ a 15 n then d_broken a b n else nI n
def d_mend (a : gF) (b : gL) (r : Nat) : Nat → Int32
  | 0 => -1
  | n + 1 => if 0 ≤ b (48 + r) n then d_mend a b r n else if d_mend a b r n < 0 then nI n else if a 16 (d_mend a b r n).toNatClampNeg ≤ a 16 n then d_mend a b r n else nI n
def d_fall (a : gF) (b : gL) : Nat → Int32
  | 0 => -1
  | n + 1 => if a 17 n = 0 then if 0 ≤ b 18 n then d_fall a b n else if d_fall a b n < 0 then nI n else if a 16 (d_fall a b n).toNatClampNeg ≤ a 16 n then d_fall a b n else nI n else d_fall a b n
def d_num (a : gF) (b : gL) (v : Int32) : Nat → Nat → Int64
  | 0, _ => 0
  | n + 1, r => if a 15 r = v then b 14 r else d_num a b v n (r + 1)
def d_stops (a : gF) (b : gL) (r o s : Nat) : Int32 := if b 14 r * b (48 + o) s < b 14 o * b (48 + r) s then 1 else if b 14 r * b (48 + o) s = b 14 o * b (48 + r) s then if a 15 o ≤ a 15 r then 0 else 1 else 0
def d_stop (a : gF) (b : gL) (s : Nat) : Nat → Int32
  | 0 => -1
  | n + 1 => if b (48 + n) s ≤ 0 then d_stop a b s n else if d_stop a b s n < 0 then nI n else if d_stops a b n (d_stop a b s n).toNatClampNeg s = 0 then d_stop a b s n else nI n
def d_turnL (b : gL) (r : Nat) : Nat → gL
  | 0 => b
  | n + 1 => gU (d_turnL b r n) (48 + r) n (-(d_turnL b r n (48 + r) n))
def d_turn (b : gL) (r nc : Nat) : gL := gU (d_turnL b r nc) 14 r (-(d_turnL b r nc 14 r))
def d_swL (b : gL) (i r s : Nat) (p q dv : Int64) : Nat → gL
  | 0 => b
  | n + 1 => if nI n = nI s then d_swL b i r s p q dv n else gU (d_swL b i r s p q dv n) (48 + i) n ((p * d_swL b i r s p q dv n (48 + i) n - q * d_swL b i r s p q dv n (48 + r) n) / dv)
def d_swR (b : gL) (nc i r s : Nat) (p q dv : Int64) : gL := gU (d_swL b i r s p q dv nc) 14 i ((p * d_swL b i r s p q dv nc 14 i - q * d_swL b i r s p q dv nc 14 r) / dv)
def d_swF (b : gL) (nc i r s : Nat) (p q dv : Int64) : gL := if 0 ≤ p then gU (d_swR b nc i r s p q dv) (48 + i) s (-q) else gU (d_swR b nc i r s p q dv) (48 + i) s q
def d_sweep (b : gL) (nc i r s : Nat) (dv : Int64) : gL := if dv = 0 then b else if b (48 + i) s = 0 then if b (48 + r) s = dv then b else d_swF b nc i r s (b (48 + r) s) (b (48 + i) s) dv else d_swF b nc i r s (b (48 + r) s) (b (48 + i) s) dv
def d_sweeps (b : gL) (nc r s : Nat) (dv : Int64) : Nat → gL
  | 0 => b
  | n + 1 => if nI n = nI r then d_sweeps b nc r s dv n else d_sweep (d_sweeps b nc r s dv n) nc n r s dv
def d_sl1 (I : gF) (J : gL) (a : gF) (b : gL) (kg : Nat) : Nat → gL
  | 0 => b
  | n + 1 => if I 4 8 ≤ a 16 n then gU (d_sl1 I J a b kg n) 18 n 0 else gU (d_sl1 I J a b kg n) 18 n ((a kg (a 16 n).toNatClampNeg).toInt64 * J 4 6)
def d_sl2 (b : gL) (r : Nat) (w : Int32) : Nat → gL
  | 0 => b
  | n + 1 => gU (d_sl2 b r w n) 18 n (d_sl2 b r w n 18 n - w.toInt64 * d_sl2 b r w n (48 + r) n)
def d_slI (b : gL) (r : Nat) (w : Int32) (n : Nat) : gL := if w = 0 then b else d_sl2 b r w n
def d_sl4 (I : gF) (a : gF) (b : gL) (kg nc : Nat) : Nat → gL
  | 0 => b
  | n + 1 => if I 4 8 ≤ a 15 n then d_slI (d_sl4 I a b kg nc n) n 0 nc else d_slI (d_sl4 I a b kg nc n) n (a kg (a 15 n).toNatClampNeg) nc
def d_slopes (I : gF) (J : gL) (a : gF) (b : gL) (kg nl nc : Nat) : gL := d_sl4 I a (d_sl1 I J a b kg nc) kg nc nl
def d_dv (J : gL) (b : gL) (r s : Nat) : Int64 := if 0 ≤ b (48 + r) s then J 4 6 else -J 4 6
def d_pJ (J : gL) (b : gL) (r s : Nat) : gL := if b (48 + r) s = 0 then J else if d_dv J b r s = 0 then J else gU J 4 6 (if 0 < b (48 + r) s then b (48 + r) s else -b (48 + r) s)
def d_pA (J : gL) (a : gF) (b : gL) (r s : Nat) : gF := if b (48 + r) s = 0 then a else if d_dv J b r s = 0 then a else gU (gU a 15 r (a 16 s)) 16 s (a 15 r)
def d_pB (J : gL) (b : gL) (nl nc r s : Nat) : gL := if b (48 + r) s = 0 then b else if d_dv J b r s = 0 then b else gU (if 0 ≤ b (48 + r) s then d_sweeps b nc r s (d_dv J b r s) nl else d_turn (d_sweeps b nc r s (d_dv J b r s) nl) r nc) (48 + r) s (d_dv J b r s)
def d_ids (a : gF) : Nat → gF
  | 0 => a
  | n + 1 => gU (d_ids a n) 16 n (nI n)
def d_addL (a : gF) (b : gL) (kf nl : Nat) (sg : Int32) : Nat → gL
  | 0 => b
  | n + 1 => gU (d_addL a b kf nl sg n) (48 + nl) n (sg * a kf n).toInt64
def d_addB (a : gF) (b : gL) (kf nl nc : Nat) (sg ri : Int32) : gL := gU (d_addL a b kf nl sg nc) 14 nl ri.toInt64
def mPV : Nat := 100000
def d_find (nl nc : Nat) : Nat → gL × gF × gL → Int32 × gL × gF × gL
  | 0, x => (0, x)
  | n + 1, x => if 0 ≤ d_broken x.2.1 x.2.2 nl then if 0 ≤ d_mend x.2.1 x.2.2 (d_broken x.2.1 x.2.2 nl).toNatClampNeg nc then d_find nl nc n (d_pJ x.1 x.2.2 (d_broken x.2.1 x.2.2 nl).toNatClampNeg (d_mend x.2.1 x.2.2 (d_broken x.2.1 x.2.2 nl).toNatClampNeg nc).toNatClampNeg, d_pA x.1 x.2.1 x.2.2 (d_broken x.2.1 x.2.2 nl).toNatClampNeg (d_mend x.2.1 x.2.2 (d_broken x.2.1 x.2.2 nl).toNatClampNeg nc).toNatClampNeg, d_pB x.1 x.2.2 nl nc (d_broken x.2.1 x.2.2 nl).toNatClampNeg (d_mend x.2.1 x.2.2 (d_broken x.2.1 x.2.2 nl).toNatClampNeg nc).toNatClampNeg) else (0, x) else (1, x)
def d_nat (f : Nat → Int32) (n : Nat) : Prop := ∀ r, r < n → ∃ v, f r = nI v ∧ v < 100
def d_min (I : gF) (kg nl nc : Nat) : Nat → gL × gF × gL → gL × gF × gL
  | 0, x => x
  | n + 1, x => if 0 ≤ d_fall x.2.1 (d_slopes I x.1 x.2.1 x.2.2 kg nl nc) nc then if 0 ≤ d_stop x.2.1 (d_slopes I x.1 x.2.1 x.2.2 kg nl nc) (d_fall x.2.1 (d_slopes I x.1 x.2.1 x.2.2 kg nl nc) nc).toNatClampNeg nl then d_min I kg nl nc n (d_pJ x.1 (d_slopes I x.1 x.2.1 x.2.2 kg nl nc) (d_stop x.2.1 (d_slopes I x.1 x.2.1 x.2.2 kg nl nc) (d_fall x.2.1 (d_slopes I x.1 x.2.1 x.2.2 kg nl nc) nc).toNatClampNeg nl).toNatClampNeg (d_fall x.2.1 (d_slopes I x.1 x.2.1 x.2.2 kg nl nc) nc).toNatClampNeg, d_pA x.1 x.2.1 (d_slopes I x.1 x.2.1 x.2.2 kg nl nc) (d_stop x.2.1 (d_slopes I x.1 x.2.1 x.2.2 kg nl nc) (d_fall x.2.1 (d_slopes I x.1 x.2.1 x.2.2 kg nl nc) nc).toNatClampNeg nl).toNatClampNeg (d_fall x.2.1 (d_slopes I x.1 x.2.1 x.2.2 kg nl nc) nc).toNatClampNeg, d_pB x.1 (d_slopes I x.1 x.2.1 x.2.2 kg nl nc) nl nc (d_stop x.2.1 (d_slopes I x.1 x.2.1 x.2.2 kg nl nc) (d_fall x.2.1 (d_slopes I x.1 x.2.1 x.2.2 kg nl nc) nc).toNatClampNeg nl).toNatClampNeg (d_fall x.2.1 (d_slopes I x.1 x.2.1 x.2.2 kg nl nc) nc).toNatClampNeg) else (x.1, x.2.1, d_slopes I x.1 x.2.1 x.2.2 kg nl nc) else (x.1, x.2.1, d_slopes I x.1 x.2.1 x.2.2 kg nl nc)
def p_hasN (I : gF) (v : Int32) : Int32 := if v < 0 then 0 else if I 1 7 ≤ v then 0 else 1
def p_hasR (I a : gF) (v : Int32) : Int32 := if v < 0 then 0 else if I 1 8 ≤ v then 0 else if a 12 v.toNatClampNeg = 0 then 0 else 1
def p_addNA (a : gF) (nn : Nat) (lo hi : Int32) : gF := gU (gU (gU a 6 nn lo) 7 nn hi) 8 nn 0
def p_wipe (a : gF) (nr : Nat) : Nat → gF
  | 0 => a
  | n + 1 => gU (p_wipe a nr n) (40 + nr) n 0
def p_addRA (a : gF) (nr : Nat) (se ri : Int32) : gF := p_wipe (gU (gU (gU a 9 nr se) 10 nr ri) 12 nr 1) nr 5
def p_cnt (a : gF) : Nat → Int32
  | 0 => 0
  | n + 1 => if a 12 n = 0 then p_cnt a n else p_cnt a n + 1
def p_cw (a : gF) : Nat → Int64
  | 0 => 1
  | n + 1 => p_cw a n * (a 7 n - a 6 n + 1).toInt64
def p_above (a : gF) (r : Nat) : Int32 := if a 9 r = 0 then 1 else if a 9 r = 1 then 1 else 0
def p_below (a : gF) (r : Nat) : Int32 := if a 9 r = 2 then 1 else if a 9 r = 1 then 1 else 0
def s_aim (a : gF) (k w : Int32) : Nat → gF
  | 0 => a
  | n + 1 => if nI n = k then gU (s_aim a k w n) 19 n w else gU (s_aim a k w n) 19 n 0
def s_all (a : gF) : Nat → Int32
  | 0 => 0
  | n + 1 => if a 12 n = 0 then s_all a n else s_all a n ||| ((1 : Int32) <<< (nI n &&& 31))
def s_gcd : Nat → Int64 → Int64 → Int64
  | 0, x, _ => x
  | n + 1, x, y => if y = 0 then x else s_gcd n y (x - x / y * y)
def s_abs (x : Int64) : Int64 := if 0 < x then x else -x
def s_gd (x y : Int64) : Int64 := s_gcd 200 (s_abs x) (s_abs y)
def s_part (x y : Int64) (pt : Int32) : Int64 := if s_gd x y = 0 then 0 else if pt = 0 then x / s_gd x y else y / s_gd x y
def s_add (I a : gF) (b : gL) (kf nl nc : Nat) (sg ri : Int32) : gF × gF × gL := (gU I 4 7 (I 4 7 + 1), gU a 15 nl (I 4 8 + I 4 7), d_addB a b kf nl nc sg ri)
def s_rt (a : gF) (r0 : Nat) : Nat → Int32
  | 0 => a 10 r0
  | n + 1 => s_rt a r0 n - a (40 + r0) n * a 6 n
def s_row (I a : gF) (b : gL) (r0 nl nc : Nat) : gF × gF × gL :=
  if p_above a r0 = 0 then (if p_below a r0 = 0 then (I, a, b) else s_add I a b (40 + r0) nl nc (-1) (-s_rt a r0 nc))
  else (if p_below (gU a 15 nl (I 4 8 + I 4 7)) r0 = 0 then s_add I a b (40 + r0) nl nc 1 (s_rt a r0 nc)
    else s_add (gU I 4 7 (I 4 7 + 1)) (gU a 15 nl (I 4 8 + I 4 7)) (d_addB a b (40 + r0) nl nc 1 (s_rt a r0 nc)) (40 + r0) (nl + 1) nc (-1) (-s_rt a r0 nc))
def s_nl (a : gF) (r0 nl : Nat) : Nat := nl + (if p_above a r0 = 0 then 0 else 1) + (if p_below a r0 = 0 then 0 else 1)
def s_k0 (I : gF) (nn : Nat) : gF := gU (gU I 4 8 (nI nn)) 4 7 0
def s_kn (I a : gF) (b : gL) (nn : Nat) : Nat → gF × gF × gL
  | 0 => (s_k0 I nn, d_thaw (d_ids a nn) nn, b)
  | n + 1 => s_add (s_kn I a b nn n).1 (s_aim (s_kn I a b nn n).2.1 (nI n) 1 5) (s_kn I a b nn n).2.2 19 n nn 1 ((s_aim (s_kn I a b nn n).2.1 (nI n) 1 5) 7 n - (s_aim (s_kn I a b nn n).2.1 (nI n) 1 5) 6 n)
def s_bit (set : Int32) (n : Nat) : Int32 := set &&& ((1 : Int32) <<< (nI n &&& 31))
def s_kr (I a : gF) (b : gL) (nn : Nat) (set : Int32) : Nat → (gF × gF × gL) × Nat
  | 0 => (s_kn I a b nn nn, nn)
  | n + 1 => if s_bit set n = 0 then s_kr I a b nn set n else (s_row (s_kr I a b nn set n).1.1 (s_kr I a b nn set n).1.2.1 (s_kr I a b nn set n).1.2.2 n (s_kr I a b nn set n).2 nn, s_nl (s_kr I a b nn set n).1.2.1 n (s_kr I a b nn set n).2)
def s_kf (I : gF) (J : gL) (a : gF) (b : gL) (nn nr : Nat) (set : Int32) : Int32 × gL × gF × gL := d_find (s_kr I a b nn set nr).2 nn mPV (gU J 4 6 1, (s_kr I a b nn set nr).1.2.1, (s_kr I a b nn set nr).1.2.2)
def s_kI (I a : gF) (b : gL) (nn nr : Nat) (set : Int32) : gF := (s_kr I a b nn set nr).1.1
def s_hp (I : gF) (J : gL) (a : gF) (b : gL) (nn nr : Nat) : Int32 := if I 2 5 = 0 then (s_kf I J a b nn nr (s_all a nr)).1 else I 2 6
def s_hpI (I : gF) (J : gL) (a : gF) (b : gL) (nn nr : Nat) : gF := if I 2 5 = 0 then gU (gU (s_kI I a b nn nr (s_all a nr)) 2 6 (s_kf I J a b nn nr (s_all a nr)).1) 2 5 1 else I
def s_hpJ (I : gF) (J : gL) (a : gF) (b : gL) (nn nr : Nat) : gL := if I 2 5 = 0 then (s_kf I J a b nn nr (s_all a nr)).2.1 else J
def s_hpA (I : gF) (J : gL) (a : gF) (b : gL) (nn nr : Nat) : gF := if I 2 5 = 0 then (s_kf I J a b nn nr (s_all a nr)).2.2.1 else a
def s_hpB (I : gF) (J : gL) (a : gF) (b : gL) (nn nr : Nat) : gL := if I 2 5 = 0 then (s_kf I J a b nn nr (s_all a nr)).2.2.2 else b
def s_k2b (I : gF) (J : gL) (a : gF) (b : gL) (nl nc : Nat) : gL × gF × gL := ((d_min I 8 nl nc mPV (J, a, b)).1, d_freeze (d_min I 8 nl nc mPV (J, a, b)).2.1 (d_min I 8 nl nc mPV (J, a, b)).2.2 nc, (d_min I 8 nl nc mPV (J, a, b)).2.2)
def s_w (sd : Int32) : Int32 := if sd = 0 then 1 else -1
def s_endX (I : gF) (J : gL) (a : gF) (b : gL) (nl nc n0 : Nat) (w : Int32) : gL × gF × gL := d_min I 19 nl nc mPV (J, s_aim a (nI n0) w 5, b)
def s_end (I : gF) (J : gL) (a : gF) (b : gL) (nl nc n0 : Nat) (w pt : Int32) : Int64 := s_part (((s_endX I J a b nl nc n0 w).2.1 6 n0).toInt64 * (s_endX I J a b nl nc n0 w).1 4 6 + d_num (s_endX I J a b nl nc n0 w).2.1 (s_endX I J a b nl nc n0 w).2.2 (nI n0) nl 0) ((s_endX I J a b nl nc n0 w).1 4 6) pt
def s_fb (I : gF) (J : gL) (a : gF) (b : gL) (nl nc : Nat) : Nat → gL × gF × gL
  | 0 => s_k2b I J (d_thaw a nc) b nl nc
  | n + 1 => ((s_endX I (s_fb I J a b nl nc n).1 (s_fb I J a b nl nc n).2.1 (s_fb I J a b nl nc n).2.2 nl nc n 1).1, d_freeze (s_endX I (s_fb I J a b nl nc n).1 (s_fb I J a b nl nc n).2.1 (s_fb I J a b nl nc n).2.2 nl nc n 1).2.1 (s_endX I (s_fb I J a b nl nc n).1 (s_fb I J a b nl nc n).2.1 (s_fb I J a b nl nc n).2.2 nl nc n 1).2.2 nc, (s_endX I (s_fb I J a b nl nc n).1 (s_fb I J a b nl nc n).2.1 (s_fb I J a b nl nc n).2.2 nl nc n 1).2.2)
def s_fbB (J : gL) (a : gF) (b : gL) (nl : Nat) : Nat → gL
  | 0 => b
  | n + 1 => gU (s_fbB J a b nl n) 20 n ((a 6 n).toInt64 * J 4 6 + d_num a (s_fbB J a b nl n) (nI n) nl 0)
def s_ffI (I : gF) : gF := if I 2 7 = 0 then gU I 2 7 1 else I
def s_ffJ (I : gF) (J : gL) (a : gF) (b : gL) (nn nl nc : Nat) : gL := if I 2 7 = 0 then gU (s_fb I J a b nl nc nn).1 2 4 ((s_fb I J a b nl nc nn).1 4 6) else J
def s_ffA (I : gF) (J : gL) (a : gF) (b : gL) (nn nl nc : Nat) : gF := if I 2 7 = 0 then (s_fb I J a b nl nc nn).2.1 else a
def s_ffB (I : gF) (J : gL) (a : gF) (b : gL) (nn nl nc : Nat) : gL := if I 2 7 = 0 then s_fbB (s_fb I J a b nl nc nn).1 (s_fb I J a b nl nc nn).2.1 (s_fb I J a b nl nc nn).2.2 nl nn else b
def s_sum (a : gF) (b : gL) : Nat → Int64
  | 0 => 0
  | n + 1 => s_sum a b n + (a 8 n).toInt64 * b 20 n
def s_tsum (a : gF) (b : gL) (r0 : Nat) : Nat → Int64
  | 0 => 0
  | n + 1 => s_tsum a b r0 n + (a (40 + r0) n).toInt64 * b 20 n
def s_wo (set : Int32) (k : Nat) : Int32 := set &&& (((1 : Int32) <<< (nI k &&& 31)) ^^^ -1)
abbrev s_X : Type := Int32 × gF × gL × gF × gL
def s_ck (nn nr : Nat) (set : Int32) (x : s_X) : Int32 := (s_kf x.2.1 x.2.2.1 x.2.2.2.1 x.2.2.2.2 nn nr set).1
def s_cx (nn nr : Nat) (set s2 : Int32) (x : s_X) : s_X := (s2, s_kI x.2.1 x.2.2.2.1 x.2.2.2.2 nn nr set, (s_kf x.2.1 x.2.2.1 x.2.2.2.1 x.2.2.2.2 nn nr set).2.1, (s_kf x.2.1 x.2.2.1 x.2.2.2.1 x.2.2.2.2 nn nr set).2.2.1, (s_kf x.2.1 x.2.2.1 x.2.2.2.1 x.2.2.2.2 nn nr set).2.2.2)
def s_bar (nn nr : Nat) : Nat → s_X → s_X
  | 0, x => x
  | k + 1, x => if s_wo x.1 k = x.1 then s_bar nn nr k x else if s_ck nn nr (s_wo x.1 k) x = 0 then s_bar nn nr k (s_cx nn nr (s_wo x.1 k) (s_wo x.1 k) x) else s_bar nn nr k (s_cx nn nr (s_wo x.1 k) x.1 x)
def s_fbar (I : gF) (J : gL) (a : gF) (b : gL) (nn nr : Nat) : s_X := s_bar nn nr nr (s_all a nr, I, J, a, b)
def s_brI (I : gF) (J : gL) (a : gF) (b : gL) (nn nr : Nat) : gF := if I 2 8 = 0 then gU (gU (s_fbar I J a b nn nr).2.1 2 9 (s_fbar I J a b nn nr).1) 2 8 1 else I
def s_brJ (I : gF) (J : gL) (a : gF) (b : gL) (nn nr : Nat) : gL := if I 2 8 = 0 then (s_fbar I J a b nn nr).2.2.1 else J
def s_brA (I : gF) (J : gL) (a : gF) (b : gL) (nn nr : Nat) : gF := if I 2 8 = 0 then (s_fbar I J a b nn nr).2.2.2.1 else a
def s_brB (I : gF) (J : gL) (a : gF) (b : gL) (nn nr : Nat) : gL := if I 2 8 = 0 then (s_fbar I J a b nn nr).2.2.2.2 else b
def s_brow (set k : Int32) : Nat → Nat → Int32 → Int32
  | 0, _, _ => -1
  | n + 1, r, pl => if set &&& ((1 : Int32) <<< (nI r &&& 31)) = 0 then s_brow set k n (r + 1) pl else if pl = k then nI r else s_brow set k n (r + 1) (pl + 1)
def s_ebX (I : gF) (J : gL) (a : gF) (b : gL) (nl nc n0 : Nat) (sd : Int32) : gL × gF × gL := s_endX I (s_k2b I J (d_thaw a nc) b nl nc).1 (s_k2b I J (d_thaw a nc) b nl nc).2.1 (s_k2b I J (d_thaw a nc) b nl nc).2.2 nl nc n0 (s_w sd)
def s_eb (I : gF) (J : gL) (a : gF) (b : gL) (nl nc n0 : Nat) (sd pt : Int32) : Int64 := s_end I (s_k2b I J (d_thaw a nc) b nl nc).1 (s_k2b I J (d_thaw a nc) b nl nc).2.1 (s_k2b I J (d_thaw a nc) b nl nc).2.2 nl nc n0 (s_w sd) pt
def f_div (x y : Int32) : Int32 := if 0 ≤ x ^^^ y then x / y else if x / y * y = x then x / y else x / y - 1
def w_nar (a : gF) (n0 : Nat) (f rm : Int32) : gF := if f ≤ 0 then if 0 ≤ f then if 0 ≤ rm then a else gU a 22 n0 (a 6 n0 - 1) else gU a 21 n0 (if a 21 n0 < -f_div rm (-f) - 1 then -f_div rm (-f) - 1 else a 21 n0) else gU a 22 n0 (if f_div rm f < a 22 n0 then f_div rm f else a 22 n0)
def w_kc (a : gF) (n0 : Nat) : gF := if 0 ≤ a 8 n0 then gU a 22 n0 (if a 21 n0 + 1 < a 22 n0 then a 21 n0 + 1 else a 22 n0) else gU a 21 n0 (if a 21 n0 < a 22 n0 - 1 then a 22 n0 - 1 else a 21 n0)
def w_nb1 (a : gF) (n0 r0 : Nat) : gF := if p_above a r0 = 0 then a else w_nar a n0 (a (40 + r0) n0) (a 10 r0 - a (69 + n0) r0 - a (75 + (n0 + 1)) r0)
def w_nbr (a : gF) (n0 r0 : Nat) : gF := if p_below (w_nb1 a n0 r0) r0 = 0 then w_nb1 a n0 r0 else w_nar (w_nb1 a n0 r0) n0 (-a (40 + r0) n0) (w_nb1 a n0 r0 (81 + (n0 + 1)) r0 - (a 10 r0 - a (69 + n0) r0))
def w_au (a : gF) (n0 : Nat) : Nat → gF
  | 0 => a
  | n + 1 => gU (w_au a n0 n) (69 + (n0 + 1)) n (w_au a n0 n (69 + n0) n + w_au a n0 n (40 + n) n0 * w_au a n0 n 21 n0)
def w_add (a : gF) (n0 nr : Nat) : gF := gU (w_au a n0 nr) (69 + (n0 + 1)) 8 (w_au a n0 nr (69 + n0) 8 + w_au a n0 nr 8 n0 * w_au a n0 nr 21 n0)
def w_wt (a : gF) (ln nm : Nat) : Int32 := if nI ln = 8 then a 8 nm else a (40 + ln) nm
def w_st1 (a : gF) (ln k : Nat) : gF := gU a (75 + k) ln (a (75 + (k + 1)) ln + if w_wt a ln k * a 7 k < w_wt a ln k * a 6 k then w_wt a ln k * a 7 k else w_wt a ln k * a 6 k)
def w_st2 (a : gF) (ln k : Nat) : gF := gU (w_st1 a ln k) (81 + k) ln (w_st1 a ln k (81 + (k + 1)) ln + if w_wt a ln k * a 6 k < w_wt a ln k * a 7 k then w_wt a ln k * a 7 k else w_wt a ln k * a 6 k)
def w_in (a : gF) (ln nn : Nat) : Nat → gF
  | 0 => a
  | m + 1 => w_st2 (w_in a ln nn m) ln (nn - 1 - m)
def w_wo0 (a : gF) (nn ln : Nat) : gF := gU (gU (gU a (69 + 0) ln 0) (75 + nn) ln 0) (81 + nn) ln 0
def w_wo (a : gF) (nn : Nat) : Nat → gF
  | 0 => a
  | n + 1 => w_in (w_wo0 (w_wo a nn n) nn n) n nn nn
def w_mbc (I a : gF) (d : Nat) : Int32 := if I 3 8 = 0 then 1 else if I 3 7 ≤ a (69 + d) 8 + a (75 + d) 8 then 0 else 1
def w_kp (I a : gF) (nn : Nat) : Nat → Nat → Int32
  | 0, _ => 1
  | n + 1, r => if p_hasR I a (nI r) = 0 then w_kp I a nn n (r + 1) else if a (69 + nn) r - a 10 r ≤ 0 then (if 0 ≤ a (69 + nn) r - a 10 r then w_kp I a nn n (r + 1) else if p_below a r = 0 then w_kp I a nn n (r + 1) else 0) else if p_above a r = 0 then (if 0 ≤ a (69 + nn) r - a 10 r then w_kp I a nn n (r + 1) else if p_below a r = 0 then w_kp I a nn n (r + 1) else 0) else 0
def w_cp (a : gF) : Nat → gF
  | 0 => a
  | n + 1 => gU (w_cp a n) 23 n (w_cp a n 21 n)
def w_tpI (I a : gF) (nn nr : Nat) : gF := if w_kp I a nn nr 0 = 0 then I else if w_mbc I a nn = 0 then I else gU (gU I 3 8 1) 3 7 (a (69 + nn) 8)
def w_tpA (I a : gF) (nn nr : Nat) : gF := if w_kp I a nn nr 0 = 0 then a else if w_mbc I a nn = 0 then a else w_cp a nn
def w_on (I a : gF) (n0 : Nat) : Nat → gF
  | 0 => a
  | n + 1 => if p_hasR I (w_on I a n0 n) (nI n) = 0 then w_on I a n0 n else w_nbr (w_on I a n0 n) n0 n
def w_op1 (I a : gF) (n0 nr : Nat) : gF := w_on I (gU (gU a 21 n0 (a 6 n0 - 1)) 22 n0 (a 7 n0)) n0 nr
def w_op2 (I a : gF) (n0 nr : Nat) : gF := if I 3 8 = 0 then w_op1 I a n0 nr else w_nar (w_op1 I a n0 nr) n0 (w_op1 I a n0 nr 8 n0) (I 3 7 - 1 - w_op1 I a n0 nr (69 + n0) 8 - w_op1 I a n0 nr (75 + (n0 + 1)) 8)
def w_open (I a : gF) (n0 nr : Nat) : gF := if nI n0 < I 1 7 then if nI n0 = I 1 7 - 1 then w_kc (w_op2 I a n0 nr) n0 else w_op2 I a n0 nr else a
def mST : Nat := 1000000
def w_srch (nn nr : Nat) : Nat → Nat × gF × gF → Nat × gF × gF
  | 0, x => x
  | n + 1, (0, I, a) => (0, I, a)
  | n + 1, (d + 1, I, a) => if nI d < I 1 7 then if a 21 d < a 22 d then if w_mbc I (w_add (gU a 21 d (a 21 d + 1)) d nr) (d + 1) = 0 then w_srch nn nr n (d + 1, I, w_add (gU a 21 d (a 21 d + 1)) d nr) else w_srch nn nr n (d + 1 + 1, I, w_open I (w_add (gU a 21 d (a 21 d + 1)) d nr) (d + 1) nr) else w_srch nn nr n (d, I, a) else w_srch nn nr n (d, w_tpI I a nn nr, w_tpA I a nn nr)
def w_hpX (I a : gF) (nn nr : Nat) : Nat × gF × gF := w_srch nn nr mST (1, gU (gU I 3 8 0) 3 9 1, w_open (gU (gU I 3 8 0) 3 9 1) (w_wo a nn 9) 0 nr)
def w_hp (I a : gF) (nn nr : Nat) : Int32 := if I 3 9 = 0 then (w_hpX I a nn nr).2.1 3 8 else I 3 8
def w_hpI (I a : gF) (nn nr : Nat) : gF := if I 3 9 = 0 then (w_hpX I a nn nr).2.1 else I
def w_hpA (I a : gF) (nn nr : Nat) : gF := if I 3 9 = 0 then (w_hpX I a nn nr).2.2 else a
def cN (x : Int32) : Nat := x.toNatClampNeg
def cNat (x : Int32) (m : Nat) : Prop := x = nI (cN x) ∧ cN x ≤ m
def cOK (I a : gF) : Prop := cNat (I 1 7) 5 ∧ cNat (I 1 8) 8 ∧ cNat (I 4 7) 21 ∧ cNat (I 4 8) 5 ∧ d_nat (a 15) (cN (I 4 7)) ∧ d_nat (a 16) (cN (I 4 8)) ∧ (I 2 6 = 0 ∨ I 2 6 = 1) ∧ (I 3 8 = 0 ∨ I 3 8 = 1)
abbrev s_hpT (I : gF) (J : gL) (a : gF) (b : gL) : gS := (s_hpI I J a b (cN (I 1 7)) (cN (I 1 8)), s_hpJ I J a b (cN (I 1 7)) (cN (I 1 8)), s_hpA I J a b (cN (I 1 7)) (cN (I 1 8)), s_hpB I J a b (cN (I 1 7)) (cN (I 1 8)))
def q_within (v b : Int32) : Int32 := if v < -b then 0 else if b < v then 0 else 1
def q_span (lo hi : Int32) : Int32 := if q_within lo 100 = 0 then 0 else if q_within hi 100 = 0 then 0 else if hi < lo then 0 else 1
def q_z01 (v : Int32) : Int32 := if v = 0 then 1 else if v = 1 then 1 else 0
def q_fg (I : gF) : gF := gU (gU (gU (gU I 2 5 0) 2 7 0) 2 8 0) 3 9 0
def c_name (x : gS) (lo hi : Int32) : Int32 := if q_span lo hi = 0 then -2 else if x.1 1 7 < 5 then x.1 1 7 else -4
def c_nameS (x : gS) (lo hi : Int32) : gS := if q_span lo hi = 0 then x else (if x.1 1 7 < 5 then gU (q_fg x.1) 1 7 (x.1 1 7 + 1) else q_fg x.1, x.2.1, if x.1 1 7 < 5 then p_addNA x.2.2.1 (cN (x.1 1 7)) lo hi else x.2.2.1, x.2.2.2)
def c_span (x : gS) (v lo hi : Int32) : Int32 := if p_hasN x.1 v = 0 then -1 else if q_span lo hi = 0 then -2 else 1
def c_spanS (x : gS) (v lo hi : Int32) : gS := if p_hasN x.1 v = 0 then x else if q_span lo hi = 0 then x else (q_fg x.1, x.2.1, gU (gU x.2.2.1 6 (cN v) lo) 7 (cN v) hi, x.2.2.2)
def c_cost (x : gS) (v w : Int32) : Int32 := if p_hasN x.1 v = 0 then -1 else if q_within w 99 = 0 then -2 else x.2.2.1 8 (cN v)
def c_costS (x : gS) (v w : Int32) : gS := if p_hasN x.1 v = 0 then x else if q_within w 99 = 0 then x else (q_fg x.1, x.2.1, gU x.2.2.1 8 (cN v) w, x.2.2.2)
def c_row (x : gS) (se ri : Int32) : Int32 := if se < 0 then -2 else if 2 < se then -2 else if q_within ri 1000 = 0 then -2 else if x.1 1 8 < 8 then x.1 1 8 else -4
def c_rowS (x : gS) (se ri : Int32) : gS := if se < 0 then x else if 2 < se then x else if q_within ri 1000 = 0 then x else (if x.1 1 8 < 8 then gU (q_fg x.1) 1 8 (x.1 1 8 + 1) else q_fg x.1, x.2.1, if x.1 1 8 < 8 then p_addRA x.2.2.1 (cN (x.1 1 8)) se ri else x.2.2.1, x.2.2.2)
def c_right (x : gS) (r w : Int32) : Int32 := if p_hasR x.1 x.2.2.1 r = 0 then -1 else if q_within w 1000 = 0 then -2 else 1
def c_rightS (x : gS) (r w : Int32) : gS := if p_hasR x.1 x.2.2.1 r = 0 then x else if q_within w 1000 = 0 then x else (q_fg x.1, x.2.1, gU x.2.2.1 10 (cN r) w, x.2.2.2)
def c_factor (x : gS) (r v w : Int32) : Int32 := if p_hasR x.1 x.2.2.1 r = 0 then -1 else if p_hasN x.1 v = 0 then -1 else if q_within w 9 = 0 then -2 else 1
def c_factorS (x : gS) (r v w : Int32) : gS := if p_hasR x.1 x.2.2.1 r = 0 then x else if p_hasN x.1 v = 0 then x else if q_within w 9 = 0 then x else (q_fg x.1, x.2.1, gU x.2.2.1 (40 + cN r) (cN v) w, x.2.2.2)
def c_drop (x : gS) (r : Int32) : Int32 := if p_hasR x.1 x.2.2.1 r = 0 then -1 else p_cnt (gU x.2.2.1 12 (cN r) 0) (cN (x.1 1 8))
def c_dropS (x : gS) (r : Int32) : gS := if p_hasR x.1 x.2.2.1 r = 0 then x else (q_fg x.1, x.2.1, gU x.2.2.1 12 (cN r) 0, x.2.2.2)
def c_clear (x : gS) : Int32 := x.1 1 7
def c_clearS (x : gS) : gS := (gU (gU (q_fg x.1) 1 7 0) 1 8 0, x.2.1, x.2.2.1, x.2.2.2)
def h_r (x : gS) : Int32 := s_hp x.1 x.2.1 x.2.2.1 x.2.2.2 (cN (x.1 1 7)) (cN (x.1 1 8))
def hS (x : gS) : gS := (s_hpI x.1 x.2.1 x.2.2.1 x.2.2.2 (cN (x.1 1 7)) (cN (x.1 1 8)), s_hpJ x.1 x.2.1 x.2.2.1 x.2.2.2 (cN (x.1 1 7)) (cN (x.1 1 8)), s_hpA x.1 x.2.1 x.2.2.1 x.2.2.2 (cN (x.1 1 7)) (cN (x.1 1 8)), s_hpB x.1 x.2.1 x.2.2.1 x.2.2.2 (cN (x.1 1 7)) (cN (x.1 1 8)))
def fS (x : gS) : gS := (s_ffI x.1, s_ffJ x.1 x.2.1 x.2.2.1 x.2.2.2 (cN (x.1 1 7)) (cN (x.1 4 7)) (cN (x.1 4 8)), s_ffA x.1 x.2.1 x.2.2.1 x.2.2.2 (cN (x.1 1 7)) (cN (x.1 4 7)) (cN (x.1 4 8)), s_ffB x.1 x.2.1 x.2.2.1 x.2.2.2 (cN (x.1 1 7)) (cN (x.1 4 7)) (cN (x.1 4 8)))
def bS (x : gS) : gS := (s_brI x.1 x.2.1 x.2.2.1 x.2.2.2 (cN (x.1 1 7)) (cN (x.1 1 8)), s_brJ x.1 x.2.1 x.2.2.1 x.2.2.2 (cN (x.1 1 7)) (cN (x.1 1 8)), s_brA x.1 x.2.1 x.2.2.1 x.2.2.2 (cN (x.1 1 7)) (cN (x.1 1 8)), s_brB x.1 x.2.1 x.2.2.1 x.2.2.2 (cN (x.1 1 7)) (cN (x.1 1 8)))
def c_run (x : gS) : Int32 := if h_r x = 0 then 0 else 1
def c_least (x : gS) (pt : Int32) : Int64 := if q_z01 pt = 0 then -2 else if h_r x = 0 then -3 else s_part (s_sum (fS (hS x)).2.2.1 (fS (hS x)).2.2.2 (cN ((hS x).1 1 7))) ((fS (hS x)).2.1 2 4) pt
def c_leastS (x : gS) (pt : Int32) : gS := if q_z01 pt = 0 then x else if h_r x = 0 then hS x else fS (hS x)
def c_value (x : gS) (v pt : Int32) : Int64 := if p_hasN x.1 v = 0 then -1 else if q_z01 pt = 0 then -2 else if h_r x = 0 then -3 else s_part ((fS (hS x)).2.2.2 20 (cN v)) ((fS (hS x)).2.1 2 4) pt
def c_valueS (x : gS) (v pt : Int32) : gS := if p_hasN x.1 v = 0 then x else if q_z01 pt = 0 then x else if h_r x = 0 then hS x else fS (hS x)
def c_tight (x : gS) (r : Int32) : Int32 := if p_hasR x.1 x.2.2.1 r = 0 then -1 else if h_r x = 0 then -3 else if s_tsum (fS (hS x)).2.2.1 (fS (hS x)).2.2.2 (cN r) (cN ((hS x).1 1 7)) = ((fS (hS x)).2.2.1 10 (cN r)).toInt64 * (fS (hS x)).2.1 2 4 then 1 else 0
def c_tightS (x : gS) (r : Int32) : gS := if p_hasR x.1 x.2.2.1 r = 0 then x else if h_r x = 0 then hS x else fS (hS x)
def q_re (x : gS) (v sd pt : Int32) : Int32 := if p_hasN x.1 v = 0 then -1 else if q_z01 sd = 0 then -2 else if q_z01 pt = 0 then -2 else if h_r x = 0 then -3 else 0
def q_reS (x : gS) (v sd pt : Int32) : gS := if p_hasN x.1 v = 0 then x else if q_z01 sd = 0 then x else if q_z01 pt = 0 then x else hS x
def eS (x : gS) (n0 : Nat) (sd : Int32) : gS := (x.1, (s_ebX x.1 x.2.1 x.2.2.1 x.2.2.2 (cN (x.1 4 7)) (cN (x.1 4 8)) n0 sd).1, (s_ebX x.1 x.2.1 x.2.2.1 x.2.2.2 (cN (x.1 4 7)) (cN (x.1 4 8)) n0 sd).2.1, (s_ebX x.1 x.2.1 x.2.2.1 x.2.2.2 (cN (x.1 4 7)) (cN (x.1 4 8)) n0 sd).2.2)
def aS (x : gS) (n0 : Nat) (sd : Int32) : gS := (x.1, (s_endX x.1 x.2.1 (d_thaw x.2.2.1 (cN (x.1 4 8))) x.2.2.2 (cN (x.1 4 7)) (cN (x.1 4 8)) n0 (s_w sd)).1, (s_endX x.1 x.2.1 (d_thaw x.2.2.1 (cN (x.1 4 8))) x.2.2.2 (cN (x.1 4 7)) (cN (x.1 4 8)) n0 (s_w sd)).2.1, (s_endX x.1 x.2.1 (d_thaw x.2.2.1 (cN (x.1 4 8))) x.2.2.2 (cN (x.1 4 7)) (cN (x.1 4 8)) n0 (s_w sd)).2.2)
def c_reach (x : gS) (v sd pt : Int32) : Int64 := if q_re x v sd pt = 0 then s_eb (hS x).1 (hS x).2.1 (hS x).2.2.1 (hS x).2.2.2 (cN ((hS x).1 4 7)) (cN ((hS x).1 4 8)) (cN v) sd pt else (q_re x v sd pt).toInt64
def c_reachS (x : gS) (v sd pt : Int32) : gS := if q_re x v sd pt = 0 then eS (hS x) (cN v) sd else q_reS x v sd pt
def c_far (x : gS) (v sd pt : Int32) : Int64 := if q_re x v sd pt = 0 then s_end (hS x).1 (hS x).2.1 (d_thaw (hS x).2.2.1 (cN ((hS x).1 4 8))) (hS x).2.2.2 (cN ((hS x).1 4 7)) (cN ((hS x).1 4 8)) (cN v) (s_w sd) pt else (q_re x v sd pt).toInt64
def c_farS (x : gS) (v sd pt : Int32) : gS := if q_re x v sd pt = 0 then aS (hS x) (cN v) sd else q_reS x v sd pt
def q_brow (x : gS) (k : Int32) : Int32 := s_brow ((bS (hS x)).1 2 9) k (cN ((hS x).1 1 8)) 0 0
def c_barred (x : gS) (k : Int32) : Int32 := if h_r x = 0 then if 0 ≤ q_brow x k then q_brow x k else -1 else -3
def c_barredS (x : gS) : gS := if h_r x = 0 then bS (hS x) else hS x
def wS (x : gS) : gS := (w_hpI x.1 x.2.2.1 (cN (x.1 1 7)) (cN (x.1 1 8)), x.2.1, w_hpA x.1 x.2.2.1 (cN (x.1 1 7)) (cN (x.1 1 8)), x.2.2.2)
def q_rw (x : gS) : Int32 := if p_cw x.2.2.1 (cN (x.1 1 7)) ≤ 20000 then if w_hp x.1 x.2.2.1 (cN (x.1 1 7)) (cN (x.1 1 8)) = 0 then -3 else 0 else -4
def q_rwS (x : gS) : gS := if p_cw x.2.2.1 (cN (x.1 1 7)) ≤ 20000 then wS x else x
def c_whole (x : gS) : Int32 := if q_rw x = 0 then (q_rwS x).1 3 7 else q_rw x
def c_wholeValue (x : gS) (v : Int32) : Int32 := if p_hasN x.1 v = 0 then -1 else if q_rw x = 0 then (q_rwS x).2.2.1 23 (cN v) else q_rw x
def c_wholeValueS (x : gS) (v : Int32) : gS := if p_hasN x.1 v = 0 then x else q_rwS x
def c_isWhole (x : gS) : Int32 := if q_rw x = -4 then -4 else if q_rw x = 0 then 1 else 0
def c_told (x : gS) (w : Int32) : Int32 := if w = 0 then x.1 1 7 else if w = 1 then p_cnt x.2.2.1 (cN (x.1 1 8)) else if w = 2 then x.1 1 8 else -2
def m_isN (I : gF) (v : Int32) : Int32 := if v < 0 then 0 else if I 5 0 ≤ v then 0 else 1
def m_isR (I a : gF) (v : Int32) : Int32 := if v < 0 then 0 else if I 5 1 ≤ v then 0 else if a 33 (cN v) = 0 then 0 else 1
def m_span (lo hi : Int32) : Int32 := if lo < -100 then 0 else if 100 < hi then 0 else if hi < lo then 0 else 1
def m_cmp (x y z w : Int64) : Int32 := if z * y ≤ x * w then if x * w ≤ z * y then 0 else 1 else -1
def m_cnt (a : gF) : Nat → Int32
  | 0 => 0
  | n + 1 => if a 33 n = 0 then m_cnt a n + 0 else m_cnt a n + 1
def m_wipN (a : gF) (mn : Nat) : Nat → gF
  | 0 => a
  | r + 1 => gU (m_wipN a mn r) 32 ((5 * r) + mn) 0
def m_wipR (a : gF) (mr : Nat) : Nat → gF
  | 0 => a
  | r + 1 => gU (m_wipR a mr r) 32 ((5 * mr) + r) 0
def m_cw (a : gF) : Nat → Int64
  | 0 => 1
  | n + 1 => m_cw a n * (a 28 n - a 27 n + 1).toInt64
def m_large (a : gF) (mn : Nat) : Int32 := if m_cw a mn ≤ 20000 then 0 else 1
def m_name (x : gS) (lo hi : Int32) : Int32 := if m_span lo hi = 0 then -2 else if x.1 5 0 = 5 then -4 else x.1 5 0 + 1 - 1
def m_nameS (x : gS) (lo hi : Int32) : gS := if m_span lo hi = 0 then x else if x.1 5 0 = 5 then x else (gU (gU x.1 5 0 (x.1 5 0 + 1)) 5 9 0, x.2.1, m_wipN (gU (gU (gU x.2.2.1 27 (cN (x.1 5 0)) lo) 28 (cN (x.1 5 0)) hi) 29 (cN (x.1 5 0)) 0) (cN (x.1 5 0)) 8, x.2.2.2)
def m_sp (x : gS) (v lo hi : Int32) : Int32 := if m_isN x.1 v = 0 then -1 else if m_span lo hi = 0 then -2 else 1
def m_spS (x : gS) (v lo hi : Int32) : gS := if m_isN x.1 v = 0 then x else if m_span lo hi = 0 then x else (gU x.1 5 9 0, x.2.1, gU (gU x.2.2.1 27 (cN v) lo) 28 (cN v) hi, x.2.2.2)
def m_co (x : gS) (v w : Int32) : Int32 := if m_isN x.1 v = 0 then -1 else if w < -99 then -2 else if w ≤ 99 then x.2.2.1 29 (cN v) else -2
def m_coS (x : gS) (v w : Int32) : gS := if m_isN x.1 v = 0 then x else if w < -99 then x else if w ≤ 99 then (gU x.1 5 9 0, x.2.1, gU x.2.2.1 29 (cN v) w, x.2.2.2) else x
def m_row (x : gS) (se ri : Int32) : Int32 := if se < 0 then -2 else if 2 < se then -2 else if ri < -1000 then -2 else if ri ≤ 1000 then if x.1 5 1 = 8 then -4 else x.1 5 1 + 1 - 1 else -2
def m_rowS (x : gS) (se ri : Int32) : gS := if se < 0 then x else if 2 < se then x else if ri < -1000 then x else if ri ≤ 1000 then if x.1 5 1 = 8 then x else (gU (gU x.1 5 1 (x.1 5 1 + 1)) 5 9 0, x.2.1, m_wipR (gU (gU (gU x.2.2.1 30 (cN (x.1 5 1)) se) 31 (cN (x.1 5 1)) ri) 33 (cN (x.1 5 1)) 1) (cN (x.1 5 1)) 5, x.2.2.2) else x
def m_right (x : gS) (r w : Int32) : Int32 := if m_isR x.1 x.2.2.1 r = 0 then -1 else if w < -1000 then -2 else if w ≤ 1000 then 1 else -2
def m_rightS (x : gS) (r w : Int32) : gS := if m_isR x.1 x.2.2.1 r = 0 then x else if w < -1000 then x else if w ≤ 1000 then (gU x.1 5 9 0, x.2.1, gU x.2.2.1 31 (cN r) w, x.2.2.2) else x
def m_factor (x : gS) (r v w : Int32) : Int32 := if m_isR x.1 x.2.2.1 r = 0 then -1 else if m_isN x.1 v = 0 then -1 else if w < -9 then -2 else if w ≤ 9 then 1 else -2
def m_factorS (x : gS) (r v w : Int32) : gS := if m_isR x.1 x.2.2.1 r = 0 then x else if m_isN x.1 v = 0 then x else if w < -9 then x else if w ≤ 9 then (gU x.1 5 9 0, x.2.1, gU x.2.2.1 32 ((5 * cN r) + cN v) w, x.2.2.2) else x
def m_drop (x : gS) (r : Int32) : Int32 := if m_isR x.1 x.2.2.1 r = 0 then -1 else m_cnt (gU x.2.2.1 33 (cN r) 0) (cN (x.1 5 1))
def m_dropS (x : gS) (r : Int32) : gS := if m_isR x.1 x.2.2.1 r = 0 then x else (gU x.1 5 9 0, x.2.1, gU x.2.2.1 33 (cN r) 0, x.2.2.2)
def m_clear (x : gS) : Int32 := x.1 5 0
def m_clearS (x : gS) : gS := (gU (gU (gU x.1 5 0 0) 5 1 0) 5 9 0, x.2.1, x.2.2.1, x.2.2.2)
def m_told (x : gS) (w : Int32) : Int32 := if w = 0 then x.1 5 0 else if w = 1 then m_cnt x.2.2.1 (cN (x.1 5 1)) else if w = 2 then x.1 5 1 else -2
def m_part (a : gF) (c nm : Nat) : Int64 := if 8 ≤ nI c then if nI nm = 5 then if 13 ≤ nI c then (a 28 ((c - 8) % 5)).toInt64 else (a 27 ((c - 8) % 5)).toInt64 else if nI nm = nI ((c - 8) % 5) then 1 else 0 else if nI nm = 5 then (a 31 c).toInt64 else (a 32 ((5 * c) + nm)).toInt64
def m_there (I : gF) (set : Int32) (c : Nat) : Int32 := if 8 ≤ nI c then if I 5 0 ≤ nI ((c - 8) % 5) then 0 else 1 else if (set >>> (nI c &&& 31)) &&& 1 = 1 then 1 else 0
def m_aft (I : gF) (set : Int32) : Nat → Nat → Nat
  | 0, k => k
  | n + 1, k => if m_there I set k = 0 then m_aft I set n (k + 1) else k
def m_all (a : gF) : Nat → Int32
  | 0 => 0
  | n + 1 => if a 33 n = 0 then m_all a n ||| 0 else m_all a n ||| ((1 : Int32) <<< (nI n &&& 31))
def m_pick (a : gF) (mn : Nat) : Prop := ∀ i, i < mn → ∃ k, a 88 i = nI k ∧ k < 18
def m_mx1 (a : gF) (b : gL) (i : Nat) : Nat → gL
  | 0 => b
  | j + 1 => gU (m_mx1 a b i j) 87 ((6 * i) + j) (m_part a (cN (a 88 i)) j)
def m_mx (a : gF) (b : gL) (mn : Nat) : Nat → gL
  | 0 => b
  | i + 1 => gU (m_mx1 a (m_mx a b mn i) i mn) 87 ((6 * i) + mn) (m_part a (cN (a 88 i)) 5)
def m_pv (b : gL) (k : Nat) : Nat → Nat → Nat
  | 0, p => p
  | n + 1, p => if b 87 ((6 * p) + k) = 0 then m_pv b k n (p + 1) else p
def m_sw (b : gL) (k p : Nat) : Nat → gL
  | 0 => b
  | j + 1 => gU (gU (m_sw b k p j) 87 ((6 * k) + j) (m_sw b k p j 87 ((6 * p) + j))) 87 ((6 * p) + j) (m_sw b k p j 87 ((6 * k) + j))
def m_el1 (b : gL) (i k : Nat) (pv q bf : Int64) : Nat → gL
  | 0 => b
  | j + 1 => gU (m_el1 b i k pv q bf j) 87 ((6 * i) + j) ((pv * m_el1 b i k pv q bf j 87 ((6 * i) + j) - q * m_el1 b i k pv q bf j 87 ((6 * k) + j)) / bf)
def m_elI (b : gL) (i k : Nat) (pv q bf : Int64) (n : Nat) : gL := if nI i = nI k then b else m_el1 b i k pv q bf n
def m_el (b : gL) (k : Nat) (pv bf : Int64) (mn : Nat) : Nat → gL
  | 0 => b
  | i + 1 => m_elI (m_el b k pv bf mn i) i k pv (m_el b k pv bf mn i 87 ((6 * i) + k)) bf (mn + 1)
def m_sol (mn : Nat) : Nat → Nat → Int64 → gL → Int32 × Int64 × gL
  | 0, _, bf, b => (1, bf, b)
  | n + 1, k, bf, b => if m_pv b k (mn - k) k = mn then (0, bf, b) else m_sol mn n (k + 1) (m_sw b k (m_pv b k (mn - k) k) (mn + 1) 87 ((6 * k) + k)) (m_el (m_sw b k (m_pv b k (mn - k) k) (mn + 1)) k (m_sw b k (m_pv b k (mn - k) k) (mn + 1) 87 ((6 * k) + k)) bf mn mn)
def m_ov (b : gL) (mn : Nat) : Nat → gL
  | 0 => b
  | i + 1 => gU (m_ov b mn i) 89 i (m_ov b mn i 87 ((6 * i) + mn))
def m_ng (b : gL) : Nat → gL
  | 0 => b
  | i + 1 => gU (m_ng b i) 89 i (-m_ng b i 89 i)
def m_s0 (a : gF) (b : gL) (mn : Nat) : Int32 × Int64 × gL := m_sol mn mn 0 1 (m_mx a b mn mn)
def m_sJ (J : gL) (a : gF) (b : gL) (mn : Nat) : gL := if (m_s0 a b mn).1 = 0 then J else if 0 ≤ (m_s0 a b mn).2.1 then gU J 5 23 (m_s0 a b mn).2.1 else gU (gU J 5 23 (m_s0 a b mn).2.1) 5 23 (-(m_s0 a b mn).2.1)
def m_sB (a : gF) (b : gL) (mn : Nat) : gL := if (m_s0 a b mn).1 = 0 then (m_s0 a b mn).2.2 else if 0 ≤ (m_s0 a b mn).2.1 then m_ov (m_s0 a b mn).2.2 mn mn else m_ng (m_ov (m_s0 a b mn).2.2 mn mn) mn
def m_kp1 (J : gL) (a : gF) (b : gL) : Nat → Nat → Int32
  | 0, _ => 1
  | n + 1, i => if b 89 i < (a 27 i).toInt64 * J 5 23 then 0 else if b 89 i ≤ (a 28 i).toInt64 * J 5 23 then m_kp1 J a b n (i + 1) else 0
def m_ks (J : gL) (a : gF) (b : gL) (r : Nat) : Nat → Int64
  | 0 => (-a 31 r).toInt64 * J 5 23
  | n + 1 => m_ks J a b r n + (a 32 ((5 * r) + n)).toInt64 * b 89 n
def m_g2 (s : Int32) (T : Int64) (nx : Int32) : Int32 := if s = 2 then if 0 ≤ T then nx else 0 else nx
def m_g1 (s : Int32) (T : Int64) (nx : Int32) : Int32 := if s = 1 then if T = 0 then m_g2 s T nx else 0 else m_g2 s T nx
def m_g0 (s : Int32) (T : Int64) (nx : Int32) : Int32 := if s = 0 then if 0 < T then 0 else m_g1 s T nx else m_g1 s T nx
def m_kp2 (J : gL) (a : gF) (b : gL) (set : Int32) (mn : Nat) : Nat → Nat → Int32
  | 0, _ => 1
  | n + 1, r => if (set >>> (nI r &&& 31)) &&& 1 = 0 then m_kp2 J a b set mn n (r + 1) else m_g0 (a 30 r) (m_ks J a b r mn) (m_kp2 J a b set mn n (r + 1))
def m_keeps (J : gL) (a : gF) (b : gL) (set : Int32) (mn mr : Nat) : Int32 := if m_kp1 J a b mn 0 = 0 then 0 else m_kp2 J a b set mn mr 0
def m_ws (a : gF) (r : Nat) : Nat → Int32
  | 0 => -a 31 r
  | n + 1 => m_ws a r n + a 32 ((5 * r) + n) * a 90 n
def m_h2 (s T nx : Int32) : Int32 := if s = 2 then if 0 ≤ T then nx else 0 else nx
def m_h1 (s T nx : Int32) : Int32 := if s = 1 then if T = 0 then m_h2 s T nx else 0 else m_h2 s T nx
def m_h0 (s T nx : Int32) : Int32 := if s = 0 then if 0 < T then 0 else m_h1 s T nx else m_h1 s T nx
def m_kw (a : gF) (mn : Nat) : Nat → Nat → Int32
  | 0, _ => 1
  | n + 1, r => if a 33 r = 0 then m_kw a mn n (r + 1) else m_h0 (a 30 r) (m_ws a r mn) (m_kw a mn n (r + 1))
def m_fu (J b : gL) (i k : Nat) : gL := gU (gU b 37 k (b 89 i)) 38 k (J 5 23)
def m_fs (I : gF) (J b : gL) (i s : Nat) : gL := if I 5 24 = 0 then m_fu J b i ((2 * i) + s) else if nI s = 0 then if 0 ≤ m_cmp (b 89 i) (J 5 23) (b 37 ((2 * i) + s)) (b 38 ((2 * i) + s)) then b else m_fu J b i ((2 * i) + s) else if m_cmp (b 89 i) (J 5 23) (b 37 ((2 * i) + s)) (b 38 ((2 * i) + s)) ≤ 0 then b else m_fu J b i ((2 * i) + s)
def m_fr (I : gF) (J b : gL) (i : Nat) : Nat → gL
  | 0 => b
  | s + 1 => m_fs I J (m_fr I J b i s) i s
def m_t1 (I : gF) (J : gL) (a : gF) (b : gL) : Nat → Int64 × gL
  | 0 => (0, b)
  | i + 1 => ((m_t1 I J a b i).1 + (a 29 i).toInt64 * (m_t1 I J a b i).2 89 i, m_fr I J (m_t1 I J a b i).2 i 2)
def m_tc (I : gF) (J : gL) (x : Int64) : Int32 := if I 5 24 = 0 then -1 else m_cmp x (J 5 23) (J 5 11) (J 5 12)
def m_ru (J b : gL) (i k : Nat) : gL := gU (gU b 35 k (b 89 i)) 36 k (J 5 23)
def m_rs (cv : Int32) (J b : gL) (i s : Nat) : gL := if 0 ≤ cv then if nI s = 0 then if 0 ≤ m_cmp (b 89 i) (J 5 23) (b 35 ((2 * i) + s)) (b 36 ((2 * i) + s)) then b else m_ru J b i ((2 * i) + s) else if m_cmp (b 89 i) (J 5 23) (b 35 ((2 * i) + s)) (b 36 ((2 * i) + s)) ≤ 0 then b else m_ru J b i ((2 * i) + s) else m_ru J b i ((2 * i) + s)
def m_rr (cv : Int32) (J b : gL) (i : Nat) : Nat → gL
  | 0 => b
  | s + 1 => m_rs cv J (m_rr cv J b i s) i s
def m_t2 (cv : Int32) (J b : gL) : Nat → gL
  | 0 => b
  | i + 1 => m_rr cv J (m_t2 cv J b i) i 2
def m_fi (J b : gL) : Nat → Nat → Int32 → Int32
  | 0, _, f => f
  | n + 1, i, f => if f = 0 then m_fi J b n (i + 1) (m_cmp (b 89 i) (J 5 23) (b 34 i) (J 5 14)) else f
def m_cpb (b : gL) : Nat → gL
  | 0 => b
  | i + 1 => gU (m_cpb b i) 34 i (m_cpb b i 89 i)
def m_f0 (cv : Int32) : Int32 := if 0 ≤ cv then 0 else -1
def m_tI (I : gF) : gF := gU I 5 24 1
def m_tk0 (I : gF) (J : gL) (a : gF) (b : gL) (mn : Nat) : Int32 := m_tc I J (m_t1 I J a b mn).1
def m_tk2 (I : gF) (J : gL) (a : gF) (b : gL) (mn : Nat) : gL := m_t2 (m_tk0 I J a b mn) J (m_t1 I J a b mn).2 mn
def m_tk1 (I : gF) (J : gL) (a : gF) (b : gL) (mn : Nat) : Int32 := m_fi J (m_tk2 I J a b mn) mn 0 (m_f0 (m_tk0 I J a b mn))
def m_tJ (I : gF) (J : gL) (a : gF) (b : gL) (mn : Nat) : gL := if m_tk0 I J a b mn ≤ 0 then if 0 ≤ m_tk1 I J a b mn then gU (gU J 5 11 (m_t1 I J a b mn).1) 5 12 (J 5 23) else gU (gU (gU J 5 14 (J 5 23)) 5 11 (m_t1 I J a b mn).1) 5 12 (J 5 23) else J
def m_tB (I : gF) (J : gL) (a : gF) (b : gL) (mn : Nat) : gL := if m_tk0 I J a b mn ≤ 0 then if 0 ≤ m_tk1 I J a b mn then m_tk2 I J a b mn else m_cpb (m_tk2 I J a b mn) mn else (m_t1 I J a b mn).2
def m_low : Nat → Int64 → Int64 → Int64
  | 0, _, y => y
  | n + 1, x, y => if x = 0 then y else m_low n (y - y / x * x) x
def mGC : Nat := 18446744073709551616
def m_ab (x : Int64) : Int64 := if 0 ≤ x then x else -x
def m_gd (x y : Int64) : Int64 := m_low mGC (m_ab x) y
def m_lowest (x y : Int64) (pt : Int32) : Int64 := if pt = 0 then x / m_gd x y else y / m_gd x y
def m_nx (I a : gF) (set : Int32) (d : Nat) : Nat := m_aft I set (18 - cN (a 88 d + 1)) (cN (a 88 d + 1))
abbrev m_C : Type := Nat × Int32 × gS
def m_cS (mn : Nat) (x : gS) : gS := (x.1, m_sJ x.2.1 x.2.2.1 x.2.2.2 mn, x.2.2.1, m_sB x.2.2.1 x.2.2.2 mn)
def m_cT (mn : Nat) (x : gS) : gS := (m_tI x.1, m_tJ x.1 x.2.1 x.2.2.1 x.2.2.2 mn, x.2.2.1, m_tB x.1 x.2.1 x.2.2.1 x.2.2.2 mn)
def m_cA (x : gS) (set : Int32) (d : Nat) : gS := (x.1, x.2.1, gU x.2.2.1 88 d (nI (m_nx x.1 x.2.2.1 set d)), x.2.2.2)
def m_cP (x : gS) (set : Int32) (d : Nat) : gS := (x.1, x.2.1, gU (gU x.2.2.1 88 d (nI (m_nx x.1 x.2.2.1 set d))) 88 (d + 1) (nI (m_nx x.1 x.2.2.1 set d)), x.2.2.2)
def m_cor (mn mr : Nat) (set al : Int32) : Nat → m_C → Int32 × gS
  | 0, x => x.2
  | n + 1, (0, f, x) => (f, x)
  | n + 1, (d + 1, f, x) => if nI (m_nx x.1 x.2.2.1 set d) ≤ 17 then if x.1 5 0 ≤ nI d + 1 then if (m_s0 (m_cA x set d).2.2.1 x.2.2.2 mn).1 = 0 then m_cor mn mr set al n (d + 1, f, m_cS mn (m_cA x set d)) else if m_keeps (m_cS mn (m_cA x set d)).2.1 (m_cA x set d).2.2.1 (m_cS mn (m_cA x set d)).2.2.2 set mn mr = 0 then m_cor mn mr set al n (d + 1, f, m_cS mn (m_cA x set d)) else if al = 0 then (1, m_cS mn (m_cA x set d)) else m_cor mn mr set al n (d + 1, 1, m_cT mn (m_cS mn (m_cA x set d))) else m_cor mn mr set al n (d + 1 + 1, f, m_cP x set d) else m_cor mn mr set al n (d, f, m_cA x set d)
def m_mu (a : gF) : Nat → Nat
  | 0 => 0
  | d + 1 => m_mu a d + (19 - cN (a 88 d + 1)) * 20 ^ (5 - d)
def m_pk (a : gF) (dd : Nat) : Prop := (∀ i, i + 1 < dd → ∃ k, a 88 i = nI k ∧ k < 18) ∧ (∀ d, dd = d + 1 → ∃ q, a 88 d + 1 = nI q ∧ q ≤ 18)
def mCF : Nat := 1000000000000
def m_c0 (x : gS) (set al : Int32) (mn mr : Nat) : Int32 × gS := if m_keeps (gU x.2.1 5 23 1) (gU x.2.2.1 88 0 (-1)) x.2.2.2 set mn mr = 0 then (m_keeps (gU x.2.1 5 23 1) (gU x.2.2.1 88 0 (-1)) x.2.2.2 set mn mr, (x.1, gU x.2.1 5 23 1, gU x.2.2.1 88 0 (-1), x.2.2.2)) else if al = 0 then (m_keeps (gU x.2.1 5 23 1) (gU x.2.2.1 88 0 (-1)) x.2.2.2 set mn mr, (x.1, gU x.2.1 5 23 1, gU x.2.2.1 88 0 (-1), x.2.2.2)) else (m_keeps (gU x.2.1 5 23 1) (gU x.2.2.1 88 0 (-1)) x.2.2.2 set mn mr, m_cT mn (x.1, gU x.2.1 5 23 1, gU x.2.2.1 88 0 (-1), x.2.2.2))
def m_cc (x : gS) (set al : Int32) (mn mr : Nat) : Int32 × gS := m_cor mn mr set al mCF (1, 0, (x.1, x.2.1, gU x.2.2.1 88 0 (-1), x.2.2.2))
def m_corners (x : gS) (set al : Int32) (mn mr : Nat) : Int32 × gS := if x.1 5 0 = 0 then m_c0 x set al mn mr else m_cc x set al mn mr
abbrev m_K : Type := Int32 × gS
def m_bt (set : Int32) (k : Nat) : Int32 := (set >>> (nI k &&& 31)) &&& 1
def m_kn (mn mr : Nat) : Nat → m_K → m_K
  | 0, x => x
  | k + 1, x => if x.2.1 5 10 = 0 then if m_bt x.1 k = 1 then if (m_corners x.2 (s_wo x.1 k) 0 mn mr).1 = 0 then m_kn mn mr k (s_wo x.1 k, (m_corners x.2 (s_wo x.1 k) 0 mn mr).2) else m_kn mn mr k (x.1, (m_corners x.2 (s_wo x.1 k) 0 mn mr).2) else m_kn mn mr k x else x
def m_ib (I a : gF) (set : Int32) : Nat → gF
  | 0 => a
  | r + 1 => if I 5 10 = 0 then if m_bt set r = 1 then gU (m_ib I a set r) 39 r 1 else gU (m_ib I a set r) 39 r 0 else gU (m_ib I a set r) 39 r 0
def m_k1 (x : gS) (mn mr : Nat) : Int32 × gS := m_corners (gU (gU x.1 5 9 1) 5 24 0, x.2.1, x.2.2.1, x.2.2.2) (m_all x.2.2.1 mr) 1 mn mr
def m_k2 (x : gS) (mn mr : Nat) : gS := (gU (m_k1 x mn mr).2.1 5 10 (m_k1 x mn mr).1, (m_k1 x mn mr).2.2.1, (m_k1 x mn mr).2.2.2.1, (m_k1 x mn mr).2.2.2.2)
def m_k3 (x : gS) (mn mr : Nat) : m_K := m_kn mn mr 8 (m_all (m_k2 x mn mr).2.2.1 mr, m_k2 x mn mr)
def m_know (x : gS) (mn mr : Nat) : gS := if x.1 5 9 = 0 then ((m_k3 x mn mr).2.1, (m_k3 x mn mr).2.2.1, m_ib (m_k3 x mn mr).2.1 (m_k3 x mn mr).2.2.2.1 (m_k3 x mn mr).1 8, (m_k3 x mn mr).2.2.2.2) else x
def kS (x : gS) : gS := m_know x (cN (x.1 5 0)) (cN (x.1 5 1))
def m_nz (y : gS) (mn : Nat) : Prop := ¬ y.1 5 10 = 0 → ¬ y.2.1 5 12 = 0 ∧ (0 < mn → ¬ y.2.1 5 14 = 0) ∧ ∀ k, k < 2 * mn → ¬ y.2.2.2 36 k = 0 ∧ ¬ y.2.2.2 38 k = 0
def m_run (x : gS) : Int32 := if (kS x).1 5 10 = 0 then 0 else 1
def m_least (x : gS) (pt : Int32) : Int64 := if q_z01 pt = 0 then -2 else if (kS x).1 5 10 = 0 then -3 else m_lowest ((kS x).2.1 5 11) ((kS x).2.1 5 12) pt
def m_leastS (x : gS) (pt : Int32) : gS := if q_z01 pt = 0 then x else kS x
def m_value (x : gS) (v pt : Int32) : Int64 := if m_isN x.1 v = 0 then -1 else if q_z01 pt = 0 then -2 else if (kS x).1 5 10 = 0 then -3 else m_lowest ((kS x).2.2.2 34 (cN v)) ((kS x).2.1 5 14) pt
def m_valueS (x : gS) (v pt : Int32) : gS := if m_isN x.1 v = 0 then x else if q_z01 pt = 0 then x else kS x
def m_reach (x : gS) (v sd pt : Int32) : Int64 := if m_isN x.1 v = 0 then -1 else if q_z01 sd = 0 then -2 else if q_z01 pt = 0 then -2 else if (kS x).1 5 10 = 0 then -3 else m_lowest ((kS x).2.2.2 35 ((2 * cN v) + cN sd)) ((kS x).2.2.2 36 ((2 * cN v) + cN sd)) pt
def m_reachS (x : gS) (v sd pt : Int32) : gS := if m_isN x.1 v = 0 then x else if q_z01 sd = 0 then x else if q_z01 pt = 0 then x else kS x
def m_far (x : gS) (v sd pt : Int32) : Int64 := if m_isN x.1 v = 0 then -1 else if q_z01 sd = 0 then -2 else if q_z01 pt = 0 then -2 else if (kS x).1 5 10 = 0 then -3 else m_lowest ((kS x).2.2.2 37 ((2 * cN v) + cN sd)) ((kS x).2.2.2 38 ((2 * cN v) + cN sd)) pt
def m_tsum (x : gS) (r : Nat) : Nat → Int64
  | 0 => if x.1 5 0 = 0 then (-x.2.2.1 31 r).toInt64 else (-x.2.2.1 31 r).toInt64 * x.2.1 5 14
  | n + 1 => m_tsum x r n + (x.2.2.1 32 ((5 * r) + n)).toInt64 * x.2.2.2 34 n
def m_tight (x : gS) (r : Int32) : Int32 := if m_isR x.1 x.2.2.1 r = 0 then -1 else if (kS x).1 5 10 = 0 then -3 else if m_tsum (kS x) (cN r) (cN (x.1 5 0)) = 0 then 1 else 0
def m_tightS (x : gS) (r : Int32) : gS := if m_isR x.1 x.2.2.1 r = 0 then x else kS x
def m_brow (a : gF) (k : Int32) : Nat → Nat → Int32 → Int32
  | 0, _, _ => -1
  | n + 1, r, pl => if a 39 r = 0 then m_brow a k n (r + 1) pl else if pl = k then nI r else m_brow a k n (r + 1) (pl + 1)
def m_barred (x : gS) (k : Int32) : Int32 := if (kS x).1 5 10 = 0 then m_brow (kS x).2.2.1 k 8 0 0 else -3
def m_w0 (a : gF) : Nat → gF
  | 0 => a
  | i + 1 => gU (m_w0 a i) 90 i (m_w0 a i 27 i)
def m_wc (a : gF) : Nat → Int32
  | 0 => 0
  | i + 1 => m_wc a i + a 29 i * a 90 i
def m_wb (a : gF) : Nat → gF
  | 0 => a
  | i + 1 => gU (m_wb a i) 91 i (m_wb a i 90 i)
def m_od : Nat → gF → Nat × gF
  | 0, a => (0, a)
  | k + 1, a => if a 90 k = a 28 k then m_od k (gU a 90 k (a 27 k)) else (k + 1, a)
abbrev m_F : Type := Int32 × gF × gF
def m_tw (mn mr : Nat) (x : m_F) : m_F := if m_kw x.2.2 mn mr 0 = 0 then x else if x.1 = 0 then (1, gU x.2.1 5 27 (m_wc x.2.2 mn), m_wb x.2.2 mn) else if x.2.1 5 27 ≤ m_wc x.2.2 mn then x else (1, gU x.2.1 5 27 (m_wc x.2.2 mn), m_wb x.2.2 mn)
def m_nw (mn : Nat) (a : gF) : Nat × gF := if (m_od mn a).1 = 0 then m_od mn a else ((m_od mn a).1, gU (m_od mn a).2 90 ((m_od mn a).1 - 1) ((m_od mn a).2 90 ((m_od mn a).1 - 1) + 1))
def m_fw (mn mr : Nat) : Nat → Nat × m_F → m_F
  | 0, x => x.2
  | n + 1, (0, x) => x
  | n + 1, (k + 1, x) => m_fw mn mr n ((m_nw mn (m_tw mn mr x).2.2).1, (m_tw mn mr x).1, (m_tw mn mr x).2.1, (m_nw mn (m_tw mn mr x).2.2).2)
def m_in (a : gF) (mn : Nat) : Prop := ∀ i, i < mn → -100 ≤ (a 27 i).toInt ∧ (a 27 i).toInt ≤ (a 90 i).toInt ∧ (a 90 i).toInt ≤ (a 28 i).toInt ∧ (a 28 i).toInt ≤ 100
def m_sps (a : gF) (mn : Nat) : Prop := ∀ i, i < mn → -100 ≤ (a 27 i).toInt ∧ (a 27 i).toInt ≤ (a 28 i).toInt ∧ (a 28 i).toInt ≤ 100
def m_rem (a : gF) (i : Nat) : Nat := ((a 28 i).toInt - (a 90 i).toInt).toNat
def m_mv (a : gF) : Nat → Nat
  | 0 => 0
  | i + 1 => m_mv a i * 201 + m_rem a i
def m_ms (kk : Nat) (a : gF) (mn : Nat) : Nat := if kk = 0 then 0 else m_mv a mn + 1
def mWF : Nat := 1000000000000000
def m_fwX (I a : gF) (mn mr : Nat) : m_F := m_fw mn mr mWF (1, 0, I, m_w0 a mn)
def m_fS (x : gS) : gS := ((m_fwX x.1 x.2.2.1 (cN (x.1 5 0)) (cN (x.1 5 1))).2.1, x.2.1, (m_fwX x.1 x.2.2.1 (cN (x.1 5 0)) (cN (x.1 5 1))).2.2, x.2.2.2)
def m_fr0 (x : gS) : Int32 := (m_fwX x.1 x.2.2.1 (cN (x.1 5 0)) (cN (x.1 5 1))).1
def m_lg (x : gS) : Int32 := m_large x.2.2.1 (cN (x.1 5 0))
def m_whole (x : gS) : Int32 := if m_lg x = 0 then if m_fr0 x = 0 then -3 else (m_fS x).1 5 27 else -4
def m_wholeS (x : gS) : gS := if m_lg x = 0 then m_fS x else x
def m_wv (x : gS) (v : Int32) : Int32 := if m_isN x.1 v = 0 then -1 else if m_lg x = 0 then if m_fr0 x = 0 then -3 else (m_fS x).2.2.1 91 (cN v) else -4
def m_wvS (x : gS) (v : Int32) : gS := if m_isN x.1 v = 0 then x else if m_lg x = 0 then m_fS x else x
def m_isW (x : gS) : Int32 := if m_lg x = 0 then if m_fr0 x = 0 then 0 else 1 else -4
end
section
/-! THE MATHEMATICS, 6: the class's pivot is the pivot of determinants -/
theorem ma_swL {b : gL} {i r s : Nat} {p q dv : Int64} (hir : i ≠ r) (hs : s < 5) : ∀ n, n ≤ 5 → ∀ k j, d_swL b i r s p q dv n k j = if k = 48 + i ∧ j < n ∧ j ≠ s then (p * b (48 + i) j - q * b (48 + r) j) / dv else b k j
  | 0, _, k, j => by
    rw [if_neg (by omega)]
    rfl
  | n + 1, hn, k, j => by
    have ih := ma_swL (b := b) (p := p) (q := q) (dv := dv) hir hs n (by omega)
    show (if nI n = nI s then d_swL b i r s p q dv n else gU (d_swL b i r s p q dv n) (48 + i) n ((p * d_swL b i r s p q dv n (48 + i) n - q * d_swL b i r s p q dv n (48 + r) n) / dv)) k j = _
    by_cases e : n = s
    · rw [if_pos (by rw [e]), ih]
      by_cases h : k = 48 + i ∧ j < n ∧ j ≠ s
      · rw [if_pos h, if_pos (by omega)]
      · rw [if_neg h, if_neg (by omega)]
    · rw [if_neg (by rw [nI_eq (by omega) (by omega)]; exact e)]
      by_cases h : k = 48 + i ∧ j = n
      · obtain ⟨rfl, rfl⟩ := h
        rw [gU_s, if_pos (by omega), ih, ih, if_neg (by omega), if_neg (by omega)]
      · rw [gU_n (by omega), ih]
        by_cases h2 : k = 48 + i ∧ j < n ∧ j ≠ s
        · rw [if_pos h2, if_pos (by omega)]
        · rw [if_neg h2, if_neg (by omega)]
/-- a line that is swept: its numbers -/
theorem ma_swF {b : gL} {nc i r s : Nat} {p q dv : Int64} (hir : i ≠ r) (hs : s < nc) (hnc : nc ≤ 5) (k j : Nat) : d_swF b nc i r s p q dv k j = if k = 48 + i ∧ j = s then (if 0 ≤ p then -q else q) else if k = 14 ∧ j = i then (p * b 14 i - q * b 14 r) / dv else if k = 48 + i ∧ j < nc ∧ j ≠ s then (p * b (48 + i) j - q * b (48 + r) j) / dv else b k j := by
  have hL := ma_swL (b := b) (p := p) (q := q) (dv := dv) hir (show s < 5 by omega) nc hnc
  have hR : ∀ k j, d_swR b nc i r s p q dv k j = if k = 14 ∧ j = i then (p * b 14 i - q * b 14 r) / dv else if k = 48 + i ∧ j < nc ∧ j ≠ s then (p * b (48 + i) j - q * b (48 + r) j) / dv else b k j := by
    intro k j
    unfold d_swR
    by_cases h : k = 14 ∧ j = i
    · obtain ⟨rfl, rfl⟩ := h
      rw [gU_s, if_pos ⟨rfl, rfl⟩, hL, hL, if_neg (by omega), if_neg (by omega)]
    · rw [gU_n (by omega), if_neg h, hL]
  unfold d_swF
  by_cases hp : 0 ≤ p
  · rw [if_pos hp, if_pos hp]
    by_cases h : k = 48 + i ∧ j = s
    · obtain ⟨rfl, rfl⟩ := h
      rw [gU_s, if_pos ⟨rfl, rfl⟩]
    · rw [gU_n (by omega), if_neg h, hR]
  · rw [if_neg hp, if_neg hp]
    by_cases h : k = 48 + i ∧ j = s
    · obtain ⟨rfl, rfl⟩ := h
      rw [gU_s, if_pos ⟨rfl, rfl⟩]
    · rw [gU_n (by omega), if_neg h, hR]
theorem ma_sweep {b : gL} {nc i r s : Nat} {dv : Int64} (hir : i ≠ r) (hs : s < nc) (hnc : nc ≤ 5) {d : Int} (hdv : dv.toInt = d) (hd : d ≠ 0) (z : Nat → Int) (zr : Int)
    (hb : ∀ j, j < nc → (b (48 + i) j).toInt.natAbs ≤ 7085880 ∧ (b (48 + r) j).toInt.natAbs ≤ 7085880) (hR : (b 14 i).toInt.natAbs ≤ 42515280000 ∧ (b 14 r).toInt.natAbs ≤ 42515280000)
    (hz : ∀ j, j < nc → j ≠ s → (b (48 + r) s).toInt * (b (48 + i) j).toInt - (b (48 + i) s).toInt * (b (48 + r) j).toInt = d * z j) (hzs : z s = if 0 ≤ (b (48 + r) s).toInt then -(b (48 + i) s).toInt else (b (48 + i) s).toInt) (hzr : (b (48 + r) s).toInt * (b 14 i).toInt - (b (48 + i) s).toInt * (b 14 r).toInt = d * zr)
    (hzb : ∀ j, j < nc → (z j).natAbs ≤ 7085880) (hzrb : zr.natAbs ≤ 42515280000) :
    (∀ j, j < nc → (d_sweep b nc i r s dv (48 + i) j).toInt = z j) ∧ (d_sweep b nc i r s dv 14 i).toInt = zr ∧ ∀ k j, k ≠ 48 + i → ¬ (k = 14 ∧ j = i) → d_sweep b nc i r s dv k j = b k j := by
  have main : (∀ j, j < nc → (d_swF b nc i r s (b (48 + r) s) (b (48 + i) s) dv (48 + i) j).toInt = z j) ∧ (d_swF b nc i r s (b (48 + r) s) (b (48 + i) s) dv 14 i).toInt = zr ∧ ∀ k j, k ≠ 48 + i → ¬ (k = 14 ∧ j = i) → d_swF b nc i r s (b (48 + r) s) (b (48 + i) s) dv k j = b k j := by
    have s1 := hb s hs
    refine ⟨fun j hj => ?_, ?_, fun k j h1 h2 => ?_⟩
    · rw [ma_swF hir hs hnc]
      by_cases e : j = s
      · subst e
        rw [if_pos ⟨rfl, rfl⟩, hzs]
        by_cases hp : 0 ≤ b (48 + r) j
        · rw [if_pos hp, if_pos (ma_l0.mp hp)]
          exact ma_neg rfl (by omega)
        · rw [if_neg hp, if_neg (fun q => hp (ma_l0.mpr q))]
      · have j1 := hb j hj
        rw [if_neg (by omega), if_neg (by omega), if_pos ⟨rfl, hj, e⟩]
        have m1 := ma_mb s1.2 j1.1
        have m2 := ma_mb s1.1 j1.2
        refine ma_div (d := d) ?_ hdv hd (by have := hzb j hj; omega)
        rw [← hz j hj e]
        exact ma_sub (ma_mul rfl rfl (by omega)) (ma_mul rfl rfl (by omega)) (by omega)
    · rw [ma_swF hir hs hnc, if_neg (by omega), if_pos ⟨rfl, rfl⟩]
      have m1 := ma_mb s1.2 hR.1
      have m2 := ma_mb s1.1 hR.2
      refine ma_div (d := d) ?_ hdv hd (by omega)
      rw [← hzr]
      exact ma_sub (ma_mul rfl rfl (by omega)) (ma_mul rfl rfl (by omega)) (by omega)
    · rw [ma_swF hir hs hnc, if_neg (by omega), if_neg h2, if_neg (by omega)]
  unfold d_sweep
  rw [if_neg (fun q => hd (by rw [← hdv, q]; rfl))]
  by_cases h1 : b (48 + i) s = 0
  · rw [if_pos h1]
    by_cases h2 : b (48 + r) s = dv
    · rw [if_pos h2]
      have e1 : (b (48 + i) s).toInt = 0 := ma_e0.mp h1
      have e2 : (b (48 + r) s).toInt = d := by rw [h2, hdv]
      rw [e1, e2] at hzr
      refine ⟨fun j hj => ?_, ?_, fun k j _ _ => rfl⟩
      · by_cases e : j = s
        · subst e
          rw [hzs, e1]
          split <;> rfl
        · have := hz j hj e
          rw [e1, e2] at this
          exact Int.eq_of_mul_eq_mul_left hd (by omega)
      · exact Int.eq_of_mul_eq_mul_left hd (by omega)
    · rw [if_neg h2]
      exact main
  · rw [if_neg h1]
    exact main
theorem ma_sweeps {b : gL} {nc nl r s : Nat} {dv : Int64} (hnl : nl ≤ 21) (hr : r < nl) (hs : s < nc) (hnc : nc ≤ 5) {d : Int} (hdv : dv.toInt = d) (hd : d ≠ 0) (z : Nat → Nat → Int) (zr : Nat → Int)
    (hb : ∀ i, i < nl → ∀ j, j < nc → (b (48 + i) j).toInt.natAbs ≤ 7085880) (hR : ∀ i, i < nl → (b 14 i).toInt.natAbs ≤ 42515280000)
    (hz : ∀ i, i < nl → i ≠ r → ∀ j, j < nc → j ≠ s → (b (48 + r) s).toInt * (b (48 + i) j).toInt - (b (48 + i) s).toInt * (b (48 + r) j).toInt = d * z i j) (hzs : ∀ i, i < nl → i ≠ r → z i s = if 0 ≤ (b (48 + r) s).toInt then -(b (48 + i) s).toInt else (b (48 + i) s).toInt) (hzr : ∀ i, i < nl → i ≠ r → (b (48 + r) s).toInt * (b 14 i).toInt - (b (48 + i) s).toInt * (b 14 r).toInt = d * zr i)
    (hzb : ∀ i, i < nl → ∀ j, j < nc → (z i j).natAbs ≤ 7085880) (hzrb : ∀ i, i < nl → (zr i).natAbs ≤ 42515280000) :
    ∀ n, n ≤ nl → (∀ i, i < n → i ≠ r → ∀ j, j < nc → (d_sweeps b nc r s dv n (48 + i) j).toInt = z i j) ∧ (∀ i, i < n → i ≠ r → (d_sweeps b nc r s dv n 14 i).toInt = zr i) ∧ ∀ k j, (∀ i, i < n → i ≠ r → k ≠ 48 + i ∧ ¬ (k = 14 ∧ j = i)) → d_sweeps b nc r s dv n k j = b k j
  | 0, _ => ⟨fun i h => by omega, fun i h => by omega, fun k j _ => rfl⟩
  | n + 1, hn => by
    obtain ⟨i1, i2, i3⟩ := ma_sweeps hnl hr hs hnc hdv hd z zr hb hR hz hzs hzr hzb hzrb n (by omega)
    have e0 : d_sweeps b nc r s dv (n + 1) = if nI n = nI r then d_sweeps b nc r s dv n else d_sweep (d_sweeps b nc r s dv n) nc n r s dv := rfl
    by_cases e : n = r
    · rw [e0, if_pos (by rw [e])]
      refine ⟨fun i hi hir j hj => i1 i (by omega) hir j hj, fun i hi hir => i2 i (by omega) hir, fun k j h => i3 k j (fun i hi hir => h i (by omega) hir)⟩
    · rw [e0, if_neg (by rw [nI_eq (by omega) (by omega)]; exact e)]
      have rn : ∀ j, d_sweeps b nc r s dv n (48 + n) j = b (48 + n) j := fun j => i3 _ _ (fun i hi _ => by omega)
      have rr : ∀ j, d_sweeps b nc r s dv n (48 + r) j = b (48 + r) j := fun j => i3 _ _ (fun i hi _ => by omega)
      have r14 : d_sweeps b nc r s dv n 14 n = b 14 n := i3 _ _ (fun i hi _ => by omega)
      have r14r : d_sweeps b nc r s dv n 14 r = b 14 r := i3 _ _ (fun i hi _ => by omega)
      obtain ⟨w1, w2, w3⟩ := ma_sweep (b := d_sweeps b nc r s dv n) (nc := nc) (i := n) (r := r) (s := s) (dv := dv) e hs hnc hdv hd (z n) (zr n) (fun j hj => by rw [rn, rr]; exact ⟨hb n (by omega) j hj, hb r hr j hj⟩) (by rw [r14, r14r]; exact ⟨hR n (by omega), hR r hr⟩) (fun j hj hjs => by rw [rr, rr, rn, rn]; exact hz n (by omega) e j hj hjs) (by rw [rr, rn]; exact hzs n (by omega) e) (by rw [rr, rn, r14, r14r]; exact hzr n (by omega) e) (hzb n (by omega)) (hzrb n (by omega))
      refine ⟨fun i hi hir j hj => ?_, fun i hi hir => ?_, fun k j h => ?_⟩
      · by_cases q : i = n
        · subst q
          exact w1 j hj
        · rw [w3 _ _ (by omega) (by omega)]
          exact i1 i (by omega) hir j hj
      · by_cases q : i = n
        · subst q
          exact w2
        · rw [w3 _ _ (by omega) (by omega)]
          exact i2 i (by omega) hir
      · have := h n (by omega) e
        rw [w3 _ _ this.1 this.2]
        exact i3 k j (fun i hi hir => h i (by omega) hir)
theorem ma_turnL {b : gL} {r : Nat} : ∀ n k j, d_turnL b r n k j = if k = 48 + r ∧ j < n then - b k j else b k j
  | 0, k, j => by
    rw [if_neg (by omega)]
    rfl
  | n + 1, k, j => by
    show gU (d_turnL b r n) (48 + r) n (-(d_turnL b r n (48 + r) n)) k j = _
    by_cases h : k = 48 + r ∧ j = n
    · obtain ⟨rfl, rfl⟩ := h
      rw [gU_s, ma_turnL, if_neg (by omega), if_pos (by omega)]
    · rw [gU_n (by omega), ma_turnL]
      by_cases h2 : k = 48 + r ∧ j < n
      · rw [if_pos h2, if_pos (by omega)]
      · rw [if_neg h2, if_neg (by omega)]
theorem ma_turn {b : gL} {r nc k j : Nat} : d_turn b r nc k j = if (k = 48 + r ∧ j < nc) ∨ (k = 14 ∧ j = r) then - b k j else b k j := by
  unfold d_turn
  by_cases h : k = 14 ∧ j = r
  · obtain ⟨rfl, rfl⟩ := h
    rw [gU_s, ma_turnL, if_neg (by omega), if_pos (by omega)]
  · rw [gU_n (by omega), ma_turnL]
    by_cases h2 : k = 48 + r ∧ j < nc
    · rw [if_pos h2, if_pos (by omega)]
    · rw [if_neg h2, if_neg (by omega)]
/-- the table behind a pivot -/
theorem ma_pB {J b : gL} {nc nl r s : Nat} (hnl : nl ≤ 21) (hr : r < nl) (hs : s < nc) (hnc : nc ≤ 5) {P U : Int} (hP : (b (48 + r) s).toInt = P) (hP0 : P ≠ 0) (hU : (J 4 6).toInt = U) (hU0 : 0 < U) (hUb : U.natAbs ≤ 7085880) (z : Nat → Nat → Int) (zr : Nat → Int)
    (hb : ∀ i, i < nl → ∀ j, j < nc → (b (48 + i) j).toInt.natAbs ≤ 7085880) (hR : ∀ i, i < nl → (b 14 i).toInt.natAbs ≤ 42515280000)
    (hz : ∀ i, i < nl → i ≠ r → ∀ j, j < nc → j ≠ s → ma_t P * (P * (b (48 + i) j).toInt - (b (48 + i) s).toInt * (b (48 + r) j).toInt) = U * z i j) (hzs : ∀ i, i < nl → i ≠ r → z i s = - (ma_t P * (b (48 + i) s).toInt)) (hzr : ∀ i, i < nl → i ≠ r → ma_t P * (P * (b 14 i).toInt - (b (48 + i) s).toInt * (b 14 r).toInt) = U * zr i)
    (hzb : ∀ i, i < nl → ∀ j, j < nc → (z i j).natAbs ≤ 7085880) (hzrb : ∀ i, i < nl → (zr i).natAbs ≤ 42515280000) :
    (∀ i, i < nl → i ≠ r → ∀ j, j < nc → (d_pB J b nl nc r s (48 + i) j).toInt = z i j) ∧ (∀ i, i < nl → i ≠ r → (d_pB J b nl nc r s 14 i).toInt = zr i) ∧ (∀ j, j < nc → j ≠ s → (d_pB J b nl nc r s (48 + r) j).toInt = ma_t P * (b (48 + r) j).toInt) ∧ (d_pB J b nl nc r s (48 + r) s).toInt = ma_t P * U ∧ (d_pB J b nl nc r s 14 r).toInt = ma_t P * (b 14 r).toInt ∧ (∀ k j, k ≠ 14 → (k < 48 ∨ 69 ≤ k) → d_pB J b nl nc r s k j = b k j) ∧ (d_pJ J b r s 4 6).toInt = ma_t P * P := by
  have hp0 : b (48 + r) s ≠ 0 := fun q => hP0 (by rw [← hP]; exact ma_e0.mp q)
  have hdv : (d_dv J b r s).toInt = ma_t P * U := by
    unfold d_dv
    by_cases h : 0 ≤ b (48 + r) s
    · have := ma_l0.mp h
      rw [if_pos h, hU, ma_t, if_pos (by omega)]
      omega
    · have : ¬ 0 ≤ (b (48 + r) s).toInt := fun q => h (ma_l0.mpr q)
      rw [if_neg h, ma_neg hU (by omega), ma_t, if_neg (by omega)]
      omega
  have hd0 : ma_t P * U ≠ 0 := by
    rcases ma_t_c P with q | q <;> rw [q] <;> omega
  have hdv0 : d_dv J b r s ≠ 0 := fun q => hd0 (by rw [← hdv]; exact ma_e0.mp q)
  have tt : ma_t P * ma_t P = 1 := by rcases ma_t_c P with q | q <;> rw [q] <;> rfl
  obtain ⟨w1, w2, w3⟩ := ma_sweeps (b := b) (dv := d_dv J b r s) hnl hr hs hnc hdv hd0 z zr hb hR
    (fun i hi hir j hj hjs => by
      have := hz i hi hir j hj hjs
      rw [hP, Int.mul_assoc, ← this, ← Int.mul_assoc, tt, Int.one_mul])
    (fun i hi hir => by
      rw [hzs i hi hir, hP, ma_t]
      split <;> split <;> omega)
    (fun i hi hir => by
      have := hzr i hi hir
      rw [hP, Int.mul_assoc, ← this, ← Int.mul_assoc, tt, Int.one_mul]) hzb hzrb nl (Nat.le_refl _)
  have rr : ∀ j, d_sweeps b nc r s (d_dv J b r s) nl (48 + r) j = b (48 + r) j := fun j => w3 _ _ (fun i hi hir => by omega)
  have r14 : d_sweeps b nc r s (d_dv J b r s) nl 14 r = b 14 r := w3 _ _ (fun i hi hir => by omega)
  have hJ : (d_pJ J b r s 4 6).toInt = ma_t P * P := by
    unfold d_pJ
    rw [if_neg hp0, if_neg hdv0, gU_s]
    by_cases h : 0 < b (48 + r) s
    · have := ma_p0.mp h
      rw [if_pos h, hP, ma_t, if_pos (by omega)]
      omega
    · have : ¬ 0 < (b (48 + r) s).toInt := fun q => h (ma_p0.mpr q)
      have hb' := hb r hr s hs
      rw [if_neg h, ma_neg hP (by omega), ma_t, if_neg (by omega)]
      omega
  by_cases hp : 0 ≤ b (48 + r) s
  · have e : d_pB J b nl nc r s = gU (d_sweeps b nc r s (d_dv J b r s) nl) (48 + r) s (d_dv J b r s) := by
      unfold d_pB
      rw [if_neg hp0, if_neg hdv0, if_pos hp]
    have t1 : ma_t P = 1 := by
      have := ma_l0.mp hp
      rw [ma_t, if_pos (by omega)]
    rw [e]
    refine ⟨fun i hi hir j hj => ?_, fun i hi hir => ?_, fun j hj hjs => ?_, ?_, ?_, fun k j h1 h2 => ?_, hJ⟩
    · rw [gU_n (by omega)]; exact w1 i hi hir j hj
    · rw [gU_n (by omega)]; exact w2 i hi hir
    · rw [gU_n (by omega), rr, t1, Int.one_mul]
    · rw [gU_s, hdv]
    · rw [gU_n (by omega), r14, t1, Int.one_mul]
    · rw [gU_n (by omega)]
      exact w3 k j (fun i hi hir => by omega)
  · have e : d_pB J b nl nc r s = gU (d_turn (d_sweeps b nc r s (d_dv J b r s) nl) r nc) (48 + r) s (d_dv J b r s) := by
      unfold d_pB
      rw [if_neg hp0, if_neg hdv0, if_neg hp]
    have t1 : ma_t P = -1 := by
      have : ¬ 0 ≤ (b (48 + r) s).toInt := fun q => hp (ma_l0.mpr q)
      rw [ma_t, if_neg (by omega)]
    rw [e]
    refine ⟨fun i hi hir j hj => ?_, fun i hi hir => ?_, fun j hj hjs => ?_, ?_, ?_, fun k j h1 h2 => ?_, hJ⟩
    · rw [gU_n (by omega), ma_turn, if_neg (by omega)]; exact w1 i hi hir j hj
    · rw [gU_n (by omega), ma_turn, if_neg (by omega)]; exact w2 i hi hir
    · have hb' := hb r hr j hj
      rw [gU_n (by omega), ma_turn, if_pos (Or.inl ⟨rfl, hj⟩), rr, t1, ma_neg rfl (by omega)]
      omega
    · rw [gU_s, hdv]
    · have hb' := hR r hr
      rw [gU_n (by omega), ma_turn, if_pos (Or.inr ⟨rfl, rfl⟩), r14, t1, ma_neg rfl (by omega)]
      omega
    · rw [gU_n (by omega), ma_turn, if_neg (by omega)]
      exact w3 k j (fun i hi hir => by omega)
end
section
/-! THE MATHEMATICS, 7: what the class's dictionary keeps -/
def ma_Oa (a : gF) : Nat → Nat := fun s => (a 16 s).toNatClampNeg
def ma_Ba (a : gF) : Nat → Nat := fun r => (a 15 r).toNatClampNeg
abbrev ma_oo (nc : Nat) (V : Nat → Nat → Int) (a : gF) : Nat → Nat → Int := ma_o nc V (ma_Oa a)
def ma_DI (nc nl : Nat) (V : Nat → Nat → Int) (J : gL) (a : gF) (b : gL) : Prop :=
  (nc ≤ 5 ∧ nl ≤ 21 ∧ ∀ j, j < nc + nl → ma_bd (V j)) ∧ (ma_sp (ma_oo nc V a) ∧ ma_D 6 (ma_oo nc V a) ≠ 0) ∧ (J 4 6).toInt = ma_u (ma_oo nc V a) ∧
  (∀ s, s < nc → a 16 s = nI (ma_Oa a s) ∧ ma_Oa a s < nc + nl) ∧ (∀ r, r < nl → a 15 r = nI (ma_Ba a r) ∧ ma_Ba a r < nc + nl) ∧
  (∀ r, r < nl → ∀ s, s < nc → (b (48 + r) s).toInt = - ma_k (ma_oo nc V a) s (V (ma_Ba a r))) ∧ (∀ r, r < nl → (b 14 r).toInt = ma_k (ma_oo nc V a) 5 (V (ma_Ba a r))) ∧
  (∀ j, j < nc + nl → (∃ s, s < nc ∧ ma_Oa a s = j) ∨ (∃ r, r < nl ∧ ma_Ba a r = j)) ∧ (∀ r s, r < nl → s < nc → ma_Ba a r ≠ ma_Oa a s) ∧ (∀ r r', r < nl → r' < nl → ma_Ba a r = ma_Ba a r' → r = r')
theorem ma_oo_bd {nc nl : Nat} {V : Nat → Nat → Int} {J : gL} {a : gF} {b : gL} (D : ma_DI nc nl V J a b) : ∀ i, i < 6 → ma_bd (ma_oo nc V a i) := by
  intro i hi
  by_cases e : i < nc
  · rw [ma_oo, ma_o_in e]
    exact D.1.2.2 _ (D.2.2.2.1 i e).2
  · rw [ma_oo, ma_o_out (by omega)]
    exact ma_bd_e
theorem ma_oo_5 {nc : Nat} {V : Nat → Nat → Int} {a : gF} (h : nc ≤ 5) : ma_oo nc V a 5 = ma_e 5 := ma_o_out h
theorem ma_t_neg {p : Int} (h : p ≠ 0) : ma_t (-p) = - ma_t p := by
  unfold ma_t
  split <;> split <;> omega
theorem ma_DI_LP {nc nl : Nat} {V : Nat → Nat → Int} {J : gL} {a : gF} {b : gL} (D : ma_DI nc nl V J a b) : ma_LP (ma_u (ma_oo nc V a)) (ma_k (ma_oo nc V a)) (ma_oo nc V a) := ma_LP_of D.2.1.1 D.2.1.2
theorem ma_DI_piv {nc nl : Nat} {V : Nat → Nat → Int} {J : gL} {a : gF} {b : gL} (D : ma_DI nc nl V J a b) {r s : Nat} (hr : r < nl) (hs : s < nc) (hp : ma_k (ma_oo nc V a) s (V (ma_Ba a r)) ≠ 0) :
    ma_DI nc nl V (d_pJ J b r s) (d_pA J a b r s) (d_pB J b nl nc r s) ∧ ma_oo nc V (d_pA J a b r s) = ma_rw (ma_oo nc V a) s (V (ma_Ba a r)) ∧ ma_Oa (d_pA J a b r s) = (fun s' => if s' = s then ma_Ba a r else ma_Oa a s') ∧ (∀ k j, k ≠ 15 → k ≠ 16 → d_pA J a b r s k j = a k j) ∧ (∀ k j, k ≠ 14 → (k < 48 ∨ 69 ≤ k) → d_pB J b nl nc r s k j = b k j) ∧ (∀ k j, ¬ (k = 4 ∧ j = 6) → d_pJ J b r s k j = J k j) := by
  have Lp := ma_DI_LP D
  have obd := ma_oo_bd D
  obtain ⟨⟨n1, n2, n3⟩, ⟨sp, d0⟩, du, dO, dB, dt, dr, dc, dd, di⟩ := D
  have o5 : ma_oo nc V a 5 = ma_e 5 := ma_oo_5 n1
  have hBr := dB r hr
  have hP : (b (48 + r) s).toInt = - ma_k (ma_oo nc V a) s (V (ma_Ba a r)) := dt r hr s hs
  have hP0 : - ma_k (ma_oo nc V a) s (V (ma_Ba a r)) ≠ 0 := by omega
  have hp0 : b (48 + r) s ≠ 0 := fun q => hP0 (by rw [← hP]; exact ma_e0.mp q)
  have hUs : (ma_u (ma_oo nc V a)).natAbs ≤ 7085880 := ma_u_small o5 obd
  have hU0 := ma_u_pos d0
  have hd0 : d_dv J b r s ≠ 0 := by
    unfold d_dv
    intro q
    split at q
    · have := ma_e0.mp q
      omega
    · have h3 := ma_e0.mp q
      rw [ma_neg du (by omega)] at h3
      omega
  have eA : d_pA J a b r s = gU (gU a 15 r (a 16 s)) 16 s (a 15 r) := by
    unfold d_pA
    rw [if_neg hp0, if_neg hd0]
  have eO : ma_Oa (d_pA J a b r s) = (fun s' => if s' = s then ma_Ba a r else ma_Oa a s') := by
    funext s'
    rw [eA]
    unfold ma_Oa ma_Ba
    by_cases e : s' = s
    · rw [if_pos e, e, gU_s]
    · rw [if_neg e, gU_n (by omega), gU_n (by omega)]
  have eB : ma_Ba (d_pA J a b r s) = (fun r' => if r' = r then ma_Oa a s else ma_Ba a r') := by
    funext r'
    rw [eA]
    unfold ma_Oa ma_Ba
    by_cases e : r' = r
    · rw [if_pos e, e, gU_n (by omega), gU_s]
    · rw [if_neg e, gU_n (by omega), gU_n (by omega)]
  have eo : ma_oo nc V (d_pA J a b r s) = ma_rw (ma_oo nc V a) s (V (ma_Ba a r)) := by
    funext s'
    unfold ma_oo ma_o ma_rw
    rw [eO]
    by_cases e : s' = s
    · subst e
      rw [if_pos hs, if_pos rfl]
      show V (if s' = s' then ma_Ba a r else ma_Oa a s') = _
      rw [if_pos rfl]
    · show (if s' < nc then V (if s' = s then ma_Ba a r else ma_Oa a s') else ma_e s') = if s' = s then V (ma_Ba a r) else (if s' < nc then V (ma_Oa a s') else ma_e s')
      rw [if_neg e, if_neg e]
  have nbd : ∀ i, i < 6 → ma_bd (ma_rw (ma_oo nc V a) s (V (ma_Ba a r)) i) := ma_rw_bd obd (n3 _ hBr.2)
  have no5 : ma_rw (ma_oo nc V a) s (V (ma_Ba a r)) 5 = ma_e 5 := by rw [ma_rw_n (by omega), o5]
  have nsp : ma_sp (ma_rw (ma_oo nc V a) s (V (ma_Ba a r))) := ma_sp_rw sp d0 _ (by omega)
  have nd0 := ma_piv_0 hp
  have tt : ma_t (ma_k (ma_oo nc V a) s (V (ma_Ba a r))) * ma_t (ma_k (ma_oo nc V a) s (V (ma_Ba a r))) = 1 := by rcases ma_t_c (ma_k (ma_oo nc V a) s (V (ma_Ba a r))) with q | q <;> rw [q] <;> rfl
  obtain ⟨q1, q2, q3, q4, q5, q6, q7⟩ := ma_pB (J := J) (b := b) n2 hr hs n1 hP hP0 du hU0 hUs (fun i j => - ma_k (ma_rw (ma_oo nc V a) s (V (ma_Ba a r))) j (V (ma_Ba a i))) (fun i => ma_k (ma_rw (ma_oo nc V a) s (V (ma_Ba a r))) 5 (V (ma_Ba a i)))
    (fun i hi j hj => by
      rw [dt i hi j hj]
      have := ma_k_small (s := j) (v := V (ma_Ba a i)) (by omega) o5 obd (n3 _ (dB i hi).2)
      omega)
    (fun i hi => by
      rw [dr i hi]
      exact ma_k_big obd (n3 _ (dB i hi).2))
    (fun i hi hir j hj hjs => by
      rw [dt i hi j hj, dt i hi s hs, dt r hr j hj, ma_t_neg hp]
      have := ma_piv_j sp (show s < 6 by omega) (show j < 6 by omega) (fun q => hjs q.symm) hp (V (ma_Ba a i))
      show _ = ma_u (ma_oo nc V a) * -ma_k _ j (V (ma_Ba a i))
      rw [Int.mul_neg (ma_u (ma_oo nc V a)), this]
      generalize ma_t (ma_k (ma_oo nc V a) s (V (ma_Ba a r))) = tq
      grind)
    (fun i hi hir => by
      show -ma_k _ s (V (ma_Ba a i)) = _
      rw [dt i hi s hs, ma_t_neg hp, ma_piv_s hp]
      grind)
    (fun i hi hir => by
      rw [dr i hi, dt i hi s hs, dr r hr, ma_t_neg hp]
      have := ma_piv_j sp (show s < 6 by omega) (show 5 < 6 by omega) (by omega) hp (V (ma_Ba a i))
      show _ = ma_u (ma_oo nc V a) * ma_k _ 5 (V (ma_Ba a i))
      rw [this]
      generalize ma_t (ma_k (ma_oo nc V a) s (V (ma_Ba a r))) = tq
      grind)
    (fun i hi j hj => by
      have := ma_k_small (s := j) (v := V (ma_Ba a i)) (by omega) no5 nbd (n3 _ (dB i hi).2)
      show (-ma_k _ j (V (ma_Ba a i))).natAbs ≤ _
      omega)
    (fun i hi => ma_k_big nbd (n3 _ (dB i hi).2))
  have hos : ma_oo nc V a s = V (ma_Oa a s) := ma_o_in hs
  have hkj : ∀ j, j < 6 → j ≠ s → ma_k (ma_rw (ma_oo nc V a) s (V (ma_Ba a r))) j (V (ma_Oa a s)) = - (ma_t (ma_k (ma_oo nc V a) s (V (ma_Ba a r))) * ma_k (ma_oo nc V a) j (V (ma_Ba a r))) := by
    intro j hj hjs
    have h := ma_piv_j sp (show s < 6 by omega) hj (fun q => hjs q.symm) hp (V (ma_Oa a s))
    have h1 := Lp.2.2.2 j s hj (by omega)
    have h2 := Lp.2.2.2 s s (by omega) (by omega)
    rw [if_neg (fun q => hjs q.symm), hos] at h1
    rw [if_pos rfl, hos] at h2
    rw [h1, h2, Int.zero_mul, Int.zero_sub] at h
    have h3 : ma_u (ma_oo nc V a) * ma_k (ma_rw (ma_oo nc V a) s (V (ma_Ba a r))) j (V (ma_Oa a s)) = ma_u (ma_oo nc V a) * (- (ma_t (ma_k (ma_oo nc V a) s (V (ma_Ba a r))) * ma_k (ma_oo nc V a) j (V (ma_Ba a r)))) := by
      rw [h]
      grind
    exact Int.eq_of_mul_eq_mul_left (by omega) h3
  have hks : ma_k (ma_rw (ma_oo nc V a) s (V (ma_Ba a r))) s (V (ma_Oa a s)) = ma_t (ma_k (ma_oo nc V a) s (V (ma_Ba a r))) * ma_u (ma_oo nc V a) := by
    have h2 := Lp.2.2.2 s s (by omega) (by omega)
    rw [if_pos rfl, hos] at h2
    rw [ma_piv_s hp, h2]
  refine ⟨⟨⟨n1, n2, n3⟩, ?_, ?_, ?_, ?_, ?_, ?_, ?_, ?_, ?_⟩, eo, eO, ?_, ?_, ?_⟩
  · rw [eo]
    exact ⟨nsp, nd0⟩
  · rw [eo, q7, ma_t_neg hp, ma_piv_u hp]
    grind
  · intro s' hs'
    rw [eO]
    show d_pA J a b r s 16 s' = nI (if s' = s then ma_Ba a r else ma_Oa a s') ∧ (if s' = s then ma_Ba a r else ma_Oa a s') < nc + nl
    rw [eA]
    by_cases e : s' = s
    · rw [if_pos e, e, gU_s]
      exact hBr
    · rw [if_neg e, gU_n (by omega), gU_n (by omega)]
      exact dO s' hs'
  · intro r' hr'
    rw [eB]
    show d_pA J a b r s 15 r' = nI (if r' = r then ma_Oa a s else ma_Ba a r') ∧ (if r' = r then ma_Oa a s else ma_Ba a r') < nc + nl
    rw [eA]
    by_cases e : r' = r
    · rw [if_pos e, e, gU_n (by omega), gU_s]
      exact dO s hs
    · rw [if_neg e, gU_n (by omega), gU_n (by omega)]
      exact dB r' hr'
  · intro r' hr' s' hs'
    rw [eo, eB]
    show _ = - ma_k _ s' (V (if r' = r then ma_Oa a s else ma_Ba a r'))
    by_cases e : r' = r
    · rw [if_pos e, e]
      by_cases e2 : s' = s
      · rw [e2, q4, hks, ma_t_neg hp]
        grind
      · rw [q3 s' hs' e2, hkj s' (by omega) e2, dt r hr s' hs', ma_t_neg hp]
        grind
    · rw [if_neg e]
      exact q1 r' hr' e s' hs'
  · intro r' hr'
    rw [eo, eB]
    show _ = ma_k _ 5 (V (if r' = r then ma_Oa a s else ma_Ba a r'))
    by_cases e : r' = r
    · rw [if_pos e, e, q5, hkj 5 (by omega) (by omega), dr r hr, ma_t_neg hp]
      grind
    · rw [if_neg e]
      exact q2 r' hr' e
  · intro j hj
    rw [eO, eB]
    rcases dc j hj with ⟨s', g1, g2⟩ | ⟨r', g1, g2⟩
    · by_cases e : s' = s
      · refine Or.inr ⟨r, hr, ?_⟩
        show (if r = r then ma_Oa a s else ma_Ba a r) = j
        rw [if_pos rfl, ← e]
        exact g2
      · refine Or.inl ⟨s', g1, ?_⟩
        show (if s' = s then ma_Ba a r else ma_Oa a s') = j
        rw [if_neg e]
        exact g2
    · by_cases e : r' = r
      · refine Or.inl ⟨s, hs, ?_⟩
        show (if s = s then ma_Ba a r else ma_Oa a s) = j
        rw [if_pos rfl, ← e]
        exact g2
      · refine Or.inr ⟨r', g1, ?_⟩
        show (if r' = r then ma_Oa a s else ma_Ba a r') = j
        rw [if_neg e]
        exact g2
  · intro r' s' hr' hs'
    rw [eO, eB]
    show (if r' = r then ma_Oa a s else ma_Ba a r') ≠ (if s' = s then ma_Ba a r else ma_Oa a s')
    by_cases e : r' = r
    · rw [if_pos e]
      by_cases e2 : s' = s
      · rw [if_pos e2]
        exact fun q => dd r s hr hs q.symm
      · rw [if_neg e2]
        exact fun q => e2 (ma_LP_inj n1 Lp hs' hs q.symm)
    · rw [if_neg e]
      by_cases e2 : s' = s
      · rw [if_pos e2]
        exact fun q => e (di r' r hr' hr q)
      · rw [if_neg e2]
        exact dd r' s' hr' hs'
  · intro r1 r2 h1 h2
    rw [eB]
    show (if r1 = r then ma_Oa a s else ma_Ba a r1) = (if r2 = r then ma_Oa a s else ma_Ba a r2) → r1 = r2
    by_cases e : r1 = r
    · rw [if_pos e]
      by_cases e2 : r2 = r
      · intro _; omega
      · rw [if_neg e2]
        exact fun q => absurd q.symm (dd r2 s h2 hs)
    · rw [if_neg e]
      by_cases e2 : r2 = r
      · rw [if_pos e2]
        exact fun q => absurd q (dd r1 s h1 hs)
      · rw [if_neg e2]
        exact di r1 r2 h1 h2
  · intro k j h1 h2
    rw [eA, gU_n (by omega), gU_n (by omega)]
  · exact q6
  · intro k j h
    unfold d_pJ
    rw [if_neg hp0, if_neg hd0, gU_n (by omega)]
/-- a choice by turns: the first that nothing goes before -/
theorem ma_pick {G : Nat → Int32} {C : Nat → Prop} {Le : Nat → Nat → Prop} {M : Nat} (h0 : G 0 = -1) (hn : ∀ n, n < M → ¬ C n → G (n + 1) = G n) (hf : ∀ n, n < M → C n → G n = -1 → G (n + 1) = nI n) (hs : ∀ n, n < M → C n → ∀ o, o < n → C o → G n = nI o → (Le o n ∧ G (n + 1) = G n) ∨ (Le n o ∧ G (n + 1) = nI n)) (hr : ∀ x, Le x x) (ht : ∀ x y z, x < M → y < M → z < M → C x → C y → C z → Le x y → Le y z → Le x z) : ∀ n, n ≤ M → (G n = -1 ∧ ∀ r, r < n → ¬ C r) ∨ ∃ r, r < n ∧ G n = nI r ∧ C r ∧ ∀ r', r' < n → C r' → Le r r'
  | 0, _ => Or.inl ⟨h0, fun r h => by omega⟩
  | n + 1, hb => by
    have ih := ma_pick h0 hn hf hs hr ht n (by omega)
    by_cases hc : C n
    · rcases ih with ⟨g, hz⟩ | ⟨r, r1, r2, r3, r4⟩
      · refine Or.inr ⟨n, by omega, hf n (by omega) hc g, hc, fun r' h1 h2 => ?_⟩
        by_cases e : r' = n
        · rw [e]; exact hr n
        · exact absurd h2 (hz r' (by omega))
      · rcases hs n (by omega) hc r r1 r3 r2 with ⟨l1, l2⟩ | ⟨l1, l2⟩
        · refine Or.inr ⟨r, by omega, l2.trans r2, r3, fun r' h1 h2 => ?_⟩
          by_cases e : r' = n
          · rw [e]; exact l1
          · exact r4 r' (by omega) h2
        · refine Or.inr ⟨n, by omega, l2, hc, fun r' h1 h2 => ?_⟩
          by_cases e : r' = n
          · rw [e]; exact hr n
          · exact ht n r r' (by omega) (by omega) (by omega) hc r3 h2 l1 (r4 r' (by omega) h2)
    · rw [hn n (by omega) hc]
      rcases ih with ⟨g, hz⟩ | ⟨r, r1, r2, r3, r4⟩
      · refine Or.inl ⟨g, fun r h => ?_⟩
        by_cases e : r = n
        · rw [e]; exact hc
        · exact hz r (by omega)
      · refine Or.inr ⟨r, by omega, r2, r3, fun r' h1 h2 => ?_⟩
        by_cases e : r' = n
        · rw [e] at h2; exact absurd h2 hc
        · exact r4 r' (by omega) h2
/-- the same by keys -/
theorem ma_pickK {G : Nat → Int32} {C : Nat → Prop} {key : Nat → Int32} (h0 : G 0 = -1) (hn : ∀ n, ¬ C n → G (n + 1) = G n) (hc : ∀ n, C n → G (n + 1) = if G n < 0 then nI n else if key (G n).toNatClampNeg ≤ key n then G n else nI n) : ∀ n, n ≤ 1000 → (G n = -1 ∧ ∀ r, r < n → ¬ C r) ∨ ∃ r, r < n ∧ G n = nI r ∧ C r ∧ ∀ r', r' < n → C r' → key r ≤ key r' :=
  ma_pick (M := 1000) (Le := fun x y => key x ≤ key y) h0 (fun n _ => hn n) (fun n _ h g => by rw [hc n h, g]; rfl) (fun n hb h o ho _ g => by
    rw [hc n h, if_neg (by rw [g]; exact nI_pos (by omega)), g, nI_clamp (by omega)]
    by_cases q : key o ≤ key n
    · rw [if_pos q]; exact Or.inl ⟨q, rfl⟩
    · rw [if_neg q]
      exact Or.inr ⟨(Int32.le_total (key o) (key n)).resolve_left q, rfl⟩) (fun x => Int32.le_refl _) (fun x y z _ _ _ _ _ _ h1 h2 => Int32.le_trans h1 h2)
theorem ma_broken (a : gF) (b : gL) : ∀ n, n ≤ 1000 → (d_broken a b n = -1 ∧ ∀ r, r < n → ¬ ¬ 0 ≤ b 14 r) ∨ ∃ r, r < n ∧ d_broken a b n = nI r ∧ ¬ 0 ≤ b 14 r ∧ ∀ r', r' < n → ¬ 0 ≤ b 14 r' → a 15 r ≤ a 15 r' :=
  ma_pickK (G := d_broken a b) (C := fun r => ¬ 0 ≤ b 14 r) (key := a 15) rfl (fun n h => by
    show (if 0 ≤ b 14 n then _ else _) = _
    rw [if_pos (Classical.not_not.mp h)]) (fun n h => by
    show (if 0 ≤ b 14 n then _ else _) = _
    rw [if_neg h])
theorem ma_mend (a : gF) (b : gL) (r : Nat) : ∀ n, n ≤ 1000 → (d_mend a b r n = -1 ∧ ∀ s, s < n → ¬ ¬ 0 ≤ b (48 + r) s) ∨ ∃ s, s < n ∧ d_mend a b r n = nI s ∧ ¬ 0 ≤ b (48 + r) s ∧ ∀ s', s' < n → ¬ 0 ≤ b (48 + r) s' → a 16 s ≤ a 16 s' :=
  ma_pickK (G := d_mend a b r) (C := fun s => ¬ 0 ≤ b (48 + r) s) (key := a 16) rfl (fun n h => by
    show (if 0 ≤ b (48 + r) n then _ else _) = _
    rw [if_pos (Classical.not_not.mp h)]) (fun n h => by
    show (if 0 ≤ b (48 + r) n then _ else _) = _
    rw [if_neg h])
theorem ma_fall (a : gF) (b : gL) : ∀ n, n ≤ 1000 → (d_fall a b n = -1 ∧ ∀ s, s < n → ¬ (a 17 s = 0 ∧ ¬ 0 ≤ b 18 s)) ∨ ∃ s, s < n ∧ d_fall a b n = nI s ∧ (a 17 s = 0 ∧ ¬ 0 ≤ b 18 s) ∧ ∀ s', s' < n → (a 17 s' = 0 ∧ ¬ 0 ≤ b 18 s') → a 16 s ≤ a 16 s' :=
  ma_pickK (G := d_fall a b) (C := fun s => a 17 s = 0 ∧ ¬ 0 ≤ b 18 s) (key := a 16) rfl (fun n h => by
    show (if a 17 n = 0 then if 0 ≤ b 18 n then _ else _ else _) = _
    by_cases q : a 17 n = 0
    · rw [if_pos q, if_pos (Classical.not_not.mp (fun w => h ⟨q, w⟩))]
    · rw [if_neg q]) (fun n h => by
    show (if a 17 n = 0 then if 0 ≤ b 18 n then _ else _ else _) = _
    rw [if_pos h.1, if_neg h.2])
end
section
/-! THE MATHEMATICS, 8: the column that falls, the line that stops it, the slopes -/
/-- x stops no later than y -/
def ma_Le (a : gF) (b : gL) (s x y : Nat) : Prop := (b 14 x).toInt * (b (48 + y) s).toInt ≤ (b 14 y).toInt * (b (48 + x) s).toInt ∧ ((b 14 x).toInt * (b (48 + y) s).toInt = (b 14 y).toInt * (b (48 + x) s).toInt → a 15 x ≤ a 15 y)
theorem ma_stop {a : gF} {b : gL} {s nl : Nat} (hnl : nl ≤ 21) (hb : ∀ i, i < nl → (b (48 + i) s).toInt.natAbs ≤ 7085880) (hR : ∀ i, i < nl → (b 14 i).toInt.natAbs ≤ 42515280000) : ∀ n, n ≤ nl → (d_stop a b s n = -1 ∧ ∀ r, r < n → ¬ ¬ b (48 + r) s ≤ 0) ∨ ∃ r, r < n ∧ d_stop a b s n = nI r ∧ ¬ b (48 + r) s ≤ 0 ∧ ∀ r', r' < n → ¬ b (48 + r') s ≤ 0 → ma_Le a b s r r' := by
  refine ma_pick (G := d_stop a b s) (M := nl) (C := fun r => ¬ b (48 + r) s ≤ 0) (Le := ma_Le a b s) rfl (fun n _ h => ?_) (fun n _ h g => ?_) (fun n hn h o ho hco g => ?_) (fun x => ⟨Int.le_refl _, fun _ => Int32.le_refl _⟩) (fun x y z _ _ _ hx hy hz l1 l2 => ?_)
  · show (if b (48 + n) s ≤ 0 then _ else _) = _
    rw [if_pos (Classical.not_not.mp h)]
  · show (if b (48 + n) s ≤ 0 then _ else if d_stop a b s n < 0 then nI n else _) = _
    rw [if_neg h, g]
    rfl
  · have e : d_stop a b s (n + 1) = if d_stops a b n o s = 0 then d_stop a b s n else nI n := by
      show (if b (48 + n) s ≤ 0 then _ else if d_stop a b s n < 0 then nI n else if d_stops a b n (d_stop a b s n).toNatClampNeg s = 0 then _ else _) = _
      rw [if_neg h, if_neg (by rw [g]; exact nI_pos (by omega)), g, nI_clamp (by omega)]
    rw [e]
    have m1 : (b 14 n * b (48 + o) s).toInt = (b 14 n).toInt * (b (48 + o) s).toInt := ma_mul rfl rfl (by have := ma_mb (hR n (by omega)) (hb o (by omega)); omega)
    have m2 : (b 14 o * b (48 + n) s).toInt = (b 14 o).toInt * (b (48 + n) s).toInt := ma_mul rfl rfl (by have := ma_mb (hR o (by omega)) (hb n (by omega)); omega)
    unfold d_stops
    by_cases c1 : b 14 n * b (48 + o) s < b 14 o * b (48 + n) s
    · rw [if_pos c1]
      rw [Int64.lt_iff_toInt_lt, m1, m2] at c1
      refine Or.inr ⟨⟨by omega, fun q => by omega⟩, ?_⟩
      rw [if_neg (by decide)]
    · rw [if_neg c1]
      rw [Int64.lt_iff_toInt_lt, m1, m2] at c1
      by_cases c2 : b 14 n * b (48 + o) s = b 14 o * b (48 + n) s
      · rw [if_pos c2]
        rw [← Int64.toInt_inj, m1, m2] at c2
        by_cases c3 : a 15 o ≤ a 15 n
        · rw [if_pos c3, if_pos rfl]
          exact Or.inl ⟨⟨by omega, fun _ => c3⟩, rfl⟩
        · rw [if_neg c3, if_neg (by decide)]
          exact Or.inr ⟨⟨by omega, fun _ => (Int32.le_total (a 15 o) (a 15 n)).resolve_left c3⟩, rfl⟩
      · rw [if_neg c2, if_pos rfl]
        rw [← Int64.toInt_inj, m1, m2] at c2
        exact Or.inl ⟨⟨by omega, fun q => by omega⟩, rfl⟩
  · have px : 0 < (b (48 + x) s).toInt := Int.not_le.mp (fun q => hx (ma_l0'.mpr q))
    have py : 0 < (b (48 + y) s).toInt := Int.not_le.mp (fun q => hy (ma_l0'.mpr q))
    have pz : 0 < (b (48 + z) s).toInt := Int.not_le.mp (fun q => hz (ma_l0'.mpr q))
    refine ⟨ma_fr px py pz l1.1 l2.1, fun q => ?_⟩
    by_cases e1 : (b 14 x).toInt * (b (48 + y) s).toInt = (b 14 y).toInt * (b (48 + x) s).toInt
    · by_cases e2 : (b 14 y).toInt * (b (48 + z) s).toInt = (b 14 z).toInt * (b (48 + y) s).toInt
      · exact Int32.le_trans (l1.2 e1) (l2.2 e2)
      · have := ma_fr2 px py pz l1.1 (Int.lt_iff_le_and_ne.mpr ⟨l2.1, e2⟩)
        omega
    · have := ma_fr1 px py pz (Int.lt_iff_le_and_ne.mpr ⟨l1.1, e1⟩) l2.1
      omega
theorem ma_sm_comm (F : Nat → Nat → Int) (m : Nat) : ∀ n, ma_sm (fun i => ma_sm (fun j => F i j) m) n = ma_sm (fun j => ma_sm (fun i => F i j) n) m
  | 0 => (ma_sm_zero (fun _ _ => rfl)).symm
  | n + 1 => by
    show ma_sm (fun i => ma_sm (fun j => F i j) m) n + ma_sm (fun j => F n j) m = ma_sm (fun j => ma_sm (fun i => F i j) n + F n j) m
    rw [ma_sm_comm F m n, ma_sm_add]
theorem ma_part {nc nl : Nat} {O B : Nat → Nat} (hO : ∀ s, s < nc → O s < nc + nl) (hB : ∀ r, r < nl → B r < nc + nl) (hc : ∀ j, j < nc + nl → (∃ s, s < nc ∧ O s = j) ∨ (∃ r, r < nl ∧ B r = j)) (hd : ∀ r s, r < nl → s < nc → B r ≠ O s) (hi : ∀ r r', r < nl → r' < nl → B r = B r' → r = r') (hj : ∀ s s', s < nc → s' < nc → O s = O s' → s = s') (f : Nat → Int) : ma_sm f (nc + nl) = ma_sm (fun s => f (O s)) nc + ma_sm (fun r => f (B r)) nl := by
  have e1 : ma_sm f (nc + nl) = ma_sm (fun j => ma_sm (fun s => if O s = j then f j else 0) nc + ma_sm (fun r => if B r = j then f j else 0) nl) (nc + nl) := by
    refine ma_sm_congr (fun j hj0 => ?_)
    rcases hc j hj0 with ⟨s, q1, q2⟩ | ⟨r, q1, q2⟩
    · rw [ma_sm_congr (f := fun s => if O s = j then f j else 0) (g := fun s' => if s' = s then f j else 0) (fun s' h => ?_), ma_sm_one q1, ma_sm_zero (f := fun r => if B r = j then f j else 0) (fun r h => if_neg (fun w => hd r s h q1 (by rw [w, q2])))]
      · omega
      · by_cases e : s' = s
        · rw [if_pos e, if_pos (by rw [e]; exact q2)]
        · rw [if_neg e, if_neg (fun w => e (hj s' s h q1 (by rw [w, q2])))]
    · rw [ma_sm_congr (f := fun r => if B r = j then f j else 0) (g := fun r' => if r' = r then f j else 0) (fun r' h => ?_), ma_sm_one q1, ma_sm_zero (f := fun s => if O s = j then f j else 0) (fun s h => if_neg (fun w => hd r s q1 h (by rw [w, q2])))]
      · omega
      · by_cases e : r' = r
        · rw [if_pos e, if_pos (by rw [e]; exact q2)]
        · rw [if_neg e, if_neg (fun w => e (hi r' r h q1 (by rw [w, q2])))]
  rw [e1, ma_sm_add, ma_sm_comm (fun j s => if O s = j then f j else 0), ma_sm_comm (fun j r => if B r = j then f j else 0)]
  congr 1
  · refine ma_sm_congr (fun s hs => ?_)
    rw [ma_sm_congr (g := fun j => if j = O s then f (O s) else 0) (fun j _ => ?_), ma_sm_one (hO s hs)]
    by_cases e : O s = j
    · rw [if_pos e, if_pos e.symm, e]
    · rw [if_neg e, if_neg (fun q => e q.symm)]
  · refine ma_sm_congr (fun r hr => ?_)
    rw [ma_sm_congr (g := fun j => if j = B r then f (B r) else 0) (fun j _ => ?_), ma_sm_one (hB r hr)]
    by_cases e : B r = j
    · rw [if_pos e, if_pos e.symm, e]
    · rw [if_neg e, if_neg (fun q => e q.symm)]
theorem ma_sl1 (I : gF) (J : gL) (a : gF) (b : gL) (kg : Nat) : ∀ n k j, d_sl1 I J a b kg n k j = if k = 18 ∧ j < n then (if I 4 8 ≤ a 16 j then 0 else (a kg (a 16 j).toNatClampNeg).toInt64 * J 4 6) else b k j
  | 0, k, j => by
    rw [if_neg (by omega)]
    rfl
  | n + 1, k, j => by
    have e : d_sl1 I J a b kg (n + 1) = gU (d_sl1 I J a b kg n) 18 n (if I 4 8 ≤ a 16 n then 0 else (a kg (a 16 n).toNatClampNeg).toInt64 * J 4 6) := by
      show (if I 4 8 ≤ a 16 n then gU (d_sl1 I J a b kg n) 18 n 0 else gU (d_sl1 I J a b kg n) 18 n ((a kg (a 16 n).toNatClampNeg).toInt64 * J 4 6)) = _
      split <;> rfl
    rw [e]
    by_cases h : k = 18 ∧ j = n
    · obtain ⟨rfl, rfl⟩ := h
      rw [gU_s, if_pos (show 18 = 18 ∧ j < j + 1 by omega)]
    · rw [gU_n (by omega), ma_sl1]
      by_cases h2 : k = 18 ∧ j < n
      · rw [if_pos h2, if_pos (show k = 18 ∧ j < n + 1 by omega)]
      · rw [if_neg h2, if_neg (show ¬ (k = 18 ∧ j < n + 1) by omega)]
theorem ma_sl2 (b : gL) (r : Nat) (w : Int32) : ∀ n k j, d_sl2 b r w n k j = if k = 18 ∧ j < n then b 18 j - w.toInt64 * b (48 + r) j else b k j
  | 0, k, j => by
    rw [if_neg (by omega)]
    rfl
  | n + 1, k, j => by
    show gU (d_sl2 b r w n) 18 n (d_sl2 b r w n 18 n - w.toInt64 * d_sl2 b r w n (48 + r) n) k j = _
    by_cases h : k = 18 ∧ j = n
    · obtain ⟨rfl, rfl⟩ := h
      rw [gU_s, if_pos (by omega), ma_sl2, ma_sl2, if_neg (by omega), if_neg (by omega)]
    · rw [gU_n (by omega), ma_sl2]
      by_cases h2 : k = 18 ∧ j < n
      · rw [if_pos h2, if_pos (by omega)]
      · rw [if_neg h2, if_neg (by omega)]
theorem ma_sl4f (I a : gF) (b : gL) (kg nc : Nat) : ∀ n k j, k ≠ 18 → d_sl4 I a b kg nc n k j = b k j
  | 0, _, _, _ => rfl
  | n + 1, k, j, h => by
    have hI : ∀ w, d_slI (d_sl4 I a b kg nc n) n w nc k j = b k j := by
      intro w
      unfold d_slI
      split
      · exact ma_sl4f I a b kg nc n k j h
      · rw [ma_sl2, if_neg (by omega)]
        exact ma_sl4f I a b kg nc n k j h
    show (if I 4 8 ≤ a 15 n then d_slI (d_sl4 I a b kg nc n) n 0 nc else d_slI (d_sl4 I a b kg nc n) n (a kg (a 15 n).toNatClampNeg) nc) k j = _
    split
    · exact hI _
    · exact hI _
theorem ma_slf (I : gF) (J : gL) (a : gF) (b : gL) (kg nl nc k j : Nat) (h : k ≠ 18) : d_slopes I J a b kg nl nc k j = b k j := by
  unfold d_slopes
  rw [ma_sl4f _ _ _ _ _ _ _ _ h, ma_sl1, if_neg (by omega)]
/-- names counted from their low ends, and what they have to spare -/
def ma_VN (nc : Nat) (V : Nat → Nat → Int) : Prop := ∀ i, i < nc → (∃ lo : Int, ∀ c, V i c = 1 * ma_e i c + lo * ma_e 5 c) ∧ (∃ hi : Int, ∀ c, V (nc + i) c = (-1) * ma_e i c + hi * ma_e 5 c)
def ma_gl (a : gF) (kg nc : Nat) : Nat → Int := fun c => ma_sm (fun i => (a kg i).toInt * ma_e i c) nc
theorem ma_k_5 {nc nl : Nat} {V : Nat → Nat → Int} {J : gL} {a : gF} {b : gL} (D : ma_DI nc nl V J a b) {s : Nat} (hs : s < 5) : ma_k (ma_oo nc V a) s (ma_e 5) = 0 := by
  have := (ma_DI_LP D).2.2.2 s 5 (by omega) (by omega)
  rw [if_neg (by omega), ma_oo_5 D.1.1] at this
  exact this
theorem ma_k_V {nc nl : Nat} {V : Nat → Nat → Int} {J : gL} {a : gF} {b : gL} (D : ma_DI nc nl V J a b) (hV : ma_VN nc V) {s i : Nat} (hs : s < 5) (hi : i < nc) : ma_k (ma_oo nc V a) s (V i) = ma_k (ma_oo nc V a) s (ma_e i) ∧ ma_k (ma_oo nc V a) s (V (nc + i)) = - ma_k (ma_oo nc V a) s (ma_e i) := by
  obtain ⟨⟨lo, h1⟩, ⟨hi, h2⟩⟩ := hV i hi
  constructor
  · rw [ma_k_congr (fun c _ => h1 c), ma_k_lin (by omega), ma_k_5 D hs]
    omega
  · rw [ma_k_congr (fun c _ => h2 c), ma_k_lin (by omega), ma_k_5 D hs]
    omega
theorem ma_k_sum {o : Nat → Nat → Int} {s : Nat} (hs : s < 6) (x : Nat → Int) (w : Nat → Nat → Int) (m : Nat) : ma_k o s (fun c => ma_sm (fun k => x k * w k c) m) = ma_sm (fun k => x k * ma_k o s (w k)) m := by
  unfold ma_k
  rw [ma_K_sum hs, ← ma_sm_mul]
  exact ma_sm_congr (fun k _ => by grind)
theorem ma_sm_pre {f : Nat → Int} {n : Nat} : ∀ m, (∀ i, n ≤ i → i < n + m → f i = 0) → ma_sm f (n + m) = ma_sm f n
  | 0, _ => rfl
  | m + 1, h => by
    show ma_sm f (n + m) + f (n + m) = _
    rw [ma_sm_pre m (fun i a1 a2 => h i a1 (by omega)), h _ (by omega) (by omega)]
    omega
theorem ma_slopes {nc nl : Nat} {V : Nat → Nat → Int} {I : gF} {J : gL} {a : gF} {b : gL} (D : ma_DI nc nl V J a b) (hV : ma_VN nc V) (hI : I 4 8 = nI nc) {kg : Nat} (hg : ∀ i, i < nc → (a kg i).toInt.natAbs ≤ 99) : ∀ s, s < nc → (d_slopes I J a b kg nl nc 18 s).toInt = ma_k (ma_oo nc V a) s (ma_gl a kg nc) := by
  intro s hs
  have Lp := ma_DI_LP D
  have obd := ma_oo_bd D
  have Dk := D
  obtain ⟨⟨n1, n2, n3⟩, ⟨sp, d0⟩, du, dO, dB, dt, dr, dc, dd, di⟩ := D
  have o5 : ma_oo nc V a 5 = ma_e 5 := ma_oo_5 n1
  have hUs : (ma_u (ma_oo nc V a)).natAbs ≤ 7085880 := ma_u_small o5 obd
  have cO : ∀ s, s < nc → (I 4 8 ≤ a 16 s ↔ nc ≤ ma_Oa a s) := fun s hs => by rw [hI, (dO s hs).1, nI_leI (by omega) (by have := (dO s hs).2; omega)]
  have cB : ∀ r, r < nl → (I 4 8 ≤ a 15 r ↔ nc ≤ ma_Ba a r) := fun r hr => by rw [hI, (dB r hr).1, nI_leI (by omega) (by have := (dB r hr).2; omega)]
  have key : ∀ n, n ≤ nl → (d_sl4 I a (d_sl1 I J a b kg nc) kg nc n 18 s).toInt = (if ma_Oa a s < nc then (a kg (ma_Oa a s)).toInt * ma_u (ma_oo nc V a) else 0) + ma_sm (fun r => if ma_Ba a r < nc then (a kg (ma_Ba a r)).toInt * ma_k (ma_oo nc V a) s (V (ma_Ba a r)) else 0) n ∧ ((if ma_Oa a s < nc then (a kg (ma_Oa a s)).toInt * ma_u (ma_oo nc V a) else 0) + ma_sm (fun r => if ma_Ba a r < nc then (a kg (ma_Ba a r)).toInt * ma_k (ma_oo nc V a) s (V (ma_Ba a r)) else 0) n).natAbs ≤ 701502120 * (n + 1) := by
    intro n
    induction n with
    | zero =>
      intro _
      have b1 : ((if ma_Oa a s < nc then (a kg (ma_Oa a s)).toInt * ma_u (ma_oo nc V a) else 0) + 0).natAbs ≤ 701502120 := by
        split
        · next q =>
          have := ma_mb (hg _ q) hUs
          omega
        · decide
      refine ⟨?_, b1⟩
      show (d_sl1 I J a b kg nc 18 s).toInt = _ + 0
      rw [ma_sl1, if_pos ⟨rfl, hs⟩]
      by_cases q : ma_Oa a s < nc
      · rw [if_pos q] at b1 ⊢
        rw [if_neg (fun w => by have := (cO s hs).mp w; omega)]
        have := ma_mul (x := (a kg (ma_Oa a s)).toInt64) (Int32.toInt_toInt64 _) du (by omega)
        show ((a kg (ma_Oa a s)).toInt64 * J 4 6).toInt = _
        omega
      · rw [if_neg q, if_pos ((cO s hs).mpr (by omega))]
        rfl
    | succ n ih =>
      intro hn
      obtain ⟨i1, i2⟩ := ih (by omega)
      have hk : (ma_k (ma_oo nc V a) s (V (ma_Ba a n))).natAbs ≤ 7085880 := ma_k_small (by omega) o5 obd (n3 _ (dB n (by omega)).2)
      have b2 : ((if ma_Oa a s < nc then (a kg (ma_Oa a s)).toInt * ma_u (ma_oo nc V a) else 0) + (ma_sm (fun r => if ma_Ba a r < nc then (a kg (ma_Ba a r)).toInt * ma_k (ma_oo nc V a) s (V (ma_Ba a r)) else 0) n + (if ma_Ba a n < nc then (a kg (ma_Ba a n)).toInt * ma_k (ma_oo nc V a) s (V (ma_Ba a n)) else 0))).natAbs ≤ 701502120 * (n + 1 + 1) := by
        have : (if ma_Ba a n < nc then (a kg (ma_Ba a n)).toInt * ma_k (ma_oo nc V a) s (V (ma_Ba a n)) else 0).natAbs ≤ 701502120 := by
          split
          · next q => exact ma_mb (hg _ q) hk
          · decide
        omega
      refine ⟨?_, b2⟩
      show (d_sl4 I a (d_sl1 I J a b kg nc) kg nc (n + 1) 18 s).toInt = _ + (ma_sm _ n + (if ma_Ba a n < nc then _ else 0))
      have e : d_sl4 I a (d_sl1 I J a b kg nc) kg nc (n + 1) = if I 4 8 ≤ a 15 n then d_slI (d_sl4 I a (d_sl1 I J a b kg nc) kg nc n) n 0 nc else d_slI (d_sl4 I a (d_sl1 I J a b kg nc) kg nc n) n (a kg (a 15 n).toNatClampNeg) nc := rfl
      rw [e]
      by_cases q : ma_Ba a n < nc
      · rw [if_neg (fun w => by have := (cB n (by omega)).mp w; omega), if_pos q]
        rw [if_pos q] at b2
        show (d_slI _ n (a kg (ma_Ba a n)) nc 18 s).toInt = _
        unfold d_slI
        by_cases w0 : a kg (ma_Ba a n) = 0
        · rw [if_pos w0, w0, i1]
          show _ = _ + (_ + 0 * _)
          omega
        · rw [if_neg w0, ma_sl2, if_pos ⟨rfl, hs⟩]
          have et : d_sl4 I a (d_sl1 I J a b kg nc) kg nc n (48 + n) s = b (48 + n) s := by rw [ma_sl4f _ _ _ _ _ _ _ _ (by omega), ma_sl1, if_neg (by omega)]
          rw [et]
          have m1 : ((a kg (ma_Ba a n)).toInt64 * b (48 + n) s).toInt = (a kg (ma_Ba a n)).toInt * - ma_k (ma_oo nc V a) s (V (ma_Ba a n)) := ma_mul (Int32.toInt_toInt64 _) (dt n (by omega) s hs) (by have := ma_mb (hg _ q) (show (- ma_k (ma_oo nc V a) s (V (ma_Ba a n))).natAbs ≤ 7085880 by omega); omega)
          rw [Int.mul_neg] at m1
          have := ma_sub i1 m1 (by omega)
          omega
      · rw [if_pos ((cB n (by omega)).mpr (by omega)), if_neg q]
        unfold d_slI
        rw [if_pos rfl, i1]
        omega
  have h1 := (key nl (Nat.le_refl _)).1
  have e0 : (d_slopes I J a b kg nl nc 18 s) = d_sl4 I a (d_sl1 I J a b kg nc) kg nc nl 18 s := rfl
  rw [e0, h1]
  have hp := ma_part (fun s hs => (dO s hs).2) (fun r hr => (dB r hr).2) dc dd di (fun s s' a1 a2 a3 => ma_LP_inj n1 Lp a1 a2 a3) (fun j => if j < nc then (a kg j).toInt * ma_k (ma_oo nc V a) s (V j) else 0)
  rw [ma_sm_pre nl (fun i a1 a2 => if_neg (by omega))] at hp
  have e1 : ma_k (ma_oo nc V a) s (ma_gl a kg nc) = ma_sm (fun j => if j < nc then (a kg j).toInt * ma_k (ma_oo nc V a) s (V j) else 0) nc := by
    unfold ma_gl
    rw [ma_k_sum (by omega)]
    exact ma_sm_congr (fun i hi => by rw [if_pos hi, (ma_k_V Dk hV (by omega) hi).1])
  rw [e1, hp]
  congr 1
  rw [ma_sm_congr (g := fun s' => if s' = s then (if ma_Oa a s < nc then (a kg (ma_Oa a s)).toInt * ma_u (ma_oo nc V a) else 0) else 0) (fun s' hs' => ?_), ma_sm_one hs]
  have := Lp.2.2.2 s s' (by omega) (by omega)
  rw [ma_oo, ma_o_in hs'] at this
  show (if ma_Oa a s' < nc then (a kg (ma_Oa a s')).toInt * ma_k (ma_oo nc V a) s (V (ma_Oa a s')) else 0) = _
  rw [this]
  by_cases e : s' = s
  · subst e
    rw [if_pos rfl, if_pos rfl]
  · rw [if_neg e, if_neg e]
    split <;> omega
end
section
/-! THE MATHEMATICS, 9: findPoint and minimise do what they are for -/
abbrev ma_X : Type := gL × gF × gL
def ma_DX (nc nl : Nat) (V : Nat → Nat → Int) (x : ma_X) : Prop := ma_DI nc nl V x.1 x.2.1 x.2.2
def ma_kx (nc : Nat) (V : Nat → Nat → Int) (x : ma_X) : Nat → (Nat → Int) → Int := ma_k (ma_oo nc V x.2.1)
def ma_fx (x y : ma_X) : Prop := (∀ k j, ¬ (k = 4 ∧ j = 6) → y.1 k j = x.1 k j) ∧ (∀ k j, k ≠ 15 → k ≠ 16 → y.2.1 k j = x.2.1 k j) ∧ (∀ k j, k ≠ 14 → k ≠ 18 → (k < 48 ∨ 69 ≤ k) → y.2.2 k j = x.2.2 k j)
theorem ma_fx_r (x : ma_X) : ma_fx x x := ⟨fun _ _ _ => rfl, fun _ _ _ _ => rfl, fun _ _ _ _ _ => rfl⟩
theorem ma_fx_t {x y z : ma_X} (h1 : ma_fx x y) (h2 : ma_fx y z) : ma_fx x z := ⟨fun k j h => (h2.1 k j h).trans (h1.1 k j h), fun k j a1 a2 => (h2.2.1 k j a1 a2).trans (h1.2.1 k j a1 a2), fun k j a1 a2 a3 => (h2.2.2 k j a1 a2 a3).trans (h1.2.2 k j a1 a2 a3)⟩
def ma_fe (nc nl : Nat) (V : Nat → Nat → Int) (x : ma_X) : Prop := ∀ j, j < nc + nl → 0 ≤ ma_kx nc V x 5 (V j)
def ma_pv (nl nc r s : Nat) (x : ma_X) : ma_X := (d_pJ x.1 x.2.2 r s, d_pA x.1 x.2.1 x.2.2 r s, d_pB x.1 x.2.2 nl nc r s)
def ma_it (f : ma_X → ma_X) (x : ma_X) : Nat → ma_X
  | 0 => x
  | c + 1 => f (ma_it f x c)
theorem ma_it_s (f : ma_X → ma_X) (x : ma_X) : ∀ c, ma_it f (f x) c = ma_it f x (c + 1)
  | 0 => rfl
  | c + 1 => by
    show f (ma_it f (f x) c) = f (ma_it f x (c + 1))
    rw [ma_it_s f x c]
def ma_fr0 (nl : Nat) (x : ma_X) : Nat := (d_broken x.2.1 x.2.2 nl).toNatClampNeg
def ma_fs0 (nl nc : Nat) (x : ma_X) : Nat := (d_mend x.2.1 x.2.2 (ma_fr0 nl x) nc).toNatClampNeg
def ma_fgo (nl nc : Nat) (x : ma_X) : Prop := 0 ≤ d_broken x.2.1 x.2.2 nl ∧ 0 ≤ d_mend x.2.1 x.2.2 (ma_fr0 nl x) nc
def ma_fst (nl nc : Nat) (x : ma_X) : ma_X := ma_pv nl nc (ma_fr0 nl x) (ma_fs0 nl nc x) x
theorem ma_find_it (nl nc : Nat) : ∀ n x, (∀ c, c < n → ma_fgo nl nc (ma_it (ma_fst nl nc) x c)) ∨ ∃ c, c < n ∧ (∀ c', c' < c → ma_fgo nl nc (ma_it (ma_fst nl nc) x c')) ∧ ¬ ma_fgo nl nc (ma_it (ma_fst nl nc) x c) ∧ d_find nl nc n x = (if 0 ≤ d_broken (ma_it (ma_fst nl nc) x c).2.1 (ma_it (ma_fst nl nc) x c).2.2 nl then 0 else 1, ma_it (ma_fst nl nc) x c)
  | 0, x => Or.inl (fun c h => by omega)
  | n + 1, x => by
    by_cases hg : ma_fgo nl nc x
    · have e : d_find nl nc (n + 1) x = d_find nl nc n (ma_fst nl nc x) := by
        show (if 0 ≤ d_broken x.2.1 x.2.2 nl then if 0 ≤ d_mend x.2.1 x.2.2 (ma_fr0 nl x) nc then _ else _ else _) = _
        rw [if_pos hg.1, if_pos hg.2]
        rfl
      rcases ma_find_it nl nc n (ma_fst nl nc x) with h | ⟨c, h1, h2, h3, h4⟩
      · refine Or.inl (fun c hc => ?_)
        cases c with
        | zero => exact hg
        | succ c =>
          rw [← ma_it_s]
          exact h c (by omega)
      · refine Or.inr ⟨c + 1, by omega, fun c' hc' => ?_, ?_, ?_⟩
        · cases c' with
          | zero => exact hg
          | succ c' =>
            rw [← ma_it_s]
            exact h2 c' (by omega)
        · rw [← ma_it_s]
          exact h3
        · rw [e, ← ma_it_s]
          exact h4
    · refine Or.inr ⟨0, by omega, fun c' hc' => by omega, hg, ?_⟩
      show (if 0 ≤ d_broken x.2.1 x.2.2 nl then if 0 ≤ d_mend x.2.1 x.2.2 (ma_fr0 nl x) nc then _ else _ else _) = (if 0 ≤ d_broken x.2.1 x.2.2 nl then 0 else 1, x)
      by_cases h1 : 0 ≤ d_broken x.2.1 x.2.2 nl
      · rw [if_pos h1, if_pos h1, if_neg (fun h2 => hg ⟨h1, h2⟩)]
      · rw [if_neg h1, if_neg h1]
theorem ma_kO {nc nl : Nat} {V : Nat → Nat → Int} {x : ma_X} (D : ma_DX nc nl V x) {s s' : Nat} (h1 : s < 6) (h2 : s' < nc) : ma_kx nc V x s (V (ma_Oa x.2.1 s')) = if s' = s then ma_u (ma_oo nc V x.2.1) else 0 := by
  have n1 := D.1.1
  have := (ma_DI_LP D).2.2.2 s s' h1 (by omega)
  rw [ma_oo, ma_o_in h2] at this
  exact this
/-- where no line is broken, or what a broken line is -/
theorem ma_broken_s {nc nl : Nat} {V : Nat → Nat → Int} {x : ma_X} (D : ma_DX nc nl V x) : (¬ 0 ≤ d_broken x.2.1 x.2.2 nl ∧ ma_fe nc nl V x) ∨ (0 ≤ d_broken x.2.1 x.2.2 nl ∧ ma_fr0 nl x < nl ∧ ma_kx nc V x 5 (V (ma_Ba x.2.1 (ma_fr0 nl x))) < 0 ∧ ∀ j, j < ma_Ba x.2.1 (ma_fr0 nl x) → j < nc + nl → 0 ≤ ma_kx nc V x 5 (V j)) := by
  obtain ⟨⟨n1, n2, n3⟩, ⟨sp, d0⟩, du, dO, dB, dt, dr, dc, dd, di⟩ := D
  have D' : ma_DX nc nl V x := ⟨⟨n1, n2, n3⟩, ⟨sp, d0⟩, du, dO, dB, dt, dr, dc, dd, di⟩
  have out0 : ∀ s, s < nc → ma_kx nc V x 5 (V (ma_Oa x.2.1 s)) = 0 := fun s hs => by rw [ma_kO D' (by omega) hs, if_neg (by omega)]
  rcases ma_broken x.2.1 x.2.2 nl (by omega) with ⟨g, h⟩ | ⟨r, h1, h2, h3, h4⟩
  · refine Or.inl ⟨by rw [g]; decide, fun j hj => ?_⟩
    rcases dc j hj with ⟨s, a1, a2⟩ | ⟨r, a1, a2⟩
    · rw [← a2, out0 s a1]
      exact Int.le_refl _
    · have := ma_l0.mp (Classical.not_not.mp (h r a1))
      rw [dr r a1, a2] at this
      exact this
  · have er : ma_fr0 nl x = r := by
      unfold ma_fr0
      rw [h2, nI_clamp (by omega)]
    refine Or.inr ⟨by rw [h2]; exact nI_pos' (by omega), by rw [er]; exact h1, ?_, fun j hj hjN => ?_⟩
    · rw [er]
      have := fun q => h3 (ma_l0.mpr q)
      rw [dr r h1] at this
      exact Int.not_le.mp this
    · rw [er] at hj
      rcases dc j hjN with ⟨s, a1, a2⟩ | ⟨r', a1, a2⟩
      · rw [← a2, out0 s a1]
        exact Int.le_refl _
      · apply Classical.byContradiction
        intro hneg
        have q := h4 r' a1 (fun w => hneg (by
          have := ma_l0.mp w
          rw [dr r' a1, a2] at this
          exact this))
        rw [(dB r h1).1, (dB r' a1).1, nI_leI (by have := (dB r h1).2; omega) (by have := (dB r' a1).2; omega)] at q
        omega
theorem ma_mend_s {nc nl : Nat} {V : Nat → Nat → Int} {x : ma_X} (D : ma_DX nc nl V x) {r : Nat} (hr : r < nl) : (¬ 0 ≤ d_mend x.2.1 x.2.2 r nc ∧ ∀ s, s < nc → ma_kx nc V x s (V (ma_Ba x.2.1 r)) ≤ 0) ∨ ∃ s, 0 ≤ d_mend x.2.1 x.2.2 r nc ∧ (d_mend x.2.1 x.2.2 r nc).toNatClampNeg = s ∧ s < nc ∧ 0 < ma_kx nc V x s (V (ma_Ba x.2.1 r)) ∧ ∀ s', s' < nc → ma_Oa x.2.1 s' < ma_Oa x.2.1 s → ma_kx nc V x s' (V (ma_Ba x.2.1 r)) ≤ 0 := by
  obtain ⟨⟨n1, n2, n3⟩, ⟨sp, d0⟩, du, dO, dB, dt, dr, dc, dd, di⟩ := D
  rcases ma_mend x.2.1 x.2.2 r nc (by omega) with ⟨g, h⟩ | ⟨s, h1, h2, h3, h4⟩
  · refine Or.inl ⟨by rw [g]; decide, fun s hs => ?_⟩
    have := ma_l0.mp (Classical.not_not.mp (h s hs))
    rw [dt r hr s hs] at this
    show ma_k _ s _ ≤ 0
    omega
  · refine Or.inr ⟨s, by rw [h2]; exact nI_pos' (by omega), by rw [h2, nI_clamp (by omega)], h1, ?_, fun s' hs' hlt => ?_⟩
    · have := fun q => h3 (ma_l0.mpr q)
      rw [dt r hr s h1] at this
      have := Int.not_le.mp this
      show 0 < ma_k _ s _
      omega
    · apply Classical.byContradiction
      intro hneg
      have q := h4 s' hs' (fun w => hneg (by
        have := ma_l0.mp w
        rw [dt r hr s' hs'] at this
        show ma_k _ s' _ ≤ 0
        omega))
      rw [(dO s h1).1, (dO s' hs').1, nI_leI (by have := (dO s h1).2; omega) (by have := (dO s' hs').2; omega)] at q
      omega
theorem ma_fx_pv {nc nl : Nat} {V : Nat → Nat → Int} {x : ma_X} (D : ma_DX nc nl V x) {r s : Nat} (hr : r < nl) (hs : s < nc) (hp : ma_kx nc V x s (V (ma_Ba x.2.1 r)) ≠ 0) : ma_DX nc nl V (ma_pv nl nc r s x) ∧ ma_oo nc V (ma_pv nl nc r s x).2.1 = ma_rw (ma_oo nc V x.2.1) s (V (ma_Ba x.2.1 r)) ∧ (∀ s', ma_Oa (ma_pv nl nc r s x).2.1 s' = if s' = s then ma_Ba x.2.1 r else ma_Oa x.2.1 s') ∧ ma_fx x (ma_pv nl nc r s x) := by
  obtain ⟨q1, q2, q3, q4, q5, q6⟩ := ma_DI_piv D hr hs hp
  exact ⟨q1, q2, fun s' => congrFun q3 s', q6, q4, fun k j h1 _ h3 => q5 k j h1 h3⟩
theorem ma_find_s {nc nl n : Nat} {V : Nat → Nat → Int} {x : ma_X} (D : ma_DX nc nl V x) (hN : nc + nl ≤ 26) (hn : 65780 ≤ n) : ma_DX nc nl V (d_find nl nc n x).2 ∧ ma_fx x (d_find nl nc n x).2 ∧ (((d_find nl nc n x).1 = 1 ∧ ma_fe nc nl V (d_find nl nc n x).2) ∨ ((d_find nl nc n x).1 = 0 ∧ ∃ t, t < nc + nl ∧ ma_kx nc V (d_find nl nc n x).2 5 (V t) < 0 ∧ ∀ s, s < nc → ma_kx nc V (d_find nl nc n x).2 s (V t) ≤ 0)) := by
  have n1 := D.1.1
  have step : ∀ y : ma_X, ma_DX nc nl V y → ma_fgo nl nc y → ma_fr0 nl y < nl ∧ ma_fs0 nl nc y < nc ∧ ma_kx nc V y 5 (V (ma_Ba y.2.1 (ma_fr0 nl y))) < 0 ∧ (∀ j, j < ma_Ba y.2.1 (ma_fr0 nl y) → j < nc + nl → 0 ≤ ma_kx nc V y 5 (V j)) ∧ 0 < ma_kx nc V y (ma_fs0 nl nc y) (V (ma_Ba y.2.1 (ma_fr0 nl y))) ∧ (∀ s', s' < nc → ma_Oa y.2.1 s' < ma_Oa y.2.1 (ma_fs0 nl nc y) → ma_kx nc V y s' (V (ma_Ba y.2.1 (ma_fr0 nl y))) ≤ 0) ∧ ma_DX nc nl V (ma_fst nl nc y) ∧ (∀ s', ma_Oa (ma_fst nl nc y).2.1 s' = if s' = ma_fs0 nl nc y then ma_Ba y.2.1 (ma_fr0 nl y) else ma_Oa y.2.1 s') ∧ ma_fx y (ma_fst nl nc y) := by
    intro y Dy hg
    rcases ma_broken_s Dy with ⟨b1, -⟩ | ⟨-, b2, b3, b4⟩
    · exact absurd hg.1 b1
    · rcases ma_mend_s Dy b2 with ⟨c1, -⟩ | ⟨s, -, c2, c3, c4, c5⟩
      · exact absurd hg.2 c1
      · have es : ma_fs0 nl nc y = s := c2
        obtain ⟨p1, p2, p3, p4⟩ := ma_fx_pv Dy b2 c3 (by omega)
        rw [ma_fst, es]
        exact ⟨b2, c3, b3, b4, c4, c5, p1, p3, p4⟩
  have all : ∀ c, (∀ c', c' < c → ma_fgo nl nc (ma_it (ma_fst nl nc) x c')) → ma_DX nc nl V (ma_it (ma_fst nl nc) x c) ∧ ma_fx x (ma_it (ma_fst nl nc) x c) := by
    intro c
    induction c with
    | zero => intro _; exact ⟨D, ma_fx_r x⟩
    | succ c ih =>
      intro h
      obtain ⟨i1, i2⟩ := ih (fun c' hc' => h c' (by omega))
      obtain ⟨-, -, -, -, -, -, s7, -, s9⟩ := step _ i1 (h c (by omega))
      exact ⟨s7, ma_fx_t i2 s9⟩
  rcases ma_find_it nl nc n x with h | ⟨c, h1, h2, h3, h4⟩
  · exfalso
    have hA : ∀ c, c ≤ n → ma_DX nc nl V (ma_it (ma_fst nl nc) x c) := fun c hc => (all c (fun c' hc' => h c' (by omega))).1
    have R : ma_run nc (nc + nl) n V (fun c => ma_u (ma_oo nc V (ma_it (ma_fst nl nc) x c).2.1)) (fun c => ma_kx nc V (ma_it (ma_fst nl nc) x c)) (fun c => ma_Oa (ma_it (ma_fst nl nc) x c).2.1) (fun c => ma_fs0 nl nc (ma_it (ma_fst nl nc) x c)) (fun c => ma_Ba (ma_it (ma_fst nl nc) x c).2.1 (ma_fr0 nl (ma_it (ma_fst nl nc) x c))) := by
      refine ⟨fun c hc => ma_DI_LP (hA c hc), fun c hc s hs => ((hA c hc).2.2.2.1 s hs).2, fun c hc => ?_⟩
      obtain ⟨t1, t2, -, -, -, -, -, t8, -⟩ := step _ (hA c (by omega)) (h c hc)
      refine ⟨t2, fun s hs => t8 s, fun s hs => ?_⟩
      exact fun q => (hA c (by omega)).2.2.2.2.2.2.2.2.1 _ s t1 hs q.symm
    have := ma_dual_run n1 R (fun c hc => by
      obtain ⟨-, -, t3, t4, t5, t6, -, -, -⟩ := step _ (hA c (by omega)) (h c hc)
      exact ⟨t3, t4, t5, t6⟩)
    have hb := ma_ch_b nc n1 (nc + nl) hN
    omega
  · obtain ⟨i1, i2⟩ := all c h2
    rw [h4]
    refine ⟨i1, i2, ?_⟩
    rcases ma_broken_s i1 with ⟨b1, b0⟩ | ⟨b1, b2, b3, b4⟩
    · rw [if_neg b1]
      exact Or.inl ⟨rfl, b0⟩
    · rw [if_pos b1]
      rcases ma_mend_s i1 b2 with ⟨c1, c2⟩ | ⟨s, c0, c2, c3, c4, c5⟩
      · exact Or.inr ⟨rfl, _, (i1.2.2.2.2.1 _ b2).2, b3, c2⟩
      · exact absurd ⟨b1, c0⟩ h3
/-! minimise -/
def ma_ms (I : gF) (kg nl nc : Nat) (x : ma_X) : ma_X := (x.1, x.2.1, d_slopes I x.1 x.2.1 x.2.2 kg nl nc)
def ma_ms0 (I : gF) (kg nl nc : Nat) (x : ma_X) : Nat := (d_fall (ma_ms I kg nl nc x).2.1 (ma_ms I kg nl nc x).2.2 nc).toNatClampNeg
def ma_mr0 (I : gF) (kg nl nc : Nat) (x : ma_X) : Nat := (d_stop (ma_ms I kg nl nc x).2.1 (ma_ms I kg nl nc x).2.2 (ma_ms0 I kg nl nc x) nl).toNatClampNeg
def ma_mgo (I : gF) (kg nl nc : Nat) (x : ma_X) : Prop := 0 ≤ d_fall (ma_ms I kg nl nc x).2.1 (ma_ms I kg nl nc x).2.2 nc ∧ 0 ≤ d_stop (ma_ms I kg nl nc x).2.1 (ma_ms I kg nl nc x).2.2 (ma_ms0 I kg nl nc x) nl
def ma_mst (I : gF) (kg nl nc : Nat) (x : ma_X) : ma_X := ma_pv nl nc (ma_mr0 I kg nl nc x) (ma_ms0 I kg nl nc x) (ma_ms I kg nl nc x)
theorem ma_min_it (I : gF) (kg nl nc : Nat) : ∀ n x, (∀ c, c < n → ma_mgo I kg nl nc (ma_it (ma_mst I kg nl nc) x c)) ∨ ∃ c, c < n ∧ (∀ c', c' < c → ma_mgo I kg nl nc (ma_it (ma_mst I kg nl nc) x c')) ∧ ¬ ma_mgo I kg nl nc (ma_it (ma_mst I kg nl nc) x c) ∧ d_min I kg nl nc n x = ma_ms I kg nl nc (ma_it (ma_mst I kg nl nc) x c)
  | 0, x => Or.inl (fun c h => by omega)
  | n + 1, x => by
    by_cases hg : ma_mgo I kg nl nc x
    · have e : d_min I kg nl nc (n + 1) x = d_min I kg nl nc n (ma_mst I kg nl nc x) := by
        show (if 0 ≤ d_fall (ma_ms I kg nl nc x).2.1 (ma_ms I kg nl nc x).2.2 nc then if 0 ≤ d_stop (ma_ms I kg nl nc x).2.1 (ma_ms I kg nl nc x).2.2 (ma_ms0 I kg nl nc x) nl then _ else _ else _) = _
        rw [if_pos hg.1, if_pos hg.2]
        rfl
      rcases ma_min_it I kg nl nc n (ma_mst I kg nl nc x) with h | ⟨c, h1, h2, h3, h4⟩
      · refine Or.inl (fun c hc => ?_)
        cases c with
        | zero => exact hg
        | succ c =>
          rw [← ma_it_s]
          exact h c (by omega)
      · refine Or.inr ⟨c + 1, by omega, fun c' hc' => ?_, ?_, ?_⟩
        · cases c' with
          | zero => exact hg
          | succ c' =>
            rw [← ma_it_s]
            exact h2 c' (by omega)
        · rw [← ma_it_s]
          exact h3
        · rw [e, ← ma_it_s]
          exact h4
    · refine Or.inr ⟨0, by omega, fun c' hc' => by omega, hg, ?_⟩
      show (if 0 ≤ d_fall (ma_ms I kg nl nc x).2.1 (ma_ms I kg nl nc x).2.2 nc then if 0 ≤ d_stop (ma_ms I kg nl nc x).2.1 (ma_ms I kg nl nc x).2.2 (ma_ms0 I kg nl nc x) nl then _ else ma_ms I kg nl nc x else ma_ms I kg nl nc x) = ma_ms I kg nl nc x
      by_cases h1 : 0 ≤ d_fall (ma_ms I kg nl nc x).2.1 (ma_ms I kg nl nc x).2.2 nc
      · rw [if_pos h1, if_neg (fun h2 => hg ⟨h1, h2⟩)]
      · rw [if_neg h1]
theorem ma_DI_b {nc nl : Nat} {V : Nat → Nat → Int} {J : gL} {a : gF} {b b' : gL} (D : ma_DI nc nl V J a b) (h : ∀ k j, k ≠ 18 → b' k j = b k j) : ma_DI nc nl V J a b' := by
  obtain ⟨q1, q2, q3, q4, q5, q6, q7, q8⟩ := D
  exact ⟨q1, q2, q3, q4, q5, fun r hr s hs => by rw [h _ _ (by omega)]; exact q6 r hr s hs, fun r hr => by rw [h _ _ (by omega)]; exact q7 r hr, q8⟩
theorem ma_ms_D {nc nl : Nat} {V : Nat → Nat → Int} {I : gF} {kg : Nat} {x : ma_X} (D : ma_DX nc nl V x) : ma_DX nc nl V (ma_ms I kg nl nc x) ∧ ma_fx x (ma_ms I kg nl nc x) :=
  ⟨ma_DI_b D (fun k j h => ma_slf _ _ _ _ _ _ _ _ _ h), fun _ _ _ => rfl, fun _ _ _ _ => rfl, fun k j _ h _ => ma_slf _ _ _ _ _ _ _ _ _ h⟩
theorem ma_tab {nc nl : Nat} {V : Nat → Nat → Int} {x : ma_X} (D : ma_DX nc nl V x) {r s : Nat} (hr : r < nl) (hs : s < nc) : (x.2.2 (48 + r) s).toInt = - ma_kx nc V x s (V (ma_Ba x.2.1 r)) ∧ (x.2.2 14 r).toInt = ma_kx nc V x 5 (V (ma_Ba x.2.1 r)) ∧ (x.2.2 (48 + r) s).toInt.natAbs ≤ 7085880 ∧ (x.2.2 14 r).toInt.natAbs ≤ 42515280000 := by
  have obd := ma_oo_bd D
  obtain ⟨⟨n1, n2, n3⟩, ⟨sp, d0⟩, du, dO, dB, dt, dr, dc, dd, di⟩ := D
  refine ⟨dt r hr s hs, dr r hr, ?_, ?_⟩
  · rw [dt r hr s hs]
    have := ma_k_small (s := s) (v := V (ma_Ba x.2.1 r)) (by omega) (ma_oo_5 (V := V) (a := x.2.1) n1) obd (n3 _ (dB r hr).2)
    omega
  · rw [dr r hr]
    exact ma_k_big obd (n3 _ (dB r hr).2)
/-- one step of minimise -/
theorem ma_min_st {nc nl : Nat} {V : Nat → Nat → Int} {I : gF} {kg : Nat} {x : ma_X} (D : ma_DX nc nl V x) (hV : ma_VN nc V) (hl : nc ≤ nl) (hI : I 4 8 = nI nc) (hg : ∀ i, i < nc → (x.2.1 kg i).toInt.natAbs ≤ 99) (hf : ma_fe nc nl V x) :
    (¬ ma_mgo I kg nl nc x ∧ ∀ s, s < nc → x.2.1 17 s = 0 → 0 ≤ ma_kx nc V x s (ma_gl x.2.1 kg nc)) ∨ (ma_mgo I kg nl nc x ∧ ma_mr0 I kg nl nc x < nl ∧ ma_ms0 I kg nl nc x < nc ∧ x.2.1 17 (ma_ms0 I kg nl nc x) = 0 ∧ ma_kx nc V x (ma_ms0 I kg nl nc x) (ma_gl x.2.1 kg nc) < 0 ∧ (∀ s, s < nc → x.2.1 17 s = 0 → ma_Oa x.2.1 s < ma_Oa x.2.1 (ma_ms0 I kg nl nc x) → 0 ≤ ma_kx nc V x s (ma_gl x.2.1 kg nc)) ∧ ma_kx nc V x (ma_ms0 I kg nl nc x) (V (ma_Ba x.2.1 (ma_mr0 I kg nl nc x))) < 0 ∧ (∀ j, j < nc + nl → ma_kx nc V x (ma_ms0 I kg nl nc x) (V j) < 0 → ma_kx nc V x 5 (V (ma_Ba x.2.1 (ma_mr0 I kg nl nc x))) * (- ma_kx nc V x (ma_ms0 I kg nl nc x) (V j)) < ma_kx nc V x 5 (V j) * (- ma_kx nc V x (ma_ms0 I kg nl nc x) (V (ma_Ba x.2.1 (ma_mr0 I kg nl nc x)))) ∨ (ma_kx nc V x 5 (V (ma_Ba x.2.1 (ma_mr0 I kg nl nc x))) * (- ma_kx nc V x (ma_ms0 I kg nl nc x) (V j)) = ma_kx nc V x 5 (V j) * (- ma_kx nc V x (ma_ms0 I kg nl nc x) (V (ma_Ba x.2.1 (ma_mr0 I kg nl nc x)))) ∧ ma_Ba x.2.1 (ma_mr0 I kg nl nc x) ≤ j))) := by
  have hsl : ∀ s, s < nc → (d_slopes I x.1 x.2.1 x.2.2 kg nl nc 18 s).toInt = ma_kx nc V x s (ma_gl x.2.1 kg nc) := ma_slopes D hV hI hg
  have Dm := (ma_ms_D (I := I) (kg := kg) D).1
  have n1 := D.1.1
  have n2 := D.1.2.1
  have dO := D.2.2.2.1
  have dB := D.2.2.2.2.1
  have dc := D.2.2.2.2.2.2.2.1
  rcases ma_fall (ma_ms I kg nl nc x).2.1 (ma_ms I kg nl nc x).2.2 nc (by omega) with ⟨g, h⟩ | ⟨s, h1, h2, h3, h4⟩
  · refine Or.inl ⟨fun q => by have := q.1; rw [g] at this; exact absurd this (by decide), fun s hs hz => ?_⟩
    have := Classical.not_not.mp (fun q => h s hs ⟨hz, q⟩)
    have := ma_l0.mp this
    rw [← hsl s hs]
    exact this
  · have es : ma_ms0 I kg nl nc x = s := by
      unfold ma_ms0
      rw [h2, nI_clamp (by omega)]
    have hneg : ma_kx nc V x s (ma_gl x.2.1 kg nc) < 0 := by
      have := Int.not_le.mp (fun q => h3.2 (ma_l0.mpr q))
      rw [← hsl s h1]
      exact this
    have htab : ∀ r, r < nl → _ := fun r hr => ma_tab Dm hr h1
    rcases ma_stop (a := (ma_ms I kg nl nc x).2.1) (b := (ma_ms I kg nl nc x).2.2) (s := s) n2 (fun i hi => (htab i hi).2.2.1) (fun i hi => (htab i hi).2.2.2) nl (Nat.le_refl _) with ⟨g, h⟩ | ⟨r, r1, r2, r3, r4⟩
    · exfalso
      have hk : ∀ j, j < nc + nl → 0 ≤ ma_kx nc V x s (V j) := by
        intro j hj
        rcases dc j hj with ⟨s', a1, a2⟩ | ⟨r, a1, a2⟩
        · rw [← a2, ma_kO D (by omega) a1]
          split
          · exact Int.le_of_lt (ma_DI_LP D).1
          · exact Int.le_refl _
        · have := ma_l0'.mp (Classical.not_not.mp (h r a1))
          rw [(htab r a1).1] at this
          have e : ma_Ba (ma_ms I kg nl nc x).2.1 r = j := a2
          rw [e] at this
          have : 0 ≤ ma_kx nc V (ma_ms I kg nl nc x) s (V j) := by omega
          exact this
      have hz : ma_kx nc V x s (ma_gl x.2.1 kg nc) = 0 := by
        unfold ma_kx ma_gl
        rw [ma_k_sum (by omega)]
        refine ma_sm_zero (fun i hi => ?_)
        obtain ⟨v1, v2⟩ := ma_k_V D hV (show s < 5 by omega) hi
        have k1 := hk i (by omega)
        have k2 := hk (nc + i) (by omega)
        unfold ma_kx at k1 k2
        rw [v1] at k1
        rw [v2] at k2
        have : ma_k (ma_oo nc V x.2.1) s (ma_e i) = 0 := by omega
        rw [this]
        omega
      omega
    · have er : ma_mr0 I kg nl nc x = r := by
        unfold ma_mr0
        rw [es, r2, nI_clamp (by omega)]
      refine Or.inr ⟨⟨by rw [h2]; exact nI_pos' (by omega), by rw [es, r2]; exact nI_pos' (by omega)⟩, ?_⟩
      rw [es, er]
      have hpos : ma_kx nc V x s (V (ma_Ba x.2.1 r)) < 0 := by
        have := Int.not_le.mp (fun q => r3 (ma_l0'.mpr q))
        rw [(htab r r1).1] at this
        have : 0 < - ma_kx nc V x s (V (ma_Ba x.2.1 r)) := this
        omega
      refine ⟨r1, h1, h3.1, hneg, fun s' hs' hz hlt => ?_, hpos, fun j hj hjn => ?_⟩
      · apply Classical.byContradiction
        intro hn
        have q := h4 s' hs' ⟨hz, fun w => hn (by rw [← hsl s' hs']; exact ma_l0.mp w)⟩
        have q : x.2.1 16 s ≤ x.2.1 16 s' := q
        rw [(dO s h1).1, (dO s' hs').1, nI_leI (by have := (dO s h1).2; omega) (by have := (dO s' hs').2; omega)] at q
        omega
      · rcases dc j hj with ⟨s', a1, a2⟩ | ⟨r', a1, a2⟩
        · exfalso
          rw [← a2, ma_kO D (by omega) a1] at hjn
          have := (ma_DI_LP D).1
          split at hjn <;> omega
        · have hc : ¬ (ma_ms I kg nl nc x).2.2 (48 + r') s ≤ 0 := by
            intro q
            have := ma_l0'.mp q
            rw [(htab r' a1).1] at this
            have e : ma_Ba (ma_ms I kg nl nc x).2.1 r' = j := a2
            rw [e] at this
            have : - ma_kx nc V x s (V j) ≤ 0 := this
            omega
          obtain ⟨l1, l2⟩ := r4 r' a1 hc
          rw [(htab r r1).1, (htab r r1).2.1, (htab r' a1).1, (htab r' a1).2.1] at l1 l2
          have e : ma_Ba (ma_ms I kg nl nc x).2.1 r' = j := a2
          rw [e] at l1 l2
          have l1 : ma_kx nc V x 5 (V (ma_Ba x.2.1 r)) * (- ma_kx nc V x s (V j)) ≤ ma_kx nc V x 5 (V j) * (- ma_kx nc V x s (V (ma_Ba x.2.1 r))) := l1
          by_cases q : ma_kx nc V x 5 (V (ma_Ba x.2.1 r)) * (- ma_kx nc V x s (V j)) = ma_kx nc V x 5 (V j) * (- ma_kx nc V x s (V (ma_Ba x.2.1 r)))
          · refine Or.inr ⟨q, ?_⟩
            have w := l2 q
            have w : x.2.1 15 r ≤ x.2.1 15 r' := w
            rw [(dB r r1).1, (dB r' a1).1, nI_leI (by have := (dB r r1).2; omega) (by have := (dB r' a1).2; omega), a2] at w
            exact w
          · exact Or.inl (Int.lt_iff_le_and_ne.mpr ⟨l1, q⟩)
theorem ma_min_s {nc nl n : Nat} {V : Nat → Nat → Int} {I : gF} {kg : Nat} {x : ma_X} (D : ma_DX nc nl V x) (hV : ma_VN nc V) (hl : nc ≤ nl) (hN : nc + nl ≤ 26) (hn : 65780 ≤ n) (hI : I 4 8 = nI nc) (hk1 : kg ≠ 15) (hk2 : kg ≠ 16) (hg : ∀ i, i < nc → (x.2.1 kg i).toInt.natAbs ≤ 99) (hf : ma_fe nc nl V x) :
    ma_DX nc nl V (d_min I kg nl nc n x) ∧ ma_fx x (d_min I kg nl nc n x) ∧ ma_fe nc nl V (d_min I kg nl nc n x) ∧ (∀ s, s < nc → ((d_min I kg nl nc n x).2.2 18 s).toInt = ma_kx nc V (d_min I kg nl nc n x) s (ma_gl x.2.1 kg nc)) ∧ (∀ s, s < nc → x.2.1 17 s = 0 → 0 ≤ ma_kx nc V (d_min I kg nl nc n x) s (ma_gl x.2.1 kg nc)) ∧ (∀ s, s < nc → ¬ x.2.1 17 s = 0 → ma_Oa (d_min I kg nl nc n x).2.1 s = ma_Oa x.2.1 s) := by
  have n1 := D.1.1
  have hgl : ∀ y : ma_X, ma_fx x y → ma_gl y.2.1 kg nc = ma_gl x.2.1 kg nc := by
    intro y hy
    funext c
    unfold ma_gl
    exact ma_sm_congr (fun i _ => by rw [hy.2.1 kg i hk1 hk2])
  have step : ∀ y : ma_X, ma_DX nc nl V y → ma_fx x y → ma_fe nc nl V y → ma_mgo I kg nl nc y → ma_mr0 I kg nl nc y < nl ∧ ma_ms0 I kg nl nc y < nc ∧ x.2.1 17 (ma_ms0 I kg nl nc y) = 0 ∧ ma_kx nc V y (ma_ms0 I kg nl nc y) (ma_gl x.2.1 kg nc) < 0 ∧ (∀ s, s < nc → x.2.1 17 s = 0 → ma_Oa y.2.1 s < ma_Oa y.2.1 (ma_ms0 I kg nl nc y) → 0 ≤ ma_kx nc V y s (ma_gl x.2.1 kg nc)) ∧ ma_kx nc V y (ma_ms0 I kg nl nc y) (V (ma_Ba y.2.1 (ma_mr0 I kg nl nc y))) < 0 ∧ (∀ j, j < nc + nl → ma_kx nc V y (ma_ms0 I kg nl nc y) (V j) < 0 → ma_kx nc V y 5 (V (ma_Ba y.2.1 (ma_mr0 I kg nl nc y))) * (- ma_kx nc V y (ma_ms0 I kg nl nc y) (V j)) < ma_kx nc V y 5 (V j) * (- ma_kx nc V y (ma_ms0 I kg nl nc y) (V (ma_Ba y.2.1 (ma_mr0 I kg nl nc y)))) ∨ (ma_kx nc V y 5 (V (ma_Ba y.2.1 (ma_mr0 I kg nl nc y))) * (- ma_kx nc V y (ma_ms0 I kg nl nc y) (V j)) = ma_kx nc V y 5 (V j) * (- ma_kx nc V y (ma_ms0 I kg nl nc y) (V (ma_Ba y.2.1 (ma_mr0 I kg nl nc y)))) ∧ ma_Ba y.2.1 (ma_mr0 I kg nl nc y) ≤ j)) ∧ ma_DX nc nl V (ma_mst I kg nl nc y) ∧ (∀ s', ma_Oa (ma_mst I kg nl nc y).2.1 s' = if s' = ma_ms0 I kg nl nc y then ma_Ba y.2.1 (ma_mr0 I kg nl nc y) else ma_Oa y.2.1 s') ∧ ma_fx x (ma_mst I kg nl nc y) ∧ ma_fe nc nl V (ma_mst I kg nl nc y) := by
    intro y Dy hy hfy hgo
    have hz17 : ∀ s, y.2.1 17 s = x.2.1 17 s := fun s => hy.2.1 17 s (by decide) (by decide)
    rcases ma_min_st (I := I) (kg := kg) Dy hV hl hI (fun i hi => by rw [hy.2.1 kg i hk1 hk2]; exact hg i hi) hfy with ⟨q, -⟩ | ⟨-, q1, q2, q3, q4, q5, q6, q7⟩
    · exact absurd hgo q
    · rw [hgl y hy] at q4 q5
      rw [hz17] at q3
      obtain ⟨Dm, Fm⟩ := ma_ms_D (I := I) (kg := kg) Dy
      obtain ⟨p1, p2, p3, p4⟩ := ma_fx_pv (x := ma_ms I kg nl nc y) Dm q1 q2 (Int.ne_of_lt q6)
      refine ⟨q1, q2, q3, q4, fun s hs hz => q5 s hs (by rw [hz17]; exact hz), q6, q7, p1, p3, ma_fx_t (ma_fx_t hy Fm) p4, fun j hj => ?_⟩
      show 0 ≤ ma_k (ma_oo nc V (ma_mst I kg nl nc y).2.1) 5 (V j)
      have e : ma_oo nc V (ma_mst I kg nl nc y).2.1 = ma_rw (ma_oo nc V y.2.1) (ma_ms0 I kg nl nc y) (V (ma_Ba y.2.1 (ma_mr0 I kg nl nc y))) := p2
      rw [e]
      have h := ma_piv_j Dy.2.1.1 (show ma_ms0 I kg nl nc y < 6 by omega) (show 5 < 6 by omega) (by omega) (Int.ne_of_lt q6) (V j)
      have ht : ma_t (ma_kx nc V y (ma_ms0 I kg nl nc y) (V (ma_Ba y.2.1 (ma_mr0 I kg nl nc y)))) = -1 := if_neg (by omega)
      have ht : ma_t (ma_k (ma_oo nc V y.2.1) (ma_ms0 I kg nl nc y) (V (ma_Ba y.2.1 (ma_mr0 I kg nl nc y)))) = -1 := ht
      rw [ht] at h
      have hj5 : 0 ≤ ma_k (ma_oo nc V y.2.1) 5 (V j) := hfy j hj
      have ht5 : 0 ≤ ma_k (ma_oo nc V y.2.1) 5 (V (ma_Ba y.2.1 (ma_mr0 I kg nl nc y))) := hfy _ (Dy.2.2.2.2.1 _ q1).2
      have hu := ma_u_pos Dy.2.1.2
      have q7j := q7 j hj
      unfold ma_kx at q6 q7j
      generalize ma_k (ma_oo nc V y.2.1) 5 (V j) = A at *
      generalize ma_k (ma_oo nc V y.2.1) 5 (V (ma_Ba y.2.1 (ma_mr0 I kg nl nc y))) = B at *
      generalize ma_k (ma_oo nc V y.2.1) (ma_ms0 I kg nl nc y) (V j) = C at *
      generalize ma_k (ma_oo nc V y.2.1) (ma_ms0 I kg nl nc y) (V (ma_Ba y.2.1 (ma_mr0 I kg nl nc y))) = P at *
      generalize ma_u (ma_oo nc V y.2.1) = U at *
      generalize ma_k (ma_rw (ma_oo nc V y.2.1) (ma_ms0 I kg nl nc y) (V (ma_Ba y.2.1 (ma_mr0 I kg nl nc y)))) 5 (V j) = Z at *
      have h2 : U * Z = A * (-P) - B * (-C) := by rw [h]; grind
      have h3 : 0 ≤ U * Z := by
        by_cases hC : C < 0
        · rcases q7j hC with w | ⟨w, -⟩
          · omega
          · omega
        · have w1 : 0 ≤ A * (-P) := Int.mul_nonneg hj5 (by omega)
          have w2 : 0 ≤ B * C := Int.mul_nonneg ht5 (by omega)
          rw [Int.mul_neg B C] at h2
          omega
      apply Classical.byContradiction
      intro hneg
      have := Int.mul_neg_of_pos_of_neg hu (show Z < 0 by omega)
      omega
  have all : ∀ c, (∀ c', c' < c → ma_mgo I kg nl nc (ma_it (ma_mst I kg nl nc) x c')) → ma_DX nc nl V (ma_it (ma_mst I kg nl nc) x c) ∧ ma_fx x (ma_it (ma_mst I kg nl nc) x c) ∧ ma_fe nc nl V (ma_it (ma_mst I kg nl nc) x c) ∧ (∀ s, s < nc → ¬ x.2.1 17 s = 0 → ma_Oa (ma_it (ma_mst I kg nl nc) x c).2.1 s = ma_Oa x.2.1 s) := by
    intro c
    induction c with
    | zero => intro _; exact ⟨D, ma_fx_r x, hf, fun _ _ _ => rfl⟩
    | succ c ih =>
      intro h
      obtain ⟨i1, i2, i3, i4⟩ := ih (fun c' hc' => h c' (by omega))
      obtain ⟨-, -, s3, -, -, -, -, s8, s9, s10, s11⟩ := step _ i1 i2 i3 (h c (by omega))
      refine ⟨s8, s10, s11, fun s hs hz => ?_⟩
      have : ma_Oa (ma_mst I kg nl nc (ma_it (ma_mst I kg nl nc) x c)).2.1 s = ma_Oa x.2.1 s := by
        rw [s9 s, if_neg (fun (q : s = _) => hz (q ▸ s3))]
        exact i4 s hs hz
      exact this
  rcases ma_min_it I kg nl nc n x with h | ⟨c, h1, h2, h3, h4⟩
  · exfalso
    have hA : ∀ c, c ≤ n → _ := fun c hc => all c (fun c' hc' => h c' (by omega))
    have R : ma_run nc (nc + nl) n V (fun c => ma_u (ma_oo nc V (ma_it (ma_mst I kg nl nc) x c).2.1)) (fun c => ma_kx nc V (ma_it (ma_mst I kg nl nc) x c)) (fun c => ma_Oa (ma_it (ma_mst I kg nl nc) x c).2.1) (fun c => ma_ms0 I kg nl nc (ma_it (ma_mst I kg nl nc) x c)) (fun c => ma_Ba (ma_it (ma_mst I kg nl nc) x c).2.1 (ma_mr0 I kg nl nc (ma_it (ma_mst I kg nl nc) x c))) := by
      refine ⟨fun c hc => ma_DI_LP (hA c hc).1, fun c hc s hs => ((hA c hc).1.2.2.2.1 s hs).2, fun c hc => ?_⟩
      obtain ⟨a1, a2, a3, a4⟩ := hA c (by omega)
      obtain ⟨t1, t2, -, -, -, -, -, -, t9, -, -⟩ := step _ a1 a2 a3 (h c hc)
      refine ⟨t2, fun s hs => t9 s, fun s hs => ?_⟩
      exact fun q => a1.2.2.2.2.2.2.2.2.1 _ s t1 hs q.symm
    have := ma_primal_run n1 R (ma_gl x.2.1 kg nc) (fun s => ¬ x.2.1 17 s = 0) (fun c hc => (hA c hc).2.2.1) (fun c hc => by
      obtain ⟨a1, a2, a3, a4⟩ := hA c (by omega)
      obtain ⟨t1, t2, t3, t4, t5, t6, t7, -, -, -, -⟩ := step _ a1 a2 a3 (h c hc)
      exact ⟨fun q => q t3, t4, fun s hs hz => t5 s hs (Classical.not_not.mp hz), t6, t7⟩)
    have hb := ma_ch_b nc n1 (nc + nl) hN
    omega
  · obtain ⟨i1, i2, i3, i4⟩ := all c h2
    obtain ⟨Dm, Fm⟩ := ma_ms_D (I := I) (kg := kg) i1
    rw [h4]
    have hgy : ∀ i, i < nc → ((ma_it (ma_mst I kg nl nc) x c).2.1 kg i).toInt.natAbs ≤ 99 := fun i hi => by rw [i2.2.1 kg i hk1 hk2]; exact hg i hi
    refine ⟨Dm, ma_fx_t i2 Fm, i3, fun s hs => ?_, fun s hs hz => ?_, i4⟩
    · have := ma_slopes i1 hV hI hgy s hs
      rw [hgl _ i2] at this
      exact this
    · rcases ma_min_st (I := I) (kg := kg) i1 hV hl hI hgy i3 with ⟨-, q⟩ | ⟨q, -⟩
      · have := q s hs (by rw [i2.2.1 17 s (by decide) (by decide)]; exact hz)
        rw [hgl _ i2] at this
        exact this
      · exact absurd q h3
end
section
/-! THE MATHEMATICS, 10: the dictionary as canKeep begins it -/
theorem ma_bm32 {x : Int} (h : x.natAbs ≤ 2000000000) : x.bmod (2 ^ 32) = x := Int.bmod_eq_of_le (by omega) (by omega)
theorem ma_mul3 {x y : Int32} {p q : Int} (hx : x.toInt = p) (hy : y.toInt = q) (h : (p * q).natAbs ≤ 2000000000) : (x * y).toInt = p * q := by
  rw [Int32.toInt_mul, hx, hy, ma_bm32 h]
theorem ma_sub3 {x y : Int32} {p q : Int} (hx : x.toInt = p) (hy : y.toInt = q) (h : (p - q).natAbs ≤ 2000000000) : (x - y).toInt = p - q := by
  rw [Int32.toInt_sub, hx, hy, ma_bm32 h]
theorem ma_add3 {x y : Int32} {p q : Int} (hx : x.toInt = p) (hy : y.toInt = q) (h : (p + q).natAbs ≤ 2000000000) : (x + y).toInt = p + q := by
  rw [Int32.toInt_add, hx, hy, ma_bm32 h]
theorem ma_neg3 {x : Int32} {p : Int} (hx : x.toInt = p) (h : p.natAbs ≤ 2000000000) : (-x).toInt = -p := by
  rw [Int32.toInt_neg, hx, ma_bm32 (by omega)]
theorem ma_e03 {x : Int32} : x = 0 ↔ x.toInt = 0 := by rw [← Int32.toInt_inj]; rfl
/-- a line of the dictionary at its beginning -/
def ma_ln (b : gL) (nn l : Nat) (f : Nat → Int) (r : Int) : Prop := (∀ s, s < nn → (b (48 + l) s).toInt = f s) ∧ (b 14 l).toInt = r
def ma_bf (I I' a a' : gF) (b b' : gL) : Prop := (∀ k j, k ≠ 15 → k ≠ 16 → k ≠ 17 → k ≠ 19 → a' k j = a k j) ∧ (∀ k j, k ≠ 14 → (k < 48 ∨ 69 ≤ k) → b' k j = b k j) ∧ (∀ k j, ¬ (k = 4 ∧ j = 7) → ¬ (k = 4 ∧ j = 8) → I' k j = I k j)
theorem ma_bf_t {I I' I'' a a' a'' : gF} {b b' b'' : gL} (h1 : ma_bf I I' a a' b b') (h2 : ma_bf I' I'' a' a'' b' b'') : ma_bf I I'' a a'' b b'' := ⟨fun k j q1 q2 q3 q4 => (h2.1 k j q1 q2 q3 q4).trans (h1.1 k j q1 q2 q3 q4), fun k j q1 q2 => (h2.2.1 k j q1 q2).trans (h1.2.1 k j q1 q2), fun k j q1 q2 => (h2.2.2 k j q1 q2).trans (h1.2.2 k j q1 q2)⟩
/-- what stands while lines are added: how many, and which variables -/
def ma_BI (nn nl : Nat) (x : gF × gF × gL) : Prop := x.1 4 7 = nI nl ∧ x.1 4 8 = nI nn ∧ (∀ l, l < nl → x.2.1 15 l = nI (nn + l)) ∧ (∀ s, s < nn → x.2.1 16 s = nI s ∧ x.2.1 17 s = 0)
theorem ma_addL {a : gF} {b : gL} {kf nl : Nat} {sg : Int32} : ∀ n k j, d_addL a b kf nl sg n k j = if k = 48 + nl ∧ j < n then (sg * a kf j).toInt64 else b k j
  | 0, k, j => by
    rw [if_neg (by omega)]
    rfl
  | n + 1, k, j => by
    show gU (d_addL a b kf nl sg n) (48 + nl) n (sg * a kf n).toInt64 k j = _
    by_cases h : k = 48 + nl ∧ j = n
    · obtain ⟨rfl, rfl⟩ := h
      rw [gU_s, if_pos (by omega)]
    · rw [gU_n (by omega), ma_addL]
      by_cases h2 : k = 48 + nl ∧ j < n
      · rw [if_pos h2, if_pos (by omega)]
      · rw [if_neg h2, if_neg (by omega)]
theorem ma_add1 {I a : gF} {b : gL} {nn nl kf : Nat} {sg ri : Int32} {e r : Int} (f : Nat → Int) (hB : ma_BI nn nl (I, a, b)) (hl : nl < 21) (he : sg.toInt = e) (he2 : e = 1 ∨ e = -1) (hf : ∀ s, s < nn → (a kf s).toInt = f s ∧ (f s).natAbs ≤ 9) (hr : ri.toInt = r) :
    ma_BI nn (nl + 1) (s_add I a b kf nl nn sg ri) ∧ ma_ln (s_add I a b kf nl nn sg ri).2.2 nn nl (fun s => e * f s) r ∧ (∀ l g q, l < nl → ma_ln b nn l g q → ma_ln (s_add I a b kf nl nn sg ri).2.2 nn l g q) ∧ ma_bf I (s_add I a b kf nl nn sg ri).1 a (s_add I a b kf nl nn sg ri).2.1 b (s_add I a b kf nl nn sg ri).2.2 := by
  have hb : ∀ k j, (s_add I a b kf nl nn sg ri).2.2 k j = if k = 14 ∧ j = nl then ri.toInt64 else if k = 48 + nl ∧ j < nn then (sg * a kf j).toInt64 else b k j := by
    intro k j
    show gU (d_addL a b kf nl sg nn) 14 nl ri.toInt64 k j = _
    by_cases h : k = 14 ∧ j = nl
    · obtain ⟨rfl, rfl⟩ := h
      rw [gU_s, if_pos ⟨rfl, rfl⟩]
    · rw [gU_n (by omega), if_neg h, ma_addL]
  obtain ⟨b1, b2, b3, b4⟩ := hB
  refine ⟨⟨?_, ?_, fun l hl2 => ?_, fun s hs => ?_⟩, ⟨fun s hs => ?_, ?_⟩, fun l g q hl2 h => ⟨fun s hs => ?_, ?_⟩, fun k j q1 q2 q3 q4 => ?_, fun k j q1 q2 => ?_, fun k j q1 q2 => ?_⟩
  · show gU I 4 7 (I 4 7 + 1) 4 7 = _
    rw [gU_s]
    have b1 : I 4 7 = nI nl := b1
    rw [b1, nI_1]
  · show gU I 4 7 (I 4 7 + 1) 4 8 = _
    rw [gU_n (by omega)]
    exact b2
  · show gU a 15 nl (I 4 8 + I 4 7) 15 l = _
    by_cases h : l = nl
    · rw [h, gU_s]
      have b1 : I 4 7 = nI nl := b1
      have b2 : I 4 8 = nI nn := b2
      rw [b1, b2, nI_add]
    · rw [gU_n (by omega)]
      exact b3 l (by omega)
  · show gU a 15 nl (I 4 8 + I 4 7) 16 s = _ ∧ gU a 15 nl (I 4 8 + I 4 7) 17 s = _
    rw [gU_n (by omega), gU_n (by omega)]
    exact b4 s hs
  · rw [hb, if_neg (by omega), if_pos ⟨rfl, hs⟩, Int32.toInt_toInt64]
    obtain ⟨f1, f2⟩ := hf s hs
    exact ma_mul3 he f1 (by rcases he2 with q | q <;> rw [q] <;> omega)
  · rw [hb, if_pos ⟨rfl, rfl⟩, Int32.toInt_toInt64]
    exact hr
  · rw [hb, if_neg (by omega), if_neg (by omega)]
    exact h.1 s hs
  · rw [hb, if_neg (by omega), if_neg (by omega)]
    exact h.2
  · show gU a 15 nl (I 4 8 + I 4 7) k j = _
    rw [gU_n (by omega)]
  · rw [hb, if_neg (by omega), if_neg (by omega)]
  · show gU I 4 7 (I 4 7 + 1) k j = _
    rw [gU_n (by omega)]
theorem ma_ids {a : gF} : ∀ n k j, d_ids a n k j = if k = 16 ∧ j < n then nI j else a k j
  | 0, k, j => by
    rw [if_neg (by omega)]
    rfl
  | n + 1, k, j => by
    show gU (d_ids a n) 16 n (nI n) k j = _
    by_cases h : k = 16 ∧ j = n
    · obtain ⟨rfl, rfl⟩ := h
      rw [gU_s, if_pos (by omega)]
    · rw [gU_n (by omega), ma_ids]
      by_cases h2 : k = 16 ∧ j < n
      · rw [if_pos h2, if_pos (by omega)]
      · rw [if_neg h2, if_neg (by omega)]
theorem ma_thaw {a : gF} : ∀ n k j, d_thaw a n k j = if k = 17 ∧ j < n then 0 else a k j
  | 0, k, j => by
    rw [if_neg (by omega)]
    rfl
  | n + 1, k, j => by
    show gU (d_thaw a n) 17 n 0 k j = _
    by_cases h : k = 17 ∧ j = n
    · obtain ⟨rfl, rfl⟩ := h
      rw [gU_s, if_pos (by omega)]
    · rw [gU_n (by omega), ma_thaw]
      by_cases h2 : k = 17 ∧ j < n
      · rw [if_pos h2, if_pos (by omega)]
      · rw [if_neg h2, if_neg (by omega)]
theorem ma_aim {a : gF} {x w : Int32} : ∀ n k j, s_aim a x w n k j = if k = 19 ∧ j < n then (if nI j = x then w else 0) else a k j
  | 0, k, j => by
    rw [if_neg (by omega)]
    rfl
  | n + 1, k, j => by
    have e : s_aim a x w (n + 1) = gU (s_aim a x w n) 19 n (if nI n = x then w else 0) := by
      show (if nI n = x then gU (s_aim a x w n) 19 n w else gU (s_aim a x w n) 19 n 0) = _
      split <;> rfl
    rw [e]
    by_cases h : k = 19 ∧ j = n
    · obtain ⟨rfl, rfl⟩ := h
      rw [gU_s, if_pos (show 19 = 19 ∧ j < j + 1 by omega)]
    · rw [gU_n (by omega), ma_aim]
      by_cases h2 : k = 19 ∧ j < n
      · rw [if_pos h2, if_pos (show k = 19 ∧ j < n + 1 by omega)]
      · rw [if_neg h2, if_neg (show ¬ (k = 19 ∧ j < n + 1) by omega)]
/-- the numbers of a problem are within the document's bounds -/
def ma_dat (nn nr : Nat) (a : gF) : Prop := nn ≤ 5 ∧ nr ≤ 8 ∧ (∀ i, i < nn → -100 ≤ (a 6 i).toInt ∧ (a 6 i).toInt ≤ (a 7 i).toInt ∧ (a 7 i).toInt ≤ 100 ∧ (a 8 i).toInt.natAbs ≤ 99) ∧ (∀ r, r < nr → (a 10 r).toInt.natAbs ≤ 1000 ∧ (a 9 r = 0 ∨ a 9 r = 1 ∨ a 9 r = 2) ∧ ∀ i, i < nn → (a (40 + r) i).toInt.natAbs ≤ 9)
def ma_lo (a : gF) (nn : Nat) (f : Nat → Int) : Int := ma_sm (fun i => f i * (a 6 i).toInt) nn
theorem ma_rt {a : gF} {nn nr r : Nat} (hd : ma_dat nn nr a) (hr : r < nr) : ∀ n, n ≤ nn → (s_rt a r n).toInt = (a 10 r).toInt - ma_sm (fun i => (a (40 + r) i).toInt * (a 6 i).toInt) n ∧ (ma_sm (fun i => (a (40 + r) i).toInt * (a 6 i).toInt) n).natAbs ≤ n * 900
  | 0, _ => ⟨by show (a 10 r).toInt = _ - 0; omega, Nat.le_refl _⟩
  | n + 1, hn => by
    obtain ⟨i1, i2⟩ := ma_rt hd hr n (by omega)
    obtain ⟨d1, d2, d3, d4⟩ := hd
    have l1 := d3 n (by omega)
    have f1 := (d4 r hr).2.2 n (by omega)
    have r1 := (d4 r hr).1
    have m1 := ma_mb f1 (show (a 6 n).toInt.natAbs ≤ 100 by omega)
    have m2 : (a (40 + r) n * a 6 n).toInt = (a (40 + r) n).toInt * (a 6 n).toInt := ma_mul3 rfl rfl (by omega)
    have b2 : (ma_sm (fun i => (a (40 + r) i).toInt * (a 6 i).toInt) n + (a (40 + r) n).toInt * (a 6 n).toInt).natAbs ≤ (n + 1) * 900 := by omega
    refine ⟨?_, b2⟩
    show (s_rt a r n - a (40 + r) n * a 6 n).toInt = (a 10 r).toInt - (ma_sm (fun i => (a (40 + r) i).toInt * (a 6 i).toInt) n + (a (40 + r) n).toInt * (a 6 n).toInt)
    rw [ma_sub3 i1 m2 (by omega)]
    omega
theorem ma_s_rt_congr {a a' : gF} {r : Nat} (h1 : a' 10 r = a 10 r) (h2 : ∀ i, a' (40 + r) i = a (40 + r) i) (h3 : ∀ i, a' 6 i = a 6 i) : ∀ n, s_rt a' r n = s_rt a r n
  | 0 => h1
  | n + 1 => by
    show s_rt a' r n - a' (40 + r) n * a' 6 n = s_rt a r n - a (40 + r) n * a 6 n
    rw [ma_s_rt_congr h1 h2 h3 n, h2, h3]
theorem ma_kn {I a : gF} {b : gL} {nn nr : Nat} (hd : ma_dat nn nr a) : ∀ n, n ≤ nn → ma_BI nn n (s_kn I a b nn n) ∧ (∀ l, l < n → ma_ln (s_kn I a b nn n).2.2 nn l (ma_e l) ((a 7 l).toInt - (a 6 l).toInt)) ∧ ma_bf I (s_kn I a b nn n).1 a (s_kn I a b nn n).2.1 b (s_kn I a b nn n).2.2
  | 0, _ => by
    have e : s_kn I a b nn 0 = (gU (gU I 4 8 (nI nn)) 4 7 0, d_thaw (d_ids a nn) nn, b) := rfl
    rw [e]
    refine ⟨⟨gU_s (f := gU I 4 8 (nI nn)) (k := 4) (j := 7), ?_, fun l h => by omega, fun s hs => ⟨?_, ?_⟩⟩, fun l h => by omega, fun k j q1 q2 q3 q4 => ?_, fun _ _ _ _ => rfl, fun k j q1 q2 => ?_⟩
    · show gU (gU I 4 8 (nI nn)) 4 7 0 4 8 = _
      rw [gU_n (by omega), gU_s]
    · show d_thaw (d_ids a nn) nn 16 s = _
      rw [ma_thaw, if_neg (by omega), ma_ids, if_pos ⟨rfl, hs⟩]
    · show d_thaw (d_ids a nn) nn 17 s = _
      rw [ma_thaw, if_pos ⟨rfl, hs⟩]
    · show d_thaw (d_ids a nn) nn k j = _
      rw [ma_thaw, if_neg (by omega), ma_ids, if_neg (by omega)]
    · show gU (gU I 4 8 (nI nn)) 4 7 0 k j = _
      rw [gU_n (by omega), gU_n (by omega)]
  | n + 1, hn => by
    obtain ⟨i1, i2, i3⟩ := ma_kn (I := I) (b := b) hd n (by omega)
    obtain ⟨d1, d2, d3, d4⟩ := hd
    have hA : ∀ k j, k ≠ 19 → s_aim (s_kn I a b nn n).2.1 (nI n) 1 5 k j = (s_kn I a b nn n).2.1 k j := fun k j h => by rw [ma_aim, if_neg (by omega)]
    have e7 : s_aim (s_kn I a b nn n).2.1 (nI n) 1 5 7 n = a 7 n := by rw [hA _ _ (by omega), i3.1 _ _ (by omega) (by omega) (by omega) (by omega)]
    have e6 : s_aim (s_kn I a b nn n).2.1 (nI n) 1 5 6 n = a 6 n := by rw [hA _ _ (by omega), i3.1 _ _ (by omega) (by omega) (by omega) (by omega)]
    have hB : ma_BI nn n ((s_kn I a b nn n).1, s_aim (s_kn I a b nn n).2.1 (nI n) 1 5, (s_kn I a b nn n).2.2) := by
      refine ⟨i1.1, i1.2.1, fun l hl => ?_, fun s hs => ?_⟩
      · show s_aim (s_kn I a b nn n).2.1 (nI n) 1 5 15 l = _
        rw [hA _ _ (by omega)]
        exact i1.2.2.1 l hl
      · show s_aim (s_kn I a b nn n).2.1 (nI n) 1 5 16 s = _ ∧ s_aim (s_kn I a b nn n).2.1 (nI n) 1 5 17 s = _
        rw [hA _ _ (by omega), hA _ _ (by omega)]
        exact i1.2.2.2 s hs
    have l1 := d3 n (by omega)
    obtain ⟨q1, q2, q3, q4⟩ := ma_add1 (kf := 19) (sg := 1) (ri := s_aim (s_kn I a b nn n).2.1 (nI n) 1 5 7 n - s_aim (s_kn I a b nn n).2.1 (nI n) 1 5 6 n) (e := 1) (r := (a 7 n).toInt - (a 6 n).toInt) (ma_e n) hB (by omega) rfl (Or.inl rfl) (fun s hs => by
      rw [ma_aim, if_pos ⟨rfl, by omega⟩]
      unfold ma_e
      by_cases q : s = n
      · rw [if_pos (by rw [q]), if_pos q]
        exact ⟨rfl, by decide⟩
      · rw [if_neg (by rw [nI_eq (by omega) (by omega)]; exact q), if_neg q]
        exact ⟨rfl, by decide⟩) (by
      rw [e7, e6]
      exact ma_sub3 rfl rfl (by omega))
    refine ⟨q1, fun l hl => ?_, ma_bf_t i3 (ma_bf_t ⟨fun k j a1 a2 a3 a4 => hA k j a4, fun _ _ _ _ => rfl, fun _ _ _ _ => rfl⟩ q4)⟩
    by_cases h : l = n
    · subst h
      refine ⟨fun s hs => ?_, q2.2⟩
      have this : _ = 1 * ma_e l s := q2.1 s hs
      rw [Int.one_mul] at this
      exact this
    · exact q3 l _ _ (by omega) (i2 l (by omega))
/-- the lines of the rows in a set -/
def ma_La (a : gF) (b : gL) (nn l r : Nat) : Prop := p_above a r ≠ 0 ∧ ma_ln b nn l (fun s => (a (40 + r) s).toInt) ((a 10 r).toInt - ma_sm (fun i => (a (40 + r) i).toInt * (a 6 i).toInt) nn)
def ma_Lb (a : gF) (b : gL) (nn l r : Nat) : Prop := p_below a r ≠ 0 ∧ ma_ln b nn l (fun s => -(a (40 + r) s).toInt) (-((a 10 r).toInt - ma_sm (fun i => (a (40 + r) i).toInt * (a 6 i).toInt) nn))
theorem ma_above_c {a a' : gF} {r : Nat} (h : a' 9 r = a 9 r) : p_above a' r = p_above a r ∧ p_below a' r = p_below a r := by
  unfold p_above p_below
  rw [h]
  exact ⟨rfl, rfl⟩
theorem ma_rowS {I a : gF} {b : gL} {nn nr nl r : Nat} {x : gF × gF × gL} (hd : ma_dat nn nr a) (hr : r < nr) (hB : ma_BI nn nl x) (hl : nl + 1 < 21) (hf : ma_bf I x.1 a x.2.1 b x.2.2) :
    ma_BI nn (s_nl x.2.1 r nl) (s_row x.1 x.2.1 x.2.2 r nl nn) ∧ nl ≤ s_nl x.2.1 r nl ∧ s_nl x.2.1 r nl ≤ nl + 2 ∧ (∀ l g q, l < nl → ma_ln x.2.2 nn l g q → ma_ln (s_row x.1 x.2.1 x.2.2 r nl nn).2.2 nn l g q) ∧ ma_bf I (s_row x.1 x.2.1 x.2.2 r nl nn).1 a (s_row x.1 x.2.1 x.2.2 r nl nn).2.1 b (s_row x.1 x.2.1 x.2.2 r nl nn).2.2 ∧ (∀ l, nl ≤ l → l < s_nl x.2.1 r nl → ma_La a (s_row x.1 x.2.1 x.2.2 r nl nn).2.2 nn l r ∨ ma_Lb a (s_row x.1 x.2.1 x.2.2 r nl nn).2.2 nn l r) ∧ (p_above a r ≠ 0 → ∃ l, nl ≤ l ∧ l < s_nl x.2.1 r nl ∧ ma_La a (s_row x.1 x.2.1 x.2.2 r nl nn).2.2 nn l r) ∧ (p_below a r ≠ 0 → ∃ l, nl ≤ l ∧ l < s_nl x.2.1 r nl ∧ ma_Lb a (s_row x.1 x.2.1 x.2.2 r nl nn).2.2 nn l r) := by
  obtain ⟨xI, xa, xb⟩ := x
  have h9 : xa 9 r = a 9 r := hf.1 9 r (by omega) (by omega) (by omega) (by omega)
  have h10 : xa 10 r = a 10 r := hf.1 10 r (by omega) (by omega) (by omega) (by omega)
  have h6 : ∀ i, xa 6 i = a 6 i := fun i => hf.1 6 i (by omega) (by omega) (by omega) (by omega)
  have h40 : ∀ i, xa (40 + r) i = a (40 + r) i := fun i => hf.1 (40 + r) i (by omega) (by omega) (by omega) (by omega)
  have ert : s_rt xa r nn = s_rt a r nn := ma_s_rt_congr h10 h40 h6 nn
  obtain ⟨t1, t2⟩ := ma_rt hd hr nn (Nat.le_refl _)
  obtain ⟨eA, eB⟩ := ma_above_c (a := a) (a' := xa) h9
  obtain ⟨d1, d2, d3, d4⟩ := hd
  have hfa : ∀ s, s < nn → (xa (40 + r) s).toInt = (a (40 + r) s).toInt ∧ ((a (40 + r) s).toInt).natAbs ≤ 9 := fun s hs => ⟨by rw [h40], (d4 r hr).2.2 s hs⟩
  have r1 := (d4 r hr).1
  have hB : ma_BI nn nl (xI, xa, xb) := hB
  show ma_BI nn (s_nl xa r nl) (s_row xI xa xb r nl nn) ∧ _ ∧ _ ∧ _ ∧ _ ∧ _ ∧ _ ∧ _
  by_cases cA : p_above a r = 0
  · by_cases cB : p_below a r = 0
    · exfalso
      unfold p_above at cA
      unfold p_below at cB
      rcases (d4 r hr).2.1 with q | q | q <;> rw [q] at cA cB <;> revert cA cB <;> decide
    · have en : s_nl xa r nl = nl + 1 := by unfold s_nl; rw [eA, eB, if_pos cA, if_neg cB]
      have es : s_row xI xa xb r nl nn = s_add xI xa xb (40 + r) nl nn (-1) (-s_rt xa r nn) := by unfold s_row; rw [eA, eB, if_pos cA, if_neg cB]
      obtain ⟨q1, q2, q3, q4⟩ := ma_add1 (kf := 40 + r) (sg := -1) (ri := -s_rt xa r nn) (e := -1) (r := -((a 10 r).toInt - ma_sm (fun i => (a (40 + r) i).toInt * (a 6 i).toInt) nn)) (fun s => (a (40 + r) s).toInt) hB (by omega) (by decide) (Or.inr rfl) hfa (by
        rw [ert]
        exact ma_neg3 t1 (by omega))
      have hL : ma_Lb a (s_add xI xa xb (40 + r) nl nn (-1) (-s_rt xa r nn)).2.2 nn nl r := ⟨cB, fun s hs => by
        have := q2.1 s hs
        rw [this]
        show (-1 : Int) * (a (40 + r) s).toInt = -(a (40 + r) s).toInt
        omega, q2.2⟩
      rw [en, es]
      refine ⟨q1, by omega, by omega, q3, ma_bf_t hf q4, fun l h1 h2 => ?_, fun h => absurd cA h, fun _ => ⟨nl, by omega, by omega, hL⟩⟩
      have : l = nl := by omega
      rw [this]
      exact Or.inr hL
  · obtain ⟨q1, q2, q3, q4⟩ := ma_add1 (kf := 40 + r) (sg := 1) (ri := s_rt xa r nn) (e := 1) (r := (a 10 r).toInt - ma_sm (fun i => (a (40 + r) i).toInt * (a 6 i).toInt) nn) (fun s => (a (40 + r) s).toInt) hB (by omega) (by decide) (Or.inl rfl) hfa (by rw [ert]; exact t1)
    have eB2 : p_below (gU xa 15 nl (xI 4 8 + xI 4 7)) r = p_below a r := (ma_above_c (a := a) (by rw [gU_n (by omega), h9])).2
    have hL : ma_La a (s_add xI xa xb (40 + r) nl nn 1 (s_rt xa r nn)).2.2 nn nl r := ⟨cA, fun s hs => by
      have := q2.1 s hs
      rw [this]
      show (1 : Int) * (a (40 + r) s).toInt = (a (40 + r) s).toInt
      omega, q2.2⟩
    by_cases cB : p_below a r = 0
    · have en : s_nl xa r nl = nl + 1 := by unfold s_nl; rw [eA, eB, if_neg cA, if_pos cB]
      have es : s_row xI xa xb r nl nn = s_add xI xa xb (40 + r) nl nn 1 (s_rt xa r nn) := by unfold s_row; rw [eA, if_neg cA, eB2, if_pos cB]
      rw [en, es]
      refine ⟨q1, by omega, by omega, q3, ma_bf_t hf q4, fun l h1 h2 => ?_, fun _ => ⟨nl, by omega, by omega, hL⟩, fun h => absurd cB h⟩
      have : l = nl := by omega
      rw [this]
      exact Or.inl hL
    · have en : s_nl xa r nl = nl + 1 + 1 := by unfold s_nl; rw [eA, eB, if_neg cA, if_neg cB]
      have es : s_row xI xa xb r nl nn = s_add (s_add xI xa xb (40 + r) nl nn 1 (s_rt xa r nn)).1 (s_add xI xa xb (40 + r) nl nn 1 (s_rt xa r nn)).2.1 (s_add xI xa xb (40 + r) nl nn 1 (s_rt xa r nn)).2.2 (40 + r) (nl + 1) nn (-1) (-s_rt xa r nn) := by
        unfold s_row
        rw [eA, if_neg cA, eB2, if_neg cB]
        rfl
      have h40' : ∀ i, (s_add xI xa xb (40 + r) nl nn 1 (s_rt xa r nn)).2.1 (40 + r) i = a (40 + r) i := fun i => (q4.1 (40 + r) i (by omega) (by omega) (by omega) (by omega)).trans (h40 i)
      obtain ⟨w1, w2, w3, w4⟩ := ma_add1 (I := (s_add xI xa xb (40 + r) nl nn 1 (s_rt xa r nn)).1) (a := (s_add xI xa xb (40 + r) nl nn 1 (s_rt xa r nn)).2.1) (b := (s_add xI xa xb (40 + r) nl nn 1 (s_rt xa r nn)).2.2) (kf := 40 + r) (sg := -1) (ri := -s_rt xa r nn) (e := -1) (r := -((a 10 r).toInt - ma_sm (fun i => (a (40 + r) i).toInt * (a 6 i).toInt) nn)) (fun s => (a (40 + r) s).toInt) q1 (by omega) (by decide) (Or.inr rfl) (fun s hs => ⟨by rw [h40'], (d4 r hr).2.2 s hs⟩) (by
        rw [ert]
        exact ma_neg3 t1 (by omega))
      have hL2 : ma_Lb a (s_row xI xa xb r nl nn).2.2 nn (nl + 1) r := by
        rw [es]
        exact ⟨cB, fun s hs => by
          have := w2.1 s hs
          rw [this]
          show (-1 : Int) * (a (40 + r) s).toInt = -(a (40 + r) s).toInt
          omega, w2.2⟩
      have hL1 : ma_La a (s_row xI xa xb r nl nn).2.2 nn nl r := by
        rw [es]
        exact ⟨cA, w3 nl _ _ (by omega) hL.2⟩
      rw [en]
      refine ⟨by rw [es]; exact w1, by omega, by omega, fun l g q h1 h2 => ?_, ?_, fun l h1 h2 => ?_, fun _ => ⟨nl, by omega, by omega, hL1⟩, fun _ => ⟨nl + 1, by omega, by omega, hL2⟩⟩
      · rw [es]
        exact w3 l g q (by omega) (q3 l g q h1 h2)
      · rw [es]
        exact ma_bf_t hf (ma_bf_t q4 w4)
      · by_cases q : l = nl
        · rw [q]; exact Or.inl hL1
        · have : l = nl + 1 := by omega
          rw [this]; exact Or.inr hL2
theorem ma_kr {I a : gF} {b : gL} {nn nr : Nat} {set : Int32} (hd : ma_dat nn nr a) : ∀ n, n ≤ nr → ma_BI nn (s_kr I a b nn set n).2 (s_kr I a b nn set n).1 ∧ nn ≤ (s_kr I a b nn set n).2 ∧ (s_kr I a b nn set n).2 ≤ nn + 2 * n ∧ (∀ l, l < nn → ma_ln (s_kr I a b nn set n).1.2.2 nn l (ma_e l) ((a 7 l).toInt - (a 6 l).toInt)) ∧ ma_bf I (s_kr I a b nn set n).1.1 a (s_kr I a b nn set n).1.2.1 b (s_kr I a b nn set n).1.2.2 ∧ (∀ l, nn ≤ l → l < (s_kr I a b nn set n).2 → ∃ r, r < n ∧ s_bit set r ≠ 0 ∧ (ma_La a (s_kr I a b nn set n).1.2.2 nn l r ∨ ma_Lb a (s_kr I a b nn set n).1.2.2 nn l r)) ∧ (∀ r, r < n → s_bit set r ≠ 0 → (p_above a r ≠ 0 → ∃ l, nn ≤ l ∧ l < (s_kr I a b nn set n).2 ∧ ma_La a (s_kr I a b nn set n).1.2.2 nn l r) ∧ (p_below a r ≠ 0 → ∃ l, nn ≤ l ∧ l < (s_kr I a b nn set n).2 ∧ ma_Lb a (s_kr I a b nn set n).1.2.2 nn l r))
  | 0, _ => by
    obtain ⟨i1, i2, i3⟩ := ma_kn (I := I) (b := b) hd nn (Nat.le_refl _)
    refine ⟨i1, Nat.le_refl _, Nat.le_refl _, i2, i3, fun l h1 h2 => ?_, fun r h => by omega⟩
    have h2 : l < nn := h2
    omega
  | n + 1, hn => by
    obtain ⟨i1, i2, i3, i4, i5, i6, i7⟩ := ma_kr (I := I) (b := b) (set := set) hd n (by omega)
    have d1 := hd.1
    have d2 := hd.2.1
    have e : s_kr I a b nn set (n + 1) = if s_bit set n = 0 then s_kr I a b nn set n else (s_row (s_kr I a b nn set n).1.1 (s_kr I a b nn set n).1.2.1 (s_kr I a b nn set n).1.2.2 n (s_kr I a b nn set n).2 nn, s_nl (s_kr I a b nn set n).1.2.1 n (s_kr I a b nn set n).2) := rfl
    by_cases hb : s_bit set n = 0
    · rw [e, if_pos hb]
      refine ⟨i1, i2, by omega, i4, i5, fun l h1 h2 => ?_, fun r h1 h2 => ?_⟩
      · obtain ⟨r, q1, q2, q3⟩ := i6 l h1 h2
        exact ⟨r, by omega, q2, q3⟩
      · by_cases q : r = n
        · rw [q] at h2; exact absurd hb h2
        · exact i7 r (by omega) h2
    · rw [e, if_neg hb]
      obtain ⟨w1, w2, w3, w4, w5, w6, w7, w8⟩ := ma_rowS (I := I) (b := b) hd (show n < nr by omega) i1 (by omega) i5
      have up1 : ∀ l r, l < (s_kr I a b nn set n).2 → ma_La a (s_kr I a b nn set n).1.2.2 nn l r → ma_La a (s_row (s_kr I a b nn set n).1.1 (s_kr I a b nn set n).1.2.1 (s_kr I a b nn set n).1.2.2 n (s_kr I a b nn set n).2 nn).2.2 nn l r := fun l r h1 h2 => ⟨h2.1, w4 l _ _ h1 h2.2⟩
      have up2 : ∀ l r, l < (s_kr I a b nn set n).2 → ma_Lb a (s_kr I a b nn set n).1.2.2 nn l r → ma_Lb a (s_row (s_kr I a b nn set n).1.1 (s_kr I a b nn set n).1.2.1 (s_kr I a b nn set n).1.2.2 n (s_kr I a b nn set n).2 nn).2.2 nn l r := fun l r h1 h2 => ⟨h2.1, w4 l _ _ h1 h2.2⟩
      refine ⟨w1, by show nn ≤ s_nl _ _ _; omega, by show s_nl _ _ _ ≤ _; omega, fun l hl => w4 l _ _ (by omega) (i4 l hl), w5, fun l h1 h2 => ?_, fun r h1 h2 => ?_⟩
      · by_cases q : l < (s_kr I a b nn set n).2
        · obtain ⟨r, q1, q2, q3⟩ := i6 l h1 q
          refine ⟨r, by omega, q2, ?_⟩
          rcases q3 with q3 | q3
          · exact Or.inl (up1 l r q q3)
          · exact Or.inr (up2 l r q q3)
        · exact ⟨n, by omega, hb, w6 l (by omega) h2⟩
      · by_cases q : r = n
        · rw [q]
          refine ⟨fun h => ?_, fun h => ?_⟩
          · obtain ⟨l, a1, a2, a3⟩ := w7 h
            exact ⟨l, by omega, a2, a3⟩
          · obtain ⟨l, a1, a2, a3⟩ := w8 h
            exact ⟨l, by omega, a2, a3⟩
        · obtain ⟨j1, j2⟩ := i7 r (by omega) h2
          refine ⟨fun h => ?_, fun h => ?_⟩
          · obtain ⟨l, a1, a2, a3⟩ := j1 h
            exact ⟨l, a1, by show l < s_nl _ _ _; omega, up1 l r a2 a3⟩
          · obtain ⟨l, a1, a2, a3⟩ := j2 h
            exact ⟨l, a1, by show l < s_nl _ _ _; omega, up2 l r a2 a3⟩
end
section
/-! THE MATHEMATICS, 11: points, rows, and what canKeep answers -/
/-- a row of numbers before the names, and one before the denominator -/
def ma_fm (nn : Nat) (f : Nat → Int) (r : Int) : Nat → Int := fun c => if c = 5 then r else if c < nn then f c else 0
theorem ma_sm_six {nn : Nat} (hn : nn ≤ 5) (g : Nat → Int) : ma_sm (fun k => if k < nn then g k else 0) 6 = ma_sm g nn := by
  have e : (6 : Nat) = nn + (6 - nn) := by omega
  rw [e, ma_sm_pre (6 - nn) (fun i h1 h2 => if_neg (by omega))]
  exact ma_sm_congr (fun i hi => if_pos hi)
theorem ma_fm_dot {nn : Nat} (hn : nn ≤ 5) (f : Nat → Int) (r : Int) (X : Nat → Int) : ma_dot (ma_fm nn f r) X = ma_sm (fun i => f i * X i) nn + r * X 5 := by
  unfold ma_dot
  rw [ma_sm_congr (g := fun i => (if i < nn then f i * X i else 0) + (if i = 5 then r * X 5 else 0)) (fun i hi => ?_), ma_sm_add, ma_sm_one (by decide)]
  · congr 1
    have e : (6 : Nat) = nn + (6 - nn) := by omega
    rw [e, ma_sm_pre (6 - nn) (fun i h1 h2 => if_neg (by omega))]
    exact ma_sm_congr (fun i hi => if_pos hi)
  · unfold ma_fm
    by_cases h5 : i = 5
    · rw [if_pos h5, if_neg (by omega), if_pos h5, h5]
      omega
    · rw [if_neg h5, if_neg h5]
      by_cases h : i < nn
      · rw [if_pos h, if_pos h]
        omega
      · rw [if_neg h, if_neg h]
        omega
theorem ma_fm_bd {nn : Nat} {f : Nat → Int} {r : Int} (hf : ∀ s, s < nn → (f s).natAbs ≤ 9) (hr : r.natAbs ≤ 1000) : ma_bd (ma_fm nn f r) := by
  refine ⟨fun c hc => ?_, ?_⟩
  · unfold ma_fm
    rw [if_neg (by omega)]
    by_cases h : c < nn
    · rw [if_pos h]; exact hf c h
    · rw [if_neg h]; decide
  · unfold ma_fm
    rw [if_pos rfl]
    exact hr
def ma_zr (nn : Nat) (X : Nat → Int) : Prop := ∀ i, nn ≤ i → i < 5 → X i = 0
def ma_pt (nn : Nat) (lo hi X : Nat → Int) : Prop := 0 < X 5 ∧ ma_zr nn X ∧ ∀ i, i < nn → lo i * X 5 ≤ X i ∧ X i ≤ hi i * X 5
def ma_kr1 (nn : Nat) (se ri : Int) (f X : Nat → Int) : Prop := (se ≠ 2 → ma_sm (fun i => f i * X i) nn ≤ ri * X 5) ∧ (se ≠ 0 → ri * X 5 ≤ ma_sm (fun i => f i * X i) nn)
/-- a point that keeps the spans and the rows of a set -/
def ma_fs (nn nr : Nat) (lo hi se ri : Nat → Int) (fa : Nat → Nat → Int) (R : Nat → Prop) (X : Nat → Int) : Prop := ma_pt nn lo hi X ∧ ∀ r, r < nr → R r → ma_kr1 nn (se r) (ri r) (fa r) X
def ma_C (nn : Nat) (lo hi ri : Nat → Int) (fa : Nat → Nat → Int) (c : Nat) : Nat → Int := if c < 8 then ma_fm nn (fa c) (-ri c) else if c < 13 then ma_fm nn (ma_e (c - 8)) (-lo (c - 8)) else ma_fm nn (ma_e (c - 13)) (-hi (c - 13))
def ma_th (nn nr : Nat) (R : Nat → Prop) (c : Nat) : Prop := c < 18 ∧ (c < 8 → c < nr ∧ R c) ∧ (8 ≤ c → (c - 8) % 5 < nn)
abbrev ma_ci (a : gF) (k : Nat) : Nat → Int := fun i => (a k i).toInt
abbrev ma_fa (a : gF) : Nat → Nat → Int := fun r i => (a (40 + r) i).toInt
/-- the dictionary speaks of the problem -/
def ma_CD (nn nr : Nat) (a : gF) (R : Nat → Prop) (nl : Nat) (V : Nat → Nat → Int) : Prop := ma_VN nn V ∧ nn ≤ nl ∧ nn + nl ≤ 26 ∧ (∀ X, ma_zr nn X → 0 < X 5 → ((∀ j, j < nn + nl → 0 ≤ ma_dot (V j) X) ↔ ma_fs nn nr (ma_ci a 6) (ma_ci a 7) (ma_ci a 9) (ma_ci a 10) (ma_fa a) R X)) ∧ (∀ j, j < nn + nl → ∃ c, ma_th nn nr R c ∧ ((∀ i, V j i = ma_C nn (ma_ci a 6) (ma_ci a 7) (ma_ci a 10) (ma_fa a) c i) ∨ (∀ i, V j i = - ma_C nn (ma_ci a 6) (ma_ci a 7) (ma_ci a 10) (ma_fa a) c i))) ∧ (∀ i, i < nn → V i = ma_fm nn (ma_e i) (-(a 6 i).toInt))
def ma_V (a : gF) (b : gL) (nn : Nat) : Nat → Nat → Int := fun j => if j < nn then ma_fm nn (ma_e j) (-(a 6 j).toInt) else ma_fm nn (fun s => -(b (48 + (j - nn)) s).toInt) ((b 14 (j - nn)).toInt + ma_sm (fun s => (b (48 + (j - nn)) s).toInt * (a 6 s).toInt) nn)
theorem ma_V_ln {a : gF} {b : gL} {nn l : Nat} {f : Nat → Int} {r : Int} (h : ma_ln b nn l f r) : ma_V a b nn (nn + l) = ma_fm nn (fun s => - f s) (r + ma_sm (fun s => f s * (a 6 s).toInt) nn) := by
  unfold ma_V
  rw [if_neg (by omega), Nat.add_sub_cancel_left, h.2, ma_sm_congr (fun s hs => by rw [h.1 s hs])]
  funext c
  unfold ma_fm
  by_cases h5 : c = 5
  · rw [if_pos h5, if_pos h5]
  · rw [if_neg h5, if_neg h5]
    by_cases hc : c < nn
    · rw [if_pos hc, if_pos hc]
      show -(b (48 + l) c).toInt = - f c
      rw [h.1 c hc]
    · rw [if_neg hc, if_neg hc]
theorem ma_fm_e {nn i : Nat} {r : Int} (hn : nn ≤ 5) (hi : i < nn) (x : Int) : ma_fm nn (fun s => x * ma_e i s) r = fun c => x * ma_e i c + r * ma_e 5 c := by
  funext c
  unfold ma_fm ma_e
  by_cases h5 : c = 5
  · rw [if_pos h5, if_neg (by omega), if_pos h5]
    omega
  · rw [if_neg h5, if_neg h5]
    by_cases hc : c < nn
    · rw [if_pos hc]
      show x * (if c = i then 1 else 0) = x * (if c = i then 1 else 0) + r * 0
      omega
    · rw [if_neg hc, if_neg (by omega)]
      omega
theorem ma_fm_c {nn : Nat} {f g : Nat → Int} {r q : Int} (h : ∀ s, s < nn → f s = g s) (e : r = q) : ma_fm nn f r = ma_fm nn g q := by
  funext c
  unfold ma_fm
  rw [e]
  by_cases h5 : c = 5
  · rw [if_pos h5, if_pos h5]
  · rw [if_neg h5, if_neg h5]
    by_cases hc : c < nn
    · rw [if_pos hc, if_pos hc, h c hc]
    · rw [if_neg hc, if_neg hc]
theorem ma_fm_neg {nn : Nat} {f : Nat → Int} {r : Int} (c : Nat) : ma_fm nn (fun s => - f s) (-r) c = - ma_fm nn f r c := by
  unfold ma_fm
  split
  · rfl
  · split <;> rfl
theorem ma_above_i {a : gF} {r : Nat} (h : a 9 r = 0 ∨ a 9 r = 1 ∨ a 9 r = 2) : (p_above a r ≠ 0 ↔ (a 9 r).toInt ≠ 2) ∧ (p_below a r ≠ 0 ↔ (a 9 r).toInt ≠ 0) := by
  unfold p_above p_below
  rcases h with q | q | q <;> rw [q] <;> decide
/-- the beginning: names outside, lines in the basis -/
theorem ma_o_start {a : gF} {b : gL} {nn : Nat} (hn : nn ≤ 5) : ∀ k, k ≤ nn → ma_D 6 (fun s => if s < k then ma_V a b nn s else ma_e s) = 1 ∧ ma_sp (fun s => if s < k then ma_V a b nn s else ma_e s)
  | 0, _ => by
    have e : (fun s => if s < 0 then ma_V a b nn s else ma_e s) = ma_e := by
      funext s
      rw [if_neg (by omega)]
    rw [e]
    exact ⟨ma_D_e, ma_sp_e⟩
  | k + 1, hk => by
    obtain ⟨i1, i2⟩ := ma_o_start (a := a) (b := b) hn k (by omega)
    have e : (fun s => if s < k + 1 then ma_V a b nn s else ma_e s) = ma_rw (fun s => if s < k then ma_V a b nn s else ma_e s) k (ma_V a b nn k) := by
      funext s
      unfold ma_rw
      by_cases h : s = k
      · rw [if_pos (by omega), if_pos h, h]
      · rw [if_neg h]
        show _ = if s < k then ma_V a b nn s else ma_e s
        by_cases h2 : s < k
        · rw [if_pos (by omega), if_pos h2]
        · rw [if_neg (by omega), if_neg h2]
    rw [e]
    refine ⟨?_, ma_sp_rw i2 (by omega) _ (by omega)⟩
    have hV : ma_V a b nn k = fun c => 1 * ma_e k c + (-(a 6 k).toInt) * ma_e 5 c := by
      have := ma_fm_e (r := -(a 6 k).toInt) hn (show k < nn by omega) 1
      rw [← this]
      unfold ma_V
      rw [if_pos (by omega)]
      exact ma_fm_c (fun s _ => by omega) rfl
    show ma_K _ k (ma_V a b nn k) = 1
    rw [hV, ma_K_lin (by omega)]
    have k1 := ma_K_o (o := fun s => if s < k then ma_V a b nn s else ma_e s) (s := k)
    have k2 := ma_K_z (o := fun s => if s < k then ma_V a b nn s else ma_e s) (s := k) (k := 5) (by omega) (by omega) (by omega)
    simp only [if_neg (show ¬ k < k by omega), if_neg (show ¬ 5 < k by omega)] at k1 k2
    rw [k1, k2, i1]
    omega
theorem ma_start {a : gF} {nn nl : Nat} {J : gL} {I' a' : gF} {b' : gL} (hn : nn ≤ 5) (hl : nl ≤ 21) (hB : ma_BI nn nl (I', a', b')) (hJ : J 4 6 = 1) (hbd : ∀ j, j < nn + nl → ma_bd (ma_V a b' nn j)) : ma_DI nn nl (ma_V a b' nn) J a' b' := by
  obtain ⟨b1, b2, b3, b4⟩ := hB
  have b3 : ∀ l, l < nl → a' 15 l = nI (nn + l) := b3
  have b4 : ∀ s, s < nn → a' 16 s = nI s ∧ a' 17 s = 0 := b4
  have hO : ∀ s, s < nn → ma_Oa a' s = s := fun s hs => by unfold ma_Oa; rw [(b4 s hs).1, nI_clamp (by omega)]
  have hBa : ∀ l, l < nl → ma_Ba a' l = nn + l := fun l h => by unfold ma_Ba; rw [b3 l h, nI_clamp (by omega)]
  have eo : ma_oo nn (ma_V a b' nn) a' = (fun s => if s < nn then ma_V a b' nn s else ma_e s) := by
    funext s
    unfold ma_oo ma_o
    by_cases h : s < nn
    · rw [if_pos h, if_pos h, hO s h]
    · rw [if_neg h, if_neg h]
  obtain ⟨s1, s2⟩ := ma_o_start (a := a) (b := b') hn nn (Nat.le_refl _)
  have hs1 : ma_s (fun s => if s < nn then ma_V a b' nn s else ma_e s) = 1 := by
    unfold ma_s
    rw [s1]
    rfl
  have hcoef : ∀ l, l < nl → ∀ s, s < 6 → ma_k (ma_oo nn (ma_V a b' nn) a') s (ma_V a b' nn (nn + l)) = if s = 5 then (b' 14 l).toInt else if s < nn then -(b' (48 + l) s).toInt else 0 := by
    intro l hl2 s hs
    rw [eo]
    unfold ma_k
    rw [hs1, Int.one_mul, ma_K_coef (x := fun s => if s = 5 then (b' 14 l).toInt else if s < nn then -(b' (48 + l) s).toInt else 0) hs (fun c hc => ?_), s1, Int.mul_one]
    have e1 : ma_V a b' nn (nn + l) c = ma_fm nn (fun s => -(b' (48 + l) s).toInt) ((b' 14 l).toInt + ma_sm (fun s => (b' (48 + l) s).toInt * (a 6 s).toInt) nn) c := by
      unfold ma_V
      rw [if_neg (by omega), Nat.add_sub_cancel_left]
    have e2 : ma_sm (fun k => (if k = 5 then (b' 14 l).toInt else if k < nn then -(b' (48 + l) k).toInt else 0) * (if k < nn then ma_V a b' nn k else ma_e k) c) 6 = ma_sm (fun k => (if k < nn then (-(b' (48 + l) k).toInt) * (1 * ma_e k c + (-(a 6 k).toInt) * ma_e 5 c) else 0) + (if k = 5 then (b' 14 l).toInt * ma_e 5 c else 0)) 6 := by
      refine ma_sm_congr (fun k hk => ?_)
      by_cases h5 : k = 5
      · rw [if_pos h5, if_neg (by omega), if_neg (by omega), if_pos h5, h5]
        omega
      · rw [if_neg h5, if_neg h5]
        by_cases hk2 : k < nn
        · rw [if_pos hk2, if_pos hk2, if_pos hk2]
          have : ma_V a b' nn k c = 1 * ma_e k c + (-(a 6 k).toInt) * ma_e 5 c := by
            have q := ma_fm_e (r := -(a 6 k).toInt) hn hk2 1
            have q2 := congrFun q c
            rw [← q2]
            unfold ma_V
            rw [if_pos hk2]
            exact congrFun (ma_fm_c (fun s _ => by omega) rfl) c
          rw [this]
          omega
        · rw [if_neg hk2, if_neg hk2, if_neg hk2]
          omega
    have e3 : ma_sm (fun k => if k < nn then (-(b' (48 + l) k).toInt) * (1 * ma_e k c + (-(a 6 k).toInt) * ma_e 5 c) else 0) 6 = ma_sm (fun k => (if k = c then -(b' (48 + l) c).toInt else 0) + ma_e 5 c * ((b' (48 + l) k).toInt * (a 6 k).toInt)) nn := by
      rw [ma_sm_six hn]
      refine ma_sm_congr (fun k hk => ?_)
      by_cases h : k = c
      · have : ma_e k c = 1 := if_pos h.symm
        rw [if_pos h, this, h]
        grind
      · have : ma_e k c = 0 := if_neg (fun q => h q.symm)
        rw [if_neg h, this]
        grind
    have e4 : ma_sm (fun k => if k = 5 then (b' 14 l).toInt * ma_e 5 c else 0) 6 = (b' 14 l).toInt * ma_e 5 c := ma_sm_one (by decide)
    rw [e1]
    refine Eq.trans ?_ e2.symm
    rw [ma_sm_add, e3, e4, ma_sm_add, ma_sm_mul]
    unfold ma_fm
    by_cases h5 : c = 5
    · have : ma_e 5 c = 1 := if_pos h5
      rw [if_pos h5, this, ma_sm_zero (f := fun k => if k = c then -(b' (48 + l) c).toInt else 0) (fun i hi => if_neg (by omega))]
      omega
    · have : ma_e 5 c = 0 := if_neg h5
      rw [if_neg h5, this]
      by_cases hcn : c < nn
      · rw [if_pos hcn, ma_sm_one hcn]
        show -(b' (48 + l) c).toInt = _
        omega
      · rw [if_neg hcn, ma_sm_zero (f := fun k => if k = c then -(b' (48 + l) c).toInt else 0) (fun i hi => if_neg (by omega))]
        omega
  refine ⟨⟨hn, hl, hbd⟩, ?_, ?_, fun s hs => ?_, fun r hr => ?_, fun r hr s hs => ?_, fun r hr => ?_, fun j hj => ?_, fun r s hr hs => ?_, fun r r' h1 h2 => ?_⟩
  · rw [eo]
    exact ⟨s2, by omega⟩
  · rw [eo, hJ]
    unfold ma_u
    rw [hs1, s1]
    rfl
  · rw [hO s hs]
    exact ⟨(b4 s hs).1, by omega⟩
  · rw [hBa r hr]
    exact ⟨b3 r hr, by omega⟩
  · rw [hBa r hr, hcoef r hr s (by omega), if_neg (by omega), if_pos hs]
    omega
  · rw [hBa r hr, hcoef r hr 5 (by omega), if_pos rfl]
  · by_cases h : j < nn
    · exact Or.inl ⟨j, h, hO j h⟩
    · exact Or.inr ⟨j - nn, by omega, by rw [hBa _ (by omega)]; omega⟩
  · rw [hBa r hr, hO s hs]
    omega
  · rw [hBa r h1, hBa r' h2]
    omega
theorem ma_CD_of {I a : gF} {b : gL} {nn nr : Nat} {set : Int32} (hd : ma_dat nn nr a) : ma_CD nn nr a (fun r => s_bit set r ≠ 0) (s_kr I a b nn set nr).2 (ma_V a (s_kr I a b nn set nr).1.2.2 nn) ∧ (∀ j, j < nn + (s_kr I a b nn set nr).2 → ma_bd (ma_V a (s_kr I a b nn set nr).1.2.2 nn j)) := by
  obtain ⟨-, k2, k3, k4, -, k6, k7⟩ := ma_kr (I := I) (b := b) (set := set) hd nr (Nat.le_refl _)
  obtain ⟨d1, d2, d3, d4⟩ := hd
  generalize (s_kr I a b nn set nr).2 = nl at *
  generalize (s_kr I a b nn set nr).1.2.2 = xb at *
  have vN : ∀ i, i < nn → ma_V a xb nn i = ma_fm nn (ma_e i) (-(a 6 i).toInt) := fun i hi => if_pos hi
  have vH : ∀ i, i < nn → ma_V a xb nn (nn + i) = ma_fm nn (fun s => - ma_e i s) ((a 7 i).toInt) := by
    intro i hi
    rw [ma_V_ln (k4 i hi)]
    refine ma_fm_c (fun _ _ => rfl) ?_
    rw [ma_sm_congr (g := fun s => if s = i then (a 6 i).toInt else 0) (fun s hs => by
      unfold ma_e
      by_cases h : s = i
      · rw [if_pos h, if_pos h, h]; omega
      · rw [if_neg h, if_neg h]; omega), ma_sm_one hi]
    omega
  have vA : ∀ l r, ma_La a xb nn l r → ma_V a xb nn (nn + l) = ma_fm nn (fun s => -(a (40 + r) s).toInt) ((a 10 r).toInt) := by
    intro l r h
    rw [ma_V_ln h.2]
    exact ma_fm_c (fun _ _ => rfl) (by omega)
  have vB : ∀ l r, ma_Lb a xb nn l r → ma_V a xb nn (nn + l) = ma_fm nn (fun s => (a (40 + r) s).toInt) (-(a 10 r).toInt) := by
    intro l r h
    rw [ma_V_ln h.2]
    refine ma_fm_c (fun _ _ => by omega) ?_
    have : ma_sm (fun s => -(a (40 + r) s).toInt * (a 6 s).toInt) nn = (-1) * ma_sm (fun s => (a (40 + r) s).toInt * (a 6 s).toInt) nn := by
      rw [← ma_sm_mul]
      exact ma_sm_congr (fun s _ => by grind)
    rw [this]
    omega
  have cases : ∀ j, j < nn + nl → (j < nn) ∨ (∃ i, i < nn ∧ j = nn + i) ∨ (∃ l r, nn ≤ l ∧ l < nl ∧ j = nn + l ∧ r < nr ∧ s_bit set r ≠ 0 ∧ (ma_La a xb nn l r ∨ ma_Lb a xb nn l r)) := by
    intro j hj
    by_cases h1 : j < nn
    · exact Or.inl h1
    · by_cases h2 : j < nn + nn
      · exact Or.inr (Or.inl ⟨j - nn, by omega, by omega⟩)
      · obtain ⟨r, q1, q2, q3⟩ := k6 (j - nn) (by omega) (by omega)
        exact Or.inr (Or.inr ⟨j - nn, r, by omega, by omega, by omega, q1, q2, q3⟩)
  refine ⟨⟨fun i hi => ⟨⟨-(a 6 i).toInt, fun c => ?_⟩, ⟨(a 7 i).toInt, fun c => ?_⟩⟩, k2, by omega, fun X hz h5 => ⟨fun h => ⟨⟨h5, hz, fun i hi => ⟨?_, ?_⟩⟩, fun r hr hR => ⟨fun hs => ?_, fun hs => ?_⟩⟩, fun h j hj => ?_⟩, fun j hj => ?_, vN⟩, fun j hj => ?_⟩
  · rw [vN i hi]
    have q := congrFun (ma_fm_e (r := -(a 6 i).toInt) d1 hi 1) c
    rw [← q]
    exact congrFun (ma_fm_c (fun s _ => by omega) rfl) c
  · rw [vH i hi]
    have q := congrFun (ma_fm_e (r := (a 7 i).toInt) d1 hi (-1)) c
    rw [← q]
    exact congrFun (ma_fm_c (fun s _ => by omega) rfl) c
  · have := h i (by omega)
    rw [vN i hi, ma_fm_dot d1] at this
    rw [ma_sm_congr (g := fun s => if s = i then X i else 0) (fun s hs => by
      unfold ma_e
      by_cases h : s = i
      · rw [if_pos h, if_pos h, h]; omega
      · rw [if_neg h, if_neg h]; omega), ma_sm_one hi] at this
    show (a 6 i).toInt * X 5 ≤ X i
    rw [Int.neg_mul] at this
    omega
  · have := h (nn + i) (by omega)
    rw [vH i hi, ma_fm_dot d1] at this
    rw [ma_sm_congr (g := fun s => if s = i then - X i else 0) (fun s hs => by
      unfold ma_e
      by_cases h : s = i
      · rw [if_pos h, if_pos h, h]; omega
      · rw [if_neg h, if_neg h]; omega), ma_sm_one hi] at this
    show X i ≤ (a 7 i).toInt * X 5
    omega
  · obtain ⟨l, q1, q2, q3⟩ := (k7 r hr hR).1 ((ma_above_i (d4 r hr).2.1).1.mpr hs)
    have := h (nn + l) (by omega)
    rw [vA l r q3, ma_fm_dot d1, ma_sm_congr (g := fun s => (-1) * ((a (40 + r) s).toInt * X s)) (fun s _ => by grind), ma_sm_mul] at this
    show ma_sm (fun i => (a (40 + r) i).toInt * X i) nn ≤ (a 10 r).toInt * X 5
    omega
  · obtain ⟨l, q1, q2, q3⟩ := (k7 r hr hR).2 ((ma_above_i (d4 r hr).2.1).2.mpr hs)
    have := h (nn + l) (by omega)
    rw [vB l r q3, ma_fm_dot d1, Int.neg_mul] at this
    show (a 10 r).toInt * X 5 ≤ ma_sm (fun i => (a (40 + r) i).toInt * X i) nn
    omega
  · rcases cases j hj with q | ⟨i, q1, q2⟩ | ⟨l, r, q1, q2, q3, q4, q5, q6⟩
    · rw [vN j q, ma_fm_dot d1, ma_sm_congr (g := fun s => if s = j then X j else 0) (fun s hs => by
        unfold ma_e
        by_cases h : s = j
        · rw [if_pos h, if_pos h, h]; omega
        · rw [if_neg h, if_neg h]; omega), ma_sm_one q, Int.neg_mul]
      have : (a 6 j).toInt * X 5 ≤ X j := (h.1.2.2 j q).1
      omega
    · rw [q2, vH i q1, ma_fm_dot d1, ma_sm_congr (g := fun s => if s = i then - X i else 0) (fun s hs => by
        unfold ma_e
        by_cases h : s = i
        · rw [if_pos h, if_pos h, h]; omega
        · rw [if_neg h, if_neg h]; omega), ma_sm_one q1]
      have : X i ≤ (a 7 i).toInt * X 5 := (h.1.2.2 i q1).2
      omega
    · rw [q3]
      have hr := h.2 r q4 q5
      rcases q6 with q6 | q6
      · rw [vA l r q6, ma_fm_dot d1, ma_sm_congr (g := fun s => (-1) * ((a (40 + r) s).toInt * X s)) (fun s _ => by grind), ma_sm_mul]
        have : ma_sm (fun i => (a (40 + r) i).toInt * X i) nn ≤ (a 10 r).toInt * X 5 := hr.1 ((ma_above_i (d4 r q4).2.1).1.mp q6.1)
        omega
      · rw [vB l r q6, ma_fm_dot d1, Int.neg_mul]
        have : (a 10 r).toInt * X 5 ≤ ma_sm (fun i => (a (40 + r) i).toInt * X i) nn := hr.2 ((ma_above_i (d4 r q4).2.1).2.mp q6.1)
        omega
  · rcases cases j hj with q | ⟨i, q1, q2⟩ | ⟨l, r, q1, q2, q3, q4, q5, q6⟩
    · refine ⟨8 + j, ⟨by omega, fun w => by omega, fun _ => by omega⟩, Or.inl (fun i => ?_)⟩
      rw [vN j q]
      unfold ma_C
      rw [if_neg (by omega), if_pos (by omega), Nat.add_sub_cancel_left]
    · refine ⟨13 + i, ⟨by omega, fun w => by omega, fun _ => by omega⟩, Or.inr (fun c => ?_)⟩
      rw [q2, vH i q1]
      unfold ma_C
      rw [if_neg (by omega), if_neg (by omega), Nat.add_sub_cancel_left, ← ma_fm_neg]
      exact congrFun (ma_fm_c (fun _ _ => rfl) (by show (a 7 i).toInt = - -(a 7 i).toInt; omega)) c
    · rcases q6 with q6 | q6
      · refine ⟨r, ⟨by omega, fun _ => ⟨q4, q5⟩, fun w => by omega⟩, Or.inr (fun c => ?_)⟩
        rw [q3, vA l r q6]
        unfold ma_C
        rw [if_pos (by omega), ← ma_fm_neg]
        exact congrFun (ma_fm_c (fun _ _ => rfl) (by show (a 10 r).toInt = - -(a 10 r).toInt; omega)) c
      · refine ⟨r, ⟨by omega, fun _ => ⟨q4, q5⟩, fun w => by omega⟩, Or.inl (fun c => ?_)⟩
        rw [q3, vB l r q6]
        unfold ma_C
        rw [if_pos (by omega)]
  · rcases cases j hj with q | ⟨i, q1, q2⟩ | ⟨l, r, q1, q2, q3, q4, q5, q6⟩
    · rw [vN j q]
      have := d3 j q
      exact ma_fm_bd (fun s _ => by unfold ma_e; split <;> decide) (by omega)
    · rw [q2, vH i q1]
      have := d3 i q1
      exact ma_fm_bd (fun s _ => by unfold ma_e; split <;> decide) (by omega)
    · rw [q3]
      have w := d4 r q4
      rcases q6 with q6 | q6
      · rw [vA l r q6]
        exact ma_fm_bd (fun s hs => by have := w.2.2 s hs; omega) w.1
      · rw [vB l r q6]
        exact ma_fm_bd (fun s hs => w.2.2 s hs) (by have := w.1; omega)
/-- the point where a dictionary stands -/
def ma_pY (nc : Nat) (V : Nat → Nat → Int) (x : ma_X) : Nat → Int := fun i => ma_kx nc V x 5 (ma_e i)
theorem ma_pY_dot {nc nl : Nat} {V : Nat → Nat → Int} {x : ma_X} (D : ma_DX nc nl V x) (v : Nat → Int) : ma_dot v (ma_pY nc V x) = ma_kx nc V x 5 v := (ma_DI_LP D).2.2.1 5 (by decide) v
theorem ma_pY_z {nc nl : Nat} {V : Nat → Nat → Int} {x : ma_X} (D : ma_DX nc nl V x) : ma_zr nc (ma_pY nc V x) ∧ ma_pY nc V x 5 = ma_u (ma_oo nc V x.2.1) ∧ 0 < ma_pY nc V x 5 := by
  have n1 := D.1.1
  have Lp := ma_DI_LP D
  have e5 : ma_pY nc V x 5 = ma_u (ma_oo nc V x.2.1) := by
    have := Lp.2.2.2 5 5 (by decide) (by decide)
    rw [if_pos rfl, ma_oo_5 n1] at this
    exact this
  refine ⟨fun i h1 h2 => ?_, e5, by rw [e5]; exact Lp.1⟩
  have := Lp.2.2.2 5 i (by decide) (by omega)
  rw [if_neg (by omega), ma_oo, ma_o_out h1] at this
  exact this
/-- a row over a point, by what the dictionary tells -/
theorem ma_tell {nc nl : Nat} {V : Nat → Nat → Int} {x : ma_X} (D : ma_DX nc nl V x) (v : Nat → Int) {X : Nat → Int} (hz : ma_zr nc X) : ma_u (ma_oo nc V x.2.1) * ma_dot v X = ma_sm (fun s => ma_kx nc V x s v * ma_dot (V (ma_Oa x.2.1 s)) X) nc + ma_kx nc V x 5 v * X 5 := by
  have n1 := D.1.1
  rw [(ma_DI_LP D).2.1 v X, ma_sm_congr (g := fun s => (if s < nc then ma_kx nc V x s v * ma_dot (V (ma_Oa x.2.1 s)) X else 0) + (if s = 5 then ma_kx nc V x 5 v * X 5 else 0)) (fun s hs => ?_), ma_sm_add, ma_sm_one (by decide)]
  · congr 1
    have e : (6 : Nat) = nc + (6 - nc) := by omega
    rw [e, ma_sm_pre (6 - nc) (fun i h1 h2 => if_neg (by omega))]
    exact ma_sm_congr (fun i hi => if_pos hi)
  · by_cases h : s < nc
    · rw [if_pos h, if_neg (by omega), ma_oo, ma_o_in h]
      show _ = _ + 0
      rw [Int.add_zero]
      rfl
    · rw [if_neg h, ma_oo, ma_o_out (by omega), ma_e_dot hs]
      by_cases h5 : s = 5
      · rw [if_pos h5, h5, Int.zero_add]
        rfl
      · rw [if_neg h5, hz s (by omega) (by omega)]
        omega
theorem ma_sm_nn {f : Nat → Int} : ∀ {n : Nat}, (∀ i, i < n → 0 ≤ f i) → 0 ≤ ma_sm f n
  | 0, _ => by simp [ma_sm]
  | n + 1, h => by
    have h1 := ma_sm_nn (n := n) (fun i hi => h i (by omega))
    have h2 := h n (by omega)
    show 0 ≤ ma_sm f n + f n
    omega
theorem ma_no {nn nr nl : Nat} {V : Nat → Nat → Int} {x : ma_X} {a : gF} {R : Nat → Prop} (D : ma_DX nn nl V x) (C : ma_CD nn nr a R nl V) {t : Nat} (ht : t < nn + nl) (h5 : ma_kx nn V x 5 (V t) < 0) (hs : ∀ s, s < nn → ma_kx nn V x s (V t) ≤ 0) : ∀ X, ¬ ma_fs nn nr (ma_ci a 6) (ma_ci a 7) (ma_ci a 9) (ma_ci a 10) (ma_fa a) R X := by
  intro X hX
  have hz := hX.1.2.1
  have hp := hX.1.1
  have hV := (C.2.2.2.1 X hz hp).mpr hX
  have h := ma_tell D (V t) hz
  have h1 : ma_sm (fun s => ma_kx nn V x s (V t) * ma_dot (V (ma_Oa x.2.1 s)) X) nn ≤ 0 := ma_sm_le (fun s hs2 => ma_np (hs s hs2) (hV _ (D.2.2.2.1 s hs2).2))
  have h2 : ma_kx nn V x 5 (V t) * X 5 < 0 := Int.mul_neg_of_neg_of_pos h5 hp
  have h3 : 0 ≤ ma_u (ma_oo nn V x.2.1) * ma_dot (V t) X := Int.mul_nonneg (Int.le_of_lt (ma_DI_LP D).1) (hV t ht)
  omega
theorem ma_yes {nn nr nl : Nat} {V : Nat → Nat → Int} {x : ma_X} {a : gF} {R : Nat → Prop} (D : ma_DX nn nl V x) (C : ma_CD nn nr a R nl V) (hf : ma_fe nn nl V x) : ma_fs nn nr (ma_ci a 6) (ma_ci a 7) (ma_ci a 9) (ma_ci a 10) (ma_fa a) R (ma_pY nn V x) := by
  obtain ⟨z1, z2, z3⟩ := ma_pY_z D
  exact (C.2.2.2.1 _ z1 z3).mp (fun j hj => by rw [ma_pY_dot D]; exact hf j hj)
/-- canKeep -/
theorem ma_keep {I a : gF} {J b : gL} {nn nr n : Nat} {set : Int32} (hd : ma_dat nn nr a) (hn : 65780 ≤ n) :
    ∃ V, ma_CD nn nr a (fun r => s_bit set r ≠ 0) (s_kr I a b nn set nr).2 V ∧ ma_DX nn (s_kr I a b nn set nr).2 V (d_find (s_kr I a b nn set nr).2 nn n (gU J 4 6 1, (s_kr I a b nn set nr).1.2.1, (s_kr I a b nn set nr).1.2.2)).2 ∧ ma_fx (gU J 4 6 1, (s_kr I a b nn set nr).1.2.1, (s_kr I a b nn set nr).1.2.2) (d_find (s_kr I a b nn set nr).2 nn n (gU J 4 6 1, (s_kr I a b nn set nr).1.2.1, (s_kr I a b nn set nr).1.2.2)).2 ∧ ((((d_find (s_kr I a b nn set nr).2 nn n (gU J 4 6 1, (s_kr I a b nn set nr).1.2.1, (s_kr I a b nn set nr).1.2.2)).1 = 1 ∧ ma_fe nn (s_kr I a b nn set nr).2 V (d_find (s_kr I a b nn set nr).2 nn n (gU J 4 6 1, (s_kr I a b nn set nr).1.2.1, (s_kr I a b nn set nr).1.2.2)).2) ∧ ∃ X, ma_fs nn nr (ma_ci a 6) (ma_ci a 7) (ma_ci a 9) (ma_ci a 10) (ma_fa a) (fun r => s_bit set r ≠ 0) X) ∨ ((d_find (s_kr I a b nn set nr).2 nn n (gU J 4 6 1, (s_kr I a b nn set nr).1.2.1, (s_kr I a b nn set nr).1.2.2)).1 = 0 ∧ ∀ X, ¬ ma_fs nn nr (ma_ci a 6) (ma_ci a 7) (ma_ci a 9) (ma_ci a 10) (ma_fa a) (fun r => s_bit set r ≠ 0) X)) := by
  obtain ⟨k1, k2, k3, k4, k5, k6, k7⟩ := ma_kr (I := I) (b := b) (set := set) hd nr (Nat.le_refl _)
  obtain ⟨C, hbd⟩ := ma_CD_of (I := I) (b := b) (set := set) hd
  have d1 := hd.1
  have d2 := hd.2.1
  have S := ma_start (J := gU J 4 6 1) (a := a) d1 (show (s_kr I a b nn set nr).2 ≤ 21 by omega) k1 gU_s hbd
  obtain ⟨f1, f2, f3⟩ := ma_find_s (x := (gU J 4 6 1, (s_kr I a b nn set nr).1.2.1, (s_kr I a b nn set nr).1.2.2)) S (by omega) hn
  refine ⟨_, C, f1, f2, ?_⟩
  rcases f3 with ⟨q1, q2⟩ | ⟨q1, t, t1, t2, t3⟩
  · exact Or.inl ⟨⟨q1, q2⟩, _, ma_yes f1 C q2⟩
  · exact Or.inr ⟨q1, ma_no f1 C t1 t2 t3⟩
end
section
/-! THE MATHEMATICS, 12: the reference's solve -/
theorem ma_swp {b : gL} {k p : Nat} : ∀ n, n ≤ 6 → ∀ i j, j < 6 → m_sw b k p n 87 (6 * i + j) = if j < n then (if i = k then b 87 (6 * p + j) else if i = p then b 87 (6 * k + j) else b 87 (6 * i + j)) else b 87 (6 * i + j)
  | 0, _, i, j, _ => by
    rw [if_neg (by omega)]
    rfl
  | n + 1, hn, i, j, hj => by
    have ih := ma_swp (b := b) (k := k) (p := p) n (by omega)
    show gU (gU (m_sw b k p n) 87 ((6 * k) + n) (m_sw b k p n 87 ((6 * p) + n))) 87 ((6 * p) + n) (m_sw b k p n 87 ((6 * k) + n)) 87 (6 * i + j) = _
    have e1 : m_sw b k p n 87 (6 * p + n) = b 87 (6 * p + n) := by rw [ih p n (by omega), if_neg (by omega)]
    have e2 : m_sw b k p n 87 (6 * k + n) = b 87 (6 * k + n) := by rw [ih k n (by omega), if_neg (by omega)]
    rw [e1, e2]
    by_cases h : j = n
    · subst h
      rw [if_pos (by omega)]
      by_cases h1 : i = p
      · subst h1
        rw [gU_s]
        by_cases h2 : i = k
        · rw [if_pos h2, h2]
        · rw [if_neg h2, if_pos rfl]
      · rw [gU_n (by omega)]
        by_cases h2 : i = k
        · subst h2
          rw [gU_s, if_pos rfl]
        · rw [gU_n (by omega), if_neg h2, if_neg h1, ih i j hj, if_neg (by omega)]
    · rw [gU_n (by omega), gU_n (by omega), ih i j hj]
      by_cases h2 : j < n
      · rw [if_pos h2, if_pos (show j < n + 1 by omega)]
      · rw [if_neg h2, if_neg (show ¬ j < n + 1 by omega)]
theorem ma_swp_f {b : gL} {k p : Nat} : ∀ n K j, K ≠ 87 → m_sw b k p n K j = b K j
  | 0, _, _, _ => rfl
  | n + 1, K, j, h => by
    show gU (gU (m_sw b k p n) 87 ((6 * k) + n) (m_sw b k p n 87 ((6 * p) + n))) 87 ((6 * p) + n) (m_sw b k p n 87 ((6 * k) + n)) K j = _
    rw [gU_n (by omega), gU_n (by omega), ma_swp_f n K j h]
theorem ma_el1 {b : gL} {i k : Nat} {pv q bf : Int64} (hik : i ≠ k) : ∀ n, n ≤ 6 → ∀ i' j, j < 6 → m_el1 b i k pv q bf n 87 (6 * i' + j) = if i' = i ∧ j < n then (pv * b 87 (6 * i + j) - q * b 87 (6 * k + j)) / bf else b 87 (6 * i' + j)
  | 0, _, i', j, _ => by
    rw [if_neg (by omega)]
    rfl
  | n + 1, hn, i', j, hj => by
    have ih := ma_el1 (b := b) (pv := pv) (q := q) (bf := bf) hik n (by omega)
    show gU (m_el1 b i k pv q bf n) 87 ((6 * i) + n) ((pv * m_el1 b i k pv q bf n 87 ((6 * i) + n) - q * m_el1 b i k pv q bf n 87 ((6 * k) + n)) / bf) 87 (6 * i' + j) = _
    have e1 : m_el1 b i k pv q bf n 87 (6 * i + n) = b 87 (6 * i + n) := by rw [ih i n (by omega), if_neg (by omega)]
    have e2 : m_el1 b i k pv q bf n 87 (6 * k + n) = b 87 (6 * k + n) := by rw [ih k n (by omega), if_neg (by omega)]
    rw [e1, e2]
    by_cases h : i' = i ∧ j = n
    · obtain ⟨rfl, rfl⟩ := h
      rw [gU_s, if_pos (by omega)]
    · rw [gU_n (by omega), ih i' j hj]
      by_cases h2 : i' = i ∧ j < n
      · rw [if_pos h2, if_pos (by omega)]
      · rw [if_neg h2, if_neg (by omega)]
theorem ma_el1_f {b : gL} {i k : Nat} {pv q bf : Int64} : ∀ n K j, K ≠ 87 → m_el1 b i k pv q bf n K j = b K j
  | 0, _, _, _ => rfl
  | n + 1, K, j, h => by
    show gU (m_el1 b i k pv q bf n) 87 ((6 * i) + n) _ K j = _
    rw [gU_n (by omega), ma_el1_f n K j h]
theorem ma_el {b : gL} {k mn : Nat} {pv bf : Int64} (hk : k < 5) (hmn : mn ≤ 5) : ∀ n, n ≤ mn → ∀ i' j, j < 6 → m_el b k pv bf mn n 87 (6 * i' + j) = if i' < n ∧ i' ≠ k ∧ j < mn + 1 then (pv * b 87 (6 * i' + j) - b 87 (6 * i' + k) * b 87 (6 * k + j)) / bf else b 87 (6 * i' + j)
  | 0, _, i', j, _ => by
    rw [if_neg (by omega)]
    rfl
  | n + 1, hn, i', j, hj => by
    have ih := ma_el (b := b) (pv := pv) (bf := bf) hk hmn n (by omega)
    show m_elI (m_el b k pv bf mn n) n k pv (m_el b k pv bf mn n 87 ((6 * n) + k)) bf (mn + 1) 87 (6 * i' + j) = _
    unfold m_elI
    by_cases h : n = k
    · rw [if_pos (by rw [h]), ih i' j hj]
      by_cases h2 : i' < n ∧ i' ≠ k ∧ j < mn + 1
      · rw [if_pos h2, if_pos (by omega)]
      · rw [if_neg h2, if_neg (by omega)]
    · rw [if_neg (by rw [nI_eq (by omega) (by omega)]; exact h), ma_el1 h _ (by omega) i' j hj]
      have e1 : ∀ j, j < 6 → m_el b k pv bf mn n 87 (6 * n + j) = b 87 (6 * n + j) := fun j hj => by rw [ih n j hj, if_neg (by omega)]
      have e2 : ∀ j, j < 6 → m_el b k pv bf mn n 87 (6 * k + j) = b 87 (6 * k + j) := fun j hj => by rw [ih k j hj, if_neg (by omega)]
      rw [e1 j hj, e2 j hj, e1 k (by omega)]
      by_cases h1 : i' = n ∧ j < mn + 1
      · rw [if_pos h1, if_pos (by omega), h1.1]
      · rw [if_neg h1, ih i' j hj]
        by_cases h2 : i' < n ∧ i' ≠ k ∧ j < mn + 1
        · rw [if_pos h2, if_pos (by omega)]
        · rw [if_neg h2, if_neg (by omega)]
theorem ma_el_f {b : gL} {k mn : Nat} {pv bf : Int64} : ∀ n K j, K ≠ 87 → m_el b k pv bf mn n K j = b K j
  | 0, _, _, _ => rfl
  | n + 1, K, j, h => by
    show m_elI (m_el b k pv bf mn n) n k pv (m_el b k pv bf mn n 87 ((6 * n) + k)) bf (mn + 1) K j = _
    unfold m_elI
    split
    · exact ma_el_f n K j h
    · rw [ma_el1_f _ _ _ h, ma_el_f n K j h]
theorem ma_pvs {b : gL} {k : Nat} : ∀ n p, p ≤ m_pv b k n p ∧ m_pv b k n p ≤ p + n ∧ (m_pv b k n p < p + n → ¬ b 87 (6 * m_pv b k n p + k) = 0) ∧ ∀ q, p ≤ q → q < m_pv b k n p → b 87 (6 * q + k) = 0
  | 0, p => ⟨Nat.le_refl _, Nat.le_refl _, fun h => absurd h (Nat.lt_irrefl _), fun q h1 h2 => by have h2 : q < p := h2; omega⟩
  | n + 1, p => by
    have e : m_pv b k (n + 1) p = if b 87 ((6 * p) + k) = 0 then m_pv b k n (p + 1) else p := rfl
    by_cases h : b 87 (6 * p + k) = 0
    · rw [e, if_pos h]
      obtain ⟨i1, i2, i3, i4⟩ := ma_pvs (b := b) (k := k) n (p + 1)
      refine ⟨by omega, by omega, fun q => i3 (by omega), fun q h1 h2 => ?_⟩
      by_cases h3 : q = p
      · rw [h3]; exact h
      · exact i4 q (by omega) h2
    · rw [e, if_neg h]
      exact ⟨Nat.le_refl _, by omega, fun _ => h, fun q h1 h2 => by omega⟩
/-- what solve keeps at its step k: o the rows by which all is told, W the rows that wait -/
def ma_SI (mn : Nat) (F : Nat → Nat → Int) (k : Nat) (bf : Int64) (b : gL) (o W : Nat → Nat → Int) : Prop :=
  (ma_sp o ∧ ma_D 6 o ≠ 0 ∧ bf.toInt = ma_D 6 o) ∧ (∀ s, s < 6 → k ≤ s → o s = ma_e s) ∧ (∀ s, s < 6 → ma_bd (o s)) ∧ (∀ i, i < mn → ma_bd (W i)) ∧
  (∀ i, k ≤ i → i < mn → (∀ j, k ≤ j → j < mn → (b 87 (6 * i + j)).toInt = ma_K o j (W i)) ∧ (b 87 (6 * i + mn)).toInt = - ma_K o 5 (W i)) ∧
  (∀ i, i < k → (∀ j, k ≤ j → j < mn → (b 87 (6 * i + j)).toInt = - ma_K o j (ma_e i)) ∧ (b 87 (6 * i + mn)).toInt = ma_K o 5 (ma_e i)) ∧
  (∀ i, i < mn → (∃ s, s < k ∧ o s = F i) ∨ ∃ q, k ≤ q ∧ q < mn ∧ W q = F i) ∧ (∀ s, s < k → ∃ i, i < mn ∧ o s = F i) ∧ (∀ q, q < mn → ∃ i, i < mn ∧ W q = F i)
theorem ma_Ks {o : Nat → Nat → Int} {s : Nat} {v : Nat → Int} (hs : s < 5) (h5 : o 5 = ma_e 5) (h : ∀ i, i < 6 → ma_bd (o i)) (hv : ma_bd v) : (ma_K o s v).natAbs ≤ 7085880 := by
  rw [← ma_k_abs]
  exact ma_k_small hs h5 h hv
theorem ma_Kb {o : Nat → Nat → Int} {s : Nat} {v : Nat → Int} (h : ∀ i, i < 6 → ma_bd (o i)) (hv : ma_bd v) : (ma_K o s v).natAbs ≤ 42515280000 := by
  rw [← ma_k_abs]
  exact ma_k_big h hv
/-- a number of the eliminated matrix -/
theorem ma_elv {x y z w d : Int64} {X Y Z W0 R D0 : Int} (hx : x.toInt = X) (hy : y.toInt = Y) (hz : z.toInt = Z) (hw : w.toInt = W0) (hd : d.toInt = D0) (h0 : D0 ≠ 0) (bX : X.natAbs ≤ 7085880) (bY : Y.natAbs ≤ 42515280000) (bZ : Z.natAbs ≤ 7085880) (bW : W0.natAbs ≤ 42515280000) (bR : R.natAbs ≤ 42515280000) (h : X * Y - Z * W0 = D0 * R) : ((x * y - z * w) / d).toInt = R := by
  have m1 := ma_mb bX bY
  have m2 := ma_mb bZ bW
  refine ma_div (d := D0) ?_ hd h0 (by omega)
  rw [← h]
  exact ma_sub (ma_mul hx hy (by omega)) (ma_mul hz hw (by omega)) (by omega)
theorem ma_SI_step {mn : Nat} (hmn : mn ≤ 5) {F : Nat → Nat → Int} {k : Nat} {bf : Int64} {b : gL} {o W : Nat → Nat → Int} (S : ma_SI mn F k bf b o W) (hk : k < mn) {p : Nat} (hkp : k ≤ p) (hp : p < mn) (hne : ¬ b 87 (6 * p + k) = 0) :
    ma_SI mn F (k + 1) (m_sw b k p (mn + 1) 87 ((6 * k) + k)) (m_el (m_sw b k p (mn + 1)) k (m_sw b k p (mn + 1) 87 ((6 * k) + k)) bf mn mn) (ma_rw o k (W p)) (fun i => if i = p then W k else W i) := by
  obtain ⟨⟨s1, s2, s3⟩, s4, s5, s6, s7, s8, s9, s10, s11⟩ := S
  have o5 : o 5 = ma_e 5 := s4 5 (by omega) (by omega)
  have ok : o k = ma_e k := s4 k (by omega) (by omega)
  have swv : ∀ i j, j < mn + 1 → m_sw b k p (mn + 1) 87 (6 * i + j) = if i = k then b 87 (6 * p + j) else if i = p then b 87 (6 * k + j) else b 87 (6 * i + j) := fun i j hj => by
    rw [ma_swp (mn + 1) (by omega) i j (by omega), if_pos hj]
  have vkk : (m_sw b k p (mn + 1) 87 (6 * k + k)).toInt = ma_K o k (W p) := by
    rw [swv k k (by omega), if_pos rfl]
    exact (s7 p hkp hp).1 k (Nat.le_refl _) hk
  have pne : ma_K o k (W p) ≠ 0 := by
    intro q
    apply hne
    rw [ma_e0, (s7 p hkp hp).1 k (Nat.le_refl _) hk]
    exact q
  have bWp : ma_bd (W p) := s6 p hp
  have nbd : ∀ s, s < 6 → ma_bd (ma_rw o k (W p) s) := ma_rw_bd s5 bWp
  have no5 : ma_rw o k (W p) 5 = ma_e 5 := by rw [ma_rw_n (by omega), o5]
  have plu : ∀ j, j < 6 → j ≠ k → ∀ v, ma_D 6 o * ma_K (ma_rw o k (W p)) j v = ma_K o j v * ma_K o k (W p) - ma_K o k v * ma_K o j (W p) := fun j hj hjk v => ma_plu s1 (W p) v (by omega) hj (fun q => hjk q.symm)
  have elv : ∀ i j, i < mn → i ≠ k → j < mn + 1 → m_el (m_sw b k p (mn + 1)) k (m_sw b k p (mn + 1) 87 (6 * k + k)) bf mn mn 87 (6 * i + j) = (m_sw b k p (mn + 1) 87 (6 * k + k) * m_sw b k p (mn + 1) 87 (6 * i + j) - m_sw b k p (mn + 1) 87 (6 * i + k) * m_sw b k p (mn + 1) 87 (6 * k + j)) / bf := fun i j hi hik hj => by
    rw [ma_el (by omega) hmn mn (Nat.le_refl _) i j (by omega), if_pos ⟨hi, hik, hj⟩]
  have elk : ∀ j, j < 6 → m_el (m_sw b k p (mn + 1)) k (m_sw b k p (mn + 1) 87 (6 * k + k)) bf mn mn 87 (6 * k + j) = m_sw b k p (mn + 1) 87 (6 * k + j) := fun j hj => by
    rw [ma_el (by omega) hmn mn (Nat.le_refl _) k j hj, if_neg (by omega)]
  -- rows of the swapped matrix
  have wk : ∀ j, k ≤ j → j < mn → (m_sw b k p (mn + 1) 87 (6 * k + j)).toInt = ma_K o j (W p) := fun j h1 h2 => by
    rw [swv k j (by omega), if_pos rfl]; exact (s7 p hkp hp).1 j h1 h2
  have wk5 : (m_sw b k p (mn + 1) 87 (6 * k + mn)).toInt = - ma_K o 5 (W p) := by
    rw [swv k mn (by omega), if_pos rfl]; exact (s7 p hkp hp).2
  have wi : ∀ i, k < i → i < mn → (∀ j, k ≤ j → j < mn → (m_sw b k p (mn + 1) 87 (6 * i + j)).toInt = ma_K o j ((fun i => if i = p then W k else W i) i)) ∧ (m_sw b k p (mn + 1) 87 (6 * i + mn)).toInt = - ma_K o 5 ((fun i => if i = p then W k else W i) i) := by
    intro i h1 h2
    refine ⟨fun j h3 h4 => ?_, ?_⟩
    · rw [swv i j (by omega), if_neg (by omega)]
      show _ = ma_K o j (if i = p then W k else W i)
      by_cases e : i = p
      · rw [if_pos e, if_pos e]; exact (s7 k (Nat.le_refl _) hk).1 j h3 h4
      · rw [if_neg e, if_neg e]; exact (s7 i (by omega) h2).1 j h3 h4
    · rw [swv i mn (by omega), if_neg (by omega)]
      show _ = - ma_K o 5 (if i = p then W k else W i)
      by_cases e : i = p
      · rw [if_pos e, if_pos e]; exact (s7 k (Nat.le_refl _) hk).2
      · rw [if_neg e, if_neg e]; exact (s7 i (by omega) h2).2
  have wl : ∀ i, i < k → (∀ j, k ≤ j → j < mn → (m_sw b k p (mn + 1) 87 (6 * i + j)).toInt = - ma_K o j (ma_e i)) ∧ (m_sw b k p (mn + 1) 87 (6 * i + mn)).toInt = ma_K o 5 (ma_e i) := by
    intro i h1
    refine ⟨fun j h3 h4 => ?_, ?_⟩
    · rw [swv i j (by omega), if_neg (by omega), if_neg (by omega)]; exact (s8 i h1).1 j h3 h4
    · rw [swv i mn (by omega), if_neg (by omega), if_neg (by omega)]; exact (s8 i h1).2
  have bW' : ∀ i, i < mn → ma_bd ((fun i => if i = p then W k else W i) i) := by
    intro i hi
    show ma_bd (if i = p then W k else W i)
    split
    · exact s6 k hk
    · exact s6 i hi
  refine ⟨⟨ma_sp_rw s1 s2 _ (by omega), pne, vkk⟩, fun s h1 h2 => ?_, nbd, bW', fun i h1 h2 => ⟨fun j h3 h4 => ?_, ?_⟩, fun i h1 => ⟨fun j h3 h4 => ?_, ?_⟩, fun i hi => ?_, fun s hs => ?_, fun q hq => ?_⟩
  · rw [ma_rw_n (by omega)]
    exact s4 s h1 (by omega)
  · rw [elv i j h2 (by omega) (by omega)]
    obtain ⟨w1, w2⟩ := wi i (by omega) h2
    refine ma_elv vkk (w1 j (by omega) h4) (w1 k (by omega) hk) (wk j (by omega) h4) s3 s2 (ma_Ks (by omega) o5 s5 bWp) (ma_Kb s5 (bW' i h2)) (ma_Ks (by omega) o5 s5 (bW' i h2)) (ma_Kb s5 bWp) (ma_Kb nbd (bW' i h2)) ?_
    rw [plu j (by omega) (by omega)]
    grind
  · rw [elv i mn h2 (by omega) (by omega)]
    obtain ⟨w1, w2⟩ := wi i (by omega) h2
    have q1 := ma_Kb (s := 5) s5 (bW' i h2)
    have q2 := ma_Kb (s := 5) s5 bWp
    have q3 := ma_Kb (s := 5) nbd (bW' i h2)
    refine ma_elv vkk w2 (w1 k (by omega) hk) wk5 s3 s2 (ma_Ks (by omega) o5 s5 bWp) (by omega) (ma_Ks (by omega) o5 s5 (bW' i h2)) (by omega) (by omega) ?_
    rw [Int.mul_neg (ma_D 6 o), plu 5 (by omega) (by omega)]
    grind
  · by_cases e : i = k
    · subst e
      rw [elk j (by omega), wk j (by omega) h4]
      have := plu j (by omega) (by omega) (ma_e i)
      have k1 : ma_K o j (ma_e i) = 0 := by rw [← ok]; exact ma_K_z (by omega) (by omega) (by omega)
      have k2 : ma_K o i (ma_e i) = ma_D 6 o := by rw [← ok]; exact ma_K_o
      rw [k1, k2, Int.zero_mul, Int.zero_sub, ← Int.mul_neg] at this
      have := Int.eq_of_mul_eq_mul_left s2 this
      omega
    · rw [elv i j (by omega) e (by omega)]
      obtain ⟨w1, w2⟩ := wl i (by omega)
      have q1 := ma_Kb (s := j) s5 (ma_bd_e (i := i))
      have q2 := ma_Ks (s := k) (by omega) o5 s5 (ma_bd_e (i := i))
      have q3 := ma_Kb (s := j) nbd (ma_bd_e (i := i))
      refine ma_elv vkk (w1 j (by omega) h4) (w1 k (by omega) hk) (wk j (by omega) h4) s3 s2 (ma_Ks (by omega) o5 s5 bWp) (by omega) (by omega) (ma_Kb s5 bWp) (by omega) ?_
      rw [Int.mul_neg (ma_D 6 o), plu j (by omega) (by omega)]
      grind
  · by_cases e : i = k
    · subst e
      rw [elk mn (by omega), wk5]
      have := plu 5 (by omega) (by omega) (ma_e i)
      have k1 : ma_K o 5 (ma_e i) = 0 := by rw [← ok]; exact ma_K_z (by omega) (by omega) (by omega)
      have k2 : ma_K o i (ma_e i) = ma_D 6 o := by rw [← ok]; exact ma_K_o
      rw [k1, k2, Int.zero_mul, Int.zero_sub, ← Int.mul_neg] at this
      have := Int.eq_of_mul_eq_mul_left s2 this
      omega
    · rw [elv i mn (by omega) e (by omega)]
      obtain ⟨w1, w2⟩ := wl i (by omega)
      have q1 := ma_Kb (s := 5) s5 (ma_bd_e (i := i))
      have q2 := ma_Ks (s := k) (by omega) o5 s5 (ma_bd_e (i := i))
      have q4 := ma_Kb (s := 5) s5 bWp
      refine ma_elv vkk w2 (w1 k (by omega) hk) wk5 s3 s2 (ma_Ks (by omega) o5 s5 bWp) q1 (by omega) (by omega) (ma_Kb nbd (ma_bd_e (i := i))) ?_
      rw [plu 5 (by omega) (by omega)]
      grind
  · rcases s9 i hi with ⟨s, h1, h2⟩ | ⟨q, h1, h2, h3⟩
    · refine Or.inl ⟨s, by omega, ?_⟩
      rw [ma_rw_n (by omega)]
      exact h2
    · by_cases e : q = p
      · refine Or.inl ⟨k, by omega, ?_⟩
        rw [ma_rw_s, ← e]
        exact h3
      · by_cases e2 : q = k
        · refine Or.inr ⟨p, by omega, hp, ?_⟩
          show (if p = p then W k else W p) = F i
          rw [if_pos rfl, ← e2]
          exact h3
        · refine Or.inr ⟨q, by omega, h2, ?_⟩
          show (if q = p then W k else W q) = F i
          rw [if_neg e]
          exact h3
  · by_cases e : s = k
    · rw [e, ma_rw_s]
      exact s11 p hp
    · rw [ma_rw_n e]
      exact s10 s (by omega)
  · show ∃ i, i < mn ∧ (if q = p then W k else W q) = F i
    split
    · exact s11 k hk
    · exact s11 q hq
theorem ma_sol {mn : Nat} (hmn : mn ≤ 5) {F : Nat → Nat → Int} : ∀ n k bf b o W, n + k = mn → ma_SI mn F k bf b o W → (∀ K j, K ≠ 87 → (m_sol mn n k bf b).2.2 K j = b K j) ∧ (((m_sol mn n k bf b).1 = 1 ∧ ∃ o', ma_SI mn F mn (m_sol mn n k bf b).2.1 (m_sol mn n k bf b).2.2 o' W ∨ ∃ W', ma_SI mn F mn (m_sol mn n k bf b).2.1 (m_sol mn n k bf b).2.2 o' W') ∨ ((m_sol mn n k bf b).1 = 0 ∧ ∃ X : Nat → Int, X 5 = 0 ∧ ma_zr mn X ∧ (∃ c, c < mn ∧ X c ≠ 0) ∧ ∀ i, i < mn → ma_dot (F i) X = 0))
  | 0, k, bf, b, o, W, hk, S => by
    have hk : k = mn := by omega
    subst hk
    exact ⟨fun _ _ _ => rfl, Or.inl ⟨rfl, o, Or.inl S⟩⟩
  | n + 1, k, bf, b, o, W, hk, S => by
    have e : m_sol mn (n + 1) k bf b = if m_pv b k (mn - k) k = mn then (0, bf, b) else m_sol mn n (k + 1) (m_sw b k (m_pv b k (mn - k) k) (mn + 1) 87 ((6 * k) + k)) (m_el (m_sw b k (m_pv b k (mn - k) k) (mn + 1)) k (m_sw b k (m_pv b k (mn - k) k) (mn + 1) 87 ((6 * k) + k)) bf mn mn) := rfl
    obtain ⟨p1, p2, p3, p4⟩ := ma_pvs (b := b) (k := k) (mn - k) k
    by_cases h : m_pv b k (mn - k) k = mn
    · rw [e, if_pos h]
      refine ⟨fun _ _ _ => rfl, Or.inr ⟨rfl, ma_Y o k, ?_, fun i h1 h2 => ?_, ⟨k, by omega, ?_⟩, fun i hi => ?_⟩⟩
      all_goals obtain ⟨⟨s1, s2, s3⟩, s4, s5, s6, s7, s8, s9, s10, s11⟩ := S
      · show ma_K o k (ma_e 5) = 0
        rw [← s4 5 (by omega) (by omega)]
        exact ma_K_z (by omega) (by omega) (by omega)
      · show ma_K o k (ma_e i) = 0
        rw [← s4 i (by omega) (by omega)]
        exact ma_K_z (by omega) (by omega) (by omega)
      · show ma_K o k (ma_e k) ≠ 0
        have := s4 k (by omega) (by omega)
        rw [← this, ma_K_o]
        exact s2
      · rw [ma_dot_Y (by omega)]
        rcases s9 i hi with ⟨s, h1, h2⟩ | ⟨q, h1, h2, h3⟩
        · rw [← h2]
          exact ma_K_z (by omega) (by omega) (by omega)
        · rw [← h3, ← (s7 q h1 h2).1 k (Nat.le_refl _) (by omega)]
          exact ma_e0.mp (p4 q h1 (by omega))
    · rw [e, if_neg h]
      have St := ma_SI_step hmn S (by omega) p1 (by omega) (p3 (by omega))
      obtain ⟨i1, i2⟩ := ma_sol hmn n (k + 1) _ _ _ _ (by omega) St
      refine ⟨fun K j hK => ?_, ?_⟩
      · rw [i1 K j hK, ma_el_f _ _ _ hK, ma_swp_f _ _ _ hK]
      · rcases i2 with ⟨q, o', q2⟩ | q
        · refine Or.inl ⟨q, o', Or.inr ?_⟩
          rcases q2 with q2 | ⟨W', q2⟩
          · exact ⟨_, q2⟩
          · exact ⟨W', q2⟩
        · exact Or.inr q
theorem ma_mx1 {a : gF} {b : gL} {i : Nat} : ∀ n, n ≤ 6 → ∀ i' j, j < 6 → m_mx1 a b i n 87 (6 * i' + j) = if i' = i ∧ j < n then m_part a (cN (a 88 i)) j else b 87 (6 * i' + j)
  | 0, _, i', j, _ => by
    rw [if_neg (by omega)]
    rfl
  | n + 1, hn, i', j, hj => by
    show gU (m_mx1 a b i n) 87 ((6 * i) + n) (m_part a (cN (a 88 i)) n) 87 (6 * i' + j) = _
    by_cases h : i' = i ∧ j = n
    · obtain ⟨rfl, rfl⟩ := h
      rw [gU_s, if_pos (by omega)]
    · rw [gU_n (by omega), ma_mx1 n (by omega) i' j hj]
      by_cases h2 : i' = i ∧ j < n
      · rw [if_pos h2, if_pos (by omega)]
      · rw [if_neg h2, if_neg (by omega)]
theorem ma_mx1_f {a : gF} {b : gL} {i : Nat} : ∀ n K j, K ≠ 87 → m_mx1 a b i n K j = b K j
  | 0, _, _, _ => rfl
  | n + 1, K, j, h => by
    show gU (m_mx1 a b i n) 87 ((6 * i) + n) _ K j = _
    rw [gU_n (by omega), ma_mx1_f n K j h]
theorem ma_mx {a : gF} {b : gL} {mn : Nat} (hmn : mn ≤ 5) : ∀ n, n ≤ mn → ∀ i' j, j < 6 → m_mx a b mn n 87 (6 * i' + j) = if i' < n ∧ j < mn then m_part a (cN (a 88 i')) j else if i' < n ∧ j = mn then m_part a (cN (a 88 i')) 5 else b 87 (6 * i' + j)
  | 0, _, i', j, _ => by
    rw [if_neg (by omega), if_neg (by omega)]
    rfl
  | n + 1, hn, i', j, hj => by
    show gU (m_mx1 a (m_mx a b mn n) n mn) 87 ((6 * n) + mn) (m_part a (cN (a 88 n)) 5) 87 (6 * i' + j) = _
    by_cases h : i' = n ∧ j = mn
    · obtain ⟨rfl, rfl⟩ := h
      rw [gU_s, if_neg (by omega), if_pos (by omega)]
    · rw [gU_n (by omega), ma_mx1 mn (by omega) i' j hj]
      by_cases h2 : i' = n ∧ j < mn
      · rw [if_pos h2, if_pos (by omega), h2.1]
      · rw [if_neg h2, ma_mx hmn n (by omega) i' j hj]
        by_cases h3 : i' < n ∧ j < mn
        · rw [if_pos h3, if_pos (by omega)]
        · rw [if_neg h3, if_neg (show ¬ (i' < n + 1 ∧ j < mn) by omega)]
          by_cases h4 : i' < n ∧ j = mn
          · rw [if_pos h4, if_pos (by omega)]
          · rw [if_neg h4, if_neg (by omega)]
theorem ma_mx_f {a : gF} {b : gL} {mn : Nat} : ∀ n K j, K ≠ 87 → m_mx a b mn n K j = b K j
  | 0, _, _, _ => rfl
  | n + 1, K, j, h => by
    show gU (m_mx1 a (m_mx a b mn n) n mn) 87 ((6 * n) + mn) _ K j = _
    rw [gU_n (by omega), ma_mx1_f _ _ _ h, ma_mx_f n K j h]
theorem ma_ovs {b : gL} {mn : Nat} : ∀ n K j, m_ov b mn n K j = if K = 89 ∧ j < n then b 87 (6 * j + mn) else b K j
  | 0, K, j => by
    rw [if_neg (by omega)]
    rfl
  | n + 1, K, j => by
    show gU (m_ov b mn n) 89 n (m_ov b mn n 87 ((6 * n) + mn)) K j = _
    have e : m_ov b mn n 87 (6 * n + mn) = b 87 (6 * n + mn) := by rw [ma_ovs, if_neg (by omega)]
    rw [e]
    by_cases h : K = 89 ∧ j = n
    · obtain ⟨rfl, rfl⟩ := h
      rw [gU_s, if_pos (by omega)]
    · rw [gU_n (by omega), ma_ovs]
      by_cases h2 : K = 89 ∧ j < n
      · rw [if_pos h2, if_pos (by omega)]
      · rw [if_neg h2, if_neg (by omega)]
theorem ma_ngs {b : gL} : ∀ n K j, m_ng b n K j = if K = 89 ∧ j < n then - b 89 j else b K j
  | 0, K, j => by
    rw [if_neg (by omega)]
    rfl
  | n + 1, K, j => by
    show gU (m_ng b n) 89 n (- m_ng b n 89 n) K j = _
    have e : m_ng b n 89 n = b 89 n := by rw [ma_ngs, if_neg (by omega)]
    rw [e]
    by_cases h : K = 89 ∧ j = n
    · obtain ⟨rfl, rfl⟩ := h
      rw [gU_s, if_pos (by omega)]
    · rw [gU_n (by omega), ma_ngs]
      by_cases h2 : K = 89 ∧ j < n
      · rw [if_pos h2, if_pos (by omega)]
      · rw [if_neg h2, if_neg (by omega)]
/-- the reference's condition c -/
def ma_F (a : gF) (mn c : Nat) : Nat → Int := ma_fm mn (fun j => (m_part a c j).toInt) (-(m_part a c 5).toInt)
theorem ma_solve {J : gL} {a : gF} {b : gL} {mn : Nat} (hmn : mn ≤ 5) (hb : ∀ i, i < mn → ma_bd (ma_F a mn (cN (a 88 i)))) :
    (∀ K j, ¬ (K = 5 ∧ j = 23) → m_sJ J a b mn K j = J K j) ∧ (∀ K j, K ≠ 87 → K ≠ 89 → m_sB a b mn K j = b K j) ∧ (((m_s0 a b mn).1 = 1 ∧ ∃ o, ma_sp o ∧ ma_D 6 o ≠ 0 ∧ (∀ s, s < 6 → mn ≤ s → o s = ma_e s) ∧ (∀ s, s < 6 → ma_bd (o s)) ∧ (∀ i, i < mn → ∃ s, s < mn ∧ o s = ma_F a mn (cN (a 88 i))) ∧ (∀ s, s < mn → ∃ i, i < mn ∧ o s = ma_F a mn (cN (a 88 i))) ∧ (m_sJ J a b mn 5 23).toInt = ma_u o ∧ ∀ i, i < mn → (m_sB a b mn 89 i).toInt = ma_k o 5 (ma_e i)) ∨ ((m_s0 a b mn).1 = 0 ∧ ∃ X : Nat → Int, X 5 = 0 ∧ ma_zr mn X ∧ (∃ c, c < mn ∧ X c ≠ 0) ∧ ∀ i, i < mn → ma_dot (ma_F a mn (cN (a 88 i))) X = 0)) := by
  have S0 : ma_SI mn (fun i => ma_F a mn (cN (a 88 i))) 0 1 (m_mx a b mn mn) ma_e (fun i => ma_F a mn (cN (a 88 i))) := by
    refine ⟨⟨ma_sp_e, by rw [ma_D_e]; decide, by rw [ma_D_e]; rfl⟩, fun s _ _ => rfl, fun s _ => ma_bd_e, hb, fun i _ hi => ⟨fun j _ hj => ?_, ?_⟩, fun i h => by omega, fun i hi => Or.inr ⟨i, by omega, hi, rfl⟩, fun s h => by omega, fun q hq => ⟨q, hq, rfl⟩⟩
    · rw [ma_mx hmn mn (Nat.le_refl _) i j (by omega), if_pos ⟨hi, hj⟩, ma_K_e (by omega)]
      show _ = ma_fm mn _ _ j
      unfold ma_fm
      rw [if_neg (by omega), if_pos hj]
    · rw [ma_mx hmn mn (Nat.le_refl _) i mn (by omega), if_neg (by omega), if_pos ⟨hi, rfl⟩, ma_K_e (by omega)]
      show _ = - ma_fm mn _ _ 5
      unfold ma_fm
      rw [if_pos rfl]
      omega
  obtain ⟨f1, f2⟩ := ma_sol hmn mn 0 1 (m_mx a b mn mn) _ _ (by omega) S0
  have hm : m_s0 a b mn = m_sol mn mn 0 1 (m_mx a b mn mn) := rfl
  rw [← hm] at f1 f2
  have f1' : ∀ K j, K ≠ 87 → (m_s0 a b mn).2.2 K j = b K j := fun K j h => by rw [f1 K j h, ma_mx_f _ _ _ h]
  have hJ : ∀ K j, ¬ (K = 5 ∧ j = 23) → m_sJ J a b mn K j = J K j := by
    intro K j h
    unfold m_sJ
    split
    · rfl
    · split
      · rw [gU_n (by omega)]
      · rw [gU_n (by omega), gU_n (by omega)]
  have hB : ∀ K j, K ≠ 87 → K ≠ 89 → m_sB a b mn K j = b K j := by
    intro K j h1 h2
    unfold m_sB
    split
    · exact f1' K j h1
    · split
      · rw [ma_ovs, if_neg (by omega)]; exact f1' K j h1
      · rw [ma_ngs, if_neg (by omega), ma_ovs, if_neg (by omega)]; exact f1' K j h1
  refine ⟨hJ, hB, ?_⟩
  rcases f2 with ⟨q, o, q2⟩ | q
  · refine Or.inl ⟨q, o, ?_⟩
    obtain ⟨W', S⟩ : ∃ W', ma_SI mn (fun i => ma_F a mn (cN (a 88 i))) mn (m_s0 a b mn).2.1 (m_s0 a b mn).2.2 o W' := by
      rcases q2 with q2 | q2
      · exact ⟨_, q2⟩
      · exact q2
    obtain ⟨⟨s1, s2, s3⟩, s4, s5, s6, s7, s8, s9, s10, s11⟩ := S
    have hne : ¬ (m_s0 a b mn).1 = 0 := by rw [q]; decide
    have o5 : o 5 = ma_e 5 := s4 5 (by omega) (by omega)
    have bu : (ma_D 6 o).natAbs ≤ 7085880 := ma_D_small o5 (fun s hs => s5 s (by omega))
    refine ⟨s1, s2, s4, s5, fun i hi => ?_, s10, ?_, fun i hi => ?_⟩
    · rcases s9 i hi with ⟨s, h1, h2⟩ | ⟨q, h1, h2, h3⟩
      · exact ⟨s, h1, h2⟩
      · omega
    · unfold m_sJ
      rw [if_neg hne]
      by_cases h : 0 ≤ (m_s0 a b mn).2.1
      · rw [if_pos h, gU_s, s3]
        have := ma_l0.mp h
        unfold ma_u ma_s
        rw [if_pos (by omega)]
        omega
      · rw [if_neg h, gU_s, ma_neg s3 (by omega)]
        have := Int.not_le.mp (fun w => h (ma_l0.mpr w))
        unfold ma_u ma_s
        rw [if_neg (by omega)]
        omega
    · have v := (s8 i hi).2
      have bv := ma_Kb (s := 5) s5 (ma_bd_e (i := i))
      unfold m_sB
      rw [if_neg hne]
      by_cases h : 0 ≤ (m_s0 a b mn).2.1
      · rw [if_pos h, ma_ovs, if_pos ⟨rfl, hi⟩, v]
        have := ma_l0.mp h
        unfold ma_k ma_s
        rw [if_pos (by omega)]
        omega
      · rw [if_neg h, ma_ngs, if_pos ⟨rfl, hi⟩, ma_ovs, if_pos ⟨rfl, hi⟩, ma_neg v (by omega)]
        have := Int.not_le.mp (fun w => h (ma_l0.mpr w))
        unfold ma_k ma_s
        rw [if_neg (by omega)]
        omega
  · exact Or.inr q
end
section
/-! THE MATHEMATICS, 13: the point where the dictionary stands is a corner -/
/-- the members of a set of numbers, in order -/
theorem ma_sort (b : Nat → Bool) : ∀ M, ∃ t : Nat → Nat, (∀ i, i < ma_cnt b M → t i < M ∧ b (t i) = true) ∧ (∀ i j, i < j → j < ma_cnt b M → t i < t j) ∧ (∀ m, m < M → b m = true → ∃ i, i < ma_cnt b M ∧ t i = m)
  | 0 => ⟨fun _ => 0, fun i h => by exact absurd h (Nat.not_lt_zero _), fun i j _ h => by exact absurd h (Nat.not_lt_zero _), fun m h => by omega⟩
  | M + 1 => by
    obtain ⟨t, h1, h2, h3⟩ := ma_sort b M
    have e : ma_cnt b (M + 1) = ma_cnt b M + (if b M then 1 else 0) := rfl
    by_cases hb : b M = true
    · rw [if_pos hb] at e
      rw [e]
      refine ⟨fun i => if i < ma_cnt b M then t i else M, fun i hi => ?_, fun i j hij hj => ?_, fun m hm hbm => ?_⟩
      · show (if i < ma_cnt b M then t i else M) < M + 1 ∧ b (if i < ma_cnt b M then t i else M) = true
        by_cases q : i < ma_cnt b M
        · rw [if_pos q]
          have := h1 i q
          exact ⟨by omega, this.2⟩
        · rw [if_neg q]
          exact ⟨by omega, hb⟩
      · show (if i < ma_cnt b M then t i else M) < (if j < ma_cnt b M then t j else M)
        rw [if_pos (by omega)]
        by_cases q : j < ma_cnt b M
        · rw [if_pos q]
          exact h2 i j hij q
        · rw [if_neg q]
          exact (h1 i (by omega)).1
      · by_cases q : m = M
        · refine ⟨ma_cnt b M, by omega, ?_⟩
          show (if ma_cnt b M < ma_cnt b M then _ else M) = m
          rw [if_neg (by omega)]
          exact q.symm
        · obtain ⟨i, g1, g2⟩ := h3 m (by omega) hbm
          refine ⟨i, by omega, ?_⟩
          show (if i < ma_cnt b M then t i else M) = m
          rw [if_pos g1]
          exact g2
    · rw [if_neg hb] at e
      rw [e, Nat.add_zero]
      refine ⟨t, fun i hi => ?_, h2, fun m hm hbm => ?_⟩
      · have := h1 i hi
        exact ⟨by omega, this.2⟩
      · by_cases q : m = M
        · rw [q] at hbm; exact absurd hbm hb
        · exact h3 m (by omega) hbm
/-- a corner: as many conditions as names hold there, and no way leads out of them all -/
def ma_cor (nn : Nat) (C : Nat → Nat → Int) (T : Nat → Prop) (t : Nat → Nat) (X : Nat → Int) : Prop := (∀ i, i < nn → T (t i)) ∧ (∀ i j, i < j → j < nn → t i < t j) ∧ (∀ i, i < nn → ma_dot (C (t i)) X = 0) ∧ (∀ Z : Nat → Int, Z 5 = 0 → ma_zr nn Z → (∀ i, i < nn → ma_dot (C (t i)) Z = 0) → ∀ i, i < nn → Z i = 0)
theorem ma_dot_c {u v X : Nat → Int} (h : ∀ i, u i = v i) : ma_dot u X = ma_dot v X := ma_sm_congr (fun i _ => by rw [h i])
theorem ma_dot_neg {u v X : Nat → Int} (h : ∀ i, u i = - v i) : ma_dot u X = - ma_dot v X := by
  have : ma_dot u X = (-1) * ma_dot v X := by
    unfold ma_dot
    rw [← ma_sm_mul]
    exact ma_sm_congr (fun i _ => by rw [h i]; grind)
  omega
theorem ma_corner {nn nr nl : Nat} {V : Nat → Nat → Int} {x : ma_X} {a : gF} {R : Nat → Prop} (D : ma_DX nn nl V x) (Cd : ma_CD nn nr a R nl V) : ∃ t, ma_cor nn (ma_C nn (ma_ci a 6) (ma_ci a 7) (ma_ci a 10) (ma_fa a)) (ma_th nn nr R) t (ma_pY nn V x) := by
  have n1 := D.1.1
  have hO : ∀ s, s < nn → ma_Oa x.2.1 s < nn + nl := fun s hs => (D.2.2.2.1 s hs).2
  have hu := (ma_DI_LP D).1
  -- the condition of each column
  have hch : ∀ s, ∃ c, s < nn → ma_th nn nr R c ∧ ((∀ i, V (ma_Oa x.2.1 s) i = ma_C nn (ma_ci a 6) (ma_ci a 7) (ma_ci a 10) (ma_fa a) c i) ∨ (∀ i, V (ma_Oa x.2.1 s) i = - ma_C nn (ma_ci a 6) (ma_ci a 7) (ma_ci a 10) (ma_fa a) c i)) := by
    intro s
    by_cases hs : s < nn
    · obtain ⟨c, h1, h2⟩ := Cd.2.2.2.2.1 _ (hO s hs)
      exact ⟨c, fun _ => ⟨h1, h2⟩⟩
    · exact ⟨0, fun h => absurd h hs⟩
  obtain ⟨cc, hcc⟩ := Classical.axiomOfChoice hch
  have dotz : ∀ s, s < nn → ∀ X, ma_dot (ma_C nn (ma_ci a 6) (ma_ci a 7) (ma_ci a 10) (ma_fa a) (cc s)) X = 0 ↔ ma_dot (V (ma_Oa x.2.1 s)) X = 0 := by
    intro s hs X
    rcases (hcc s hs).2 with h | h
    · rw [ma_dot_c h]
    · rw [ma_dot_neg h]
      omega
  have inj : ∀ s s', s < nn → s' < nn → cc s = cc s' → s = s' := by
    intro s s' hs hs' he
    apply Classical.byContradiction
    intro hne
    have k1 := ma_kO D (s := s) (s' := s) (by omega) hs
    have k2 := ma_kO D (s := s) (s' := s') (by omega) hs'
    rw [if_pos rfl] at k1
    rw [if_neg (fun q => hne q.symm)] at k2
    have e1 : ma_dot (V (ma_Oa x.2.1 s)) (fun i => ma_kx nn V x s (ma_e i)) = ma_kx nn V x s (V (ma_Oa x.2.1 s)) := (ma_DI_LP D).2.2.1 s (by omega) _
    have e2 : ma_dot (V (ma_Oa x.2.1 s')) (fun i => ma_kx nn V x s (ma_e i)) = ma_kx nn V x s (V (ma_Oa x.2.1 s')) := (ma_DI_LP D).2.2.1 s (by omega) _
    have z2 := (dotz s' hs' (fun i => ma_kx nn V x s (ma_e i))).mpr (by rw [e2, k2])
    rw [← he] at z2
    have z1 := (dotz s hs (fun i => ma_kx nn V x s (ma_e i))).mp z2
    rw [e1, k1] at z1
    omega
  have hcnt : ma_cnt (ma_has cc nn) 18 = nn := ma_cnt_has (fun s hs => (hcc s hs).1.1) inj
  obtain ⟨t, t1, t2, t3⟩ := ma_sort (ma_has cc nn) 18
  rw [hcnt] at t1 t2 t3
  have back : ∀ i, i < nn → ∃ s, s < nn ∧ cc s = t i := fun i hi => ma_has_iff.mp (t1 i hi).2
  have forth : ∀ s, s < nn → ∃ i, i < nn ∧ t i = cc s := fun s hs => t3 _ (hcc s hs).1.1 (ma_has_iff.mpr ⟨s, hs, rfl⟩)
  refine ⟨t, fun i hi => ?_, t2, fun i hi => ?_, fun Z h5 hz hall i hi => ?_⟩
  · obtain ⟨s, s1, s2⟩ := back i hi
    rw [← s2]
    exact (hcc s s1).1
  · obtain ⟨s, s1, s2⟩ := back i hi
    rw [← s2]
    refine (dotz s s1 _).mpr ?_
    rw [ma_pY_dot D, ma_kO D (by omega) s1, if_neg (by omega)]
  · have h := ma_tell D (ma_e i) hz
    rw [h5, Int.mul_zero, ma_sm_zero (fun s hs => ?_), ma_e_dot (by omega)] at h
    · rcases Int.mul_eq_zero.mp h with q | q
      · omega
      · exact q
    · obtain ⟨q, q1, q2⟩ := forth s hs
      have := hall q q1
      rw [q2] at this
      rw [(dotz s hs Z).mp this]
      omega
/-- the same point, over another denominator -/
def ma_eq (X Y : Nat → Int) : Prop := ∀ i, i < 5 → X i * Y 5 = Y i * X 5
theorem ma_sm_eq {X Y f : Nat → Int} {n : Nat} (hn : n ≤ 5) (h : ma_eq X Y) : ma_sm (fun i => f i * X i) n * Y 5 = ma_sm (fun i => f i * Y i) n * X 5 := by
  rw [Int.mul_comm, ← ma_sm_mul, Int.mul_comm, ← ma_sm_mul]
  exact ma_sm_congr (fun i hi => by
    have := h i (by omega)
    have e1 : Y 5 * (f i * X i) = f i * (X i * Y 5) := by grind
    rw [e1, this]
    grind)
theorem ma_fs_eq {nn nr : Nat} {lo hi se ri : Nat → Int} {fa : Nat → Nat → Int} {R : Nat → Prop} {X Y : Nat → Int} (hn : nn ≤ 5) (h : ma_eq X Y) (hX : ma_fs nn nr lo hi se ri fa R X) (h5 : 0 < Y 5) (hz : ma_zr nn Y) : ma_fs nn nr lo hi se ri fa R Y := by
  obtain ⟨⟨x1, x2, x3⟩, x4⟩ := hX
  have tr : ∀ {p q c : Int}, p * Y 5 = q * X 5 → (c * X 5 ≤ p ↔ c * Y 5 ≤ q) ∧ (p ≤ c * X 5 ↔ q ≤ c * Y 5) := by
    intro p q c hpq
    have e1 : c * X 5 * Y 5 = c * Y 5 * X 5 := by grind
    refine ⟨⟨fun w => ?_, fun w => ?_⟩, ⟨fun w => ?_, fun w => ?_⟩⟩
    · have := Int.mul_le_mul_of_nonneg_right w (Int.le_of_lt h5)
      exact Int.le_of_mul_le_mul_right (show c * Y 5 * X 5 ≤ q * X 5 by omega) x1
    · have := Int.mul_le_mul_of_nonneg_right w (Int.le_of_lt x1)
      exact Int.le_of_mul_le_mul_right (show c * X 5 * Y 5 ≤ p * Y 5 by omega) h5
    · have := Int.mul_le_mul_of_nonneg_right w (Int.le_of_lt h5)
      exact Int.le_of_mul_le_mul_right (show q * X 5 ≤ c * Y 5 * X 5 by omega) x1
    · have := Int.mul_le_mul_of_nonneg_right w (Int.le_of_lt x1)
      exact Int.le_of_mul_le_mul_right (show p * Y 5 ≤ c * X 5 * Y 5 by omega) h5
  refine ⟨⟨h5, hz, fun i hi => ?_⟩, fun r hr hR => ?_⟩
  · have e := h i (by omega)
    exact ⟨(tr e).1.mp (x3 i hi).1, (tr e).2.mp (x3 i hi).2⟩
  · have e := ma_sm_eq (f := fa r) hn h
    obtain ⟨k1, k2⟩ := x4 r hr hR
    exact ⟨fun q => (tr e).2.mp (k1 q), fun q => (tr e).1.mp (k2 q)⟩
end
section
/-! THE MATHEMATICS, 14: the reference's conditions, and keeps -/
/-- the numbers of the reference's problem are within the document's bounds -/
def ma_datM (mn mr : Nat) (a : gF) : Prop := mn ≤ 5 ∧ mr ≤ 8 ∧ (∀ i, i < mn → -100 ≤ (a 27 i).toInt ∧ (a 27 i).toInt ≤ (a 28 i).toInt ∧ (a 28 i).toInt ≤ 100 ∧ (a 29 i).toInt.natAbs ≤ 99) ∧ (∀ r, r < mr → (a 31 r).toInt.natAbs ≤ 1000 ∧ (a 30 r = 0 ∨ a 30 r = 1 ∨ a 30 r = 2) ∧ ∀ i, i < mn → (a 32 (5 * r + i)).toInt.natAbs ≤ 9)
abbrev ma_fm2 (a : gF) : Nat → Nat → Int := fun r i => (a 32 (5 * r + i)).toInt
abbrev ma_CM (mn : Nat) (a : gF) : Nat → Nat → Int := ma_C mn (ma_ci a 27) (ma_ci a 28) (ma_ci a 31) (ma_fm2 a)
theorem ma_part0 {a : gF} {c j : Nat} (hc : c < 18) (hj : j < 6) : (m_part a c j).toInt = if c < 8 then (if j = 5 then (a 31 c).toInt else (a 32 (5 * c + j)).toInt) else if j = 5 then (if c < 13 then (a 27 (c - 8)).toInt else (a 28 (c - 13)).toInt) else if j = (c - 8) % 5 then 1 else 0 := by
  unfold m_part
  have e8 : (8 : Int32) = nI 8 := rfl
  have e13 : (13 : Int32) = nI 13 := rfl
  have e5 : (5 : Int32) = nI 5 := rfl
  rw [e8, e13, e5]
  by_cases h : c < 8
  · rw [if_pos h, if_neg (by rw [nI_leI (by omega) (by omega)]; omega)]
    by_cases h5 : j = 5
    · rw [if_pos h5, if_pos (by rw [h5]), Int32.toInt_toInt64]
    · rw [if_neg h5, if_neg (by rw [nI_eq (by omega) (by omega)]; exact h5), Int32.toInt_toInt64]
  · rw [if_neg h, if_pos (by rw [nI_leI (by omega) (by omega)]; omega)]
    by_cases h5 : j = 5
    · rw [if_pos h5, if_pos (by rw [h5])]
      by_cases h13 : c < 13
      · rw [if_pos h13, if_neg (by rw [nI_leI (by omega) (by omega)]; omega), Int32.toInt_toInt64]
        have : (c - 8) % 5 = c - 8 := by omega
        rw [this]
      · rw [if_neg h13, if_pos (by rw [nI_leI (by omega) (by omega)]; omega), Int32.toInt_toInt64]
        have : (c - 8) % 5 = c - 13 := by omega
        rw [this]
    · rw [if_neg h5, if_neg (by rw [nI_eq (by omega) (by omega)]; exact h5)]
      by_cases h2 : j = (c - 8) % 5
      · rw [if_pos h2, if_pos (by rw [h2])]
        rfl
      · rw [if_neg h2, if_neg (by rw [nI_eq (by omega) (by omega)]; exact h2)]
        rfl
theorem ma_F_C {a : gF} {mn c : Nat} (hmn : mn ≤ 5) (hc : c < 18) : ma_F a mn c = ma_CM mn a c := by
  unfold ma_F ma_CM ma_C
  rw [ma_part0 hc (by omega)]
  by_cases h : c < 8
  · rw [if_pos h, if_pos h, if_pos rfl]
    refine ma_fm_c (fun s hs => ?_) rfl
    rw [ma_part0 hc (by omega), if_pos h, if_neg (by omega)]
  · rw [if_neg h, if_neg h, if_pos rfl]
    by_cases h13 : c < 13
    · rw [if_pos h13, if_pos h13]
      refine ma_fm_c (fun s hs => ?_) rfl
      rw [ma_part0 hc (by omega), if_neg h, if_neg (by omega)]
      have : (c - 8) % 5 = c - 8 := by omega
      rw [this]
      rfl
    · rw [if_neg h13, if_neg h13]
      refine ma_fm_c (fun s hs => ?_) rfl
      rw [ma_part0 hc (by omega), if_neg h, if_neg (by omega)]
      have : (c - 8) % 5 = c - 13 := by omega
      rw [this]
      rfl
theorem ma_F_bd {a : gF} {mn mr c : Nat} {R : Nat → Prop} (hd : ma_datM mn mr a) (hc : ma_th mn mr R c) : ma_bd (ma_CM mn a c) := by
  obtain ⟨d1, d2, d3, d4⟩ := hd
  obtain ⟨c1, c2, c3⟩ := hc
  unfold ma_CM ma_C
  by_cases h : c < 8
  · rw [if_pos h]
    have := d4 c (c2 h).1
    refine ma_fm_bd (fun s hs => this.2.2 s hs) ?_
    show (-(a 31 c).toInt).natAbs ≤ 1000
    omega
  · rw [if_neg h]
    have c3 := c3 (by omega)
    by_cases h13 : c < 13
    · rw [if_pos h13]
      have := d3 (c - 8) (by omega)
      refine ma_fm_bd (fun s _ => by unfold ma_e; split <;> decide) ?_
      show (-(a 27 (c - 8)).toInt).natAbs ≤ 1000
      omega
    · rw [if_neg h13]
      have := d3 (c - 13) (by omega)
      refine ma_fm_bd (fun s _ => by unfold ma_e; split <;> decide) ?_
      show (-(a 28 (c - 13)).toInt).natAbs ≤ 1000
      omega
/-- the point that solve has found -/
def ma_mX (J : gL) (b : gL) (mn : Nat) : Nat → Int := fun i => if i = 5 then (J 5 23).toInt else if i < mn then (b 89 i).toInt else 0
theorem ma_mX_z {J b : gL} {mn : Nat} : ma_zr mn (ma_mX J b mn) := fun i h1 h2 => by
  unfold ma_mX
  rw [if_neg (by omega), if_neg (by omega)]
theorem ma_mX_i {J b : gL} {mn i : Nat} (hmn : mn ≤ 5) (hi : i < mn) : ma_mX J b mn i = (b 89 i).toInt := by
  unfold ma_mX
  rw [if_neg (by omega), if_pos hi]
theorem ma_mX_5 {J b : gL} {mn : Nat} : ma_mX J b mn 5 = (J 5 23).toInt := if_pos rfl
theorem ma_kp1 {J : gL} {a : gF} {b : gL} {mn : Nat} (hd : ∀ i, i < mn → (a 27 i).toInt.natAbs ≤ 100 ∧ (a 28 i).toInt.natAbs ≤ 100) (hU : (J 5 23).toInt.natAbs ≤ 7085880) : ∀ n i, i + n ≤ mn → (m_kp1 J a b n i = 0 ∨ m_kp1 J a b n i = 1) ∧ (m_kp1 J a b n i = 1 ↔ ∀ q, i ≤ q → q < i + n → (a 27 q).toInt * (J 5 23).toInt ≤ (b 89 q).toInt ∧ (b 89 q).toInt ≤ (a 28 q).toInt * (J 5 23).toInt)
  | 0, i, _ => ⟨Or.inr rfl, ⟨fun _ q h1 h2 => by omega, fun _ => rfl⟩⟩
  | n + 1, i, hn => by
    obtain ⟨i0, i1⟩ := ma_kp1 (J := J) (b := b) hd hU n (i + 1) (by omega)
    have b1 := hd i (by omega)
    have m1 : ((a 27 i).toInt64 * J 5 23).toInt = (a 27 i).toInt * (J 5 23).toInt := ma_mul (Int32.toInt_toInt64 _) rfl (by have := ma_mb b1.1 hU; omega)
    have m2 : ((a 28 i).toInt64 * J 5 23).toInt = (a 28 i).toInt * (J 5 23).toInt := ma_mul (Int32.toInt_toInt64 _) rfl (by have := ma_mb b1.2 hU; omega)
    have e : m_kp1 J a b (n + 1) i = if b 89 i < (a 27 i).toInt64 * J 5 23 then 0 else if b 89 i ≤ (a 28 i).toInt64 * J 5 23 then m_kp1 J a b n (i + 1) else 0 := rfl
    rw [e]
    by_cases h1 : b 89 i < (a 27 i).toInt64 * J 5 23
    · rw [if_pos h1]
      rw [Int64.lt_iff_toInt_lt, m1] at h1
      refine ⟨Or.inl rfl, ⟨fun q => absurd q (by decide), fun q => ?_⟩⟩
      have := (q i (by omega) (by omega)).1
      omega
    · rw [if_neg h1]
      rw [Int64.lt_iff_toInt_lt, m1] at h1
      by_cases h2 : b 89 i ≤ (a 28 i).toInt64 * J 5 23
      · rw [if_pos h2]
        rw [Int64.le_iff_toInt_le, m2] at h2
        refine ⟨i0, ⟨fun q w h3 h4 => ?_, fun q => i1.mpr (fun w h3 h4 => q w (by omega) (by omega))⟩⟩
        by_cases h5 : w = i
        · rw [h5]
          exact ⟨by omega, h2⟩
        · exact i1.mp q w (by omega) (by omega)
      · rw [if_neg h2]
        rw [Int64.le_iff_toInt_le, m2] at h2
        refine ⟨Or.inl rfl, ⟨fun q => absurd q (by decide), fun q => ?_⟩⟩
        have := (q i (by omega) (by omega)).2
        omega
theorem ma_mks {J : gL} {a : gF} {b : gL} {mn mr r : Nat} (hd : ma_datM mn mr a) (hr : r < mr) (hU : (J 5 23).toInt.natAbs ≤ 7085880) (hO : ∀ i, i < mn → (b 89 i).toInt.natAbs ≤ 42515280000) : ∀ n, n ≤ mn → (m_ks J a b r n).toInt = -((a 31 r).toInt * (J 5 23).toInt) + ma_sm (fun i => (a 32 (5 * r + i)).toInt * (b 89 i).toInt) n ∧ (-((a 31 r).toInt * (J 5 23).toInt) + ma_sm (fun i => (a 32 (5 * r + i)).toInt * (b 89 i).toInt) n).natAbs ≤ 7085880000 + n * 382637520000
  | 0, _ => by
    have b1 := (hd.2.2.2 r hr).1
    have n1 : (-a 31 r).toInt = -(a 31 r).toInt := ma_neg3 rfl (by omega)
    have m0 := ma_mb b1 hU
    have m1 : ((-a 31 r).toInt64 * J 5 23).toInt = -(a 31 r).toInt * (J 5 23).toInt := ma_mul (by rw [Int32.toInt_toInt64, n1]) rfl (by rw [Int.neg_mul]; omega)
    rw [Int.neg_mul] at m1
    refine ⟨?_, ?_⟩
    · show ((-a 31 r).toInt64 * J 5 23).toInt = _ + 0
      rw [m1]
      omega
    · show (_ + (0 : Int)).natAbs ≤ _
      omega
  | n + 1, hn => by
    obtain ⟨i1, i2⟩ := ma_mks hd hr hU hO n (by omega)
    have f1 := (hd.2.2.2 r hr).2.2 n (by omega)
    have m0 := ma_mb f1 (hO n (by omega))
    have m1 : ((a 32 (5 * r + n)).toInt64 * b 89 n).toInt = (a 32 (5 * r + n)).toInt * (b 89 n).toInt := ma_mul (Int32.toInt_toInt64 _) rfl (by omega)
    have d1 := hd.1
    have b2 : (-((a 31 r).toInt * (J 5 23).toInt) + (ma_sm (fun i => (a 32 (5 * r + i)).toInt * (b 89 i).toInt) n + (a 32 (5 * r + n)).toInt * (b 89 n).toInt)).natAbs ≤ 7085880000 + (n + 1) * 382637520000 := by omega
    refine ⟨?_, b2⟩
    show (m_ks J a b r n + (a 32 (5 * r + n)).toInt64 * b 89 n).toInt = -((a 31 r).toInt * (J 5 23).toInt) + (ma_sm (fun i => (a 32 (5 * r + i)).toInt * (b 89 i).toInt) n + (a 32 (5 * r + n)).toInt * (b 89 n).toInt)
    rw [ma_add i1 m1 (by omega)]
    omega
theorem ma_g0 {s : Int32} {T : Int64} {nx : Int32} (hs : s = 0 ∨ s = 1 ∨ s = 2) (hx : nx = 0 ∨ nx = 1) : (m_g0 s T nx = 0 ∨ m_g0 s T nx = 1) ∧ (m_g0 s T nx = 1 ↔ ((s.toInt ≠ 2 → T.toInt ≤ 0) ∧ (s.toInt ≠ 0 → 0 ≤ T.toInt)) ∧ nx = 1) := by
  have z0 : (0 : Int32).toInt = 0 := rfl
  have z1 : (1 : Int32).toInt = 1 := rfl
  have z2 : (2 : Int32).toInt = 2 := rfl
  unfold m_g0 m_g1 m_g2
  rcases hs with q | q | q
  · rw [q, if_pos rfl, z0]
    by_cases h : 0 < T
    · rw [if_pos h]
      have := ma_p0.mp h
      exact ⟨Or.inl rfl, ⟨fun w => absurd w (by decide), fun w => by have := w.1.1 (by decide); omega⟩⟩
    · rw [if_neg h, if_neg (by decide), if_neg (by decide)]
      have := Int.not_lt.mp (fun w => h (ma_p0.mpr w))
      exact ⟨hx, ⟨fun w => ⟨⟨fun _ => this, fun c => absurd rfl c⟩, w⟩, fun w => w.2⟩⟩
  · rw [q, if_neg (by decide), if_pos rfl, z1]
    by_cases h : T = 0
    · rw [if_pos h, if_neg (by decide)]
      have := ma_e0.mp h
      exact ⟨hx, ⟨fun w => ⟨⟨fun _ => by omega, fun _ => by omega⟩, w⟩, fun w => w.2⟩⟩
    · rw [if_neg h]
      exact ⟨Or.inl rfl, ⟨fun w => absurd w (by decide), fun w => absurd (ma_e0.mpr (Int.le_antisymm (w.1.1 (by decide)) (w.1.2 (by decide)))) h⟩⟩
  · rw [q, if_neg (by decide), if_neg (by decide), if_pos rfl, z2]
    by_cases h : 0 ≤ T
    · rw [if_pos h]
      have := ma_l0.mp h
      exact ⟨hx, ⟨fun w => ⟨⟨fun c => absurd rfl c, fun _ => this⟩, w⟩, fun w => w.2⟩⟩
    · rw [if_neg h]
      have := fun w => h (ma_l0.mpr w)
      exact ⟨Or.inl rfl, ⟨fun w => absurd w (by decide), fun w => absurd (w.1.2 (by decide)) this⟩⟩
theorem ma_kp2 {J : gL} {a : gF} {b : gL} {mn mr : Nat} {set : Int32} (hd : ma_datM mn mr a) (hU : (J 5 23).toInt.natAbs ≤ 7085880) (hO : ∀ i, i < mn → (b 89 i).toInt.natAbs ≤ 42515280000) : ∀ n r, r + n ≤ mr → (m_kp2 J a b set mn n r = 0 ∨ m_kp2 J a b set mn n r = 1) ∧ (m_kp2 J a b set mn n r = 1 ↔ ∀ q, r ≤ q → q < r + n → m_bt set q ≠ 0 → ma_kr1 mn (a 30 q).toInt (a 31 q).toInt (ma_fm2 a q) (ma_mX J b mn))
  | 0, r, _ => ⟨Or.inr rfl, ⟨fun _ q h1 h2 => by omega, fun _ => rfl⟩⟩
  | n + 1, r, hn => by
    obtain ⟨i0, i1⟩ := ma_kp2 (set := set) hd hU hO n (r + 1) (by omega)
    obtain ⟨t1, -⟩ := ma_mks hd (show r < mr by omega) hU hO mn (Nat.le_refl _)
    have e : m_kp2 J a b set mn (n + 1) r = if m_bt set r = 0 then m_kp2 J a b set mn n (r + 1) else m_g0 (a 30 r) (m_ks J a b r mn) (m_kp2 J a b set mn n (r + 1)) := rfl
    rw [e]
    by_cases hb : m_bt set r = 0
    · rw [if_pos hb]
      refine ⟨i0, ⟨fun q w h3 h4 h6 => ?_, fun q => i1.mpr (fun w h3 h4 => q w (by omega) (by omega))⟩⟩
      by_cases h5 : w = r
      · rw [h5] at h6; exact absurd hb h6
      · exact i1.mp q w (by omega) (by omega) h6
    · rw [if_neg hb]
      obtain ⟨g1, g2⟩ := ma_g0 (T := m_ks J a b r mn) (hd.2.2.2 r (by omega)).2.1 i0
      have hrow : ((a 30 r).toInt ≠ 2 → (m_ks J a b r mn).toInt ≤ 0) ∧ ((a 30 r).toInt ≠ 0 → 0 ≤ (m_ks J a b r mn).toInt) ↔ ma_kr1 mn (a 30 r).toInt (a 31 r).toInt (ma_fm2 a r) (ma_mX J b mn) := by
        have es : ma_sm (fun i => ma_fm2 a r i * ma_mX J b mn i) mn = ma_sm (fun i => (a 32 (5 * r + i)).toInt * (b 89 i).toInt) mn := ma_sm_congr (fun i hi => by rw [ma_mX_i hd.1 hi])
        unfold ma_kr1
        rw [es, ma_mX_5, t1]
        constructor
        · intro h
          exact ⟨fun q => by have := h.1 q; omega, fun q => by have := h.2 q; omega⟩
        · intro h
          exact ⟨fun q => by have := h.1 q; omega, fun q => by have := h.2 q; omega⟩
      refine ⟨g1, ⟨fun q w h3 h4 h6 => ?_, fun q => g2.mpr ⟨hrow.mpr (q r (by omega) (by omega) hb), i1.mpr (fun w h3 h4 => q w (by omega) (by omega))⟩⟩⟩
      by_cases h5 : w = r
      · rw [h5]
        exact hrow.mp (g2.mp q).1
      · exact i1.mp (g2.mp q).2 w (by omega) (by omega) h6
theorem ma_mkeeps {J : gL} {a : gF} {b : gL} {mn mr : Nat} {set : Int32} (hd : ma_datM mn mr a) (hU0 : 0 < (J 5 23).toInt) (hU : (J 5 23).toInt.natAbs ≤ 7085880) (hO : ∀ i, i < mn → (b 89 i).toInt.natAbs ≤ 42515280000) : (m_keeps J a b set mn mr = 0 ∨ m_keeps J a b set mn mr = 1) ∧ (m_keeps J a b set mn mr = 1 ↔ ma_fs mn mr (ma_ci a 27) (ma_ci a 28) (ma_ci a 30) (ma_ci a 31) (ma_fm2 a) (fun r => m_bt set r ≠ 0) (ma_mX J b mn)) := by
  obtain ⟨p0, p1⟩ := ma_kp1 (J := J) (a := a) (b := b) (mn := mn) (fun i hi => by have := hd.2.2.1 i hi; omega) hU mn 0 (by omega)
  obtain ⟨q0, q1⟩ := ma_kp2 (set := set) hd hU hO mr 0 (by omega)
  unfold m_keeps
  have spans : m_kp1 J a b mn 0 = 1 ↔ ma_pt mn (ma_ci a 27) (ma_ci a 28) (ma_mX J b mn) := by
    rw [p1]
    constructor
    · intro h
      refine ⟨by rw [ma_mX_5]; exact hU0, ma_mX_z, fun i hi => ?_⟩
      rw [ma_mX_5, ma_mX_i hd.1 hi]
      exact h i (by omega) (by omega)
    · intro h q h1 h2
      have := h.2.2 q (by omega)
      rw [ma_mX_5, ma_mX_i hd.1 (by omega)] at this
      exact this
  by_cases h : m_kp1 J a b mn 0 = 0
  · rw [if_pos h]
    refine ⟨Or.inl rfl, ⟨fun w => absurd w (by decide), fun w => ?_⟩⟩
    have := spans.mpr w.1
    rw [h] at this
    exact absurd this (by decide)
  · rw [if_neg h]
    have h1 := p0.resolve_left h
    refine ⟨q0, ⟨fun w => ⟨spans.mp h1, fun r hr hR => q1.mp w r (by omega) (by omega) hR⟩, fun w => q1.mpr (fun r _ hr hR => w.2 r (by omega) hR)⟩⟩
/-- conditions that stand, and the next of them -/
theorem ma_mthere {I : gF} {set : Int32} {mn mr c : Nat} (hI : I 5 0 = nI mn) (hmn : mn ≤ 5) (hs : ∀ r, r < 8 → m_bt set r ≠ 0 → r < mr) (hb : ∀ r, r < 8 → m_bt set r = 0 ∨ m_bt set r = 1) (hc : c < 18) : (m_there I set c ≠ 0 ↔ ma_th mn mr (fun r => m_bt set r ≠ 0) c) := by
  unfold m_there ma_th
  have e8 : (8 : Int32) = nI 8 := rfl
  rw [hI, e8]
  by_cases h : c < 8
  · rw [if_neg (by rw [nI_leI (by omega) (by omega)]; omega)]
    show (if m_bt set c = 1 then (1 : Int32) else 0) ≠ 0 ↔ _
    rcases hb c h with q | q
    · rw [q, if_neg (by decide)]
      constructor
      · intro w; exact absurd rfl w
      · rintro ⟨-, w, -⟩
        exact absurd q (w h).2
    · rw [q, if_pos rfl]
      have hne : m_bt set c ≠ 0 := by rw [q]; decide
      exact ⟨fun _ => ⟨hc, fun _ => ⟨hs c h hne, hne⟩, fun w => by omega⟩, fun _ => by decide⟩
  · rw [if_pos (by rw [nI_leI (by omega) (by omega)]; omega)]
    by_cases h2 : (c - 8) % 5 < mn
    · rw [if_neg (by rw [nI_leI (by omega) (by omega)]; omega)]
      exact ⟨fun _ => ⟨hc, fun w => absurd w h, fun _ => h2⟩, fun _ => by decide⟩
    · rw [if_pos (by rw [nI_leI (by omega) (by omega)]; omega)]
      exact ⟨fun w => absurd rfl w, fun w => absurd (w.2.2 (by omega)) h2⟩
theorem ma_aft {I : gF} {set : Int32} : ∀ n k, k ≤ m_aft I set n k ∧ m_aft I set n k ≤ k + n ∧ (m_aft I set n k < k + n → m_there I set (m_aft I set n k) ≠ 0) ∧ ∀ q, k ≤ q → q < m_aft I set n k → m_there I set q = 0
  | 0, k => ⟨Nat.le_refl _, Nat.le_refl _, fun h => absurd h (Nat.lt_irrefl _), fun q h1 h2 => by have h2 : q < k := h2; omega⟩
  | n + 1, k => by
    have e : m_aft I set (n + 1) k = if m_there I set k = 0 then m_aft I set n (k + 1) else k := rfl
    by_cases h : m_there I set k = 0
    · rw [e, if_pos h]
      obtain ⟨i1, i2, i3, i4⟩ := ma_aft (I := I) (set := set) n (k + 1)
      refine ⟨by omega, by omega, fun q => i3 (by omega), fun q h1 h2 => ?_⟩
      by_cases h3 : q = k
      · rw [h3]; exact h
      · exact i4 q (by omega) h2
    · rw [e, if_neg h]
      exact ⟨Nat.le_refl _, by omega, fun _ => h, fun q h1 h2 => by omega⟩
end
section
/-! THE MATHEMATICS, 15: the reference's take -/
theorem ma_cmp {x y z w : Int64} {X Y Z W : Int} (hx : x.toInt = X) (hy : y.toInt = Y) (hz : z.toInt = Z) (hw : w.toInt = W) (b1 : (X * W).natAbs ≤ 9000000000000000000) (b2 : (Z * Y).natAbs ≤ 9000000000000000000) : (m_cmp x y z w = -1 ∧ X * W < Z * Y) ∨ (m_cmp x y z w = 0 ∧ X * W = Z * Y) ∨ (m_cmp x y z w = 1 ∧ Z * Y < X * W) := by
  have m1 := ma_mul hz hy b2
  have m2 := ma_mul hx hw b1
  unfold m_cmp
  by_cases h1 : z * y ≤ x * w
  · rw [if_pos h1]
    rw [Int64.le_iff_toInt_le, m1, m2] at h1
    by_cases h2 : x * w ≤ z * y
    · rw [if_pos h2]
      rw [Int64.le_iff_toInt_le, m1, m2] at h2
      exact Or.inr (Or.inl ⟨rfl, by omega⟩)
    · rw [if_neg h2]
      rw [Int64.le_iff_toInt_le, m1, m2] at h2
      exact Or.inr (Or.inr ⟨rfl, by omega⟩)
  · rw [if_neg h1]
    rw [Int64.le_iff_toInt_le, m1, m2] at h1
    exact Or.inl ⟨rfl, by omega⟩
/-- a point's numbers are small -/
def ma_sb (mn : Nat) (X : Nat → Int) : Prop := 0 < X 5 ∧ X 5 ≤ 7085880 ∧ ∀ i, i < mn → (X i).natAbs ≤ 708588000
/-- no later than another, name by name -/
def ma_lx (n : Nat) (P : Nat → Int) (p : Int) (Q : Nat → Int) (q : Int) : Prop := (∀ i, i < n → P i * q = Q i * p) ∨ ∃ i, i < n ∧ (∀ j, j < i → P j * q = Q j * p) ∧ P i * q < Q i * p
theorem ma_fre {a b c d e f : Int} (hb : 0 < b) (hd : 0 < d) (hf : 0 < f) (h1 : a * d = c * b) (h2 : c * f = e * d) : a * f = e * b :=
  Int.le_antisymm (ma_fr hb hd hf (Int.le_of_eq h1) (Int.le_of_eq h2)) (ma_fr hf hd hb (Int.le_of_eq h2.symm) (Int.le_of_eq h1.symm))
theorem ma_lx_t {n : Nat} {P Q R : Nat → Int} {p q r : Int} (hp : 0 < p) (hq : 0 < q) (hr : 0 < r) (h1 : ma_lx n P p Q q) (h2 : ma_lx n Q q R r) : ma_lx n P p R r := by
  rcases h1 with h1 | ⟨i, i1, i2, i3⟩
  · rcases h2 with h2 | ⟨j, j1, j2, j3⟩
    · exact Or.inl (fun i hi => ma_fre hp hq hr (h1 i hi) (h2 i hi))
    · exact Or.inr ⟨j, j1, fun k hk => ma_fre hp hq hr (h1 k (by omega)) (j2 k hk), ma_fr2 hp hq hr (Int.le_of_eq (h1 j j1)) j3⟩
  · rcases h2 with h2 | ⟨j, j1, j2, j3⟩
    · exact Or.inr ⟨i, i1, fun k hk => ma_fre hp hq hr (i2 k hk) (h2 k (by omega)), ma_fr1 hp hq hr i3 (Int.le_of_eq (h2 i i1))⟩
    · rcases Nat.lt_trichotomy i j with w | w | w
      · exact Or.inr ⟨i, i1, fun k hk => ma_fre hp hq hr (i2 k hk) (j2 k (by omega)), ma_fr1 hp hq hr i3 (Int.le_of_eq (j2 i w))⟩
      · subst w
        exact Or.inr ⟨i, i1, fun k hk => ma_fre hp hq hr (i2 k hk) (j2 k hk), ma_fr1 hp hq hr i3 (Int.le_of_lt j3)⟩
      · exact Or.inr ⟨j, j1, fun k hk => ma_fre hp hq hr (i2 k (by omega)) (j2 k hk), ma_fr2 hp hq hr (Int.le_of_eq (i2 j w)) j3⟩
theorem ma_lx_r {n : Nat} {P : Nat → Int} {p : Int} : ma_lx n P p P p := Or.inl (fun _ _ => rfl)
theorem ma_lx_a {n : Nat} {P Q : Nat → Int} {p q : Int} (h1 : ma_lx n P p Q q) (h2 : ma_lx n Q q P p) : ∀ i, i < n → P i * q = Q i * p := by
  rcases h1 with h1 | ⟨i, i1, i2, i3⟩
  · exact h1
  · exfalso
    rcases h2 with h2 | ⟨j, j1, j2, j3⟩
    · have := h2 i i1
      omega
    · rcases Nat.lt_trichotomy i j with w | w | w
      · have := j2 i w
        omega
      · subst w
        omega
      · have := i2 j w
        omega
def ma_fu (I : gF) (J b : gL) (j : Nat) : Prop := I 5 24 = 0 ∨ (j % 2 = 0 ∧ ¬ 0 ≤ m_cmp (b 89 (j / 2)) (J 5 23) (b 37 j) (b 38 j)) ∨ (j % 2 = 1 ∧ ¬ m_cmp (b 89 (j / 2)) (J 5 23) (b 37 j) (b 38 j) ≤ 0)
theorem ma_fu1 {I : gF} {J b : gL} {i s : Nat} (hi : i < 5) (hs : s < 2) : (ma_fu I J b (2 * i + s) ∧ m_fs I J b i s = m_fu J b i (2 * i + s)) ∨ (¬ ma_fu I J b (2 * i + s) ∧ m_fs I J b i s = b) := by
  have e1 : (2 * i + s) / 2 = i := by omega
  have e2 : (2 * i + s) % 2 = s := by omega
  unfold ma_fu m_fs
  rw [e1, e2]
  have z0 : (0 : Int32) = nI 0 := rfl
  by_cases h : I 5 24 = 0
  · rw [if_pos h]
    exact Or.inl ⟨Or.inl h, rfl⟩
  · rw [if_neg h]
    by_cases h2 : s = 0
    · rw [if_pos (by rw [h2]; rfl)]
      by_cases h3 : 0 ≤ m_cmp (b 89 i) (J 5 23) (b 37 (2 * i + s)) (b 38 (2 * i + s))
      · rw [if_pos h3]
        refine Or.inr ⟨fun q => ?_, rfl⟩
        rcases q with q | q | q
        · exact h q
        · exact q.2 h3
        · omega
      · rw [if_neg h3]
        exact Or.inl ⟨Or.inr (Or.inl ⟨h2, h3⟩), rfl⟩
    · rw [if_neg (by rw [z0, nI_eq (by omega) (by omega)]; exact h2)]
      by_cases h3 : m_cmp (b 89 i) (J 5 23) (b 37 (2 * i + s)) (b 38 (2 * i + s)) ≤ 0
      · rw [if_pos h3]
        refine Or.inr ⟨fun q => ?_, rfl⟩
        rcases q with q | q | q
        · exact h q
        · exact h2 q.1
        · exact q.2 h3
      · rw [if_neg h3]
        exact Or.inl ⟨Or.inr (Or.inr ⟨by omega, h3⟩), rfl⟩
theorem ma_fuc {I : gF} {J b b' : gL} {j : Nat} (h1 : ∀ k, b' 89 k = b 89 k) (h2 : b' 37 j = b 37 j) (h3 : b' 38 j = b 38 j) : ma_fu I J b' j ↔ ma_fu I J b j := by
  unfold ma_fu
  rw [h1, h2, h3]
/-- one name's two sides -/
theorem ma_fu2 {I : gF} {J b : gL} {i : Nat} (hi : i < 5) : (∀ K j, K ≠ 37 → K ≠ 38 → m_fr I J b i 2 K j = b K j) ∧ (∀ K j, j ≠ 2 * i → j ≠ 2 * i + 1 → m_fr I J b i 2 K j = b K j) ∧ (∀ j, j = 2 * i ∨ j = 2 * i + 1 → (ma_fu I J b j ∧ m_fr I J b i 2 37 j = b 89 (j / 2) ∧ m_fr I J b i 2 38 j = J 5 23) ∨ (¬ ma_fu I J b j ∧ m_fr I J b i 2 37 j = b 37 j ∧ m_fr I J b i 2 38 j = b 38 j)) := by
  have e : m_fr I J b i 2 = m_fs I J (m_fs I J b i 0) i 1 := rfl
  have up : ∀ (B : gL) (k K j : Nat), m_fu J B i k K j = if K = 38 ∧ j = k then J 5 23 else if K = 37 ∧ j = k then B 89 i else B K j := by
    intro B k K j
    unfold m_fu
    by_cases h : K = 38 ∧ j = k
    · obtain ⟨rfl, rfl⟩ := h
      rw [gU_s, if_pos ⟨rfl, rfl⟩]
    · rw [gU_n (by omega), if_neg h]
      by_cases h2 : K = 37 ∧ j = k
      · obtain ⟨rfl, rfl⟩ := h2
        rw [gU_s, if_pos ⟨rfl, rfl⟩]
      · rw [gU_n (by omega), if_neg h2]
  have c1 := ma_fu1 (I := I) (J := J) (b := b) hi (show 0 < 2 by omega)
  have c2 := ma_fu1 (I := I) (J := J) (b := m_fs I J b i 0) hi (show 1 < 2 by omega)
  have f1 : ∀ K j, (K ≠ 37 ∧ K ≠ 38) ∨ j ≠ 2 * i → m_fs I J b i 0 K j = b K j := by
    intro K j h
    rcases c1 with ⟨-, q⟩ | ⟨-, q⟩
    · rw [q, up, if_neg (by omega), if_neg (by omega)]
    · rw [q]
  have f2 : ∀ K j, (K ≠ 37 ∧ K ≠ 38) ∨ j ≠ 2 * i + 1 → m_fs I J (m_fs I J b i 0) i 1 K j = m_fs I J b i 0 K j := by
    intro K j h
    rcases c2 with ⟨-, q⟩ | ⟨-, q⟩
    · rw [q, up, if_neg (by omega), if_neg (by omega)]
    · rw [q]
  rw [e]
  refine ⟨fun K j h1 h2 => ?_, fun K j h1 h2 => ?_, fun j hj => ?_⟩
  · rw [f2 K j (Or.inl ⟨h1, h2⟩), f1 K j (Or.inl ⟨h1, h2⟩)]
  · rw [f2 K j (Or.inr h2), f1 K j (Or.inr h1)]
  · rcases hj with hj | hj
    · subst hj
      rw [f2 37 _ (Or.inr (by omega)), f2 38 _ (Or.inr (by omega))]
      have e2 : (2 * i) / 2 = i := by omega
      rw [e2]
      rcases c1 with ⟨q1, q2⟩ | ⟨q1, q2⟩
      · refine Or.inl ⟨q1, ?_, ?_⟩
        · rw [q2, up, if_neg (by omega), if_pos ⟨rfl, rfl⟩]
        · rw [q2, up, if_pos ⟨rfl, rfl⟩]
      · refine Or.inr ⟨q1, ?_, ?_⟩ <;> rw [q2]
    · subst hj
      have e2 : (2 * i + 1) / 2 = i := by omega
      rw [e2]
      have hc : ma_fu I J (m_fs I J b i 0) (2 * i + 1) ↔ ma_fu I J b (2 * i + 1) := ma_fuc (fun k => f1 89 k (Or.inl ⟨by omega, by omega⟩)) (f1 37 _ (Or.inr (by omega))) (f1 38 _ (Or.inr (by omega)))
      rcases c2 with ⟨q1, q2⟩ | ⟨q1, q2⟩
      · refine Or.inl ⟨hc.mp q1, ?_, ?_⟩
        · rw [q2, up, if_neg (by omega), if_pos ⟨rfl, rfl⟩, f1 89 i (Or.inl ⟨by omega, by omega⟩)]
        · rw [q2, up, if_pos ⟨rfl, rfl⟩]
      · refine Or.inr ⟨fun q => q1 (hc.mpr q), ?_, ?_⟩
        · rw [q2]; exact f1 37 _ (Or.inr (by omega))
        · rw [q2]; exact f1 38 _ (Or.inr (by omega))
theorem ma_fu3 {I : gF} {J b : gL} {a : gF} : ∀ n, n ≤ 5 → (∀ K j, K ≠ 37 → K ≠ 38 → (m_t1 I J a b n).2 K j = b K j) ∧ (∀ K j, 2 * n ≤ j → (m_t1 I J a b n).2 K j = b K j) ∧ (∀ j, j < 2 * n → (ma_fu I J b j ∧ (m_t1 I J a b n).2 37 j = b 89 (j / 2) ∧ (m_t1 I J a b n).2 38 j = J 5 23) ∨ (¬ ma_fu I J b j ∧ (m_t1 I J a b n).2 37 j = b 37 j ∧ (m_t1 I J a b n).2 38 j = b 38 j))
  | 0, _ => ⟨fun _ _ _ _ => rfl, fun _ _ _ => rfl, fun j h => by omega⟩
  | n + 1, hn => by
    obtain ⟨i1, i2, i3⟩ := ma_fu3 (I := I) (J := J) (b := b) (a := a) n (by omega)
    obtain ⟨g1, g2, g3⟩ := ma_fu2 (I := I) (J := J) (b := (m_t1 I J a b n).2) (show n < 5 by omega)
    have e : (m_t1 I J a b (n + 1)).2 = m_fr I J ((m_t1 I J a b n).2) n 2 := rfl
    rw [e]
    refine ⟨fun K j h1 h2 => ?_, fun K j h => ?_, fun j hj => ?_⟩
    · rw [g1 K j h1 h2, i1 K j h1 h2]
    · rw [g2 K j (by omega) (by omega), i2 K j (by omega)]
    · by_cases h : j < 2 * n
      · rw [g2 37 j (by omega) (by omega), g2 38 j (by omega) (by omega)]
        exact i3 j h
      · have hc : ma_fu I J ((m_t1 I J a b n).2) j ↔ ma_fu I J b j := ma_fuc (fun k => i1 89 k (by omega) (by omega)) (i2 37 j (by omega)) (i2 38 j (by omega))
        rcases g3 j (by omega) with ⟨q1, q2, q3⟩ | ⟨q1, q2, q3⟩
        · exact Or.inl ⟨hc.mp q1, by rw [q2, i1 89 _ (by omega) (by omega)], q3⟩
        · exact Or.inr ⟨fun q => q1 (hc.mpr q), by rw [q2, i2 37 j (by omega)], by rw [q3, i2 38 j (by omega)]⟩
def ma_ru (cv : Int32) (J b : gL) (j : Nat) : Prop := ¬ 0 ≤ cv ∨ (j % 2 = 0 ∧ ¬ 0 ≤ m_cmp (b 89 (j / 2)) (J 5 23) (b 35 j) (b 36 j)) ∨ (j % 2 = 1 ∧ ¬ m_cmp (b 89 (j / 2)) (J 5 23) (b 35 j) (b 36 j) ≤ 0)
theorem ma_ru1 {cv : Int32} {J b : gL} {i s : Nat} (hi : i < 5) (hs : s < 2) : (ma_ru cv J b (2 * i + s) ∧ m_rs cv J b i s = m_ru J b i (2 * i + s)) ∨ (¬ ma_ru cv J b (2 * i + s) ∧ m_rs cv J b i s = b) := by
  have e1 : (2 * i + s) / 2 = i := by omega
  have e2 : (2 * i + s) % 2 = s := by omega
  unfold ma_ru m_rs
  rw [e1, e2]
  have z0 : (0 : Int32) = nI 0 := rfl
  by_cases h : ¬ 0 ≤ cv
  · rw [if_neg h]
    exact Or.inl ⟨Or.inl h, rfl⟩
  · rw [if_pos (Classical.not_not.mp h)]
    by_cases h2 : s = 0
    · rw [if_pos (by rw [h2]; rfl)]
      by_cases h3 : 0 ≤ m_cmp (b 89 i) (J 5 23) (b 35 (2 * i + s)) (b 36 (2 * i + s))
      · rw [if_pos h3]
        refine Or.inr ⟨fun q => ?_, rfl⟩
        rcases q with q | q | q
        · exact h q
        · exact q.2 h3
        · omega
      · rw [if_neg h3]
        exact Or.inl ⟨Or.inr (Or.inl ⟨h2, h3⟩), rfl⟩
    · rw [if_neg (by rw [z0, nI_eq (by omega) (by omega)]; exact h2)]
      by_cases h3 : m_cmp (b 89 i) (J 5 23) (b 35 (2 * i + s)) (b 36 (2 * i + s)) ≤ 0
      · rw [if_pos h3]
        refine Or.inr ⟨fun q => ?_, rfl⟩
        rcases q with q | q | q
        · exact h q
        · exact h2 q.1
        · exact q.2 h3
      · rw [if_neg h3]
        exact Or.inl ⟨Or.inr (Or.inr ⟨by omega, h3⟩), rfl⟩
theorem ma_ruc {cv : Int32} {J b b' : gL} {j : Nat} (h1 : ∀ k, b' 89 k = b 89 k) (h2 : b' 35 j = b 35 j) (h3 : b' 36 j = b 36 j) : ma_ru cv J b' j ↔ ma_ru cv J b j := by
  unfold ma_ru
  rw [h1, h2, h3]
/-- one name's two sides -/
theorem ma_ru2 {cv : Int32} {J b : gL} {i : Nat} (hi : i < 5) : (∀ K j, K ≠ 35 → K ≠ 36 → m_rr cv J b i 2 K j = b K j) ∧ (∀ K j, j ≠ 2 * i → j ≠ 2 * i + 1 → m_rr cv J b i 2 K j = b K j) ∧ (∀ j, j = 2 * i ∨ j = 2 * i + 1 → (ma_ru cv J b j ∧ m_rr cv J b i 2 35 j = b 89 (j / 2) ∧ m_rr cv J b i 2 36 j = J 5 23) ∨ (¬ ma_ru cv J b j ∧ m_rr cv J b i 2 35 j = b 35 j ∧ m_rr cv J b i 2 36 j = b 36 j)) := by
  have e : m_rr cv J b i 2 = m_rs cv J (m_rs cv J b i 0) i 1 := rfl
  have up : ∀ (B : gL) (k K j : Nat), m_ru J B i k K j = if K = 36 ∧ j = k then J 5 23 else if K = 35 ∧ j = k then B 89 i else B K j := by
    intro B k K j
    unfold m_ru
    by_cases h : K = 36 ∧ j = k
    · obtain ⟨rfl, rfl⟩ := h
      rw [gU_s, if_pos ⟨rfl, rfl⟩]
    · rw [gU_n (by omega), if_neg h]
      by_cases h2 : K = 35 ∧ j = k
      · obtain ⟨rfl, rfl⟩ := h2
        rw [gU_s, if_pos ⟨rfl, rfl⟩]
      · rw [gU_n (by omega), if_neg h2]
  have c1 := ma_ru1 (cv := cv) (J := J) (b := b) hi (show 0 < 2 by omega)
  have c2 := ma_ru1 (cv := cv) (J := J) (b := m_rs cv J b i 0) hi (show 1 < 2 by omega)
  have f1 : ∀ K j, (K ≠ 35 ∧ K ≠ 36) ∨ j ≠ 2 * i → m_rs cv J b i 0 K j = b K j := by
    intro K j h
    rcases c1 with ⟨-, q⟩ | ⟨-, q⟩
    · rw [q, up, if_neg (by omega), if_neg (by omega)]
    · rw [q]
  have f2 : ∀ K j, (K ≠ 35 ∧ K ≠ 36) ∨ j ≠ 2 * i + 1 → m_rs cv J (m_rs cv J b i 0) i 1 K j = m_rs cv J b i 0 K j := by
    intro K j h
    rcases c2 with ⟨-, q⟩ | ⟨-, q⟩
    · rw [q, up, if_neg (by omega), if_neg (by omega)]
    · rw [q]
  rw [e]
  refine ⟨fun K j h1 h2 => ?_, fun K j h1 h2 => ?_, fun j hj => ?_⟩
  · rw [f2 K j (Or.inl ⟨h1, h2⟩), f1 K j (Or.inl ⟨h1, h2⟩)]
  · rw [f2 K j (Or.inr h2), f1 K j (Or.inr h1)]
  · rcases hj with hj | hj
    · subst hj
      rw [f2 35 _ (Or.inr (by omega)), f2 36 _ (Or.inr (by omega))]
      have e2 : (2 * i) / 2 = i := by omega
      rw [e2]
      rcases c1 with ⟨q1, q2⟩ | ⟨q1, q2⟩
      · refine Or.inl ⟨q1, ?_, ?_⟩
        · rw [q2, up, if_neg (by omega), if_pos ⟨rfl, rfl⟩]
        · rw [q2, up, if_pos ⟨rfl, rfl⟩]
      · refine Or.inr ⟨q1, ?_, ?_⟩ <;> rw [q2]
    · subst hj
      have e2 : (2 * i + 1) / 2 = i := by omega
      rw [e2]
      have hc : ma_ru cv J (m_rs cv J b i 0) (2 * i + 1) ↔ ma_ru cv J b (2 * i + 1) := ma_ruc (fun k => f1 89 k (Or.inl ⟨by omega, by omega⟩)) (f1 35 _ (Or.inr (by omega))) (f1 36 _ (Or.inr (by omega)))
      rcases c2 with ⟨q1, q2⟩ | ⟨q1, q2⟩
      · refine Or.inl ⟨hc.mp q1, ?_, ?_⟩
        · rw [q2, up, if_neg (by omega), if_pos ⟨rfl, rfl⟩, f1 89 i (Or.inl ⟨by omega, by omega⟩)]
        · rw [q2, up, if_pos ⟨rfl, rfl⟩]
      · refine Or.inr ⟨fun q => q1 (hc.mpr q), ?_, ?_⟩
        · rw [q2]; exact f1 35 _ (Or.inr (by omega))
        · rw [q2]; exact f1 36 _ (Or.inr (by omega))
theorem ma_ru3 {cv : Int32} {J b : gL} : ∀ n, n ≤ 5 → (∀ K j, K ≠ 35 → K ≠ 36 → m_t2 cv J b n K j = b K j) ∧ (∀ K j, 2 * n ≤ j → m_t2 cv J b n K j = b K j) ∧ (∀ j, j < 2 * n → (ma_ru cv J b j ∧ m_t2 cv J b n 35 j = b 89 (j / 2) ∧ m_t2 cv J b n 36 j = J 5 23) ∨ (¬ ma_ru cv J b j ∧ m_t2 cv J b n 35 j = b 35 j ∧ m_t2 cv J b n 36 j = b 36 j))
  | 0, _ => ⟨fun _ _ _ _ => rfl, fun _ _ _ => rfl, fun j h => by omega⟩
  | n + 1, hn => by
    obtain ⟨i1, i2, i3⟩ := ma_ru3 (cv := cv) (J := J) (b := b)  n (by omega)
    obtain ⟨g1, g2, g3⟩ := ma_ru2 (cv := cv) (J := J) (b := m_t2 cv J b n) (show n < 5 by omega)
    have e : m_t2 cv J b (n + 1) = m_rr cv J (m_t2 cv J b n) n 2 := rfl
    rw [e]
    refine ⟨fun K j h1 h2 => ?_, fun K j h => ?_, fun j hj => ?_⟩
    · rw [g1 K j h1 h2, i1 K j h1 h2]
    · rw [g2 K j (by omega) (by omega), i2 K j (by omega)]
    · by_cases h : j < 2 * n
      · rw [g2 35 j (by omega) (by omega), g2 36 j (by omega) (by omega)]
        exact i3 j h
      · have hc : ma_ru cv J (m_t2 cv J b n) j ↔ ma_ru cv J b j := ma_ruc (fun k => i1 89 k (by omega) (by omega)) (i2 35 j (by omega)) (i2 36 j (by omega))
        rcases g3 j (by omega) with ⟨q1, q2, q3⟩ | ⟨q1, q2, q3⟩
        · exact Or.inl ⟨hc.mp q1, by rw [q2, i1 89 _ (by omega) (by omega)], q3⟩
        · exact Or.inr ⟨fun q => q1 (hc.mpr q), by rw [q2, i2 35 j (by omega)], by rw [q3, i2 36 j (by omega)]⟩
theorem ma_fi_f {J b : gL} {f : Int32} (hf : ¬ f = 0) : ∀ n i, m_fi J b n i f = f
  | 0, _ => rfl
  | n + 1, i => by
    show (if f = 0 then _ else f) = f
    rw [if_neg hf]
theorem ma_fi {J b : gL} {X P : Nat → Int} {U p : Int} (hU : (J 5 23).toInt = U) (hp : (J 5 14).toInt = p) : ∀ n i, (∀ j, i ≤ j → j < i + n → (b 89 j).toInt = X j ∧ (b 34 j).toInt = P j ∧ (X j * p).natAbs ≤ 9000000000000000000 ∧ (P j * U).natAbs ≤ 9000000000000000000) → (¬ 0 ≤ m_fi J b n i 0 ∧ ∃ j, i ≤ j ∧ j < i + n ∧ (∀ k, i ≤ k → k < j → X k * p = P k * U) ∧ X j * p < P j * U) ∨ (0 ≤ m_fi J b n i 0 ∧ ((∀ k, i ≤ k → k < i + n → X k * p = P k * U) ∨ ∃ j, i ≤ j ∧ j < i + n ∧ (∀ k, i ≤ k → k < j → X k * p = P k * U) ∧ P j * U < X j * p))
  | 0, i, _ => Or.inr ⟨by show (0 : Int32) ≤ 0; decide, Or.inl (fun k h1 h2 => by omega)⟩
  | n + 1, i, h => by
    have e : m_fi J b (n + 1) i 0 = m_fi J b n (i + 1) (m_cmp (b 89 i) (J 5 23) (b 34 i) (J 5 14)) := rfl
    rw [e]
    obtain ⟨h1, h2, h3, h4⟩ := h i (by omega) (by omega)
    rcases ma_cmp h1 hU h2 hp h3 h4 with ⟨c, q⟩ | ⟨c, q⟩ | ⟨c, q⟩
    · rw [c, ma_fi_f (by decide)]
      exact Or.inl ⟨by decide, i, by omega, by omega, fun k a1 a2 => by omega, q⟩
    · rw [c]
      rcases ma_fi hU hp n (i + 1) (fun j a1 a2 => h j (by omega) (by omega)) with ⟨g, j, j1, j2, j3, j4⟩ | ⟨g, w⟩
      · refine Or.inl ⟨g, j, by omega, by omega, fun k a1 a2 => ?_, j4⟩
        by_cases e2 : k = i
        · rw [e2]; exact q
        · exact j3 k (by omega) a2
      · refine Or.inr ⟨g, ?_⟩
        rcases w with w | ⟨j, j1, j2, j3, j4⟩
        · refine Or.inl (fun k a1 a2 => ?_)
          by_cases e2 : k = i
          · rw [e2]; exact q
          · exact w k (by omega) (by omega)
        · refine Or.inr ⟨j, by omega, by omega, fun k a1 a2 => ?_, j4⟩
          by_cases e2 : k = i
          · rw [e2]; exact q
          · exact j3 k (by omega) a2
    · rw [c, ma_fi_f (by decide)]
      exact Or.inr ⟨by decide, Or.inr ⟨i, by omega, by omega, fun k a1 a2 => by omega, q⟩⟩
theorem ma_cpb {b : gL} : ∀ n K j, m_cpb b n K j = if K = 34 ∧ j < n then b 89 j else b K j
  | 0, K, j => by
    rw [if_neg (by omega)]
    rfl
  | n + 1, K, j => by
    show gU (m_cpb b n) 34 n (m_cpb b n 89 n) K j = _
    have e : m_cpb b n 89 n = b 89 n := by rw [ma_cpb, if_neg (by omega)]
    rw [e]
    by_cases h : K = 34 ∧ j = n
    · obtain ⟨rfl, rfl⟩ := h
      rw [gU_s, if_pos (by omega)]
    · rw [gU_n (by omega), ma_cpb]
      by_cases h2 : K = 34 ∧ j < n
      · rw [if_pos h2, if_pos (by omega)]
      · rw [if_neg h2, if_neg (by omega)]
def ma_cost (mn : Nat) (co X : Nat → Int) : Int := ma_sm (fun i => co i * X i) mn
/-- the extremes among a set of points: place j of a table of fractions -/
def ma_ex (S : (Nat → Int) → Prop) (j : Nat) (p q : Int) : Prop := (∃ X, S X ∧ p = X (j / 2) ∧ q = X 5) ∧ (∀ X, S X → (j % 2 = 0 → p * X 5 ≤ X (j / 2) * q) ∧ (j % 2 = 1 → X (j / 2) * q ≤ p * X 5))
theorem ma_ex_1 {S : (Nat → Int) → Prop} {X : Nat → Int} (h : ∀ Y, S Y → Y = X) (hX : S X) (j : Nat) : ma_ex S j (X (j / 2)) (X 5) :=
  ⟨⟨X, hX, rfl, rfl⟩, fun Y hY => by rw [h Y hY]; exact ⟨fun _ => Int.le_refl _, fun _ => Int.le_refl _⟩⟩
theorem ma_ex_u {S S' : (Nat → Int) → Prop} {X : Nat → Int} {j : Nat} {p q p' q' : Int} (hS : ∀ Y, S' Y ↔ S Y ∨ Y = X) (hpos : ∀ Y, S Y → 0 < Y 5) (hX : 0 < X 5) (h : ma_ex S j p q) (hu : ((j % 2 = 0 ∧ X (j / 2) * q < p * X 5 ∨ j % 2 = 1 ∧ p * X 5 < X (j / 2) * q) ∧ p' = X (j / 2) ∧ q' = X 5) ∨ ((j % 2 = 0 → p * X 5 ≤ X (j / 2) * q) ∧ (j % 2 = 1 → X (j / 2) * q ≤ p * X 5) ∧ p' = p ∧ q' = q)) : ma_ex S' j p' q' := by
  obtain ⟨⟨Y, y1, y2, y3⟩, h2⟩ := h
  have hq : 0 < q := by rw [y3]; exact hpos Y y1
  rcases hu with ⟨u1, u2, u3⟩ | ⟨u1, u2, u3, u4⟩
  · refine ⟨⟨X, (hS X).mpr (Or.inr rfl), u2, u3⟩, fun Z hZ => ?_⟩
    rw [u2, u3]
    rcases (hS Z).mp hZ with w | w
    · have hz := hpos Z w
      obtain ⟨m1, m2⟩ := h2 Z w
      refine ⟨fun e => ?_, fun e => ?_⟩
      · rcases u1 with u1 | u1
        · exact Int.le_of_lt (ma_fr1 hX hq hz u1.2 (m1 e))
        · omega
      · rcases u1 with u1 | u1
        · omega
        · exact Int.le_of_lt (ma_fr2 hz hq hX (m2 e) u1.2)
    · rw [w]
      exact ⟨fun _ => Int.le_refl _, fun _ => Int.le_refl _⟩
  · refine ⟨⟨Y, (hS Y).mpr (Or.inl y1), by rw [u3]; exact y2, by rw [u4]; exact y3⟩, fun Z hZ => ?_⟩
    rw [u3, u4]
    rcases (hS Z).mp hZ with w | w
    · exact h2 Z w
    · rw [w]
      exact ⟨u1, u2⟩
/-- what take has gathered of the points seen -/
def ma_Acc (mn : Nat) (co : Nat → Int) (S : (Nat → Int) → Prop) (I : gF) (J b : gL) : Prop :=
  (∀ X, S X → ma_sb mn X) ∧ ((I 5 24 = 0 ∧ ∀ X, ¬ S X) ∨ (I 5 24 = 1 ∧
   (∀ j, j < 2 * mn → ma_ex S j (b 37 j).toInt (b 38 j).toInt) ∧
   ((∃ X, S X ∧ (J 5 11).toInt = ma_cost mn co X ∧ (J 5 12).toInt = X 5) ∧ (∀ X, S X → (J 5 11).toInt * X 5 ≤ ma_cost mn co X * (J 5 12).toInt)) ∧
   (∀ j, j < 2 * mn → ma_ex (fun X => S X ∧ ma_cost mn co X * (J 5 12).toInt = (J 5 11).toInt * X 5) j (b 35 j).toInt (b 36 j).toInt) ∧
   ((∃ X, (S X ∧ ma_cost mn co X * (J 5 12).toInt = (J 5 11).toInt * X 5) ∧ (∀ i, i < mn → (b 34 i).toInt = X i) ∧ (J 5 14).toInt = X 5) ∧ (∀ X, S X → ma_cost mn co X * (J 5 12).toInt = (J 5 11).toInt * X 5 → ma_lx mn (fun i => (b 34 i).toInt) (J 5 14).toInt X (X 5)))))
theorem ma_lx_c {n : Nat} {P P' Q : Nat → Int} {p q : Int} (h : ∀ i, i < n → P i = P' i) (hl : ma_lx n P p Q q) : ma_lx n P' p Q q := by
  rcases hl with h1 | ⟨i, i1, i2, i3⟩
  · exact Or.inl (fun i hi => by rw [← h i hi]; exact h1 i hi)
  · exact Or.inr ⟨i, i1, fun j hj => by rw [← h j (by omega)]; exact i2 j hj, by rw [← h i i1]; exact i3⟩
theorem ma_cost_b {mn : Nat} {co X : Nat → Int} (hmn : mn ≤ 5) (hc : ∀ i, i < mn → (co i).natAbs ≤ 99) (hX : ∀ i, i < mn → (X i).natAbs ≤ 708588000) : (ma_cost mn co X).natAbs ≤ 350751060000 := by
  have : (ma_cost mn co X).natAbs ≤ mn * 70150212000 := ma_sm_abs (fun i hi => ma_mb (hc i hi) (hX i hi))
  omega
theorem ma_t1c {I : gF} {J : gL} {a : gF} {b : gL} {mn : Nat} {X : Nat → Int} (hmn : mn ≤ 5) (hc : ∀ i, i < mn → (a 29 i).toInt.natAbs ≤ 99) (hX : ∀ i, i < mn → (b 89 i).toInt = X i ∧ (X i).natAbs ≤ 708588000) : ∀ n, n ≤ mn → (m_t1 I J a b n).1.toInt = ma_sm (fun i => (a 29 i).toInt * X i) n ∧ (ma_sm (fun i => (a 29 i).toInt * X i) n).natAbs ≤ n * 70150212000
  | 0, _ => ⟨rfl, by simp [ma_sm]⟩
  | n + 1, hn => by
    obtain ⟨i1, i2⟩ := ma_t1c hmn hc hX n (by omega)
    obtain ⟨f1, -, -⟩ := ma_fu3 (I := I) (J := J) (b := b) (a := a) n (by omega)
    have m0 := ma_mb (hc n (by omega)) (hX n (by omega)).2
    have m1 : ((a 29 n).toInt64 * (m_t1 I J a b n).2 89 n).toInt = (a 29 n).toInt * X n := by
      rw [f1 89 n (by omega) (by omega)]
      exact ma_mul (Int32.toInt_toInt64 _) (hX n (by omega)).1 (by omega)
    have b2 : (ma_sm (fun i => (a 29 i).toInt * X i) n + (a 29 n).toInt * X n).natAbs ≤ (n + 1) * 70150212000 := by omega
    refine ⟨?_, b2⟩
    show ((m_t1 I J a b n).1 + (a 29 n).toInt64 * (m_t1 I J a b n).2 89 n).toInt = ma_sm (fun i => (a 29 i).toInt * X i) n + (a 29 n).toInt * X n
    exact ma_add i1 m1 (by omega)
theorem ma_take_f {I : gF} {J : gL} {a : gF} {b : gL} {mn : Nat} (hmn : mn ≤ 5) : (∀ K j, ¬ (K = 5 ∧ (j = 11 ∨ j = 12 ∨ j = 14)) → m_tJ I J a b mn K j = J K j) ∧ (∀ K j, (K < 34 ∨ 38 < K) → m_tB I J a b mn K j = b K j) := by
  constructor
  · intro K j h
    unfold m_tJ
    split
    · split
      · rw [gU_n (by omega), gU_n (by omega)]
      · rw [gU_n (by omega), gU_n (by omega), gU_n (by omega)]
    · rfl
  · intro K j h
    have h1 := (ma_fu3 (I := I) (J := J) (b := b) (a := a) mn hmn).1 K j (by omega) (by omega)
    have h2 := (ma_ru3 (cv := m_tk0 I J a b mn) (J := J) (b := (m_t1 I J a b mn).2) mn hmn).1 K j (by omega) (by omega)
    unfold m_tB
    split
    · split
      · show m_t2 _ _ _ mn K j = _
        rw [h2, h1]
      · rw [ma_cpb, if_neg (by omega)]
        show m_t2 _ _ _ mn K j = _
        rw [h2, h1]
    · exact h1
theorem ma_take {I : gF} {J : gL} {a : gF} {b : gL} {mn : Nat} {S S' : (Nat → Int) → Prop} (hmn : mn ≤ 5) (hc : ∀ i, i < mn → (a 29 i).toInt.natAbs ≤ 99) (A : ma_Acc mn (ma_ci a 29) S I J b) (hX : ma_sb mn (ma_mX J b mn)) (hS : ∀ Y, S' Y ↔ S Y ∨ Y = ma_mX J b mn) : ma_Acc mn (ma_ci a 29) S' (m_tI I) (m_tJ I J a b mn) (m_tB I J a b mn) := by
  obtain ⟨A0, A1⟩ := A
  have hX5 : (J 5 23).toInt = ma_mX J b mn 5 := ma_mX_5.symm
  have hXi : ∀ i, i < mn → (b 89 i).toInt = ma_mX J b mn i := fun i hi => (ma_mX_i hmn hi).symm
  generalize ma_mX J b mn = X at *
  have hmem : S' X := (hS X).mpr (Or.inr rfl)
  have hSb : ∀ Y, S' Y → ma_sb mn Y := by
    intro Y hY
    rcases (hS Y).mp hY with w | w
    · exact A0 Y w
    · rw [w]; exact hX
  obtain ⟨x1, x2, x3⟩ := hX
  obtain ⟨c1, c2⟩ := ma_t1c (I := I) (J := J) hmn hc (fun i hi => ⟨hXi i hi, x3 i hi⟩) mn (Nat.le_refl _)
  have c1 : (m_t1 I J a b mn).1.toInt = ma_cost mn (ma_ci a 29) X := c1
  have cb : (ma_cost mn (ma_ci a 29) X).natAbs ≤ 350751060000 := ma_cost_b hmn hc x3
  obtain ⟨F1, F2, F3⟩ := ma_fu3 (I := I) (J := J) (b := b) (a := a) mn hmn
  have e89 : ∀ k, (m_t1 I J a b mn).2 89 k = b 89 k := fun k => F1 89 k (by omega) (by omega)
  refine ⟨hSb, Or.inr ⟨gU_s, ?_⟩⟩
  -- the far ends
  have far : ∀ j, j < 2 * mn → ma_ex S' j ((m_t1 I J a b mn).2 37 j).toInt ((m_t1 I J a b mn).2 38 j).toInt := by
    intro j hj
    have hj2 : j / 2 < mn := by omega
    rcases A1 with ⟨z0, zS⟩ | ⟨z1, zF, -⟩
    · rcases F3 j hj with ⟨-, q1, q2⟩ | ⟨q, -⟩
      · rw [q1, q2, hXi _ hj2, hX5]
        refine ma_ex_1 (fun Y hY => ?_) hmem j
        rcases (hS Y).mp hY with w | w
        · exact absurd w (zS Y)
        · exact w
      · exact absurd (Or.inl z0) q
    · have E := zF j hj
      obtain ⟨⟨Y, y1, y2, y3⟩, -⟩ := id E
      obtain ⟨s1, s2, s3⟩ := A0 Y y1
      have bq : (b 38 j).toInt.natAbs ≤ 7085880 := by omega
      have bp : (b 37 j).toInt.natAbs ≤ 708588000 := by rw [y2]; exact s3 _ hj2
      have m1 := ma_mb (x3 _ hj2) bq
      have m2 := ma_mb bp (show (X 5).natAbs ≤ 7085880 by omega)
      have cm := ma_cmp (hXi _ hj2) hX5 (rfl : (b 37 j).toInt = _) (rfl : (b 38 j).toInt = _) (by omega) (by omega)
      refine ma_ex_u hS (fun Y hY => (A0 Y hY).1) x1 E ?_
      rcases F3 j hj with ⟨q0, q1, q2⟩ | ⟨q0, q1, q2⟩
      · refine Or.inl ⟨?_, by rw [q1, hXi _ hj2], by rw [q2, hX5]⟩
        rcases q0 with q0 | ⟨q0, q3⟩ | ⟨q0, q3⟩
        · rw [z1] at q0; exact absurd q0 (by decide)
        · rcases cm with ⟨w1, w2⟩ | ⟨w1, w2⟩ | ⟨w1, w2⟩
          · exact Or.inl ⟨q0, w2⟩
          · rw [w1] at q3; exact absurd (by decide) q3
          · rw [w1] at q3; exact absurd (by decide) q3
        · rcases cm with ⟨w1, w2⟩ | ⟨w1, w2⟩ | ⟨w1, w2⟩
          · rw [w1] at q3; exact absurd (by decide) q3
          · rw [w1] at q3; exact absurd (by decide) q3
          · exact Or.inr ⟨q0, w2⟩
      · refine Or.inr ⟨fun e => ?_, fun e => ?_, by rw [q1], by rw [q2]⟩
        · rcases cm with ⟨w1, w2⟩ | ⟨w1, w2⟩ | ⟨w1, w2⟩
          · exact absurd (Or.inr (Or.inl ⟨e, by rw [w1]; decide⟩)) q0
          · omega
          · omega
        · rcases cm with ⟨w1, w2⟩ | ⟨w1, w2⟩ | ⟨w1, w2⟩
          · omega
          · omega
          · exact absurd (Or.inr (Or.inr ⟨e, by rw [w1]; decide⟩)) q0
  -- which cost
  have tk : (m_tk0 I J a b mn = -1 ∧ ∀ Y, S Y → ma_cost mn (ma_ci a 29) X * Y 5 < ma_cost mn (ma_ci a 29) Y * X 5) ∨ (I 5 24 = 1 ∧ m_tk0 I J a b mn = 0 ∧ ma_cost mn (ma_ci a 29) X * (J 5 12).toInt = (J 5 11).toInt * X 5) ∨ (I 5 24 = 1 ∧ m_tk0 I J a b mn = 1 ∧ (J 5 11).toInt * X 5 < ma_cost mn (ma_ci a 29) X * (J 5 12).toInt) := by
    rcases A1 with ⟨z0, zS⟩ | ⟨z1, -, ⟨⟨Y, y1, y2, y3⟩, zC⟩, -⟩
    · refine Or.inl ⟨?_, fun Y hY => absurd hY (zS Y)⟩
      unfold m_tk0 m_tc
      rw [if_pos z0]
    · obtain ⟨s1, s2, s3⟩ := A0 Y y1
      have yb := ma_cost_b (co := ma_ci a 29) hmn hc s3
      have m1 := ma_mb cb (show (J 5 12).toInt.natAbs ≤ 7085880 by omega)
      have m2 := ma_mb (show (J 5 11).toInt.natAbs ≤ 350751060000 by rw [y2]; exact yb) (show (X 5).natAbs ≤ 7085880 by omega)
      have e : m_tk0 I J a b mn = m_cmp (m_t1 I J a b mn).1 (J 5 23) (J 5 11) (J 5 12) := by
        unfold m_tk0 m_tc
        rw [if_neg (by rw [z1]; decide)]
      rw [e]
      rcases ma_cmp c1 hX5 (rfl : (J 5 11).toInt = _) (rfl : (J 5 12).toInt = _) (by omega) (by omega) with ⟨w1, w2⟩ | ⟨w1, w2⟩ | ⟨w1, w2⟩
      · refine Or.inl ⟨w1, fun Z hZ => ?_⟩
        exact ma_fr1 x1 (show 0 < (J 5 12).toInt by omega) (A0 Z hZ).1 w2 (zC Z hZ)
      · exact Or.inr (Or.inl ⟨z1, w1, w2⟩)
      · exact Or.inr (Or.inr ⟨z1, w1, w2⟩)
  rcases tk with ⟨t0, tS⟩ | ⟨z1, t0, tE⟩ | ⟨z1, t0, tE⟩
  · -- the first, or a cheaper one
    obtain ⟨R1, R2, R3⟩ := ma_ru3 (cv := m_tk0 I J a b mn) (J := J) (b := (m_t1 I J a b mn).2) mn hmn
    have tk1 : m_tk1 I J a b mn = -1 := by
      unfold m_tk1 m_f0
      rw [t0, if_neg (by decide), ma_fi_f (by decide)]
    have eJ : m_tJ I J a b mn = gU (gU (gU J 5 14 (J 5 23)) 5 11 (m_t1 I J a b mn).1) 5 12 (J 5 23) := by
      unfold m_tJ
      rw [t0, if_pos (by decide), tk1, if_neg (by decide)]
    have eB : m_tB I J a b mn = m_cpb (m_tk2 I J a b mn) mn := by
      unfold m_tB
      rw [t0, if_pos (by decide), tk1, if_neg (by decide)]
    have j11 : (m_tJ I J a b mn 5 11).toInt = ma_cost mn (ma_ci a 29) X := by rw [eJ, gU_n (by omega), gU_s]; exact c1
    have j12 : (m_tJ I J a b mn 5 12).toInt = X 5 := by rw [eJ, gU_s]; exact hX5
    have j14 : (m_tJ I J a b mn 5 14).toInt = X 5 := by rw [eJ, gU_n (by omega), gU_n (by omega), gU_s]; exact hX5
    have bo : ∀ K j, K ≠ 34 → m_tB I J a b mn K j = m_t2 (m_tk0 I J a b mn) J (m_t1 I J a b mn).2 mn K j := fun K j h => by rw [eB, ma_cpb, if_neg (by omega)]; rfl
    have b34 : ∀ i, i < mn → (m_tB I J a b mn 34 i).toInt = X i := fun i hi => by
      rw [eB, ma_cpb, if_pos ⟨rfl, hi⟩]
      show (m_t2 _ _ _ mn 89 i).toInt = _
      rw [R1 89 i (by omega) (by omega), e89, hXi i hi]
    have only : ∀ Y, S' Y ∧ ma_cost mn (ma_ci a 29) Y * X 5 = ma_cost mn (ma_ci a 29) X * Y 5 → Y = X := by
      rintro Y ⟨y1, y2⟩
      rcases (hS Y).mp y1 with w | w
      · have := tS Y w
        omega
      · exact w
    rw [j11, j12, j14]
    refine ⟨fun j hj => ?_, ⟨⟨X, hmem, rfl, rfl⟩, fun Y hY => ?_⟩, fun j hj => ?_, ⟨X, ⟨hmem, rfl⟩, b34, rfl⟩, fun Y hY hm => ?_⟩
    · rw [bo 37 j (by omega), bo 38 j (by omega), R1 37 j (by omega) (by omega), R1 38 j (by omega) (by omega)]
      exact far j hj
    · rcases (hS Y).mp hY with w | w
      · exact Int.le_of_lt (tS Y w)
      · rw [w]; exact Int.le_refl _
    · rw [bo 35 j (by omega), bo 36 j (by omega)]
      rcases R3 j hj with ⟨-, q1, q2⟩ | ⟨q, -⟩
      · rw [q1, q2, e89, hXi _ (by omega), hX5]
        exact ma_ex_1 only ⟨hmem, rfl⟩ j
      · exact absurd (Or.inl (by rw [t0]; decide)) q
    · rw [only Y ⟨hY, hm⟩]
      exact ma_lx_c (fun i hi => (b34 i hi).symm) ma_lx_r
  · -- one more of the same cost
    rcases A1 with ⟨z0, -⟩ | ⟨-, -, ⟨⟨Y0, y1, y2, y3⟩, zC⟩, zR, ⟨B0, ⟨b0, b1⟩, b2, b3⟩, zL⟩
    · rw [z0] at z1; exact absurd z1 (by decide)
    obtain ⟨R1, R2, R3⟩ := ma_ru3 (cv := m_tk0 I J a b mn) (J := J) (b := (m_t1 I J a b mn).2) mn hmn
    obtain ⟨s1, s2, s3⟩ := A0 Y0 y1
    obtain ⟨s4, s5, s6⟩ := A0 B0 b0
    have d12 : 0 < (J 5 12).toInt := by omega
    have d14 : 0 < (J 5 14).toInt := by omega
    have same : ∀ Y, 0 < Y 5 → (ma_cost mn (ma_ci a 29) Y * X 5 = ma_cost mn (ma_ci a 29) X * Y 5 ↔ ma_cost mn (ma_ci a 29) Y * (J 5 12).toInt = (J 5 11).toInt * Y 5) := by
      intro Y hY
      constructor
      · intro h; exact ma_fre hY x1 d12 h tE
      · intro h; exact ma_fre hY d12 x1 h tE.symm
    have j11 : (m_tJ I J a b mn 5 11).toInt = ma_cost mn (ma_ci a 29) X := by
      unfold m_tJ
      rw [t0, if_pos (by decide)]
      split
      · rw [gU_n (by omega), gU_s]; exact c1
      · rw [gU_n (by omega), gU_s]; exact c1
    have j12 : (m_tJ I J a b mn 5 12).toInt = X 5 := by
      unfold m_tJ
      rw [t0, if_pos (by decide)]
      split
      · rw [gU_s]; exact hX5
      · rw [gU_s]; exact hX5
    have bo : ∀ K j, K ≠ 34 → m_tB I J a b mn K j = m_t2 (m_tk0 I J a b mn) J (m_t1 I J a b mn).2 mn K j := fun K j h => by
      unfold m_tB
      rw [if_pos (by rw [t0]; decide)]
      split
      · rfl
      · rw [ma_cpb, if_neg (by omega)]; rfl
    have e34 : ∀ i, m_tk2 I J a b mn 34 i = b 34 i := fun i => by
      show m_t2 _ _ _ mn 34 i = _
      rw [R1 34 i (by omega) (by omega), F1 34 i (by omega) (by omega)]
    have e89' : ∀ i, m_tk2 I J a b mn 89 i = b 89 i := fun i => by
      show m_t2 _ _ _ mn 89 i = _
      rw [R1 89 i (by omega) (by omega), e89]
    have Sm : ∀ Y, (S' Y ∧ ma_cost mn (ma_ci a 29) Y * X 5 = ma_cost mn (ma_ci a 29) X * Y 5) ↔ (S Y ∧ ma_cost mn (ma_ci a 29) Y * (J 5 12).toInt = (J 5 11).toInt * Y 5) ∨ Y = X := by
      intro Y
      constructor
      · rintro ⟨h1, h2⟩
        rcases (hS Y).mp h1 with w | w
        · exact Or.inl ⟨w, (same Y (A0 Y w).1).mp h2⟩
        · exact Or.inr w
      · rintro (⟨h1, h2⟩ | w)
        · exact ⟨(hS Y).mpr (Or.inl h1), (same Y (A0 Y h1).1).mpr h2⟩
        · rw [w]; exact ⟨hmem, rfl⟩
    have fi := ma_fi (J := J) (b := m_tk2 I J a b mn) (X := X) (P := fun i => (b 34 i).toInt) hX5 (rfl : (J 5 14).toInt = _) mn 0 (fun j _ hj => by
      have m1 := ma_mb (x3 j (by omega)) (show (J 5 14).toInt.natAbs ≤ 7085880 by omega)
      have m2 := ma_mb (show (b 34 j).toInt.natAbs ≤ 708588000 by rw [b2 j (by omega)]; exact s6 j (by omega)) (show (X 5).natAbs ≤ 7085880 by omega)
      exact ⟨by rw [e89', hXi j (by omega)], by rw [e34], by omega, by show ((b 34 j).toInt * X 5).natAbs ≤ _; omega⟩)
    have tk1 : m_tk1 I J a b mn = m_fi J (m_tk2 I J a b mn) mn 0 0 := by
      unfold m_tk1 m_f0
      rw [t0, if_pos (by decide)]
    rw [← tk1] at fi
    rw [j11, j12]
    have reach : ∀ j, j < 2 * mn → ma_ex (fun Y => S' Y ∧ ma_cost mn (ma_ci a 29) Y * X 5 = ma_cost mn (ma_ci a 29) X * Y 5) j (m_tB I J a b mn 35 j).toInt (m_tB I J a b mn 36 j).toInt := by
      intro j hj
      have hj2 : j / 2 < mn := by omega
      rw [bo 35 j (by omega), bo 36 j (by omega)]
      have E := zR j hj
      obtain ⟨⟨Y, ⟨w1, -⟩, w2, w3⟩, -⟩ := id E
      obtain ⟨r1, r2, r3⟩ := A0 Y w1
      have bq : (b 36 j).toInt.natAbs ≤ 7085880 := by omega
      have bp : (b 35 j).toInt.natAbs ≤ 708588000 := by rw [w2]; exact r3 _ hj2
      have m1 := ma_mb (x3 _ hj2) bq
      have m2 := ma_mb bp (show (X 5).natAbs ≤ 7085880 by omega)
      have cm := ma_cmp (hXi _ hj2) hX5 (rfl : (b 35 j).toInt = _) (rfl : (b 36 j).toInt = _) (by omega) (by omega)
      have o35 : (m_t1 I J a b mn).2 35 j = b 35 j := F1 35 j (by omega) (by omega)
      have o36 : (m_t1 I J a b mn).2 36 j = b 36 j := F1 36 j (by omega) (by omega)
      refine ma_ex_u Sm (fun Y hY => (A0 Y hY.1).1) x1 E ?_
      rcases R3 j hj with ⟨q0, q1, q2⟩ | ⟨q0, q1, q2⟩
      · refine Or.inl ⟨?_, by rw [q1, e89, hXi _ hj2], by rw [q2, hX5]⟩
        rcases q0 with q0 | ⟨q0, q3⟩ | ⟨q0, q3⟩
        · rw [t0] at q0; exact absurd (by decide) q0
        · rw [e89, o35, o36] at q3
          rcases cm with ⟨w1, w2⟩ | ⟨w1, w2⟩ | ⟨w1, w2⟩
          · exact Or.inl ⟨q0, w2⟩
          · rw [w1] at q3; exact absurd (by decide) q3
          · rw [w1] at q3; exact absurd (by decide) q3
        · rw [e89, o35, o36] at q3
          rcases cm with ⟨w1, w2⟩ | ⟨w1, w2⟩ | ⟨w1, w2⟩
          · rw [w1] at q3; exact absurd (by decide) q3
          · rw [w1] at q3; exact absurd (by decide) q3
          · exact Or.inr ⟨q0, w2⟩
      · refine Or.inr ⟨fun e => ?_, fun e => ?_, by rw [q1, o35], by rw [q2, o36]⟩
        · rcases cm with ⟨w1, w2⟩ | ⟨w1, w2⟩ | ⟨w1, w2⟩
          · exact absurd (Or.inr (Or.inl ⟨e, by rw [e89, o35, o36, w1]; decide⟩)) q0
          · omega
          · omega
        · rcases cm with ⟨w1, w2⟩ | ⟨w1, w2⟩ | ⟨w1, w2⟩
          · omega
          · omega
          · exact absurd (Or.inr (Or.inr ⟨e, by rw [e89, o35, o36, w1]; decide⟩)) q0
    refine ⟨fun j hj => ?_, ⟨⟨X, hmem, rfl, rfl⟩, fun Y hY => ?_⟩, reach, ?_⟩
    · rw [bo 37 j (by omega), bo 38 j (by omega), R1 37 j (by omega) (by omega), R1 38 j (by omega) (by omega)]
      exact far j hj
    · rcases (hS Y).mp hY with w | w
      · exact ma_fr x1 d12 (A0 Y w).1 (Int.le_of_eq tE) (zC Y w)
      · rw [w]; exact Int.le_refl _
    · rcases fi with ⟨f1, jj, g1, g2, g3, g4⟩ | ⟨f1, g⟩
      · -- earlier than the best so far
        have eJ : m_tJ I J a b mn = gU (gU (gU J 5 14 (J 5 23)) 5 11 (m_t1 I J a b mn).1) 5 12 (J 5 23) := by
          unfold m_tJ
          rw [t0, if_pos (by decide), if_neg f1]
        have eB : m_tB I J a b mn = m_cpb (m_tk2 I J a b mn) mn := by
          unfold m_tB
          rw [t0, if_pos (by decide), if_neg f1]
        have j14 : (m_tJ I J a b mn 5 14).toInt = X 5 := by rw [eJ, gU_n (by omega), gU_n (by omega), gU_s]; exact hX5
        have b34 : ∀ i, i < mn → (m_tB I J a b mn 34 i).toInt = X i := fun i hi => by
          rw [eB, ma_cpb, if_pos ⟨rfl, hi⟩, e89', hXi i hi]
        rw [j14]
        refine ⟨⟨X, ⟨hmem, rfl⟩, b34, rfl⟩, fun Y hY hm => ?_⟩
        refine ma_lx_c (fun i hi => (b34 i hi).symm) ?_
        rcases (Sm Y).mp ⟨hY, hm⟩ with ⟨w1, w2⟩ | w
        · have l1 : ma_lx mn X (X 5) (fun i => (b 34 i).toInt) (J 5 14).toInt := Or.inr ⟨jj, by omega, fun k hk => g3 k (by omega) hk, g4⟩
          exact ma_lx_t x1 d14 (A0 Y w1).1 l1 (zL Y w1 w2)
        · rw [w]; exact ma_lx_r
      · have eJ : m_tJ I J a b mn = gU (gU J 5 11 (m_t1 I J a b mn).1) 5 12 (J 5 23) := by
          unfold m_tJ
          rw [t0, if_pos (by decide), if_pos f1]
        have eB : m_tB I J a b mn = m_tk2 I J a b mn := by
          unfold m_tB
          rw [t0, if_pos (by decide), if_pos f1]
        have j14 : m_tJ I J a b mn 5 14 = J 5 14 := by rw [eJ, gU_n (by omega), gU_n (by omega)]
        have b34 : ∀ i, m_tB I J a b mn 34 i = b 34 i := fun i => by rw [eB, e34]
        have el : (fun i => (m_tB I J a b mn 34 i).toInt) = (fun i => (b 34 i).toInt) := by
          funext i
          rw [b34]
        rw [j14, el]
        have sb := (Sm B0).mpr (Or.inl ⟨b0, b1⟩)
        refine ⟨⟨B0, sb, fun i hi => by rw [b34]; exact b2 i hi, b3⟩, fun Y hY hm => ?_⟩
        rcases (Sm Y).mp ⟨hY, hm⟩ with ⟨w1, w2⟩ | w
        · exact zL Y w1 w2
        · rw [w]
          rcases g with g | ⟨jj, g1, g2, g3, g4⟩
          · exact Or.inl (fun i hi => (g i (by omega) (by omega)).symm)
          · exact Or.inr ⟨jj, by omega, fun k hk => (g3 k (by omega) hk).symm, g4⟩
  · -- a dearer one
    rcases A1 with ⟨z0, -⟩ | ⟨-, -, ⟨⟨Y0, y1, y2, y3⟩, zC⟩, zR, ⟨B0, ⟨b0, b1⟩, b2, b3⟩, zL⟩
    · rw [z0] at z1; exact absurd z1 (by decide)
    have eJ : m_tJ I J a b mn = J := by
      unfold m_tJ
      rw [t0, if_neg (by decide)]
    have eB : m_tB I J a b mn = (m_t1 I J a b mn).2 := by
      unfold m_tB
      rw [t0, if_neg (by decide)]
    have Sm : ∀ Y, (S' Y ∧ ma_cost mn (ma_ci a 29) Y * (J 5 12).toInt = (J 5 11).toInt * Y 5) ↔ (S Y ∧ ma_cost mn (ma_ci a 29) Y * (J 5 12).toInt = (J 5 11).toInt * Y 5) := by
      intro Y
      constructor
      · rintro ⟨h1, h2⟩
        rcases (hS Y).mp h1 with w | w
        · exact ⟨w, h2⟩
        · rw [w] at h2; omega
      · rintro ⟨h1, h2⟩
        exact ⟨(hS Y).mpr (Or.inl h1), h2⟩
    rw [eJ, eB]
    refine ⟨far, ⟨⟨Y0, (hS Y0).mpr (Or.inl y1), y2, y3⟩, fun Y hY => ?_⟩, fun j hj => ?_, ?_⟩
    · rcases (hS Y).mp hY with w | w
      · exact zC Y w
      · rw [w]; exact Int.le_of_lt tE
    · rw [F1 35 j (by omega) (by omega), F1 36 j (by omega) (by omega)]
      obtain ⟨⟨Y, w1, w2, w3⟩, w4⟩ := zR j hj
      exact ⟨⟨Y, (Sm Y).mpr w1, w2, w3⟩, fun Z hZ => w4 Z ((Sm Z).mp hZ)⟩
    · have el : (fun i => ((m_t1 I J a b mn).2 34 i).toInt) = (fun i => (b 34 i).toInt) := by
        funext i
        rw [F1 34 i (by omega) (by omega)]
      rw [el]
      refine ⟨⟨B0, (Sm B0).mpr ⟨b0, b1⟩, fun i hi => by rw [F1 34 i (by omega) (by omega)]; exact b2 i hi, b3⟩, fun Y hY hm => ?_⟩
      obtain ⟨w1, w2⟩ := (Sm Y).mp ⟨hY, hm⟩
      exact zL Y w1 w2
end
section
/-! THE MATHEMATICS, 16: the reference goes through all corners -/
abbrev ma_FE (mn mr : Nat) (a : gF) (set : Int32) : (Nat → Int) → Prop := ma_fs mn mr (ma_ci a 27) (ma_ci a 28) (ma_ci a 30) (ma_ci a 31) (ma_fm2 a) (fun r => m_bt set r ≠ 0)
abbrev ma_TH (mn mr : Nat) (set : Int32) : Nat → Prop := ma_th mn mr (fun r => m_bt set r ≠ 0)
theorem ma_a88 {a a0 : gF} (h : ∀ k j, k ≠ 88 → a k j = a0 k j) (mn mr : Nat) (set : Int32) : ma_CM mn a = ma_CM mn a0 ∧ ma_FE mn mr a set = ma_FE mn mr a0 set ∧ (ma_datM mn mr a ↔ ma_datM mn mr a0) ∧ ma_ci a 29 = ma_ci a0 29 := by
  have e : ∀ k, k ≠ 88 → a k = a0 k := fun k hk => funext (fun j => h k j hk)
  unfold ma_CM ma_FE ma_datM ma_ci ma_fm2
  rw [e 27 (by omega), e 28 (by omega), e 29 (by omega), e 30 (by omega), e 31 (by omega), e 32 (by omega)]
  exact ⟨rfl, rfl, Iff.rfl, rfl⟩
/-- a row of conditions that is still to come -/
def ma_tc (dd : Nat) (a : gF) (t : Nat → Nat) : Prop := ∃ e, e < dd ∧ (∀ i, i < e → a 88 i = nI (t i)) ∧ ∃ q, a 88 e + 1 = nI q ∧ q ≤ 18 ∧ q ≤ t e
def ma_fr4 (x y : gS) : Prop := (∀ k j, ¬ (k = 5 ∧ j = 24) → y.1 k j = x.1 k j) ∧ (∀ k j, ¬ (k = 5 ∧ (j = 11 ∨ j = 12 ∨ j = 14 ∨ j = 23)) → y.2.1 k j = x.2.1 k j) ∧ (∀ k j, k ≠ 88 → y.2.2.1 k j = x.2.2.1 k j) ∧ (∀ k j, (k < 34 ∨ 38 < k) → k ≠ 87 → k ≠ 89 → y.2.2.2 k j = x.2.2.2 k j)
theorem ma_fr4_r (x : gS) : ma_fr4 x x := ⟨fun _ _ _ => rfl, fun _ _ _ => rfl, fun _ _ _ => rfl, fun _ _ _ _ _ => rfl⟩
theorem ma_fr4_t {x y z : gS} (h1 : ma_fr4 x y) (h2 : ma_fr4 y z) : ma_fr4 x z := ⟨fun k j h => (h2.1 k j h).trans (h1.1 k j h), fun k j h => (h2.2.1 k j h).trans (h1.2.1 k j h), fun k j h => (h2.2.2.1 k j h).trans (h1.2.2.1 k j h), fun k j a1 a2 a3 => (h2.2.2.2 k j a1 a2 a3).trans (h1.2.2.2 k j a1 a2 a3)⟩
/-- what is known behind the corners gone through: S the points seen -/
def ma_LI (mn mr : Nat) (set al : Int32) (x0 : gS) (dd : Nat) (f : Int32) (x : gS) (S : (Nat → Int) → Prop) : Prop :=
  ma_fr4 x0 x ∧ dd ≤ mn ∧ (∀ i, i + 1 < dd → ∃ k, x.2.2.1 88 i = nI k ∧ ma_TH mn mr set k) ∧ (∀ d, dd = d + 1 → ∃ q, x.2.2.1 88 d + 1 = nI q ∧ q ≤ 18) ∧ (f = 0 ∨ f = 1) ∧ (f ≠ 0 ↔ ∃ X, S X) ∧ (∀ X, S X → ma_FE mn mr x0.2.2.1 set X) ∧ (al = 0 → ∀ X, ¬ S X) ∧ (al ≠ 0 → ma_Acc mn (ma_ci x0.2.2.1 29) S x.1 x.2.1 x.2.2.2) ∧ (∀ t, ¬ ma_tc dd x.2.2.1 t → ∀ X, ma_FE mn mr x0.2.2.1 set X → ma_cor mn (ma_CM mn x0.2.2.1) (ma_TH mn mr set) t X → ∃ Y, S Y ∧ ma_eq X Y)
/-- what corners answers -/
def ma_CP (mn mr : Nat) (set al : Int32) (x0 : gS) (y : Int32 × gS) : Prop :=
  ma_fr4 x0 y.2 ∧ (y.1 = 0 ∨ y.1 = 1) ∧ (al = 0 → (y.1 = 1 ∧ ∃ X, ma_FE mn mr x0.2.2.1 set X) ∨ (y.1 = 0 ∧ ∀ t X, ma_FE mn mr x0.2.2.1 set X → ¬ ma_cor mn (ma_CM mn x0.2.2.1) (ma_TH mn mr set) t X)) ∧ (al ≠ 0 → ∃ S : (Nat → Int) → Prop, (y.1 ≠ 0 ↔ ∃ X, S X) ∧ (∀ X, S X → ma_FE mn mr x0.2.2.1 set X) ∧ ma_Acc mn (ma_ci x0.2.2.1 29) S y.2.1 y.2.2.1 y.2.2.2.2 ∧ ∀ t X, ma_FE mn mr x0.2.2.1 set X → ma_cor mn (ma_CM mn x0.2.2.1) (ma_TH mn mr set) t X → ∃ Y, S Y ∧ ma_eq X Y)
theorem ma_nx {I a : gF} {set : Int32} {mn mr d q : Nat} (hI : I 5 0 = nI mn) (hmn : mn ≤ 5) (hs : ∀ r, r < 8 → m_bt set r ≠ 0 → r < mr) (hb : ∀ r, r < 8 → m_bt set r = 0 ∨ m_bt set r = 1) (hq : a 88 d + 1 = nI q) (hq2 : q ≤ 18) : q ≤ m_nx I a set d ∧ m_nx I a set d ≤ 18 ∧ (m_nx I a set d < 18 → ma_TH mn mr set (m_nx I a set d)) ∧ ∀ c, q ≤ c → c < m_nx I a set d → ¬ ma_TH mn mr set c := by
  have e : m_nx I a set d = m_aft I set (18 - q) q := by
    unfold m_nx
    rw [hq]
    show m_aft I set (18 - (nI q).toNatClampNeg) (nI q).toNatClampNeg = _
    rw [nI_clamp (by omega)]
  rw [e]
  obtain ⟨h1, h2, h3, h4⟩ := ma_aft (I := I) (set := set) (18 - q) q
  refine ⟨h1, by omega, fun h => (ma_mthere hI hmn hs hb h).mp (h3 (by omega)), fun c g1 g2 => ?_⟩
  intro hT
  exact (ma_mthere hI hmn hs hb (by omega)).mpr hT (h4 c g1 g2)
theorem ma_sb_of {mn mr : Nat} {a : gF} {set : Int32} {X : Nat → Int} (hd : ma_datM mn mr a) (hX : ma_FE mn mr a set X) (h5 : X 5 ≤ 7085880) : ma_sb mn X := by
  obtain ⟨⟨x1, x2, x3⟩, -⟩ := hX
  refine ⟨x1, h5, fun i hi => ?_⟩
  have d := hd.2.2.1 i hi
  obtain ⟨l1, l2⟩ := x3 i hi
  have l1 : (a 27 i).toInt * X 5 ≤ X i := l1
  have l2 : X i ≤ (a 28 i).toInt * X 5 := l2
  have m1 : (-100) * X 5 ≤ (a 27 i).toInt * X 5 := Int.mul_le_mul_of_nonneg_right (by omega) (by omega)
  have m2 : (a 28 i).toInt * X 5 ≤ 100 * X 5 := Int.mul_le_mul_of_nonneg_right (by omega) (by omega)
  omega
/-- a leaf: the conditions picked are solved -/
theorem ma_leaf {mn mr : Nat} {set : Int32} {J : gL} {a : gF} {b : gL} (hd : ma_datM mn mr a) (hp : ∀ i, i < mn → ∃ k, a 88 i = nI k ∧ ma_TH mn mr set k) :
    (∀ K j, ¬ (K = 5 ∧ j = 23) → m_sJ J a b mn K j = J K j) ∧ (∀ K j, K ≠ 87 → K ≠ 89 → m_sB a b mn K j = b K j) ∧
    (((m_s0 a b mn).1 = 0 ∧ ∀ t X, (∀ i, i < mn → a 88 i = nI (t i)) → ¬ ma_cor mn (ma_CM mn a) (ma_TH mn mr set) t X) ∨
     (¬ (m_s0 a b mn).1 = 0 ∧ (m_keeps (m_sJ J a b mn) a (m_sB a b mn) set mn mr = 0 ∨ m_keeps (m_sJ J a b mn) a (m_sB a b mn) set mn mr = 1) ∧ (m_keeps (m_sJ J a b mn) a (m_sB a b mn) set mn mr = 1 ↔ ma_FE mn mr a set (ma_mX (m_sJ J a b mn) (m_sB a b mn) mn)) ∧ (ma_mX (m_sJ J a b mn) (m_sB a b mn) mn 5 ≤ 7085880) ∧ ∀ t X, (∀ i, i < mn → a 88 i = nI (t i)) → ma_FE mn mr a set X → ma_cor mn (ma_CM mn a) (ma_TH mn mr set) t X → ma_eq X (ma_mX (m_sJ J a b mn) (m_sB a b mn) mn) ∧ ma_FE mn mr a set (ma_mX (m_sJ J a b mn) (m_sB a b mn) mn))) := by
  have hmn := hd.1
  have hpk : ∀ i, i < mn → cN (a 88 i) < 18 ∧ ma_F a mn (cN (a 88 i)) = ma_CM mn a (cN (a 88 i)) ∧ ma_bd (ma_F a mn (cN (a 88 i))) := by
    intro i hi
    obtain ⟨k, k1, k2⟩ := hp i hi
    have e : cN (a 88 i) = k := by
      rw [k1]
      exact nI_clamp (by have := k2.1; omega)
    rw [e, ma_F_C hmn k2.1]
    exact ⟨k2.1, rfl, ma_F_bd hd k2⟩
  have htau : ∀ t : Nat → Nat, (∀ i, i < mn → a 88 i = nI (t i)) → ∀ X, ma_cor mn (ma_CM mn a) (ma_TH mn mr set) t X → ∀ i, i < mn → cN (a 88 i) = t i := by
    intro t ht X hX i hi
    rw [ht i hi]
    exact nI_clamp (by have := (hX.1 i hi).1; omega)
  obtain ⟨f1, f2, f3⟩ := ma_solve (J := J) (b := b) hmn (fun i hi => (hpk i hi).2.2)
  refine ⟨f1, f2, ?_⟩
  rcases f3 with ⟨g0, o, o1, o2, o3, o4, o5, o6, o7, o8⟩ | ⟨g0, Z, z1, z2, ⟨c, z3, z4⟩, z5⟩
  · refine Or.inr ⟨by rw [g0]; decide, ?_⟩
    have p5 : o 5 = ma_e 5 := o3 5 (by omega) hmn
    have ub : (ma_u o).natAbs ≤ 7085880 := ma_u_small p5 o4
    have u0 := ma_u_pos o2
    obtain ⟨k0, k1⟩ := ma_mkeeps (J := m_sJ J a b mn) (b := m_sB a b mn) (set := set) hd (by rw [o7]; exact u0) (by rw [o7]; exact ub) (fun i hi => by rw [o8 i hi]; exact ma_k_big o4 ma_bd_e)
    refine ⟨k0, k1, by rw [ma_mX_5, o7]; omega, fun t X ht hX hc => ?_⟩
    have hz := hX.1.2.1
    have key : ∀ i, i < mn → ma_u o * X i = ma_k o 5 (ma_e i) * X 5 := by
      intro i hi
      have h := (ma_LP_of o1 o2).2.1 (ma_e i) X
      rw [ma_e_dot (by omega)] at h
      rw [h, ma_sm_congr (g := fun s => if s = 5 then ma_k o 5 (ma_e i) * X 5 else 0) (fun s hs => ?_), ma_sm_one (by decide)]
      by_cases h5 : s = 5
      · rw [if_pos h5, h5, p5, ma_e_dot (by omega)]
      · rw [if_neg h5]
        by_cases hm : s < mn
        · obtain ⟨q, q1, q2⟩ := o6 s hm
          have := hc.2.2.1 q q1
          rw [← htau t ht X hc q q1, ← (hpk q q1).2.1, ← q2] at this
          rw [this]
          omega
        · rw [o3 s hs (by omega), ma_e_dot hs, hz s (by omega) (by omega)]
          omega
    have heq : ma_eq X (ma_mX (m_sJ J a b mn) (m_sB a b mn) mn) := by
      intro i hi
      rw [ma_mX_5, o7]
      by_cases hm : i < mn
      · rw [ma_mX_i hmn hm, o8 i hm, Int.mul_comm]
        exact key i hm
      · rw [hz i (by omega) hi, ma_mX_z i (by omega) hi]
        omega
    exact ⟨heq, ma_fs_eq hmn heq hX (by rw [ma_mX_5, o7]; exact u0) ma_mX_z⟩
  · refine Or.inl ⟨g0, fun t X ht hc => ?_⟩
    refine z4 (hc.2.2.2 Z z1 z2 (fun i hi => ?_) c z3)
    have := z5 i hi
    rw [(hpk i hi).2.1, htau t ht X hc i hi] at this
    exact this
theorem ma_mu_c {a a' : gF} : ∀ n, (∀ i, i < n → a' 88 i = a 88 i) → m_mu a' n = m_mu a n
  | 0, _ => rfl
  | n + 1, h => by
    show m_mu a' n + (19 - cN (a' 88 n + 1)) * 20 ^ (5 - n) = m_mu a n + (19 - cN (a 88 n + 1)) * 20 ^ (5 - n)
    rw [ma_mu_c n (fun i hi => h i (by omega)), h n (by omega)]
theorem ma_mu_s {a : gF} {d q : Nat} (hq : a 88 d + 1 = nI q) (h : q ≤ 19) : m_mu a (d + 1) = m_mu a d + (19 - q) * 20 ^ (5 - d) := by
  show m_mu a d + (19 - cN (a 88 d + 1)) * 20 ^ (5 - d) = _
  rw [hq]
  have : cN (nI q) = q := nI_clamp (by omega)
  rw [this]
theorem ma_corL {mn mr : Nat} {set al : Int32} {x0 : gS} (hd : ma_datM mn mr x0.2.2.1) (hI : x0.1 5 0 = nI mn) (h0 : 0 < mn) (hs : ∀ r, r < 8 → m_bt set r ≠ 0 → r < mr) (hb : ∀ r, r < 8 → m_bt set r = 0 ∨ m_bt set r = 1) : ∀ n dd f x S, m_mu x.2.2.1 dd < n → ma_LI mn mr set al x0 dd f x S → ma_CP mn mr set al x0 (m_cor mn mr set al n (dd, f, x))
  | 0, dd, f, x, S, h, _ => by omega
  | n + 1, 0, f, x, S, _, L => by
    obtain ⟨l1, l2, l3, l4, l5, l6, l7, l8, l9, l10⟩ := L
    show ma_CP mn mr set al x0 (f, x)
    have all : ∀ t, ¬ ma_tc 0 x.2.2.1 t := fun t ⟨e, h, _⟩ => by omega
    refine ⟨l1, l5, fun ha => ?_, fun ha => ⟨S, l6, l7, l9 ha, fun t X hX hc => l10 t (all t) X hX hc⟩⟩
    rcases l5 with q | q
    · refine Or.inr ⟨q, fun t X hX hc => ?_⟩
      obtain ⟨Y, y1, -⟩ := l10 t (all t) X hX hc
      exact l8 ha Y y1
    · exfalso
      obtain ⟨X, hX⟩ := l6.mp (by rw [q]; decide)
      exact l8 ha X hX
  | n + 1, d + 1, f, x, S, hmu, L => by
    obtain ⟨l1, l2, l3, l4, l5, l6, l7, l8, l9, l10⟩ := L
    have hmn := hd.1
    have hI' : x.1 5 0 = nI mn := by rw [l1.1 5 0 (by omega)]; exact hI
    obtain ⟨q, q1, q2⟩ := l4 d rfl
    obtain ⟨n1, n2, n3, n4⟩ := ma_nx (a := x.2.2.1) (d := d) hI' hmn hs hb q1 q2
    have e : m_cor mn mr set al (n + 1) (d + 1, f, x) = if nI (m_nx x.1 x.2.2.1 set d) ≤ 17 then if x.1 5 0 ≤ nI d + 1 then if (m_s0 (m_cA x set d).2.2.1 x.2.2.2 mn).1 = 0 then m_cor mn mr set al n (d + 1, f, m_cS mn (m_cA x set d)) else if m_keeps (m_cS mn (m_cA x set d)).2.1 (m_cA x set d).2.2.1 (m_cS mn (m_cA x set d)).2.2.2 set mn mr = 0 then m_cor mn mr set al n (d + 1, f, m_cS mn (m_cA x set d)) else if al = 0 then (1, m_cS mn (m_cA x set d)) else m_cor mn mr set al n (d + 1, 1, m_cT mn (m_cS mn (m_cA x set d))) else m_cor mn mr set al n (d + 1 + 1, f, m_cP x set d) else m_cor mn mr set al n (d, f, m_cA x set d) := rfl
    have mu0 := ma_mu_s q1 (by omega)
    have e17 : (17 : Int32) = nI 17 := rfl
    -- the stack behind this step
    have a88 : ∀ v k j, k ≠ 88 → gU x.2.2.1 88 d v k j = x0.2.2.1 k j := fun v k j h => by rw [gU_n (by omega)]; exact l1.2.2.1 k j h
    have pre : ∀ v i, i < d → gU x.2.2.1 88 d v 88 i = x.2.2.1 88 i := fun v i h => gU_n (by omega)
    have pow1 : 1 ≤ 20 ^ (5 - d) := Nat.pos_of_ne_zero (by exact Nat.ne_of_gt (Nat.pow_pos (by decide)))
    by_cases hk : m_nx x.1 x.2.2.1 set d ≤ 17
    · rw [e, if_pos (by rw [e17, nI_leI (by omega) (by omega)]; exact hk)]
      have hT := n3 (by omega)
      by_cases hleaf : mn ≤ d + 1
      · have hdm : d + 1 = mn := by omega
        rw [if_pos (by rw [hI', nI_1, nI_leI (by omega) (by omega)]; exact hleaf)]
        -- a whole row of conditions
        have hA : (m_cA x set d).2.2.1 = gU x.2.2.1 88 d (nI (m_nx x.1 x.2.2.1 set d)) := rfl
        have hAf : ma_fr4 x0 (m_cA x set d) := ⟨l1.1, l1.2.1, fun k j h => a88 _ k j h, l1.2.2.2⟩
        obtain ⟨E1, E2, E3, E4⟩ := ma_a88 (a := (m_cA x set d).2.2.1) (a0 := x0.2.2.1) hAf.2.2.1 mn mr set
        have hp : ∀ i, i < mn → ∃ k, (m_cA x set d).2.2.1 88 i = nI k ∧ ma_TH mn mr set k := by
          intro i hi
          rw [hA]
          by_cases w : i = d
          · rw [w, gU_s]
            exact ⟨_, rfl, hT⟩
          · rw [pre _ i (by omega)]
            exact l3 i (by omega)
        obtain ⟨j1, j2, j3⟩ := ma_leaf (J := x.2.1) (b := x.2.2.2) (E3.mpr hd) hp
        rw [E1, E2] at j3
        have hSf : ma_fr4 x0 (m_cS mn (m_cA x set d)) := by
          refine ma_fr4_t hAf ⟨fun _ _ _ => rfl, fun k j h => j1 k j (by omega), fun _ _ _ => rfl, fun k j h1 h2 h3 => j2 k j h2 h3⟩
        have nmu : m_mu (gU x.2.2.1 88 d (nI (m_nx x.1 x.2.2.1 set d))) (d + 1) < n := by
          have w := ma_mu_s (a := gU x.2.2.1 88 d (nI (m_nx x.1 x.2.2.1 set d))) (d := d) (q := m_nx x.1 x.2.2.1 set d + 1) (by rw [gU_s, nI_1]) (by omega)
          rw [w, ma_mu_c d (pre _)]
          rw [mu0] at hmu
          have : (19 - (m_nx x.1 x.2.2.1 set d + 1)) * 20 ^ (5 - d) + 20 ^ (5 - d) ≤ (19 - q) * 20 ^ (5 - d) := by
            rw [← Nat.succ_mul]
            exact Nat.mul_le_mul_right _ (by omega)
          omega
        -- what is done is done, but for this one
        have done : ∀ t, ¬ ma_tc (d + 1) (gU x.2.2.1 88 d (nI (m_nx x.1 x.2.2.1 set d))) t → (∀ i, i < mn → ma_TH mn mr set (t i)) → ¬ ma_tc (d + 1) x.2.2.1 t ∨ ∀ i, i < mn → (m_cA x set d).2.2.1 88 i = nI (t i) := by
          intro t h1 hTt
          by_cases h2 : ma_tc (d + 1) x.2.2.1 t
          · refine Or.inr ?_
            obtain ⟨e1, e2, e3, q', e4, e5, e6⟩ := h2
            by_cases w : e1 = d
            · subst w
              have : q' = q := by
                rw [q1, nI_eq (by omega) (by omega)] at e4
                omega
              subst this
              have ge : m_nx x.1 x.2.2.1 set e1 ≤ t e1 := by
                apply Classical.byContradiction
                intro hlt
                exact n4 (t e1) e6 (by omega) (hTt e1 (by omega))
              have le : t e1 ≤ m_nx x.1 x.2.2.1 set e1 := by
                apply Classical.byContradiction
                intro hlt
                refine h1 ⟨e1, by omega, fun i hi => by rw [pre _ i hi]; exact e3 i hi, m_nx x.1 x.2.2.1 set e1 + 1, by rw [gU_s, nI_1], by omega, by omega⟩
              intro i hi
              rw [hA]
              by_cases w2 : i = e1
              · rw [w2, gU_s]
                have : m_nx x.1 x.2.2.1 set e1 = t e1 := by omega
                rw [this]
              · rw [pre _ i (by omega)]
                exact e3 i (by omega)
            · exfalso
              exact h1 ⟨e1, e2, fun i hi => by rw [pre _ i (by omega)]; exact e3 i hi, q', by rw [pre _ e1 (by omega)]; exact e4, e5, e6⟩
          · exact Or.inl h2
        have L3 : ∀ i, i + 1 < d + 1 → ∃ k, gU x.2.2.1 88 d (nI (m_nx x.1 x.2.2.1 set d)) 88 i = nI k ∧ ma_TH mn mr set k := fun i hi => by
          rw [pre _ i (by omega)]
          exact l3 i hi
        have L4 : ∀ d', d + 1 = d' + 1 → ∃ q, gU x.2.2.1 88 d (nI (m_nx x.1 x.2.2.1 set d)) 88 d' + 1 = nI q ∧ q ≤ 18 := fun d' hd' => by
          have : d' = d := by omega
          rw [this, gU_s, nI_1]
          exact ⟨_, rfl, by omega⟩
        rcases j3 with ⟨g0, g1⟩ | ⟨g0, g1, g2, g3, g4⟩
        · rw [if_pos g0]
          refine ma_corL hd hI h0 hs hb n (d + 1) f (m_cS mn (m_cA x set d)) S nmu ⟨hSf, l2, L3, L4, l5, l6, l7, l8, fun ha => ?_, fun t ht X hX hc => ?_⟩
          · have A := l9 ha
            have eA : ∀ k j, (k < 34 ∨ 38 < k) ∨ (34 ≤ k ∧ k ≤ 38) → k ≠ 87 → k ≠ 89 → m_sB (m_cA x set d).2.2.1 x.2.2.2 mn k j = x.2.2.2 k j := fun k j _ h2 h3 => j2 k j h2 h3
            show ma_Acc mn (ma_ci x0.2.2.1 29) S x.1 (m_sJ x.2.1 (m_cA x set d).2.2.1 x.2.2.2 mn) (m_sB (m_cA x set d).2.2.1 x.2.2.2 mn)
            unfold ma_Acc at A ⊢
            have f34 : m_sB (m_cA x set d).2.2.1 x.2.2.2 mn 34 = x.2.2.2 34 := funext (fun j => j2 34 j (by omega) (by omega))
            have f35 : m_sB (m_cA x set d).2.2.1 x.2.2.2 mn 35 = x.2.2.2 35 := funext (fun j => j2 35 j (by omega) (by omega))
            have f36 : m_sB (m_cA x set d).2.2.1 x.2.2.2 mn 36 = x.2.2.2 36 := funext (fun j => j2 36 j (by omega) (by omega))
            have f37 : m_sB (m_cA x set d).2.2.1 x.2.2.2 mn 37 = x.2.2.2 37 := funext (fun j => j2 37 j (by omega) (by omega))
            have f38 : m_sB (m_cA x set d).2.2.1 x.2.2.2 mn 38 = x.2.2.2 38 := funext (fun j => j2 38 j (by omega) (by omega))
            rw [f34, f35, f36, f37, f38, j1 5 11 (by omega), j1 5 12 (by omega), j1 5 14 (by omega)]
            exact A
          · rcases done t ht hc.1 with w | w
            · exact l10 t w X hX hc
            · exact absurd hc (g1 t X w)
        · rw [if_neg g0]
          have hAcc : al ≠ 0 → ma_Acc mn (ma_ci x0.2.2.1 29) S x.1 (m_sJ x.2.1 (m_cA x set d).2.2.1 x.2.2.2 mn) (m_sB (m_cA x set d).2.2.1 x.2.2.2 mn) := by
            intro ha
            have A := l9 ha
            unfold ma_Acc at A ⊢
            have f34 : m_sB (m_cA x set d).2.2.1 x.2.2.2 mn 34 = x.2.2.2 34 := funext (fun j => j2 34 j (by omega) (by omega))
            have f35 : m_sB (m_cA x set d).2.2.1 x.2.2.2 mn 35 = x.2.2.2 35 := funext (fun j => j2 35 j (by omega) (by omega))
            have f36 : m_sB (m_cA x set d).2.2.1 x.2.2.2 mn 36 = x.2.2.2 36 := funext (fun j => j2 36 j (by omega) (by omega))
            have f37 : m_sB (m_cA x set d).2.2.1 x.2.2.2 mn 37 = x.2.2.2 37 := funext (fun j => j2 37 j (by omega) (by omega))
            have f38 : m_sB (m_cA x set d).2.2.1 x.2.2.2 mn 38 = x.2.2.2 38 := funext (fun j => j2 38 j (by omega) (by omega))
            rw [f34, f35, f36, f37, f38, j1 5 11 (by omega), j1 5 12 (by omega), j1 5 14 (by omega)]
            exact A
          by_cases hkp : m_keeps (m_cS mn (m_cA x set d)).2.1 (m_cA x set d).2.2.1 (m_cS mn (m_cA x set d)).2.2.2 set mn mr = 0
          · rw [if_pos hkp]
            refine ma_corL hd hI h0 hs hb n (d + 1) f (m_cS mn (m_cA x set d)) S nmu ⟨hSf, l2, L3, L4, l5, l6, l7, l8, hAcc, fun t ht X hX hc => ?_⟩
            rcases done t ht hc.1 with w | w
            · exact l10 t w X hX hc
            · exfalso
              have w2 := g2.mpr (g4 t X w hX hc).2
              have hkp : m_keeps (m_sJ x.2.1 (m_cA x set d).2.2.1 x.2.2.2 mn) (m_cA x set d).2.2.1 (m_sB (m_cA x set d).2.2.1 x.2.2.2 mn) set mn mr = 0 := hkp
              rw [hkp] at w2
              exact absurd w2 (by decide)
          · rw [if_neg hkp]
            have hFE : ma_FE mn mr x0.2.2.1 set (ma_mX (m_sJ x.2.1 (m_cA x set d).2.2.1 x.2.2.2 mn) (m_sB (m_cA x set d).2.2.1 x.2.2.2 mn) mn) := g2.mp (g1.resolve_left hkp)
            by_cases ha : al = 0
            · rw [if_pos ha]
              exact ⟨hSf, Or.inr rfl, fun _ => Or.inl ⟨rfl, _, hFE⟩, fun w => absurd ha w⟩
            · rw [if_neg ha]
              obtain ⟨tJ, tB⟩ := ma_take_f (I := x.1) (J := m_sJ x.2.1 (m_cA x set d).2.2.1 x.2.2.2 mn) (a := (m_cA x set d).2.2.1) (b := m_sB (m_cA x set d).2.2.1 x.2.2.2 mn) (mn := mn) hmn
              refine ma_corL hd hI h0 hs hb n (d + 1) 1 (m_cT mn (m_cS mn (m_cA x set d))) (fun Y => S Y ∨ Y = ma_mX (m_sJ x.2.1 (m_cA x set d).2.2.1 x.2.2.2 mn) (m_sB (m_cA x set d).2.2.1 x.2.2.2 mn) mn) nmu ⟨?_, l2, L3, L4, Or.inr rfl, ⟨fun _ => ⟨_, Or.inr rfl⟩, fun _ => by decide⟩, fun X hX => ?_, fun w => absurd w ha, fun _ => ?_, fun t ht X hX hc => ?_⟩
              · refine ma_fr4_t hSf ⟨fun k j h => gU_n (by omega), fun k j h => tJ k j (by omega), fun _ _ _ => rfl, fun k j h1 h2 h3 => tB k j h1⟩
              · rcases hX with w | w
                · exact l7 X w
                · rw [w]; exact hFE
              · have hc29 : ∀ i, i < mn → ((m_cA x set d).2.2.1 29 i).toInt.natAbs ≤ 99 := fun i hi => ((E3.mpr hd).2.2.1 i hi).2.2.2
                have A := hAcc ha
                rw [← E4] at A ⊢
                exact ma_take hmn hc29 A (ma_sb_of hd hFE g3) (fun Y => Iff.rfl)
              · rcases done t ht hc.1 with w | w
                · obtain ⟨Y, y1, y2⟩ := l10 t w X hX hc
                  exact ⟨Y, Or.inl y1, y2⟩
                · exact ⟨_, Or.inr rfl, (g4 t X w hX hc).1⟩
      · rw [if_neg (by rw [hI', nI_1, nI_leI (by omega) (by omega)]; exact hleaf)]
        have hP : (m_cP x set d).2.2.1 = gU (gU x.2.2.1 88 d (nI (m_nx x.1 x.2.2.1 set d))) 88 (d + 1) (nI (m_nx x.1 x.2.2.1 set d)) := rfl
        have pd : (m_cP x set d).2.2.1 88 d = nI (m_nx x.1 x.2.2.1 set d) := by rw [hP, gU_n (by omega), gU_s]
        have pd1 : (m_cP x set d).2.2.1 88 (d + 1) = nI (m_nx x.1 x.2.2.1 set d) := by rw [hP, gU_s]
        have pp : ∀ i, i < d → (m_cP x set d).2.2.1 88 i = x.2.2.1 88 i := fun i hi => by rw [hP, gU_n (by omega), gU_n (by omega)]
        have nmu : m_mu (m_cP x set d).2.2.1 (d + 1 + 1) < n := by
          have w1 := ma_mu_s (a := (m_cP x set d).2.2.1) (d := d + 1) (q := m_nx x.1 x.2.2.1 set d + 1) (by rw [pd1, nI_1]) (by omega)
          have w2 := ma_mu_s (a := (m_cP x set d).2.2.1) (d := d) (q := m_nx x.1 x.2.2.1 set d + 1) (by rw [pd, nI_1]) (by omega)
          rw [w1, w2, ma_mu_c d pp]
          rw [mu0] at hmu
          have e5 : 5 - d = (5 - (d + 1)) + 1 := by omega
          rw [e5, Nat.pow_succ] at hmu ⊢
          have pw : 1 ≤ 20 ^ (5 - (d + 1)) := Nat.pos_of_ne_zero (by exact Nat.ne_of_gt (Nat.pow_pos (by decide)))
          generalize 20 ^ (5 - (d + 1)) = P at *
          have k1 : (19 - (m_nx x.1 x.2.2.1 set d + 1)) * (P * 20) + (P * 20) ≤ (19 - q) * (P * 20) := by
            rw [← Nat.succ_mul]
            exact Nat.mul_le_mul_right _ (by omega)
          have k2 : (19 - (m_nx x.1 x.2.2.1 set d + 1)) * P ≤ 19 * P := Nat.mul_le_mul_right _ (by omega)
          omega
        refine ma_corL hd hI h0 hs hb n (d + 1 + 1) f (m_cP x set d) S nmu ⟨⟨l1.1, l1.2.1, fun k j h => by rw [hP, gU_n (by omega), gU_n (by omega)]; exact l1.2.2.1 k j h, l1.2.2.2⟩, by omega, fun i hi => ?_, fun d' hd' => ?_, l5, l6, l7, l8, l9, fun t ht X hX hc => ?_⟩
        · by_cases w : i = d
          · rw [w, pd]
            exact ⟨_, rfl, hT⟩
          · rw [pp i (by omega)]
            exact l3 i (by omega)
        · have : d' = d + 1 := by omega
          rw [this, pd1, nI_1]
          exact ⟨_, rfl, by omega⟩
        · refine l10 t (fun h2 => ht ?_) X hX hc
          obtain ⟨e1, e2, e3, q', e4, e5, e6⟩ := h2
          by_cases w : e1 = d
          · subst w
            have : q' = q := by
              rw [q1, nI_eq (by omega) (by omega)] at e4
              omega
            subst this
            have ge : m_nx x.1 x.2.2.1 set e1 ≤ t e1 := by
              apply Classical.byContradiction
              intro hlt
              exact n4 (t e1) e6 (by omega) (hc.1 e1 (by omega))
            by_cases w2 : m_nx x.1 x.2.2.1 set e1 = t e1
            · have inc := hc.2.1 e1 (e1 + 1) (by omega) (by omega)
              refine ⟨e1 + 1, by omega, fun i hi => ?_, m_nx x.1 x.2.2.1 set e1 + 1, by rw [pd1, nI_1], by omega, by omega⟩
              by_cases w3 : i = e1
              · rw [w3, pd, w2]
              · rw [pp i (by omega)]
                exact e3 i (by omega)
            · exact ⟨e1, by omega, fun i hi => by rw [pp i hi]; exact e3 i hi, m_nx x.1 x.2.2.1 set e1 + 1, by rw [pd, nI_1], by omega, by omega⟩
          · exact ⟨e1, by omega, fun i hi => by rw [pp i (by omega)]; exact e3 i hi, q', by rw [pp e1 (by omega)]; exact e4, e5, e6⟩
    · rw [e, if_neg (by rw [e17, nI_leI (by omega) (by omega)]; exact hk)]
      have hA : (m_cA x set d).2.2.1 = gU x.2.2.1 88 d (nI (m_nx x.1 x.2.2.1 set d)) := rfl
      have nmu : m_mu (m_cA x set d).2.2.1 d < n := by
        rw [hA, ma_mu_c d (pre _)]
        rw [mu0] at hmu
        have : 1 * 1 ≤ (19 - q) * 20 ^ (5 - d) := Nat.mul_le_mul (by omega) pow1
        omega
      refine ma_corL hd hI h0 hs hb n d f (m_cA x set d) S nmu ⟨⟨l1.1, l1.2.1, fun k j h => a88 _ k j h, l1.2.2.2⟩, by omega, fun i hi => ?_, fun d' hd' => ?_, l5, l6, l7, l8, l9, fun t ht X hX hc => ?_⟩
      · rw [hA, pre _ i (by omega)]
        exact l3 i (by omega)
      · obtain ⟨k, k1, k2⟩ := l3 d' (by omega)
        rw [hA, pre _ d' (by omega), k1, nI_1]
        exact ⟨_, rfl, by have := k2.1; omega⟩
      · refine l10 t (fun h2 => ht ?_) X hX hc
        obtain ⟨e1, e2, e3, q', e4, e5, e6⟩ := h2
        by_cases w : e1 = d
        · exfalso
          subst w
          have : q' = q := by
            rw [q1, nI_eq (by omega) (by omega)] at e4
            omega
          subst this
          have hTt := hc.1 e1 (by omega)
          exact n4 (t e1) e6 (by have := hTt.1; omega) hTt
        · exact ⟨e1, by omega, fun i hi => by rw [hA, pre _ i (by omega)]; exact e3 i hi, q', by rw [hA, pre _ e1 (by omega)]; exact e4, e5, e6⟩
end
section
/-! THE MATHEMATICS, 17: sets of rows; what the reference knows -/
theorem ma_bt_n : ∀ m, m < 256 → ∀ r, r < 8 → m_bt (nI m) r = nI (m / 2 ^ r % 2) ∧ s_bit (nI m) r = nI (m / 2 ^ r % 2 * 2 ^ r) := by decide +kernel
theorem ma_wo_n : ∀ m, m < 256 → ∀ k, k < 8 → s_wo (nI m) k = nI (m - m / 2 ^ k % 2 * 2 ^ k) := by decide +kernel
theorem ma_or_n : ∀ k, k < 8 → ∀ m, m < 2 ^ k → nI m ||| ((1 : Int32) <<< (nI k &&& 31)) = nI (m + 2 ^ k) := by decide +kernel
theorem ma_wo_b : ∀ m, m < 256 → ∀ k, k < 8 → ∀ r, r < 8 → (m - m / 2 ^ k % 2 * 2 ^ k) / 2 ^ r % 2 = if r = k then 0 else m / 2 ^ r % 2 := by decide +kernel
theorem ma_or_b : ∀ k, k < 8 → ∀ m, m < 2 ^ k → ∀ r, r < 8 → (m + 2 ^ k) / 2 ^ r % 2 = if r = k then 1 else m / 2 ^ r % 2 := by decide +kernel
theorem ma_lt_b0 : ∀ k, k < 9 → ∀ m, m < 2 ^ k → ∀ r, r < 8 → k ≤ r → m / 2 ^ r % 2 = 0 := by decide +kernel
theorem ma_lt_b (k : Nat) (hk : k < 9) (m : Nat) (hm : m < 2 ^ k) (r : Nat) (h1 : k ≤ r) (h2 : r < 8) : m / 2 ^ r % 2 = 0 := ma_lt_b0 k hk m hm r h2 h1
def ma_isS (set : Int32) : Prop := ∃ m, m < 256 ∧ set = nI m
theorem ma_S_bt {set : Int32} (h : ma_isS set) {r : Nat} (hr : r < 8) : (m_bt set r = 0 ∨ m_bt set r = 1) ∧ (s_bit set r ≠ 0 ↔ m_bt set r ≠ 0) := by
  obtain ⟨m, h1, rfl⟩ := h
  obtain ⟨e1, e2⟩ := ma_bt_n m h1 r hr
  rw [e1, e2]
  have hp : 1 ≤ 2 ^ r := Nat.pos_of_ne_zero (by exact Nat.ne_of_gt (Nat.pow_pos (by decide)))
  have hp2 : 2 ^ r ≤ 128 := Nat.pow_le_pow_right (n := 2) (by decide) (show r ≤ 7 by omega)
  rcases Nat.mod_two_eq_zero_or_one (m / 2 ^ r) with q | q
  · rw [q, Nat.zero_mul]
    exact ⟨Or.inl rfl, Iff.rfl⟩
  · rw [q, Nat.one_mul]
    exact ⟨Or.inr rfl, ⟨fun _ => by decide, fun _ => nI_ne0 (by omega) (by omega)⟩⟩
theorem ma_S_wo {set : Int32} (h : ma_isS set) {k : Nat} (hk : k < 8) : ma_isS (s_wo set k) ∧ (∀ r, r < 8 → (m_bt (s_wo set k) r ≠ 0 ↔ (m_bt set r ≠ 0 ∧ r ≠ k))) ∧ (s_wo set k = set ↔ m_bt set k = 0) := by
  obtain ⟨m, h1, rfl⟩ := h
  have e := ma_wo_n m h1 k hk
  have h2 : m - m / 2 ^ k % 2 * 2 ^ k < 256 := by omega
  rw [e]
  refine ⟨⟨_, h2, rfl⟩, fun r hr => ?_, ?_⟩
  · rw [(ma_bt_n _ h2 r hr).1, (ma_bt_n m h1 r hr).1, ma_wo_b m h1 k hk r hr]
    by_cases q : r = k
    · rw [if_pos q]
      exact ⟨fun w => absurd rfl w, fun w => absurd q w.2⟩
    · rw [if_neg q]
      exact ⟨fun w => ⟨w, q⟩, fun w => w.1⟩
  · rw [(ma_bt_n m h1 k hk).1, nI_eq (by omega) (by omega)]
    have hp : 1 ≤ 2 ^ k := Nat.pos_of_ne_zero (by exact Nat.ne_of_gt (Nat.pow_pos (by decide)))
    have hle : m / 2 ^ k % 2 * 2 ^ k ≤ m := Nat.le_trans (Nat.mul_le_mul_right _ (Nat.mod_le _ _)) (Nat.div_mul_le_self m (2 ^ k))
    rcases Nat.mod_two_eq_zero_or_one (m / 2 ^ k) with q | q
    · rw [q]
      exact ⟨fun _ => rfl, fun _ => by omega⟩
    · rw [q] at hle ⊢
      refine ⟨fun w => ?_, fun w => absurd w (by decide)⟩
      exfalso
      omega
theorem ma_S_all {a : gF} : ∀ n, n ≤ 8 → ∃ m, m < 2 ^ n ∧ m_all a n = nI m ∧ ∀ r, r < n → (m / 2 ^ r % 2 ≠ 0 ↔ a 33 r ≠ 0)
  | 0, _ => ⟨0, by decide, rfl, fun r h => by omega⟩
  | n + 1, hn => by
    obtain ⟨m, h1, h2, h3⟩ := ma_S_all (a := a) n (by omega)
    have e : m_all a (n + 1) = if a 33 n = 0 then m_all a n ||| 0 else m_all a n ||| ((1 : Int32) <<< (nI n &&& 31)) := rfl
    have hpow : 2 ^ (n + 1) = 2 ^ n * 2 := Nat.pow_succ ..
    by_cases h : a 33 n = 0
    · refine ⟨m, by omega, by rw [e, if_pos h, Int32.or_zero, h2], fun r hr => ?_⟩
      by_cases q : r = n
      · rw [q, ma_lt_b n (by omega) m h1 n (Nat.le_refl _) (by omega)]
        exact ⟨fun w => absurd rfl w, fun w => absurd h w⟩
      · exact h3 r (by omega)
    · refine ⟨m + 2 ^ n, by omega, by rw [e, if_neg h, h2, ma_or_n n (by omega) m h1], fun r hr => ?_⟩
      rw [ma_or_b n (by omega) m h1 r (by omega)]
      by_cases q : r = n
      · rw [if_pos q, q]
        exact ⟨fun _ => h, fun _ => by decide⟩
      · rw [if_neg q]
        exact h3 r (by omega)
theorem ma_all_S {a : gF} {mr : Nat} (hmr : mr ≤ 8) : ma_isS (m_all a mr) ∧ (∀ r, r < 8 → (m_bt (m_all a mr) r ≠ 0 ↔ (r < mr ∧ a 33 r ≠ 0))) := by
  obtain ⟨m, h1, h2, h3⟩ := ma_S_all (a := a) mr hmr
  have hp : 2 ^ mr ≤ 256 := Nat.pow_le_pow_right (n := 2) (by decide) hmr
  refine ⟨⟨m, by omega, h2⟩, fun r hr => ?_⟩
  rw [h2, (ma_bt_n m (by omega) r hr).1]
  have e : nI (m / 2 ^ r % 2) ≠ 0 ↔ m / 2 ^ r % 2 ≠ 0 := by
    rcases Nat.mod_two_eq_zero_or_one (m / 2 ^ r) with q | q
    · rw [q]; exact ⟨fun w => absurd rfl w, fun w => absurd rfl w⟩
    · rw [q]; exact ⟨fun _ => by decide, fun _ => by decide⟩
  rw [e]
  by_cases q : r < mr
  · rw [h3 r q]
    exact ⟨fun w => ⟨q, w⟩, fun w => w.2⟩
  · rw [ma_lt_b mr (by omega) m h1 r (by omega) hr]
    exact ⟨fun w => absurd rfl w, fun w => absurd w.1 q⟩
/-- where there is a point there is a corner -/
def ma_ac (a : gF) : gF := fun k j => if k = 6 then a 27 j else if k = 7 then a 28 j else if k = 8 then a 29 j else if k = 9 then a 30 j else if k = 10 then a 31 j else a 32 (5 * (k - 40) + j)
theorem ma_ac_f (a : gF) : ma_ci (ma_ac a) 6 = ma_ci a 27 ∧ ma_ci (ma_ac a) 7 = ma_ci a 28 ∧ ma_ci (ma_ac a) 9 = ma_ci a 30 ∧ ma_ci (ma_ac a) 10 = ma_ci a 31 ∧ ma_fa (ma_ac a) = ma_fm2 a := by
  refine ⟨rfl, rfl, rfl, rfl, ?_⟩
  funext r i
  show (ma_ac a (40 + r) i).toInt = (a 32 (5 * r + i)).toInt
  unfold ma_ac
  rw [if_neg (by omega), if_neg (by omega), if_neg (by omega), if_neg (by omega), if_neg (by omega), Nat.add_sub_cancel_left]
theorem ma_fs_R {nn nr : Nat} {lo hi se ri : Nat → Int} {fa : Nat → Nat → Int} {R R' : Nat → Prop} {X : Nat → Int} (h : ∀ r, r < nr → (R r ↔ R' r)) : ma_fs nn nr lo hi se ri fa R X ↔ ma_fs nn nr lo hi se ri fa R' X :=
  ⟨fun w => ⟨w.1, fun r hr hR => w.2 r hr ((h r hr).mpr hR)⟩, fun w => ⟨w.1, fun r hr hR => w.2 r hr ((h r hr).mp hR)⟩⟩
theorem ma_th_R {nn nr : Nat} {R R' : Nat → Prop} {c : Nat} (h : ∀ r, r < nr → (R r ↔ R' r)) : ma_th nn nr R c ↔ ma_th nn nr R' c :=
  ⟨fun w => ⟨w.1, fun q => ⟨(w.2.1 q).1, (h c (w.2.1 q).1).mp (w.2.1 q).2⟩, w.2.2⟩, fun w => ⟨w.1, fun q => ⟨(w.2.1 q).1, (h c (w.2.1 q).1).mpr (w.2.1 q).2⟩, w.2.2⟩⟩
theorem ma_exc {mn mr : Nat} {a : gF} {set : Int32} (hd : ma_datM mn mr a) (hS : ma_isS set) (h : ∃ X, ma_FE mn mr a set X) : ∃ t X, ma_FE mn mr a set X ∧ ma_cor mn (ma_CM mn a) (ma_TH mn mr set) t X := by
  obtain ⟨e6, e7, e9, e10, ef⟩ := ma_ac_f a
  have hd' : ma_dat mn mr (ma_ac a) := by
    obtain ⟨d1, d2, d3, d4⟩ := hd
    refine ⟨d1, d2, fun i hi => d3 i hi, fun r hr => ⟨(d4 r hr).1, (d4 r hr).2.1, fun i hi => ?_⟩⟩
    have := congrFun (congrFun ef r) i
    have this : (ma_ac a (40 + r) i).toInt = (a 32 (5 * r + i)).toInt := this
    rw [this]
    exact (d4 r hr).2.2 i hi
  have hR : ∀ r, r < mr → (s_bit set r ≠ 0 ↔ m_bt set r ≠ 0) := fun r hr => (ma_S_bt hS (by have := hd.2.1; omega)).2
  obtain ⟨V, C, D, -, K⟩ := ma_keep (I := fun _ _ => 0) (J := fun _ _ => 0) (b := fun _ _ => 0) (n := 65780) (set := set) hd' (Nat.le_refl _)
  rcases K with ⟨⟨-, fe⟩, -⟩ | ⟨-, no⟩
  · have Y := ma_yes D C fe
    obtain ⟨t, T⟩ := ma_corner D C
    rw [e6, e7, e9, e10, ef] at Y
    rw [e6, e7, e10, ef] at T
    refine ⟨t, _, (ma_fs_R hR).mp Y, fun i hi => (ma_th_R hR).mp (T.1 i hi), T.2⟩
  · exfalso
    obtain ⟨X, hX⟩ := h
    refine no X ?_
    rw [e6, e7, e9, e10, ef]
    exact (ma_fs_R hR).mpr hX
theorem ma_corners {mn mr : Nat} {set al : Int32} {x : gS} (hd : ma_datM mn mr x.2.2.1) (hI : x.1 5 0 = nI mn) (hS : ma_isS set) (hs : ∀ r, r < 8 → m_bt set r ≠ 0 → r < mr) (ha : al ≠ 0 → x.1 5 24 = 0) : ma_CP mn mr set al x (m_corners x set al mn mr) := by
  have hb : ∀ r, r < 8 → m_bt set r = 0 ∨ m_bt set r = 1 := fun r hr => (ma_S_bt hS hr).1
  have hmn := hd.1
  unfold m_corners
  by_cases h0 : mn = 0
  · subst h0
    rw [if_pos (show x.1 5 0 = 0 from hI)]
    unfold m_c0
    have u1 : (gU x.2.1 5 23 1 5 23).toInt = 1 := by rw [gU_s]; rfl
    obtain ⟨E1, E2, E3, E4⟩ := ma_a88 (a := gU x.2.2.1 88 0 (-1)) (a0 := x.2.2.1) (fun k j h => gU_n (by omega)) 0 mr set
    obtain ⟨k0, k1⟩ := ma_mkeeps (J := gU x.2.1 5 23 1) (a := gU x.2.2.1 88 0 (-1)) (b := x.2.2.2) (mn := 0) (mr := mr) (set := set) (E3.mpr hd) (by rw [u1]; decide) (by rw [u1]; decide) (fun i hi => by omega)
    have k1 : m_keeps (gU x.2.1 5 23 1) (gU x.2.2.1 88 0 (-1)) x.2.2.2 set 0 mr = 1 ↔ ma_FE 0 mr x.2.2.1 set (ma_mX (gU x.2.1 5 23 1) x.2.2.2 0) := by rw [k1]; exact Iff.of_eq (congrFun E2 _)
    have fr : ma_fr4 x (x.1, gU x.2.1 5 23 1, gU x.2.2.1 88 0 (-1), x.2.2.2) := ⟨fun _ _ _ => rfl, fun k j h => gU_n (by omega), fun k j h => gU_n (by omega), fun _ _ _ _ _ => rfl⟩
    have hp : ∀ X, ma_FE 0 mr x.2.2.1 set X → ma_eq X (ma_mX (gU x.2.1 5 23 1) x.2.2.2 0) ∧ ma_FE 0 mr x.2.2.1 set (ma_mX (gU x.2.1 5 23 1) x.2.2.2 0) := by
      intro X hX
      have he : ma_eq X (ma_mX (gU x.2.1 5 23 1) x.2.2.2 0) := fun i hi => by
        rw [hX.1.2.1 i (by omega) hi, ma_mX_z i (by omega) hi]
        omega
      exact ⟨he, ma_fs_eq hmn he hX (by rw [ma_mX_5, u1]; decide) ma_mX_z⟩
    by_cases hk : m_keeps (gU x.2.1 5 23 1) (gU x.2.2.1 88 0 (-1)) x.2.2.2 set 0 mr = 0
    · rw [if_pos hk]
      have no : ∀ X, ¬ ma_FE 0 mr x.2.2.1 set X := fun X hX => by
        have := k1.mpr (hp X hX).2
        rw [hk] at this
        exact absurd this (by decide)
      refine ⟨fr, k0, fun _ => Or.inr ⟨hk, fun t X hX => absurd hX (no X)⟩, fun w => ⟨fun _ => False, ⟨fun q => absurd hk q, fun ⟨X, q⟩ => q.elim⟩, fun X q => q.elim, ⟨fun X q => q.elim, Or.inl ⟨ha w, fun X q => q⟩⟩, fun t X hX => absurd hX (no X)⟩⟩
    · rw [if_neg hk]
      have hk1 := k0.resolve_left hk
      have fe := k1.mp hk1
      by_cases hal : al = 0
      · rw [if_pos hal]
        exact ⟨fr, k0, fun _ => Or.inl ⟨hk1, _, fe⟩, fun w => absurd hal w⟩
      · rw [if_neg hal]
        obtain ⟨tJ, tB⟩ := ma_take_f (I := x.1) (J := gU x.2.1 5 23 1) (a := gU x.2.2.1 88 0 (-1)) (b := x.2.2.2) (mn := 0) hmn
        refine ⟨ma_fr4_t fr ⟨fun k j h => gU_n (by omega), fun k j h => tJ k j (by omega), fun _ _ _ => rfl, fun k j h1 _ _ => tB k j h1⟩, k0, fun w => absurd w hal, fun w => ⟨fun Y => False ∨ Y = ma_mX (gU x.2.1 5 23 1) x.2.2.2 0, ⟨fun _ => ⟨_, Or.inr rfl⟩, fun _ => hk⟩, fun X q => ?_, ?_, fun t X hX _ => ⟨_, Or.inr rfl, (hp X hX).1⟩⟩⟩
        · rcases q with q | q
          · exact q.elim
          · rw [q]; exact fe
        · have A : ma_Acc 0 (ma_ci (gU x.2.2.1 88 0 (-1)) 29) (fun _ => False) x.1 (gU x.2.1 5 23 1) x.2.2.2 := ⟨fun X q => q.elim, Or.inl ⟨ha w, fun X q => q⟩⟩
          have := ma_take (a := gU x.2.2.1 88 0 (-1)) hmn (fun i hi => by omega) A (ma_sb_of hd fe (by rw [ma_mX_5, u1]; decide)) (fun Y => Iff.rfl)
          rw [E4] at this
          exact this
  · rw [if_neg (by rw [hI]; exact nI_ne0 (by omega) (by omega))]
    unfold m_cc
    have q0 : gU x.2.2.1 88 0 (-1) 88 0 + 1 = nI 0 := by rw [gU_s]; rfl
    have hmu : m_mu (gU x.2.2.1 88 0 (-1)) 1 < mCF := by
      have := ma_mu_s q0 (by decide)
      rw [this]
      show 0 + (19 - 0) * 20 ^ (5 - 0) < 1000000000000
      decide
    generalize mCF = fuel at hmu
    have fr : ma_fr4 x (x.1, x.2.1, gU x.2.2.1 88 0 (-1), x.2.2.2) := ⟨fun _ _ _ => rfl, fun _ _ _ => rfl, fun k j h => gU_n (by omega), fun _ _ _ _ _ => rfl⟩
    refine ma_corL hd hI (by omega) hs hb fuel 1 0 (x.1, x.2.1, gU x.2.2.1 88 0 (-1), x.2.2.2) (fun _ => False) hmu ⟨fr, by omega, fun i h => by omega, fun d h => ?_, Or.inl rfl, ⟨fun q => absurd rfl q, fun ⟨X, q⟩ => q.elim⟩, fun X q => q.elim, fun _ X q => q, fun w => ⟨fun X q => q.elim, Or.inl ⟨ha w, fun X q => q⟩⟩, fun t ht => absurd ⟨0, by omega, fun i h => by omega, 0, q0, by omega, by omega⟩ ht⟩
    have : d = 0 := by omega
    rw [this]
    exact ⟨0, q0, by omega⟩
theorem ma_corners0 {mn mr : Nat} {set : Int32} {x : gS} (hd : ma_datM mn mr x.2.2.1) (hI : x.1 5 0 = nI mn) (hS : ma_isS set) (hs : ∀ r, r < 8 → m_bt set r ≠ 0 → r < mr) : ma_fr4 x (m_corners x set 0 mn mr).2 ∧ ((m_corners x set 0 mn mr).1 ≠ 0 ↔ ∃ X, ma_FE mn mr x.2.2.1 set X) := by
  obtain ⟨c1, c2, c3, -⟩ := ma_corners (al := 0) hd hI hS hs (fun w => absurd rfl w)
  refine ⟨c1, ?_⟩
  rcases c3 rfl with ⟨q1, q2⟩ | ⟨q1, q2⟩
  · exact ⟨fun _ => q2, fun _ => by rw [q1]; decide⟩
  · refine ⟨fun w => absurd q1 w, fun w => ?_⟩
    obtain ⟨t, X, h1, h2⟩ := ma_exc hd hS w
    exact absurd h2 (q2 t X h1)
/-- rows are left out while there is still no point -/
noncomputable def ma_gr (Fe : Int32 → Prop) : Nat → Int32 → Int32
  | 0, s => s
  | k + 1, s => @ite _ (m_bt s k ≠ 0 ∧ ¬ Fe (s_wo s k)) (Classical.propDecidable _) (ma_gr Fe k (s_wo s k)) (ma_gr Fe k s)
theorem ma_gr_y {Fe : Int32 → Prop} {k : Nat} {s : Int32} (h : m_bt s k ≠ 0 ∧ ¬ Fe (s_wo s k)) : ma_gr Fe (k + 1) s = ma_gr Fe k (s_wo s k) := @if_pos _ (Classical.propDecidable _) h _ _ _
theorem ma_gr_n {Fe : Int32 → Prop} {k : Nat} {s : Int32} (h : ¬ (m_bt s k ≠ 0 ∧ ¬ Fe (s_wo s k))) : ma_gr Fe (k + 1) s = ma_gr Fe k s := @if_neg _ (Classical.propDecidable _) h _ _ _
def ma_Fe (mn mr : Nat) (a : gF) : Int32 → Prop := fun set => ∃ X, ma_FE mn mr a set X
theorem ma_kn0 {mn mr : Nat} {x0 : gS} (hd : ma_datM mn mr x0.2.2.1) (hI : x0.1 5 0 = nI mn) (hh : x0.1 5 10 = 0) : ∀ k, k ≤ 8 → ∀ set x, ma_fr4 x0 x → ma_isS set → (∀ r, r < 8 → m_bt set r ≠ 0 → r < mr) → ma_fr4 x0 (m_kn mn mr k (set, x)).2 ∧ (m_kn mn mr k (set, x)).1 = ma_gr (ma_Fe mn mr x0.2.2.1) k set
  | 0, _, set, x, hf, _, _ => ⟨hf, rfl⟩
  | k + 1, hk, set, x, hf, hS, hs => by
    have e : m_kn mn mr (k + 1) (set, x) = if x.1 5 10 = 0 then if m_bt set k = 1 then if (m_corners x (s_wo set k) 0 mn mr).1 = 0 then m_kn mn mr k (s_wo set k, (m_corners x (s_wo set k) 0 mn mr).2) else m_kn mn mr k (set, (m_corners x (s_wo set k) 0 mn mr).2) else m_kn mn mr k (set, x) else (set, x) := rfl
    have h10 : x.1 5 10 = 0 := by rw [hf.1 5 10 (by omega)]; exact hh
    rw [e, if_pos h10]
    obtain ⟨b0, -⟩ := ma_S_bt hS (show k < 8 by omega)
    by_cases hb : m_bt set k = 1
    · rw [if_pos hb]
      have hbn : m_bt set k ≠ 0 := by rw [hb]; decide
      obtain ⟨w1, w2, w3⟩ := ma_S_wo hS (show k < 8 by omega)
      have hs' : ∀ r, r < 8 → m_bt (s_wo set k) r ≠ 0 → r < mr := fun r hr h => hs r hr ((w2 r hr).mp h).1
      obtain ⟨E1, E2, E3, E4⟩ := ma_a88 hf.2.2.1 mn mr (s_wo set k)
      obtain ⟨c1, c2⟩ := ma_corners0 (E3.mpr hd) (by rw [hf.1 5 0 (by omega)]; exact hI) w1 hs'
      rw [E2] at c2
      have hf' := ma_fr4_t hf c1
      by_cases hc : (m_corners x (s_wo set k) 0 mn mr).1 = 0
      · rw [if_pos hc]
        have := ma_kn0 hd hI hh k (by omega) (s_wo set k) _ hf' w1 hs'
        rw [ma_gr_y ⟨hbn, fun w => c2.mpr w hc⟩]
        exact this
      · rw [if_neg hc]
        have := ma_kn0 hd hI hh k (by omega) set _ hf' hS hs
        rw [ma_gr_n (fun w => w.2 (c2.mp hc))]
        exact this
    · rw [if_neg hb]
      have := ma_kn0 hd hI hh k (by omega) set x hf hS hs
      rw [ma_gr_n (fun w => w.1 (b0.resolve_right hb))]
      exact this
theorem ma_gr_S {Fe : Int32 → Prop} : ∀ k, k ≤ 8 → ∀ set, ma_isS set → ma_isS (ma_gr Fe k set)
  | 0, _, _, h => h
  | k + 1, hk, set, h => by
    by_cases q : m_bt set k ≠ 0 ∧ ¬ Fe (s_wo set k)
    · rw [ma_gr_y q]
      exact ma_gr_S k (by omega) _ (ma_S_wo h (by omega)).1
    · rw [ma_gr_n q]
      exact ma_gr_S k (by omega) _ h
theorem ma_ib {I a : gF} {set : Int32} (hS : ma_isS set) : ∀ n, n ≤ 8 → ∀ K j, m_ib I a set n K j = if K = 39 ∧ j < n then (if I 5 10 = 0 then (if m_bt set j = 1 then 1 else 0) else 0) else a K j
  | 0, _, K, j => by
    rw [if_neg (by omega)]
    rfl
  | n + 1, hn, K, j => by
    have e : m_ib I a set (n + 1) = gU (m_ib I a set n) 39 n (if I 5 10 = 0 then (if m_bt set n = 1 then 1 else 0) else 0) := by
      show (if I 5 10 = 0 then if m_bt set n = 1 then gU (m_ib I a set n) 39 n 1 else gU (m_ib I a set n) 39 n 0 else gU (m_ib I a set n) 39 n 0) = _
      split
      · split <;> rfl
      · rfl
    rw [e]
    by_cases h : K = 39 ∧ j = n
    · obtain ⟨rfl, rfl⟩ := h
      rw [gU_s, if_pos (show 39 = 39 ∧ j < j + 1 by omega)]
    · rw [gU_n (by omega), ma_ib hS n (by omega)]
      by_cases h2 : K = 39 ∧ j < n
      · rw [if_pos h2, if_pos (show K = 39 ∧ j < n + 1 by omega)]
      · rw [if_neg h2, if_neg (show ¬ (K = 39 ∧ j < n + 1) by omega)]
/-- what the reference holds once it knows -/
def ma_KN (mn mr : Nat) (x : gS) : Prop := ∃ S : (Nat → Int) → Prop, (x.1 5 10 ≠ 0 ↔ ∃ X, S X) ∧ (∀ X, S X → ma_FE mn mr x.2.2.1 (m_all x.2.2.1 mr) X) ∧ (x.1 5 10 ≠ 0 → ma_Acc mn (ma_ci x.2.2.1 29) S x.1 x.2.1 x.2.2.2) ∧ (∀ t X, ma_FE mn mr x.2.2.1 (m_all x.2.2.1 mr) X → ma_cor mn (ma_CM mn x.2.2.1) (ma_TH mn mr (m_all x.2.2.1 mr)) t X → ∃ Y, S Y ∧ ma_eq X Y) ∧ (x.1 5 10 = 0 → ∀ r, r < 8 → (x.2.2.1 39 r ≠ 0 ↔ m_bt (ma_gr (ma_Fe mn mr x.2.2.1) 8 (m_all x.2.2.1 mr)) r ≠ 0))
/-- what know may change -/
def ma_fr5 (x y : gS) : Prop := (∀ k j, ¬ (k = 5 ∧ (j = 9 ∨ j = 10 ∨ j = 24)) → y.1 k j = x.1 k j) ∧ (∀ k j, ¬ (k = 5 ∧ (j = 11 ∨ j = 12 ∨ j = 14 ∨ j = 23)) → y.2.1 k j = x.2.1 k j) ∧ (∀ k j, k ≠ 88 → k ≠ 39 → y.2.2.1 k j = x.2.2.1 k j) ∧ (∀ k j, (k < 34 ∨ 38 < k) → k ≠ 87 → k ≠ 89 → y.2.2.2 k j = x.2.2.2 k j)
theorem ma_all_c {a a' : gF} (h : ∀ r, a' 33 r = a 33 r) : ∀ n, m_all a' n = m_all a n
  | 0 => rfl
  | n + 1 => by
    show (if a' 33 n = 0 then m_all a' n ||| 0 else m_all a' n ||| ((1 : Int32) <<< (nI n &&& 31))) = (if a 33 n = 0 then m_all a n ||| 0 else m_all a n ||| ((1 : Int32) <<< (nI n &&& 31)))
    rw [ma_all_c h n, h n]
theorem ma_know {mn mr : Nat} {x : gS} (hd : ma_datM mn mr x.2.2.1) (hI : x.1 5 0 = nI mn) (hk : x.1 5 9 = 0 ∨ (x.1 5 9 = 1 ∧ ma_KN mn mr x)) : ma_KN mn mr (m_know x mn mr) ∧ (m_know x mn mr).1 5 9 = 1 ∧ ma_fr5 x (m_know x mn mr) := by
  unfold m_know
  rcases hk with hk | ⟨hk, hK⟩
  · rw [if_pos hk]
    obtain ⟨aS, aB⟩ := ma_all_S (a := x.2.2.1) hd.2.1
    have hI1 : (gU (gU x.1 5 9 1) 5 24 0) 5 0 = nI mn := by rw [gU_n (by omega), gU_n (by omega)]; exact hI
    have C := ma_corners (x := (gU (gU x.1 5 9 1) 5 24 0, x.2.1, x.2.2.1, x.2.2.2)) (al := 1) hd hI1 aS (fun r hr h => ((aB r hr).mp h).1) (fun _ => gU_s (f := gU x.1 5 9 1) (k := 5) (j := 24))
    have e1 : m_corners (gU (gU x.1 5 9 1) 5 24 0, x.2.1, x.2.2.1, x.2.2.2) (m_all x.2.2.1 mr) 1 mn mr = m_k1 x mn mr := rfl
    rw [e1] at C
    obtain ⟨c1, c2, -, c4⟩ := C
    obtain ⟨S, s1, s2, s3, s4⟩ := c4 (by decide)
    have a33 : ∀ r, (m_k2 x mn mr).2.2.1 33 r = x.2.2.1 33 r := fun r => c1.2.2.1 33 r (by omega)
    have eall : m_all (m_k2 x mn mr).2.2.1 mr = m_all x.2.2.1 mr := ma_all_c a33 mr
    have h10 : (m_k2 x mn mr).1 5 10 = (m_k1 x mn mr).1 := gU_s (f := (m_k1 x mn mr).2.1) (k := 5) (j := 10)
    have fr2 : ma_fr4 (m_k2 x mn mr) (m_k2 x mn mr) := ma_fr4_r _
    have k2a : ∀ k j, k ≠ 88 → (m_k2 x mn mr).2.2.1 k j = x.2.2.1 k j := fun k j h => c1.2.2.1 k j h
    obtain ⟨E1, E2, E3, E4⟩ := ma_a88 k2a mn mr (m_all x.2.2.1 mr)
    have k2I : (m_k2 x mn mr).1 5 0 = nI mn := by
      show gU (m_k1 x mn mr).2.1 5 10 (m_k1 x mn mr).1 5 0 = _
      rw [gU_n (by omega), c1.1 5 0 (by omega)]
      exact hI1
    have k3f : ma_fr4 (m_k2 x mn mr) (m_k3 x mn mr).2 ∧ ((m_k1 x mn mr).1 = 0 → (m_k3 x mn mr).1 = ma_gr (ma_Fe mn mr (m_k2 x mn mr).2.2.1) 8 (m_all x.2.2.1 mr)) ∧ ((m_k1 x mn mr).1 ≠ 0 → m_k3 x mn mr = (m_all x.2.2.1 mr, m_k2 x mn mr)) ∧ ma_isS (m_k3 x mn mr).1 := by
      unfold m_k3
      rw [eall]
      by_cases h : (m_k1 x mn mr).1 = 0
      · obtain ⟨q1, q2⟩ := ma_kn0 (x0 := m_k2 x mn mr) (E3.mpr hd) k2I (by rw [h10]; exact h) 8 (Nat.le_refl _) (m_all x.2.2.1 mr) (m_k2 x mn mr) fr2 aS (fun r hr w => ((aB r hr).mp w).1)
        exact ⟨q1, fun _ => q2, fun w => absurd h w, by rw [q2]; exact ma_gr_S 8 (Nat.le_refl _) _ aS⟩
      · have e : m_kn mn mr 8 (m_all x.2.2.1 mr, m_k2 x mn mr) = (m_all x.2.2.1 mr, m_k2 x mn mr) := by
          show (if (m_k2 x mn mr).1 5 10 = 0 then _ else (m_all x.2.2.1 mr, m_k2 x mn mr)) = _
          rw [if_neg (by rw [h10]; exact h)]
        rw [e]
        exact ⟨fr2, fun w => absurd w h, fun _ => rfl, aS⟩
    obtain ⟨f3, g0, g1, gS⟩ := k3f
    have I10 : (m_k3 x mn mr).2.1 5 10 = (m_k1 x mn mr).1 := by rw [f3.1 5 10 (by omega)]; exact h10
    have I9 : (m_k3 x mn mr).2.1 5 9 = 1 := by
      rw [f3.1 5 9 (by omega)]
      show gU (m_k1 x mn mr).2.1 5 10 (m_k1 x mn mr).1 5 9 = 1
      rw [gU_n (by omega), c1.1 5 9 (by omega)]
      show gU (gU x.1 5 9 1) 5 24 0 5 9 = 1
      rw [gU_n (by omega), gU_s]
    have hib := ma_ib (I := (m_k3 x mn mr).2.1) (a := (m_k3 x mn mr).2.2.2.1) gS 8 (Nat.le_refl _)
    have fa : ∀ k j, k ≠ 88 → k ≠ 39 → m_ib (m_k3 x mn mr).2.1 (m_k3 x mn mr).2.2.2.1 (m_k3 x mn mr).1 8 k j = x.2.2.1 k j := fun k j h1 h2 => by
      rw [hib, if_neg (by omega), f3.2.2.1 k j h1]
      exact k2a k j h1
    have fe : ∀ k, k ≠ 88 → k ≠ 39 → m_ib (m_k3 x mn mr).2.1 (m_k3 x mn mr).2.2.2.1 (m_k3 x mn mr).1 8 k = x.2.2.1 k := fun k h1 h2 => funext (fun j => fa k j h1 h2)
    have eall2 : m_all (m_ib (m_k3 x mn mr).2.1 (m_k3 x mn mr).2.2.2.1 (m_k3 x mn mr).1 8) mr = m_all x.2.2.1 mr := ma_all_c (fun r => fa 33 r (by omega) (by omega)) mr
    have eFE : ∀ set, ma_FE mn mr (m_ib (m_k3 x mn mr).2.1 (m_k3 x mn mr).2.2.2.1 (m_k3 x mn mr).1 8) set = ma_FE mn mr x.2.2.1 set := fun set => by
      unfold ma_FE ma_ci ma_fm2
      rw [fe 27 (by omega) (by omega), fe 28 (by omega) (by omega), fe 30 (by omega) (by omega), fe 31 (by omega) (by omega), fe 32 (by omega) (by omega)]
    have eCM : ma_CM mn (m_ib (m_k3 x mn mr).2.1 (m_k3 x mn mr).2.2.2.1 (m_k3 x mn mr).1 8) = ma_CM mn x.2.2.1 := by
      unfold ma_CM ma_ci ma_fm2
      rw [fe 27 (by omega) (by omega), fe 28 (by omega) (by omega), fe 31 (by omega) (by omega), fe 32 (by omega) (by omega)]
    have eFe : ma_Fe mn mr (m_ib (m_k3 x mn mr).2.1 (m_k3 x mn mr).2.2.2.1 (m_k3 x mn mr).1 8) = ma_Fe mn mr x.2.2.1 := by
      funext set
      unfold ma_Fe
      rw [eFE]
    have eFe2 : ma_Fe mn mr (m_k2 x mn mr).2.2.1 = ma_Fe mn mr x.2.2.1 := by
      funext set
      unfold ma_Fe
      rw [(ma_a88 k2a mn mr set).2.1]
    refine ⟨⟨S, ?_, ?_, ?_, ?_, ?_⟩, I9, ?_, ?_, ?_, ?_⟩
    · show (m_k3 x mn mr).2.1 5 10 ≠ 0 ↔ _
      rw [I10]
      exact s1
    · show ∀ X, S X → ma_FE mn mr (m_ib (m_k3 x mn mr).2.1 (m_k3 x mn mr).2.2.2.1 (m_k3 x mn mr).1 8) (m_all (m_ib (m_k3 x mn mr).2.1 (m_k3 x mn mr).2.2.2.1 (m_k3 x mn mr).1 8) mr) X
      rw [eall2, eFE]
      exact s2
    · show (m_k3 x mn mr).2.1 5 10 ≠ 0 → ma_Acc mn (ma_ci (m_ib (m_k3 x mn mr).2.1 (m_k3 x mn mr).2.2.2.1 (m_k3 x mn mr).1 8) 29) S (m_k3 x mn mr).2.1 (m_k3 x mn mr).2.2.1 (m_k3 x mn mr).2.2.2.2
      rw [I10]
      intro h
      have e29 : ma_ci (m_ib (m_k3 x mn mr).2.1 (m_k3 x mn mr).2.2.2.1 (m_k3 x mn mr).1 8) 29 = ma_ci x.2.2.1 29 := by
        unfold ma_ci
        rw [fe 29 (by omega) (by omega)]
      rw [e29, g1 h]
      show ma_Acc mn (ma_ci x.2.2.1 29) S (gU (m_k1 x mn mr).2.1 5 10 (m_k1 x mn mr).1) (m_k1 x mn mr).2.2.1 (m_k1 x mn mr).2.2.2.2
      unfold ma_Acc at s3 ⊢
      rw [gU_n (by omega)]
      exact s3
    · show ∀ t X, ma_FE mn mr (m_ib (m_k3 x mn mr).2.1 (m_k3 x mn mr).2.2.2.1 (m_k3 x mn mr).1 8) (m_all (m_ib (m_k3 x mn mr).2.1 (m_k3 x mn mr).2.2.2.1 (m_k3 x mn mr).1 8) mr) X → ma_cor mn (ma_CM mn (m_ib (m_k3 x mn mr).2.1 (m_k3 x mn mr).2.2.2.1 (m_k3 x mn mr).1 8)) (ma_TH mn mr (m_all (m_ib (m_k3 x mn mr).2.1 (m_k3 x mn mr).2.2.2.1 (m_k3 x mn mr).1 8) mr)) t X → _
      rw [eall2, eFE, eCM]
      exact s4
    · show (m_k3 x mn mr).2.1 5 10 = 0 → ∀ r, r < 8 → (m_ib (m_k3 x mn mr).2.1 (m_k3 x mn mr).2.2.2.1 (m_k3 x mn mr).1 8 39 r ≠ 0 ↔ m_bt (ma_gr (ma_Fe mn mr (m_ib (m_k3 x mn mr).2.1 (m_k3 x mn mr).2.2.2.1 (m_k3 x mn mr).1 8)) 8 (m_all (m_ib (m_k3 x mn mr).2.1 (m_k3 x mn mr).2.2.2.1 (m_k3 x mn mr).1 8) mr)) r ≠ 0)
      intro h r hr
      rw [eall2, eFe, hib, if_pos (show 39 = 39 ∧ r < 8 from ⟨rfl, hr⟩), if_pos h]
      rw [I10] at h
      have := g0 h
      rw [eFe2] at this
      rw [← this]
      rcases (ma_S_bt gS hr).1 with q | q
      · rw [q, if_neg (by decide)]
      · rw [q, if_pos rfl]
    · intro k j h
      show (m_k3 x mn mr).2.1 k j = _
      rw [f3.1 k j (by omega)]
      show gU (m_k1 x mn mr).2.1 5 10 (m_k1 x mn mr).1 k j = _
      rw [gU_n (by omega), c1.1 k j (by omega)]
      show gU (gU x.1 5 9 1) 5 24 0 k j = _
      rw [gU_n (by omega), gU_n (by omega)]
    · intro k j h
      show (m_k3 x mn mr).2.2.1 k j = _
      rw [f3.2.1 k j h]
      exact c1.2.1 k j h
    · exact fa
    · intro k j h1 h2 h3
      show (m_k3 x mn mr).2.2.2.2 k j = _
      rw [f3.2.2.2 k j h1 h2 h3]
      exact c1.2.2.2 k j h1 h2 h3
  · rw [if_neg (by rw [hk]; decide)]
    exact ⟨hK, hk, fun _ _ _ => rfl, fun _ _ _ => rfl, fun _ _ _ _ => rfl, fun _ _ _ _ _ => rfl⟩
end
section
/-! THE MATHEMATICS, 18: what the class finds among the points -/
abbrev ma_FC (nn nr : Nat) (a : gF) (R : Nat → Prop) : (Nat → Int) → Prop := ma_fs nn nr (ma_ci a 6) (ma_ci a 7) (ma_ci a 9) (ma_ci a 10) (ma_fa a) R
theorem ma_DI_a {nc nl : Nat} {V : Nat → Nat → Int} {J : gL} {a a' : gF} {b : gL} (D : ma_DI nc nl V J a b) (h15 : ∀ j, a' 15 j = a 15 j) (h16 : ∀ j, a' 16 j = a 16 j) : ma_DI nc nl V J a' b ∧ ma_Oa a' = ma_Oa a := by
  have eO : ma_Oa a' = ma_Oa a := funext (fun s => by unfold ma_Oa; rw [h16])
  have eB : ma_Ba a' = ma_Ba a := funext (fun s => by unfold ma_Ba; rw [h15])
  have eo : ma_oo nc V a' = ma_oo nc V a := by unfold ma_oo; rw [eO]
  refine ⟨?_, eO⟩
  unfold ma_DI
  rw [eo, eO, eB]
  obtain ⟨q1, q2, q3, q4, q5, q6⟩ := D
  exact ⟨q1, q2, q3, fun s hs => by rw [h16]; exact q4 s hs, fun r hr => by rw [h15]; exact q5 r hr, q6⟩
/-- a dictionary at a point, and the face of points where its frozen columns are 0 -/
def ma_FS (nn nr nl : Nat) (V : Nat → Nat → Int) (a0 : gF) (R : Nat → Prop) (y : ma_X) (W : (Nat → Int) → Prop) : Prop := ma_DX nn nl V y ∧ ma_fe nn nl V y ∧ (∀ X, ma_FC nn nr a0 R X → (W X ↔ ∀ s, s < nn → ¬ y.2.1 17 s = 0 → ma_dot (V (ma_Oa y.2.1 s)) X = 0))
theorem ma_FS_a {nn nr nl : Nat} {V : Nat → Nat → Int} {a0 : gF} {R : Nat → Prop} {J : gL} {a a' : gF} {b : gL} {W W' : (Nat → Int) → Prop} (F : ma_FS nn nr nl V a0 R (J, a, b) W) (h15 : ∀ j, a' 15 j = a 15 j) (h16 : ∀ j, a' 16 j = a 16 j) (hW : ∀ X, ma_FC nn nr a0 R X → (W' X ↔ ∀ s, s < nn → ¬ a' 17 s = 0 → ma_dot (V (ma_Oa a s)) X = 0)) : ma_FS nn nr nl V a0 R (J, a', b) W' ∧ ma_pY nn V (J, a', b) = ma_pY nn V (J, a, b) := by
  obtain ⟨D, eO⟩ := ma_DI_a F.1 h15 h16
  have eo : ma_oo nn V a' = ma_oo nn V a := by unfold ma_oo; rw [eO]
  refine ⟨⟨D, fun j hj => ?_, fun X hX => ?_⟩, ?_⟩
  · show 0 ≤ ma_k (ma_oo nn V a') 5 (V j)
    rw [eo]
    exact F.2.1 j hj
  · rw [hW X hX]
    show _ ↔ ∀ s, s < nn → ¬ a' 17 s = 0 → ma_dot (V (ma_Oa a' s)) X = 0
    rw [eO]
  · funext i
    show ma_k (ma_oo nn V a') 5 (ma_e i) = ma_k (ma_oo nn V a) 5 (ma_e i)
    rw [eo]
theorem ma_sm_z {f : Nat → Int} : ∀ {n : Nat}, (∀ i, i < n → 0 ≤ f i) → ma_sm f n = 0 → ∀ i, i < n → f i = 0
  | 0, _, _, i, hi => by omega
  | n + 1, h, hz, i, hi => by
    have h1 := ma_sm_nn (n := n) (fun i hi => h i (by omega))
    have h2 := h n (by omega)
    have hz : ma_sm f n + f n = 0 := hz
    by_cases e : i = n
    · rw [e]; omega
    · exact ma_sm_z (n := n) (fun i hi => h i (by omega)) (by omega) i (by omega)
/-- minimise over a face -/
theorem ma_minF {nn nr nl n : Nat} {V : Nat → Nat → Int} {a0 : gF} {R : Nat → Prop} {x : ma_X} {W : (Nat → Int) → Prop} {I : gF} {kg : Nat} (C : ma_CD nn nr a0 R nl V) (F : ma_FS nn nr nl V a0 R x W) (hn : 65780 ≤ n) (hI : I 4 8 = nI nn) (hk1 : kg ≠ 15) (hk2 : kg ≠ 16) (hg : ∀ i, i < nn → (x.2.1 kg i).toInt.natAbs ≤ 99) :
    ma_FS nn nr nl V a0 R (d_min I kg nl nn n x) W ∧ ma_fx x (d_min I kg nl nn n x) ∧ ma_FC nn nr a0 R (ma_pY nn V (d_min I kg nl nn n x)) ∧ W (ma_pY nn V (d_min I kg nl nn n x)) ∧ (∀ X, ma_FC nn nr a0 R X → W X → ma_dot (ma_gl x.2.1 kg nn) (ma_pY nn V (d_min I kg nl nn n x)) * X 5 ≤ ma_dot (ma_gl x.2.1 kg nn) X * ma_pY nn V (d_min I kg nl nn n x) 5) ∧
    ma_FS nn nr nl V a0 R ((d_min I kg nl nn n x).1, d_freeze (d_min I kg nl nn n x).2.1 (d_min I kg nl nn n x).2.2 nn, (d_min I kg nl nn n x).2.2) (fun X => W X ∧ ma_dot (ma_gl x.2.1 kg nn) X * ma_pY nn V (d_min I kg nl nn n x) 5 = ma_dot (ma_gl x.2.1 kg nn) (ma_pY nn V (d_min I kg nl nn n x)) * X 5) := by
  obtain ⟨D, fe, fa⟩ := F
  obtain ⟨m1, m2, m3, m4, m5, m6⟩ := ma_min_s (n := n) D C.1 C.2.1 C.2.2.1 hn hI hk1 hk2 hg fe
  have yFC := ma_yes m1 C m3
  have f17 : ∀ s, (d_min I kg nl nn n x).2.1 17 s = x.2.1 17 s := fun s => m2.2.1 17 s (by decide) (by decide)
  have fa' : ∀ X, ma_FC nn nr a0 R X → (W X ↔ ∀ s, s < nn → ¬ (d_min I kg nl nn n x).2.1 17 s = 0 → ma_dot (V (ma_Oa (d_min I kg nl nn n x).2.1 s)) X = 0) := by
    intro X hX
    rw [fa X hX]
    constructor
    · intro h s hs hz
      rw [f17] at hz
      rw [m6 s hs hz]
      exact h s hs hz
    · intro h s hs hz
      rw [← m6 s hs hz]
      exact h s hs (by rw [f17]; exact hz)
  have FS' : ma_FS nn nr nl V a0 R (d_min I kg nl nn n x) W := ⟨m1, m3, fa'⟩
  have kO := fun s hs => ma_kO m1 (s := 5) (s' := s) (by omega) hs
  have n1 := m1.1.1
  have yW : W (ma_pY nn V (d_min I kg nl nn n x)) := (fa' _ yFC).mpr (fun s hs _ => by rw [ma_pY_dot m1, kO s hs, if_neg (by omega)])
  obtain ⟨z1, z2, z3⟩ := ma_pY_z m1
  have hterm : ∀ X, ma_FC nn nr a0 R X → W X → ∀ s, s < nn → 0 ≤ ma_kx nn V (d_min I kg nl nn n x) s (ma_gl x.2.1 kg nn) * ma_dot (V (ma_Oa (d_min I kg nl nn n x).2.1 s)) X := by
    intro X hX hW s hs
    by_cases hz : x.2.1 17 s = 0
    · exact Int.mul_nonneg (m5 s hs hz) ((C.2.2.2.1 X hX.1.2.1 hX.1.1).mpr hX _ (m1.2.2.2.1 s hs).2)
    · rw [(fa' X hX).mp hW s hs (by rw [f17]; exact hz)]
      omega
  have tell : ∀ X, ma_FC nn nr a0 R X → ma_dot (ma_gl x.2.1 kg nn) X * ma_pY nn V (d_min I kg nl nn n x) 5 = ma_sm (fun s => ma_kx nn V (d_min I kg nl nn n x) s (ma_gl x.2.1 kg nn) * ma_dot (V (ma_Oa (d_min I kg nl nn n x).2.1 s)) X) nn + ma_dot (ma_gl x.2.1 kg nn) (ma_pY nn V (d_min I kg nl nn n x)) * X 5 := by
    intro X hX
    rw [z2, Int.mul_comm, ma_tell m1 _ hX.1.2.1, ma_pY_dot m1]
  refine ⟨FS', m2, yFC, yW, fun X hX hW => ?_, ?_⟩
  · have h1 := tell X hX
    have h2 := ma_sm_nn (hterm X hX hW)
    omega
  · have hfz : ∀ m k j, d_freeze (d_min I kg nl nn n x).2.1 (d_min I kg nl nn n x).2.2 m k j = if k = 17 ∧ j < m ∧ ¬ (d_min I kg nl nn n x).2.2 18 j ≤ 0 then 1 else (d_min I kg nl nn n x).2.1 k j := by
      intro m
      induction m with
      | zero => intro k j; rw [if_neg (by omega)]; rfl
      | succ m ih =>
        intro k j
        show (if (d_min I kg nl nn n x).2.2 18 m ≤ 0 then d_freeze (d_min I kg nl nn n x).2.1 (d_min I kg nl nn n x).2.2 m else gU (d_freeze (d_min I kg nl nn n x).2.1 (d_min I kg nl nn n x).2.2 m) 17 m 1) k j = _
        by_cases hb : (d_min I kg nl nn n x).2.2 18 m ≤ 0
        · rw [if_pos hb, ih]
          by_cases hj : j = m
          · rw [hj, if_neg (by omega), if_neg (fun q => q.2.2 hb)]
          · by_cases h2 : k = 17 ∧ j < m ∧ ¬ (d_min I kg nl nn n x).2.2 18 j ≤ 0
            · rw [if_pos h2, if_pos ⟨h2.1, by omega, h2.2.2⟩]
            · rw [if_neg h2, if_neg (fun q => h2 ⟨q.1, by omega, q.2.2⟩)]
        · rw [if_neg hb]
          by_cases h : k = 17 ∧ j = m
          · obtain ⟨rfl, rfl⟩ := h
            rw [gU_s, if_pos ⟨rfl, by omega, hb⟩]
          · rw [gU_n (by omega), ih]
            by_cases h2 : k = 17 ∧ j < m ∧ ¬ (d_min I kg nl nn n x).2.2 18 j ≤ 0
            · rw [if_pos h2, if_pos ⟨h2.1, by omega, h2.2.2⟩]
            · rw [if_neg h2, if_neg (fun q => h2 ⟨q.1, by omega, q.2.2⟩)]
    refine (ma_FS_a (J := (d_min I kg nl nn n x).1) (b := (d_min I kg nl nn n x).2.2) FS' (fun j => by rw [hfz, if_neg (by omega)]) (fun j => by rw [hfz, if_neg (by omega)]) (fun X hX => ?_)).1
    constructor
    · rintro ⟨hW, he⟩ s hs hz
      rw [hfz] at hz
      by_cases hb : (d_min I kg nl nn n x).2.2 18 s ≤ 0
      · rw [if_neg (fun q => q.2.2 hb)] at hz
        exact (fa' X hX).mp hW s hs hz
      · have hpos := Int.not_le.mp (fun q => hb (ma_l0'.mpr q))
        rw [m4 s hs] at hpos
        have h1 := tell X hX
        have h2 := ma_sm_z (hterm X hX hW) (by omega) s hs
        rcases Int.mul_eq_zero.mp h2 with q | q
        · omega
        · exact q
    · intro h
      have hW : W X := (fa' X hX).mpr (fun s hs hz => h s hs (by
        rw [hfz]
        split
        · decide
        · exact hz))
      refine ⟨hW, ?_⟩
      rw [tell X hX, ma_sm_zero (fun s hs => ?_), Int.zero_add]
      by_cases hz : x.2.1 17 s = 0
      · by_cases hb : (d_min I kg nl nn n x).2.2 18 s ≤ 0
        · have hle := ma_l0'.mp hb
          rw [m4 s hs] at hle
          have := m5 s hs hz
          have e : ma_kx nn V (d_min I kg nl nn n x) s (ma_gl x.2.1 kg nn) = 0 := by omega
          rw [e]
          omega
        · rw [h s hs (by rw [hfz, if_pos ⟨rfl, hs, hb⟩]; decide)]
          omega
      · rw [(fa' X hX).mp hW s hs (by rw [f17]; exact hz)]
        omega
theorem ma_num {nn nl : Nat} {V : Nat → Nat → Int} {y : ma_X} (D : ma_DX nn nl V y) {v : Nat} (hv : v < nn) : (d_num y.2.1 y.2.2 (nI v) nl 0).toInt = ma_kx nn V y 5 (V v) := by
  have n2 := D.1.2.1
  have dB := D.2.2.2.2.1
  have dr := D.2.2.2.2.2.2.1
  have n1 := D.1.1
  have key : ∀ n r, r + n = nl → (∃ r', r ≤ r' ∧ r' < nl ∧ ma_Ba y.2.1 r' = v ∧ d_num y.2.1 y.2.2 (nI v) n r = y.2.2 14 r') ∨ ((∀ r', r ≤ r' → r' < nl → ma_Ba y.2.1 r' ≠ v) ∧ d_num y.2.1 y.2.2 (nI v) n r = 0) := by
    intro n
    induction n with
    | zero => intro r hr; exact Or.inr ⟨fun r' h1 h2 => by omega, rfl⟩
    | succ n ih =>
      intro r hr
      have e : d_num y.2.1 y.2.2 (nI v) (n + 1) r = if y.2.1 15 r = nI v then y.2.2 14 r else d_num y.2.1 y.2.2 (nI v) n (r + 1) := rfl
      have hb := dB r (by omega)
      by_cases h : y.2.1 15 r = nI v
      · refine Or.inl ⟨r, Nat.le_refl _, by omega, ?_, by rw [e, if_pos h]⟩
        rw [hb.1, nI_eq (by omega) (by omega)] at h
        exact h
      · rw [e, if_neg h]
        rw [hb.1, nI_eq (by omega) (by omega)] at h
        rcases ih (r + 1) (by omega) with ⟨r', a1, a2, a3, a4⟩ | ⟨a1, a2⟩
        · exact Or.inl ⟨r', by omega, a2, a3, a4⟩
        · refine Or.inr ⟨fun r' h1 h2 => ?_, a2⟩
          by_cases q : r' = r
          · rw [q]; exact h
          · exact a1 r' (by omega) h2
  rcases key nl 0 (by omega) with ⟨r', a1, a2, a3, a4⟩ | ⟨a1, a2⟩
  · rw [a4, dr r' a2, a3]
    rfl
  · rw [a2]
    rcases D.2.2.2.2.2.2.2.1 v (by omega) with ⟨s, s1, s2⟩ | ⟨r, r1, r2⟩
    · rw [← s2, ma_kO D (by omega) s1, if_neg (by omega)]
      rfl
    · exact absurd r2 (a1 r (by omega) r1)
theorem ma_pY_b {nn nl : Nat} {V : Nat → Nat → Int} {y : ma_X} (D : ma_DX nn nl V y) : (∀ i, (ma_pY nn V y i).natAbs ≤ 42515280000) ∧ ma_pY nn V y 5 ≤ 7085880 := by
  have obd := ma_oo_bd D
  refine ⟨fun i => ma_k_big obd ma_bd_e, ?_⟩
  rw [(ma_pY_z D).2.1]
  have := ma_u_small (ma_oo_5 (V := V) (a := y.2.1) D.1.1) obd
  omega
theorem ma_numOf {nn nr nl : Nat} {V : Nat → Nat → Int} {a0 : gF} {R : Nat → Prop} {y : ma_X} (C : ma_CD nn nr a0 R nl V) (D : ma_DX nn nl V y) {v : Nat} (hv : v < nn) (h6 : y.2.1 6 v = a0 6 v) (hlo : (a0 6 v).toInt.natAbs ≤ 100) : ((y.2.1 6 v).toInt64 * y.1 4 6 + d_num y.2.1 y.2.2 (nI v) nl 0).toInt = ma_pY nn V y v := by
  have n1 := D.1.1
  obtain ⟨z1, z2, z3⟩ := ma_pY_z D
  obtain ⟨b1, b2⟩ := ma_pY_b D
  have hU : (y.1 4 6).toInt = ma_pY nn V y 5 := by rw [z2]; exact D.2.2.1
  have hnum := ma_num D hv
  have hV := C.2.2.2.2.2 v hv
  have e1 : ma_kx nn V y 5 (V v) = ma_pY nn V y v - (a0 6 v).toInt * ma_pY nn V y 5 := by
    rw [← ma_pY_dot D, hV, ma_fm_dot n1, ma_sm_congr (g := fun s => if s = v then ma_pY nn V y v else 0) (fun s _ => by
      unfold ma_e
      by_cases q : s = v
      · rw [if_pos q, if_pos q, q]; omega
      · rw [if_neg q, if_neg q]; omega), ma_sm_one hv, Int.neg_mul]
    omega
  have m0 := ma_mb hlo (show (ma_pY nn V y 5).natAbs ≤ 7085880 by omega)
  have m1 : ((y.2.1 6 v).toInt64 * y.1 4 6).toInt = (a0 6 v).toInt * ma_pY nn V y 5 := ma_mul (by rw [Int32.toInt_toInt64, h6]) hU (by omega)
  have bv := b1 v
  rw [ma_add m1 hnum (by rw [e1]; omega), e1]
  omega
theorem ma_gl_aim {a : gF} {n0 nn : Nat} {w : Int32} (hn : nn ≤ 5) (h0 : n0 < nn) (X : Nat → Int) : ma_dot (ma_gl (s_aim a (nI n0) w 5) 19 nn) X = w.toInt * X n0 ∧ (w.toInt.natAbs ≤ 99 → ∀ i, i < nn → ((s_aim a (nI n0) w 5) 19 i).toInt.natAbs ≤ 99) := by
  have e : ∀ i, i < 5 → s_aim a (nI n0) w 5 19 i = if i = n0 then w else 0 := by
    intro i hi
    rw [ma_aim, if_pos ⟨rfl, hi⟩]
    by_cases q : i = n0
    · rw [if_pos q, if_pos (by rw [q])]
    · rw [if_neg q, if_neg (by rw [nI_eq (by omega) (by omega)]; exact q)]
  constructor
  · have e2 : ∀ c, ma_gl (s_aim a (nI n0) w 5) 19 nn c = w.toInt * ma_e n0 c := by
      intro c
      unfold ma_gl
      rw [ma_sm_congr (g := fun i => if i = n0 then w.toInt * ma_e n0 c else 0) (fun i hi => ?_), ma_sm_one h0]
      rw [e i (by omega)]
      by_cases q : i = n0
      · rw [if_pos q, if_pos q, q]
      · rw [if_neg q, if_neg q]
        show (0 : Int) * _ = 0
        omega
    have : ma_dot (ma_gl (s_aim a (nI n0) w 5) 19 nn) X = w.toInt * ma_dot (ma_e n0) X := by
      unfold ma_dot
      rw [← ma_sm_mul]
      exact ma_sm_congr (fun i _ => by rw [e2 i]; grind)
    rw [this, ma_e_dot (by omega)]
  · intro hw i hi
    rw [e i (by omega)]
    split
    · exact hw
    · decide
theorem ma_gl_cost {a : gF} {nn : Nat} (hn : nn ≤ 5) (X : Nat → Int) : ma_dot (ma_gl a 8 nn) X = ma_cost nn (ma_ci a 8) X := by
  have e : ma_dot (ma_gl a 8 nn) X = ma_sm (fun c => ma_sm (fun i => (a 8 i).toInt * ma_e i c * X c) nn) 6 := by
    unfold ma_dot ma_gl
    refine ma_sm_congr (fun c _ => ?_)
    rw [Int.mul_comm, ← ma_sm_mul]
    exact ma_sm_congr (fun i _ => by grind)
  rw [e, ma_sm_comm (fun c i => (a 8 i).toInt * ma_e i c * X c)]
  unfold ma_cost
  refine ma_sm_congr (fun i hi => ?_)
  rw [ma_sm_congr (g := fun c => if c = i then (a 8 i).toInt * X i else 0) (fun c _ => ?_), ma_sm_one (by omega)]
  unfold ma_e
  by_cases q : c = i
  · rw [if_pos q, if_pos q, q, Int.mul_one]
  · rw [if_neg q, if_neg q, Int.mul_zero, Int.zero_mul]
end
section
/-! THE MATHEMATICS, 19: the first best point, and how far names reach -/
def ma_fy (x y : ma_X) : Prop := (∀ k j, ¬ (k = 4 ∧ j = 6) → y.1 k j = x.1 k j) ∧ (∀ k j, k ≠ 15 → k ≠ 16 → k ≠ 17 → k ≠ 19 → y.2.1 k j = x.2.1 k j) ∧ (∀ k j, k ≠ 14 → k ≠ 18 → (k < 48 ∨ 69 ≤ k) → y.2.2 k j = x.2.2 k j)
theorem ma_fy_t {x y z : ma_X} (h1 : ma_fy x y) (h2 : ma_fy y z) : ma_fy x z := ⟨fun k j h => (h2.1 k j h).trans (h1.1 k j h), fun k j a1 a2 a3 a4 => (h2.2.1 k j a1 a2 a3 a4).trans (h1.2.1 k j a1 a2 a3 a4), fun k j a1 a2 a3 => (h2.2.2 k j a1 a2 a3).trans (h1.2.2 k j a1 a2 a3)⟩
theorem ma_fy_x {x y : ma_X} (h : ma_fx x y) : ma_fy x y := ⟨h.1, fun k j a1 a2 _ _ => h.2.1 k j a1 a2, h.2.2⟩
theorem ma_fy_a {J : gL} {a a' : gF} {b : gL} (h : ∀ k j, k ≠ 17 → k ≠ 19 → a' k j = a k j) : ma_fy (J, a, b) (J, a', b) := ⟨fun _ _ _ => rfl, fun k j _ _ a3 a4 => h k j a3 a4, fun _ _ _ _ _ => rfl⟩
theorem ma_freeze_f (a : gF) (b : gL) : ∀ n k j, k ≠ 17 → d_freeze a b n k j = a k j
  | 0, _, _, _ => rfl
  | n + 1, k, j, h => by
    show (if b 18 n ≤ 0 then d_freeze a b n else gU (d_freeze a b n) 17 n 1) k j = _
    split
    · exact ma_freeze_f a b n k j h
    · rw [gU_n (by omega)]
      exact ma_freeze_f a b n k j h
/-- all columns thawed: the face is the whole -/
theorem ma_FS_thaw {nn nr nl : Nat} {V : Nat → Nat → Int} {a0 : gF} {R : Nat → Prop} {J : gL} {a : gF} {b : gL} (D : ma_DX nn nl V (J, a, b)) (fe : ma_fe nn nl V (J, a, b)) : ma_FS nn nr nl V a0 R (J, d_thaw a nn, b) (fun _ => True) := by
  have F : ma_FS nn nr nl V a0 R (J, a, b) (fun X => ∀ s, s < nn → ¬ a 17 s = 0 → ma_dot (V (ma_Oa a s)) X = 0) := ⟨D, fe, fun X _ => Iff.rfl⟩
  refine (ma_FS_a F (fun j => by rw [ma_thaw, if_neg (by omega)]) (fun j => by rw [ma_thaw, if_neg (by omega)]) (fun X _ => ⟨fun _ s hs hz => ?_, fun _ => trivial⟩)).1
  rw [ma_thaw, if_pos ⟨rfl, hs⟩] at hz
  exact absurd rfl hz
def ma_MC (nn nr : Nat) (a : gF) (R : Nat → Prop) (X : Nat → Int) : Prop := ∀ X', ma_FC nn nr a R X' → ma_cost nn (ma_ci a 8) X * X' 5 ≤ ma_cost nn (ma_ci a 8) X' * X 5
theorem ma_cost_c {nn : Nat} {a a' : gF} {X : Nat → Int} (h : ∀ j, a' 8 j = a 8 j) : ma_cost nn (ma_ci a' 8) X = ma_cost nn (ma_ci a 8) X := ma_sm_congr (fun i _ => by show (a' 8 i).toInt * _ = (a 8 i).toInt * _; rw [h])
/-- keepToBest: the face of the cheapest points -/
theorem ma_k2b {nn nr nl : Nat} {V : Nat → Nat → Int} {a0 : gF} {R : Nat → Prop} {I : gF} {J : gL} {a : gF} {b : gL} (C : ma_CD nn nr a0 R nl V) (F : ma_FS nn nr nl V a0 R (J, a, b) (fun _ => True)) (hI : I 4 8 = nI nn) (h8 : ∀ j, a 8 j = a0 8 j) (hc : ∀ i, i < nn → (a0 8 i).toInt.natAbs ≤ 99) : ma_FS nn nr nl V a0 R (s_k2b I J a b nl nn) (ma_MC nn nr a0 R) ∧ ma_fy (J, a, b) (s_k2b I J a b nl nn) ∧ ma_MC nn nr a0 R (ma_pY nn V (s_k2b I J a b nl nn)) := by
  have hn := F.1.1.1
  obtain ⟨m1, m2, m3, m4, m5, m6⟩ := ma_minF (n := mPV) (I := I) (kg := 8) C F (by unfold mPV; decide) hI (by decide) (by decide) (fun i hi => by show (a 8 i).toInt.natAbs ≤ 99; rw [h8]; exact hc i hi)
  have eg : ∀ X, ma_dot (ma_gl a 8 nn) X = ma_cost nn (ma_ci a0 8) X := fun X => by rw [ma_gl_cost hn, ma_cost_c h8]
  have e0 : s_k2b I J a b nl nn = ((d_min I 8 nl nn mPV (J, a, b)).1, d_freeze (d_min I 8 nl nn mPV (J, a, b)).2.1 (d_min I 8 nl nn mPV (J, a, b)).2.2 nn, (d_min I 8 nl nn mPV (J, a, b)).2.2) := rfl
  generalize d_min I 8 nl nn mPV (J, a, b) = y at *
  have m5 : ∀ X, ma_FC nn nr a0 R X → True → ma_cost nn (ma_ci a0 8) (ma_pY nn V y) * X 5 ≤ ma_cost nn (ma_ci a0 8) X * ma_pY nn V y 5 := fun X hX w => by
    have := m5 X hX w
    have this : ma_dot (ma_gl a 8 nn) (ma_pY nn V y) * X 5 ≤ ma_dot (ma_gl a 8 nn) X * ma_pY nn V y 5 := this
    rw [eg, eg] at this
    exact this
  have hY5 := m3.1.1
  have hMC : ∀ X, ma_FC nn nr a0 R X → (ma_MC nn nr a0 R X ↔ (True ∧ ma_dot (ma_gl a 8 nn) X * ma_pY nn V y 5 = ma_dot (ma_gl a 8 nn) (ma_pY nn V y) * X 5)) := by
    intro X hX
    rw [eg, eg]
    constructor
    · intro h
      exact ⟨trivial, Int.le_antisymm (h _ m3) (m5 X hX trivial)⟩
    · rintro ⟨-, h⟩ X' hX'
      exact ma_fr hX.1.1 hY5 hX'.1.1 (Int.le_of_eq h) (m5 X' hX' trivial)
  obtain ⟨q1, q2⟩ := ma_FS_a (J := y.1) (a := y.2.1) (a' := d_freeze y.2.1 y.2.2 nn) (b := y.2.2) m1 (fun j => ma_freeze_f _ _ _ _ _ (by omega)) (fun j => ma_freeze_f _ _ _ _ _ (by omega)) (W' := fun X => ∀ s, s < nn → ¬ d_freeze y.2.1 y.2.2 nn 17 s = 0 → ma_dot (V (ma_Oa y.2.1 s)) X = 0) (fun X _ => Iff.rfl)
  rw [e0]
  refine ⟨⟨m6.1, m6.2.1, fun X hX => by rw [hMC X hX]; exact m6.2.2 X hX⟩, ma_fy_t (ma_fy_x m2) (ma_fy_a (fun k j h _ => ma_freeze_f _ _ _ _ _ h)), ?_⟩
  have e1 : ma_pY nn V (y.1, d_freeze y.2.1 y.2.2 nn, y.2.2) = ma_pY nn V y := q2
  rw [e1]
  exact (hMC _ m3).mpr ⟨trivial, rfl⟩
/-- the ends of a name among the points of a face -/
theorem ma_end {nn nr nl n0 : Nat} {V : Nat → Nat → Int} {a0 : gF} {R : Nat → Prop} {I : gF} {J : gL} {a : gF} {b : gL} {w : Int32} {W : (Nat → Int) → Prop} (C : ma_CD nn nr a0 R nl V) (F : ma_FS nn nr nl V a0 R (J, a, b) W) (hI : I 4 8 = nI nn) (h0 : n0 < nn) (hw : w = 1 ∨ w = -1) :
    ma_FS nn nr nl V a0 R (s_endX I J a b nl nn n0 w) W ∧ ma_fy (J, a, b) (s_endX I J a b nl nn n0 w) ∧ ma_FC nn nr a0 R (ma_pY nn V (s_endX I J a b nl nn n0 w)) ∧ W (ma_pY nn V (s_endX I J a b nl nn n0 w)) ∧ (∀ X, ma_FC nn nr a0 R X → W X → w.toInt * ma_pY nn V (s_endX I J a b nl nn n0 w) n0 * X 5 ≤ w.toInt * X n0 * ma_pY nn V (s_endX I J a b nl nn n0 w) 5) ∧
    ma_FS nn nr nl V a0 R ((s_endX I J a b nl nn n0 w).1, d_freeze (s_endX I J a b nl nn n0 w).2.1 (s_endX I J a b nl nn n0 w).2.2 nn, (s_endX I J a b nl nn n0 w).2.2) (fun X => W X ∧ w.toInt * X n0 * ma_pY nn V (s_endX I J a b nl nn n0 w) 5 = w.toInt * ma_pY nn V (s_endX I J a b nl nn n0 w) n0 * X 5) := by
  have hn := F.1.1.1
  have hA : ∀ k j, k ≠ 19 → s_aim a (nI n0) w 5 k j = a k j := fun k j h => by rw [ma_aim, if_neg (by omega)]
  have F' := (ma_FS_a (a' := s_aim a (nI n0) w 5) (W' := W) F (fun j => hA 15 j (by omega)) (fun j => hA 16 j (by omega)) (fun X hX => by
    rw [F.2.2 X hX]
    show (∀ s, s < nn → ¬ a 17 s = 0 → _) ↔ _
    constructor
    · intro h s hs hz; rw [hA 17 s (by omega)] at hz; exact h s hs hz
    · intro h s hs hz; exact h s hs (by rw [hA 17 s (by omega)]; exact hz))).1
  have hw1 : w.toInt.natAbs ≤ 99 := by rcases hw with q | q <;> rw [q] <;> decide
  obtain ⟨m1, m2, m3, m4, m5, m6⟩ := ma_minF (n := mPV) (I := I) (kg := 19) C F' (by unfold mPV; decide) hI (by decide) (by decide) ((ma_gl_aim (a := a) (w := w) hn h0 (fun _ => 0)).2 hw1)
  have eg : ∀ X, ma_dot (ma_gl (s_aim a (nI n0) w 5) 19 nn) X = w.toInt * X n0 := fun X => (ma_gl_aim hn h0 X).1
  have e0 : s_endX I J a b nl nn n0 w = d_min I 19 nl nn mPV (J, s_aim a (nI n0) w 5, b) := rfl
  rw [e0]
  generalize d_min I 19 nl nn mPV (J, s_aim a (nI n0) w 5, b) = y at *
  refine ⟨m1, ma_fy_t (ma_fy_a (fun k j _ h => hA k j h)) (ma_fy_x m2), m3, m4, fun X hX hW => ?_, ?_⟩
  · have := m5 X hX hW
    have this : ma_dot (ma_gl (s_aim a (nI n0) w 5) 19 nn) (ma_pY nn V y) * X 5 ≤ ma_dot (ma_gl (s_aim a (nI n0) w 5) 19 nn) X * ma_pY nn V y 5 := this
    rw [eg, eg] at this
    exact this
  · refine ⟨m6.1, m6.2.1, fun X hX => ?_⟩
    show (W X ∧ w.toInt * X n0 * ma_pY nn V y 5 = w.toInt * ma_pY nn V y n0 * X 5) ↔ _
    rw [← eg X, ← eg (ma_pY nn V y)]
    exact m6.2.2 X hX
theorem ma_fb {nn nr nl : Nat} {V : Nat → Nat → Int} {a0 : gF} {R : Nat → Prop} {I : gF} {J : gL} {a : gF} {b : gL} (C : ma_CD nn nr a0 R nl V) (D : ma_DX nn nl V (J, a, b)) (fe : ma_fe nn nl V (J, a, b)) (hI : I 4 8 = nI nn) (h8 : ∀ j, a 8 j = a0 8 j) (hc : ∀ i, i < nn → (a0 8 i).toInt.natAbs ≤ 99) : ∀ n, n ≤ nn → ∃ W : (Nat → Int) → Prop, ma_FS nn nr nl V a0 R (s_fb I J a b nl nn n) W ∧ ma_fy (J, a, b) (s_fb I J a b nl nn n) ∧ W (ma_pY nn V (s_fb I J a b nl nn n)) ∧ ma_FC nn nr a0 R (ma_pY nn V (s_fb I J a b nl nn n)) ∧ (∀ X, ma_FC nn nr a0 R X → W X → ma_MC nn nr a0 R X ∧ ∀ X', ma_FC nn nr a0 R X' → ma_MC nn nr a0 R X' → ma_lx n X (X 5) X' (X' 5)) ∧ (∀ X X', ma_FC nn nr a0 R X → ma_FC nn nr a0 R X' → W X → ma_MC nn nr a0 R X' → (∀ i, i < n → X i * X' 5 = X' i * X 5) → W X')
  | 0, _ => by
    obtain ⟨q1, q2, q3⟩ := ma_k2b (I := I) C (ma_FS_thaw (a0 := a0) (nr := nr) (R := R) D fe) hI (fun j => by rw [ma_thaw, if_neg (by omega)]; exact h8 j) hc
    have fy : ma_fy (J, a, b) (s_fb I J a b nl nn 0) := ma_fy_t (ma_fy_a (fun k j h _ => by rw [ma_thaw, if_neg (by omega)])) q2
    exact ⟨_, q1, fy, q3, ma_yes q1.1 C q1.2.1, fun X _ h => ⟨h, fun X' _ _ => Or.inl (fun i hi => by omega)⟩, fun X X' _ _ _ h _ => h⟩
  | n + 1, hn => by
    obtain ⟨W, i1, i2, i3, i4, i5, i6⟩ := ma_fb C D fe hI h8 hc n (by omega)
    have e0 : s_fb I J a b nl nn (n + 1) = ((s_endX I (s_fb I J a b nl nn n).1 (s_fb I J a b nl nn n).2.1 (s_fb I J a b nl nn n).2.2 nl nn n 1).1, d_freeze (s_endX I (s_fb I J a b nl nn n).1 (s_fb I J a b nl nn n).2.1 (s_fb I J a b nl nn n).2.2 nl nn n 1).2.1 (s_endX I (s_fb I J a b nl nn n).1 (s_fb I J a b nl nn n).2.1 (s_fb I J a b nl nn n).2.2 nl nn n 1).2.2 nn, (s_endX I (s_fb I J a b nl nn n).1 (s_fb I J a b nl nn n).2.1 (s_fb I J a b nl nn n).2.2 nl nn n 1).2.2) := rfl
    obtain ⟨m1, m2, m3, m4, m5, m6⟩ := ma_end (I := I) (n0 := n) (w := 1) C (J := (s_fb I J a b nl nn n).1) (a := (s_fb I J a b nl nn n).2.1) (b := (s_fb I J a b nl nn n).2.2) i1 hI (by omega) (Or.inl rfl)
    rw [e0]
    generalize s_endX I (s_fb I J a b nl nn n).1 (s_fb I J a b nl nn n).2.1 (s_fb I J a b nl nn n).2.2 nl nn n 1 = y at *
    have w1 : (1 : Int32).toInt = 1 := rfl
    rw [w1] at m5 m6
    have e1 : ma_pY nn V (y.1, d_freeze y.2.1 y.2.2 nn, y.2.2) = ma_pY nn V y := (ma_FS_a (J := y.1) (a := y.2.1) (a' := d_freeze y.2.1 y.2.2 nn) (b := y.2.2) m1 (fun j => ma_freeze_f _ _ _ _ _ (by omega)) (fun j => ma_freeze_f _ _ _ _ _ (by omega)) (W' := fun X => ∀ s, s < nn → ¬ d_freeze y.2.1 y.2.2 nn 17 s = 0 → ma_dot (V (ma_Oa y.2.1 s)) X = 0) (fun X _ => Iff.rfl)).2
    have hY5 := m3.1.1
    refine ⟨_, m6, ma_fy_t (ma_fy_t i2 m2) (ma_fy_a (fun k j h _ => ma_freeze_f _ _ _ _ _ h)), ?_, ?_, fun X hX hW => ?_, fun X X' hX hX' hW hMC he => ?_⟩
    · rw [e1]; exact ⟨m4, rfl⟩
    · rw [e1]; exact m3
    · obtain ⟨k1, k2⟩ := i5 X hX hW.1
      refine ⟨k1, fun X' hX' hM => ?_⟩
      rcases k2 X' hX' hM with g | ⟨i, g1, g2, g3⟩
      · have hW' := i6 X X' hX hX' hW.1 hM g
        have l1 := m5 X' hX' hW'
        have l2 := hW.2
        rw [Int.one_mul, Int.one_mul] at l1 l2
        have l3 := ma_fr hX.1.1 hY5 hX'.1.1 (Int.le_of_eq l2) l1
        by_cases q : X n * X' 5 = X' n * X 5
        · refine Or.inl (fun i hi => ?_)
          by_cases q2 : i = n
          · rw [q2]; exact q
          · exact g i (by omega)
        · exact Or.inr ⟨n, by omega, fun j hj => g j hj, Int.lt_iff_le_and_ne.mpr ⟨l3, q⟩⟩
      · exact Or.inr ⟨i, by omega, g2, g3⟩
    · have hW' := i6 X X' hX hX' hW.1 hMC (fun i hi => he i (by omega))
      refine ⟨hW', ?_⟩
      have l2 := hW.2
      rw [Int.one_mul, Int.one_mul] at l2 ⊢
      exact ma_fre hX'.1.1 hX.1.1 hY5 (he n (by omega)).symm l2
theorem ma_num_c {a : gF} {b b' : gL} {v : Int32} (h : ∀ j, b' 14 j = b 14 j) : ∀ n r, d_num a b' v n r = d_num a b v n r
  | 0, _ => rfl
  | n + 1, r => by
    show (if a 15 r = v then b' 14 r else d_num a b' v n (r + 1)) = (if a 15 r = v then b 14 r else d_num a b v n (r + 1))
    rw [h r, ma_num_c h n (r + 1)]
theorem ma_fbB {J : gL} {a : gF} {b : gL} {nl : Nat} : ∀ n k j, s_fbB J a b nl n k j = if k = 20 ∧ j < n then (a 6 j).toInt64 * J 4 6 + d_num a b (nI j) nl 0 else b k j
  | 0, k, j => by
    rw [if_neg (by omega)]
    rfl
  | n + 1, k, j => by
    show gU (s_fbB J a b nl n) 20 n ((a 6 n).toInt64 * J 4 6 + d_num a (s_fbB J a b nl n) (nI n) nl 0) k j = _
    rw [ma_num_c (fun j => by rw [ma_fbB n 14 j, if_neg (by omega)])]
    by_cases h : k = 20 ∧ j = n
    · obtain ⟨rfl, rfl⟩ := h
      rw [gU_s, if_pos (show 20 = 20 ∧ j < j + 1 by omega)]
    · rw [gU_n (by omega), ma_fbB n k j]
      by_cases h2 : k = 20 ∧ j < n
      · rw [if_pos h2, if_pos (show k = 20 ∧ j < n + 1 by omega)]
      · rw [if_neg h2, if_neg (show ¬ (k = 20 ∧ j < n + 1) by omega)]
/-! the numbers in lowest terms -/
theorem ma_mod {x y : Int64} {p q : Nat} (hx : x.toInt = (p : Int)) (hy : y.toInt = (q : Int)) (hq : 0 < q) (hp : p ≤ 9000000000000000000) : (x - x / y * y).toInt = ((p % q : Nat) : Int) := by
  have hd : (x / y).toInt = ((p / q : Nat) : Int) := by
    have h1 : p / q ≤ p := Nat.div_le_self p q
    rw [Int64.toInt_div, hx, hy]
    have e : Int.tdiv (p : Int) (q : Int) = ((p / q : Nat) : Int) := rfl
    rw [e]
    exact ma_bm (by rw [Int.natAbs_natCast]; exact Nat.le_trans h1 hp)
  have hle : p / q * q ≤ p := Nat.div_mul_le_self p q
  have hm : (x / y * y).toInt = ((p / q * q : Nat) : Int) := by
    have := ma_mul hd hy (by rw [← Int.natCast_mul]; omega)
    rw [this, ← Int.natCast_mul]
  have hs := ma_sub hx hm (by omega)
  rw [hs]
  have : p % q = p - p / q * q := by
    have h2 := Nat.div_add_mod p q
    have h3 : q * (p / q) = p / q * q := Nat.mul_comm _ _
    omega
  omega
theorem ma_sgcd : ∀ k n x y (p q : Nat), 2 * k ≤ n → x.toInt = (p : Int) → y.toInt = (q : Int) → p ≤ 9000000000000000000 → q < 2 ^ k → q ≤ 9000000000000000000 → (s_gcd n x y).toInt = ((Nat.gcd p q : Nat) : Int)
  | 0, n, x, y, p, q, _, hx, hy, _, hq, _ => by
    have q0 : q = 0 := by
      have : q < 1 := hq
      omega
    subst q0
    have y0 : y = 0 := ma_e0.mpr hy
    subst y0
    cases n with
    | zero =>
      show x.toInt = _
      rw [hx, Nat.gcd_zero_right]
    | succ n =>
      show (if (0 : Int64) = 0 then x else _).toInt = _
      rw [if_pos rfl, hx, Nat.gcd_zero_right]
  | k + 1, n, x, y, p, q, hn, hx, hy, hp, hq, hq2 => by
    obtain ⟨n, rfl⟩ : ∃ m, n = m + 1 := ⟨n - 1, by omega⟩
    show (if y = 0 then x else s_gcd n y (x - x / y * y)).toInt = _
    by_cases h0 : y = 0
    · rw [if_pos h0]
      have : q = 0 := by
        have := ma_e0.mp h0
        omega
      rw [this, Nat.gcd_zero_right]
      exact hx
    · rw [if_neg h0]
      have hqp : 0 < q := by
        apply Classical.byContradiction
        intro w
        exact h0 (ma_e0.mpr (by omega))
      have hr := ma_mod hx hy hqp hp
      have hrl : p % q < q := Nat.mod_lt _ hqp
      obtain ⟨n, rfl⟩ : ∃ m, n = m + 1 := ⟨n - 1, by omega⟩
      show (if (x - x / y * y) = 0 then y else s_gcd n (x - x / y * y) (y - y / (x - x / y * y) * (x - x / y * y))).toInt = _
      have g1 : Nat.gcd p q = Nat.gcd q (p % q) := by rw [Nat.gcd_comm p q, Nat.gcd_rec q p, Nat.gcd_comm]
      by_cases h1 : (x - x / y * y) = 0
      · rw [if_pos h1, g1]
        have : p % q = 0 := by
          have := ma_e0.mp h1
          omega
        rw [this, Nat.gcd_zero_right]
        exact hy
      · rw [if_neg h1]
        have hrp : 0 < p % q := by
          apply Classical.byContradiction
          intro w
          exact h1 (ma_e0.mpr (by omega))
        have hr2 := ma_mod hy hr hrp (by omega)
        have hlt : q % (p % q) < 2 ^ k := by
          have hpw : 2 ^ (k + 1) = 2 ^ k * 2 := Nat.pow_succ ..
          have h3 : q % (p % q) < p % q := Nat.mod_lt _ hrp
          by_cases hh : 2 * (p % q) ≤ q
          · omega
          · have : q % (p % q) = q - p % q := by
              rw [Nat.mod_eq_sub_mod (by omega), Nat.mod_eq_of_lt (by omega)]
            omega
        have g2 : Nat.gcd q (p % q) = Nat.gcd (p % q) (q % (p % q)) := by rw [Nat.gcd_comm q, Nat.gcd_rec (p % q) q, Nat.gcd_comm]
        have h5 : q % (p % q) < p % q := Nat.mod_lt _ hrp
        rw [g1, g2]
        exact ma_sgcd k n _ _ _ _ (by omega) hr hr2 (by omega) hlt (by omega)
theorem ma_mlow : ∀ n x y (p q : Nat), p < n → x.toInt = (p : Int) → y.toInt = (q : Int) → p ≤ 9000000000000000000 → q ≤ 9000000000000000000 → (m_low n x y).toInt = ((Nat.gcd p q : Nat) : Int)
  | 0, x, y, p, q, h, _, _, _, _ => by omega
  | n + 1, x, y, p, q, h, hx, hy, hp, hq => by
    show (if x = 0 then y else m_low n (y - y / x * x) x).toInt = _
    by_cases h0 : x = 0
    · rw [if_pos h0]
      have : p = 0 := by
        have := ma_e0.mp h0
        omega
      rw [this, Nat.gcd_zero_left]
      exact hy
    · rw [if_neg h0]
      have hpp : 0 < p := by
        apply Classical.byContradiction
        intro w
        exact h0 (ma_e0.mpr (by omega))
      have hr := ma_mod hy hx hpp hq
      have hlt := Nat.mod_lt q hpp
      rw [Nat.gcd_rec p q]
      exact ma_mlow n _ _ _ _ (by omega) hr hx (by omega) hp
theorem ma_low_u {N p : Int} {U q : Nat} (hU : 0 < U) (hq : 0 < q) (h : N * (q : Int) = p * (U : Int)) : N.tdiv (Nat.gcd N.natAbs U : Nat) = p.tdiv (Nat.gcd p.natAbs q : Nat) ∧ U / Nat.gcd N.natAbs U = q / Nat.gcd p.natAbs q := by
  have hg : 0 < Nat.gcd N.natAbs U := Nat.gcd_pos_of_pos_right _ hU
  have hh : 0 < Nat.gcd p.natAbs q := Nat.gcd_pos_of_pos_right _ hq
  obtain ⟨n', hn'⟩ := Nat.gcd_dvd_left N.natAbs U
  obtain ⟨u', hu'⟩ := Nat.gcd_dvd_right N.natAbs U
  obtain ⟨p', hp'⟩ := Nat.gcd_dvd_left p.natAbs q
  obtain ⟨q', hq'⟩ := Nat.gcd_dvd_right p.natAbs q
  have c1 : Nat.Coprime n' u' := by
    have := Nat.coprime_div_gcd_div_gcd (m := N.natAbs) (n := U) hg
    rw [Nat.div_eq_of_eq_mul_right hg hn', Nat.div_eq_of_eq_mul_right hg hu'] at this
    exact this
  have c2 : Nat.Coprime p' q' := by
    have := Nat.coprime_div_gcd_div_gcd (m := p.natAbs) (n := q) hh
    rw [Nat.div_eq_of_eq_mul_right hh hp', Nat.div_eq_of_eq_mul_right hh hq'] at this
    exact this
  generalize Nat.gcd N.natAbs U = g at *
  generalize Nat.gcd p.natAbs q = k at *
  have habs : N.natAbs * q = p.natAbs * U := by
    have := congrArg Int.natAbs h
    rw [Int.natAbs_mul, Int.natAbs_mul] at this
    exact this
  have hx : n' * q' = p' * u' := by
    have e1 : (g * k) * (n' * q') = (g * k) * (p' * u') := by
      have a1 : (g * k) * (n' * q') = (g * n') * (k * q') := by grind
      have a2 : (g * k) * (p' * u') = (k * p') * (g * u') := by grind
      rw [a1, a2, ← hn', ← hq', ← hp', ← hu']
      exact habs
    exact Nat.eq_of_mul_eq_mul_left (Nat.mul_pos hg hh) e1
  have d1 : u' ∣ q' := by
    have : u' ∣ n' * q' := ⟨p', by rw [hx]; exact Nat.mul_comm _ _⟩
    exact Nat.Coprime.dvd_of_dvd_mul_left c1.symm this
  have d2 : q' ∣ u' := by
    have : q' ∣ p' * u' := ⟨n', by rw [← hx]; exact Nat.mul_comm _ _⟩
    exact Nat.Coprime.dvd_of_dvd_mul_left c2.symm this
  have eu : u' = q' := Nat.dvd_antisymm d1 d2
  have q0 : 0 < q' := by
    apply Nat.pos_of_ne_zero
    intro w
    rw [w, Nat.mul_zero] at hq'
    omega
  have en : n' = p' := by
    rw [eu] at hx
    exact Nat.eq_of_mul_eq_mul_right q0 hx
  refine ⟨?_, ?_⟩
  · have s1 : N = (g : Int) * (if 0 ≤ N then (n' : Int) else -(n' : Int)) := by
      have : (N.natAbs : Int) = (g : Int) * (n' : Int) := by rw [hn']; exact Int.natCast_mul _ _
      split
      · omega
      · rw [Int.mul_neg]; omega
    have s2 : p = (k : Int) * (if 0 ≤ p then (p' : Int) else -(p' : Int)) := by
      have : (p.natAbs : Int) = (k : Int) * (p' : Int) := by rw [hp']; exact Int.natCast_mul _ _
      split
      · omega
      · rw [Int.mul_neg]; omega
    have sgn : (0 ≤ N ↔ 0 ≤ p) := by
      constructor
      · intro w
        apply Classical.byContradiction
        intro w2
        have := Int.mul_nonneg w (show (0 : Int) ≤ q by omega)
        have := Int.mul_neg_of_neg_of_pos (show p < 0 by omega) (show (0 : Int) < U by omega)
        omega
      · intro w
        apply Classical.byContradiction
        intro w2
        have := Int.mul_nonneg w (show (0 : Int) ≤ U by omega)
        have := Int.mul_neg_of_neg_of_pos (show N < 0 by omega) (show (0 : Int) < q by omega)
        omega
    have t1 : N.tdiv (g : Int) = if 0 ≤ N then (n' : Int) else -(n' : Int) := by
      generalize (if 0 ≤ N then (n' : Int) else -(n' : Int)) = z at *
      rw [s1]
      exact Int.mul_tdiv_cancel_left z (by omega)
    have t2 : p.tdiv (k : Int) = if 0 ≤ p then (p' : Int) else -(p' : Int) := by
      generalize (if 0 ≤ p then (p' : Int) else -(p' : Int)) = z at *
      rw [s2]
      exact Int.mul_tdiv_cancel_left z (by omega)
    rw [t1, t2, en]
    by_cases w : 0 ≤ N
    · rw [if_pos w, if_pos (sgn.mp w)]
    · rw [if_neg w, if_neg (fun q => w (sgn.mpr q))]
  · rw [hu', hq', Nat.mul_div_cancel_left _ hg, Nat.mul_div_cancel_left _ hh, eu]
/-- the class's part and the reference's lowest of one number are alike -/
theorem ma_low {x y z w : Int64} {N p U q : Int} {pt : Int32} (hx : x.toInt = N) (hy : y.toInt = U) (hz : z.toInt = p) (hw : w.toInt = q) (bN : N.natAbs ≤ 1000000000000) (bp : p.natAbs ≤ 1000000000000) (hU : 0 < U) (bU : U ≤ 7085880) (hq : 0 < q) (bq : q ≤ 7085880) (h : N * q = p * U) : s_part x y pt = m_lowest z w pt := by
  have hU' : ((U.toNat : Nat) : Int) = U := Int.toNat_of_nonneg (by omega)
  have hq' : ((q.toNat : Nat) : Int) = q := Int.toNat_of_nonneg (by omega)
  have ax : (s_abs x).toInt = ((N.natAbs : Nat) : Int) := by
    unfold s_abs
    by_cases c : 0 < x
    · rw [if_pos c, hx]
      have := ma_p0.mp c
      omega
    · rw [if_neg c, ma_neg hx (by omega)]
      have := Int.not_lt.mp (fun q => c (ma_p0.mpr q))
      omega
  have ay : (s_abs y).toInt = ((U.toNat : Nat) : Int) := by
    unfold s_abs
    rw [if_pos (ma_p0.mpr (by omega)), hy, hU']
  have az : (m_ab z).toInt = ((p.natAbs : Nat) : Int) := by
    unfold m_ab
    by_cases c : 0 ≤ z
    · rw [if_pos c, hz]
      have := ma_l0.mp c
      omega
    · rw [if_neg c, ma_neg hz (by omega)]
      have := Int.not_le.mp (fun q => c (ma_l0.mpr q))
      omega
  have g1 : (s_gd x y).toInt = ((Nat.gcd N.natAbs U.toNat : Nat) : Int) := ma_sgcd 40 200 _ _ _ _ (by decide) ax ay (by omega) (by omega) (by omega)
  have g2 : (m_gd z w).toInt = ((Nat.gcd p.natAbs q.toNat : Nat) : Int) := by
    unfold m_gd
    exact ma_mlow mGC _ _ _ _ (by unfold mGC; omega) az (by rw [hw, hq']) (by omega) (by omega)
  obtain ⟨r1, r2⟩ := ma_low_u (N := N) (p := p) (U := U.toNat) (q := q.toNat) (by omega) (by omega) (by rw [hU', hq']; exact h)
  have gp : 0 < Nat.gcd N.natAbs U.toNat := Nat.gcd_pos_of_pos_right _ (by omega)
  have gb : Nat.gcd N.natAbs U.toNat ≤ U.toNat := Nat.le_of_dvd (by omega) (Nat.gcd_dvd_right _ _)
  have hp2 : 0 < Nat.gcd p.natAbs q.toNat := Nat.gcd_pos_of_pos_right _ (by omega)
  have e0 : ¬ s_gd x y = 0 := fun w => by
    have := ma_e0.mp w
    omega
  have ab : ∀ (A : Int) (G : Nat), 0 < G → A.natAbs ≤ 1000000000000 → (A.tdiv (G : Int)).natAbs ≤ 1000000000000 := by
    intro A G hG hA
    rw [Int.natAbs_tdiv]
    exact Nat.le_trans (Nat.div_le_self _ _) hA
  unfold s_part m_lowest
  rw [if_neg e0]
  by_cases hp : pt = 0
  · rw [if_pos hp, if_pos hp, ← Int64.toInt_inj, Int64.toInt_div, Int64.toInt_div, hx, g1, hz, g2, r1]
  · rw [if_neg hp, if_neg hp, ← Int64.toInt_inj, Int64.toInt_div, Int64.toInt_div, hy, g1, hw, g2]
    have t1 : U.tdiv ((Nat.gcd N.natAbs U.toNat : Nat) : Int) = ((U.toNat / Nat.gcd N.natAbs U.toNat : Nat) : Int) := by
      conv => lhs; rw [← hU']
      rfl
    have t2 : q.tdiv ((Nat.gcd p.natAbs q.toNat : Nat) : Int) = ((q.toNat / Nat.gcd p.natAbs q.toNat : Nat) : Int) := by
      conv => lhs; rw [← hq']
      rfl
    rw [t1, t2, r2]
end
section
/-! THE MATHEMATICS, 20: what the class's solver holds between calls -/
/-- cells of the problem stay -/
def ma_sm6 (a a' : gF) : Prop := (∀ j, a' 6 j = a 6 j) ∧ (∀ j, a' 7 j = a 7 j) ∧ (∀ j, a' 8 j = a 8 j) ∧ (∀ j, a' 9 j = a 9 j) ∧ (∀ j, a' 10 j = a 10 j) ∧ (∀ j, a' 12 j = a 12 j) ∧ (∀ r, r < 8 → ∀ j, a' (40 + r) j = a (40 + r) j)
theorem ma_sm6_r (a : gF) : ma_sm6 a a := ⟨fun _ => rfl, fun _ => rfl, fun _ => rfl, fun _ => rfl, fun _ => rfl, fun _ => rfl, fun _ _ _ => rfl⟩
theorem ma_sm6_t {a a' a'' : gF} (h1 : ma_sm6 a a') (h2 : ma_sm6 a' a'') : ma_sm6 a a'' := ⟨fun j => (h2.1 j).trans (h1.1 j), fun j => (h2.2.1 j).trans (h1.2.1 j), fun j => (h2.2.2.1 j).trans (h1.2.2.1 j), fun j => (h2.2.2.2.1 j).trans (h1.2.2.2.1 j), fun j => (h2.2.2.2.2.1 j).trans (h1.2.2.2.2.1 j), fun j => (h2.2.2.2.2.2.1 j).trans (h1.2.2.2.2.2.1 j), fun r hr j => (h2.2.2.2.2.2.2 r hr j).trans (h1.2.2.2.2.2.2 r hr j)⟩
theorem ma_fs_c {nn nr : Nat} {a a' : gF} {R : Nat → Prop} {X : Nat → Int} (hr : nr ≤ 8) (h : ma_sm6 a a') : ma_FC nn nr a' R X ↔ ma_FC nn nr a R X := by
  obtain ⟨h6, h7, -, h9, h10, -, hf⟩ := h
  have e6 : ma_ci a' 6 = ma_ci a 6 := funext (fun i => by show (a' 6 i).toInt = _; rw [h6])
  have e7 : ma_ci a' 7 = ma_ci a 7 := funext (fun i => by show (a' 7 i).toInt = _; rw [h7])
  have e9 : ma_ci a' 9 = ma_ci a 9 := funext (fun i => by show (a' 9 i).toInt = _; rw [h9])
  have e10 : ma_ci a' 10 = ma_ci a 10 := funext (fun i => by show (a' 10 i).toInt = _; rw [h10])
  unfold ma_FC
  rw [e6, e7, e9, e10]
  have ef : ∀ r, r < nr → ma_fa a' r = ma_fa a r := fun r hr2 => funext (fun i => by show (a' (40 + r) i).toInt = _; rw [hf r (by omega)])
  constructor
  · exact fun w => ⟨w.1, fun r hr2 hR => by have := w.2 r hr2 hR; rw [ef r hr2] at this; exact this⟩
  · exact fun w => ⟨w.1, fun r hr2 hR => by rw [ef r hr2]; exact w.2 r hr2 hR⟩
theorem ma_CD_c {nn nr nl : Nat} {a a' : gF} {R R' : Nat → Prop} {V : Nat → Nat → Int} (hr : nr ≤ 8) (h : ma_sm6 a a') (hR : ∀ r, r < nr → (R r ↔ R' r)) (C : ma_CD nn nr a R nl V) : ma_CD nn nr a' R' nl V := by
  obtain ⟨c1, c2, c3, c4, c5, c6⟩ := C
  obtain ⟨h6, h7, -, h9, h10, -, hf⟩ := id h
  have e6 : ma_ci a' 6 = ma_ci a 6 := funext (fun i => by show (a' 6 i).toInt = _; rw [h6])
  have e7 : ma_ci a' 7 = ma_ci a 7 := funext (fun i => by show (a' 7 i).toInt = _; rw [h7])
  have e10 : ma_ci a' 10 = ma_ci a 10 := funext (fun i => by show (a' 10 i).toInt = _; rw [h10])
  refine ⟨c1, c2, c3, fun X hz h5 => ?_, fun j hj => ?_, fun i hi => by rw [c6 i hi, h6]⟩
  · rw [c4 X hz h5, ma_fs_R hR]
    exact (ma_fs_c hr h).symm
  · obtain ⟨c, t1, t2⟩ := c5 j hj
    refine ⟨c, (ma_th_R hR).mp t1, ?_⟩
    have eC : ma_C nn (ma_ci a' 6) (ma_ci a' 7) (ma_ci a' 10) (ma_fa a') c = ma_C nn (ma_ci a 6) (ma_ci a 7) (ma_ci a 10) (ma_fa a) c := by
      rw [e6, e7, e10]
      unfold ma_C
      by_cases q : c < 8
      · rw [if_pos q, if_pos q]
        exact ma_fm_c (fun s _ => by show (a' (40 + c) s).toInt = _; rw [hf c q]) rfl
      · rw [if_neg q, if_neg q]
    rw [eC]
    exact t2
theorem ma_dat_c {nn nr : Nat} {a a' : gF} (h : ma_sm6 a a') (hd : ma_dat nn nr a) : ma_dat nn nr a' := by
  obtain ⟨h6, h7, h8, h9, h10, -, hf⟩ := h
  obtain ⟨d1, d2, d3, d4⟩ := hd
  refine ⟨d1, d2, fun i hi => by rw [h6, h7, h8]; exact d3 i hi, fun r hr => ⟨by rw [h10]; exact (d4 r hr).1, by rw [h9]; exact (d4 r hr).2.1, fun i hi => by rw [hf r (by omega)]; exact (d4 r hr).2.2 i hi⟩⟩
/-- what the class's contracts want of the dictionary -/
def ma_dk (I a : gF) : Prop := cNat (I 4 7) 21 ∧ cNat (I 4 8) 5 ∧ d_nat (a 15) (cN (I 4 7)) ∧ d_nat (a 16) (cN (I 4 8))
theorem ma_cN {n : Nat} (h : n < 2 ^ 31) : cN (nI n) = n := nI_clamp h
theorem ma_dk_of {nn nl : Nat} {V : Nat → Nat → Int} {I : gF} {J : gL} {a : gF} {b : gL} (D : ma_DX nn nl V (J, a, b)) (h7 : I 4 7 = nI nl) (h8 : I 4 8 = nI nn) : ma_dk I a := by
  obtain ⟨⟨n1, n2, n3⟩, -, -, dO, dB, -⟩ := D
  have e7 : cN (I 4 7) = nl := by rw [h7, ma_cN (by omega)]
  have e8 : cN (I 4 8) = nn := by rw [h8, ma_cN (by omega)]
  refine ⟨⟨by rw [e7]; exact h7, by rw [e7]; exact n2⟩, ⟨by rw [e8]; exact h8, by rw [e8]; exact n1⟩, fun r hr => ?_, fun s hs => ?_⟩
  · rw [e7] at hr
    exact ⟨_, (dB r hr).1, by have := (dB r hr).2; omega⟩
  · rw [e8] at hs
    exact ⟨_, (dO s hs).1, by have := (dO s hs).2; omega⟩
/-- a dictionary that stands at a point of the problem -/
def ma_OKD (nn nr : Nat) (I : gF) (J : gL) (a : gF) (b : gL) : Prop := ∃ V nl, I 4 7 = nI nl ∧ I 4 8 = nI nn ∧ ma_CD nn nr a (fun r => a 12 r ≠ 0) nl V ∧ ma_DX nn nl V (J, a, b) ∧ ma_fe nn nl V (J, a, b)
def ma_fw (I I' : gF) (J J' : gL) (a a' : gF) (b b' : gL) : Prop := (∀ k j, ¬ (k = 4 ∧ j = 7) → ¬ (k = 4 ∧ j = 8) → I' k j = I k j) ∧ (∀ k j, ¬ (k = 4 ∧ j = 6) → J' k j = J k j) ∧ (∀ k j, k ≠ 15 → k ≠ 16 → k ≠ 17 → k ≠ 19 → a' k j = a k j) ∧ (∀ k j, k ≠ 14 → k ≠ 18 → (k < 48 ∨ 69 ≤ k) → b' k j = b k j)
theorem ma_fw_t {I I' I'' : gF} {J J' J'' : gL} {a a' a'' : gF} {b b' b'' : gL} (h1 : ma_fw I I' J J' a a' b b') (h2 : ma_fw I' I'' J' J'' a' a'' b' b'') : ma_fw I I'' J J'' a a'' b b'' := ⟨fun k j q1 q2 => (h2.1 k j q1 q2).trans (h1.1 k j q1 q2), fun k j q => (h2.2.1 k j q).trans (h1.2.1 k j q), fun k j q1 q2 q3 q4 => (h2.2.2.1 k j q1 q2 q3 q4).trans (h1.2.2.1 k j q1 q2 q3 q4), fun k j q1 q2 q3 => (h2.2.2.2 k j q1 q2 q3).trans (h1.2.2.2 k j q1 q2 q3)⟩
theorem ma_fw_6 {I I' : gF} {J J' : gL} {a a' : gF} {b b' : gL} (h : ma_fw I I' J J' a a' b b') : ma_sm6 a a' := ⟨fun j => h.2.2.1 6 j (by omega) (by omega) (by omega) (by omega), fun j => h.2.2.1 7 j (by omega) (by omega) (by omega) (by omega), fun j => h.2.2.1 8 j (by omega) (by omega) (by omega) (by omega), fun j => h.2.2.1 9 j (by omega) (by omega) (by omega) (by omega), fun j => h.2.2.1 10 j (by omega) (by omega) (by omega) (by omega), fun j => h.2.2.1 12 j (by omega) (by omega) (by omega) (by omega), fun r hr j => h.2.2.1 (40 + r) j (by omega) (by omega) (by omega) (by omega)⟩
theorem ma_ckS {I a : gF} {J b : gL} {nn nr : Nat} {set : Int32} (hd : ma_dat nn nr a) : ma_fw I (s_kI I a b nn nr set) J (s_kf I J a b nn nr set).2.1 a (s_kf I J a b nn nr set).2.2.1 b (s_kf I J a b nn nr set).2.2.2 ∧ ma_dk (s_kI I a b nn nr set) (s_kf I J a b nn nr set).2.2.1 ∧ (((s_kf I J a b nn nr set).1 = 1 ∧ (∃ V nl, s_kI I a b nn nr set 4 7 = nI nl ∧ s_kI I a b nn nr set 4 8 = nI nn ∧ ma_CD nn nr a (fun r => s_bit set r ≠ 0) nl V ∧ ma_DX nn nl V (s_kf I J a b nn nr set).2 ∧ ma_fe nn nl V (s_kf I J a b nn nr set).2) ∧ ∃ X, ma_FC nn nr a (fun r => s_bit set r ≠ 0) X) ∨ ((s_kf I J a b nn nr set).1 = 0 ∧ ∀ X, ¬ ma_FC nn nr a (fun r => s_bit set r ≠ 0) X)) := by
  obtain ⟨k1, k2, k3, k4, k5, k6, k7⟩ := ma_kr (I := I) (b := b) (set := set) hd nr (Nat.le_refl _)
  obtain ⟨V, C, D, fx, K⟩ := ma_keep (I := I) (J := J) (b := b) (set := set) (n := mPV) hd (by unfold mPV; decide)
  have e : s_kf I J a b nn nr set = d_find (s_kr I a b nn set nr).2 nn mPV (gU J 4 6 1, (s_kr I a b nn set nr).1.2.1, (s_kr I a b nn set nr).1.2.2) := rfl
  rw [← e] at D fx K
  have h7 : s_kI I a b nn nr set 4 7 = nI (s_kr I a b nn set nr).2 := k1.1
  have h8 : s_kI I a b nn nr set 4 8 = nI nn := k1.2.1
  refine ⟨⟨k5.2.2, fun k j h => ?_, fun k j q1 q2 q3 q4 => ?_, fun k j q1 q2 q3 => ?_⟩, ma_dk_of (J := (s_kf I J a b nn nr set).2.1) (b := (s_kf I J a b nn nr set).2.2.2) D h7 h8, ?_⟩
  · rw [fx.1 k j h]
    exact gU_n (by omega)
  · rw [fx.2.1 k j q1 q2]
    exact k5.1 k j q1 q2 q3 q4
  · rw [fx.2.2 k j q1 q2 q3]
    exact k5.2.1 k j q1 q3
  · rcases K with ⟨⟨q1, q2⟩, q3⟩ | ⟨q1, q2⟩
    · exact Or.inl ⟨q1, ⟨V, _, h7, h8, C, D, q2⟩, q3⟩
    · exact Or.inr ⟨q1, q2⟩
theorem ma_sall {a : gF} : ∀ n, s_all a n = m_all (fun _ j => a 12 j) n
  | 0 => rfl
  | n + 1 => by
    show (if a 12 n = 0 then s_all a n else s_all a n ||| ((1 : Int32) <<< (nI n &&& 31))) = (if a 12 n = 0 then m_all (fun _ j => a 12 j) n ||| 0 else m_all (fun _ j => a 12 j) n ||| ((1 : Int32) <<< (nI n &&& 31)))
    rw [ma_sall n, Int32.or_zero]
theorem ma_sall_S {a : gF} {nr : Nat} (hr : nr ≤ 8) : ma_isS (s_all a nr) ∧ (∀ r, r < 8 → (m_bt (s_all a nr) r ≠ 0 ↔ (r < nr ∧ a 12 r ≠ 0))) ∧ (∀ r, r < nr → (s_bit (s_all a nr) r ≠ 0 ↔ a 12 r ≠ 0)) := by
  rw [ma_sall]
  obtain ⟨h1, h2⟩ := ma_all_S (a := fun _ j => a 12 j) hr
  refine ⟨h1, h2, fun r hr2 => ?_⟩
  rw [(ma_S_bt h1 (by omega)).2, h2 r (by omega)]
  exact ⟨fun w => w.2, fun w => ⟨hr2, w⟩⟩
/-- the class's caches of points -/
def ma_fc1 (nn nr : Nat) (I : gF) (J : gL) (a : gF) (b : gL) : Prop := I 2 5 = 0 ∨ (I 2 5 = 1 ∧ ((I 2 6 = 1 ∧ ma_OKD nn nr I J a b) ∨ (I 2 6 = 0 ∧ ∀ X, ¬ ma_FC nn nr a (fun r => a 12 r ≠ 0) X)))
/-- the first best point, told by firstBest -/
def ma_BP (nn nr : Nat) (J : gL) (a : gF) (b : gL) : Prop := ∃ Y t, ma_FC nn nr a (fun r => a 12 r ≠ 0) Y ∧ ma_cor nn (ma_C nn (ma_ci a 6) (ma_ci a 7) (ma_ci a 10) (ma_fa a)) (ma_th nn nr (fun r => a 12 r ≠ 0)) t Y ∧ (∀ i, i < nn → (b 20 i).toInt = Y i) ∧ (J 2 4).toInt = Y 5 ∧ Y 5 ≤ 7085880 ∧ ma_MC nn nr a (fun r => a 12 r ≠ 0) Y ∧ ∀ X, ma_FC nn nr a (fun r => a 12 r ≠ 0) X → ma_MC nn nr a (fun r => a 12 r ≠ 0) X → ma_lx nn Y (Y 5) X (X 5)
def ma_Fec (nn nr : Nat) (a : gF) : Int32 → Prop := fun set => ∃ X, ma_FC nn nr a (fun r => s_bit set r ≠ 0) X
def ma_CI (nn nr : Nat) (x : gS) : Prop := x.1 1 7 = nI nn ∧ x.1 1 8 = nI nr ∧ ma_dat nn nr x.2.2.1 ∧ ma_dk x.1 x.2.2.1 ∧ (x.1 2 6 = 0 ∨ x.1 2 6 = 1) ∧ ma_fc1 nn nr x.1 x.2.1 x.2.2.1 x.2.2.2 ∧ (x.1 2 7 = 0 ∨ (x.1 2 7 = 1 ∧ ma_BP nn nr x.2.1 x.2.2.1 x.2.2.2)) ∧ (x.1 2 8 = 0 ∨ (x.1 2 8 = 1 ∧ x.1 2 9 = ma_gr (ma_Fec nn nr x.2.2.1) nr (s_all x.2.2.1 nr)))
theorem ma_OKD_pt {nn nr : Nat} {I : gF} {J : gL} {a : gF} {b : gL} (h : ma_OKD nn nr I J a b) : ∃ X, ma_FC nn nr a (fun r => a 12 r ≠ 0) X := by
  obtain ⟨V, nl, -, -, C, D, fe⟩ := h
  exact ⟨_, ma_yes D C fe⟩
theorem ma_FC_R {nn nr : Nat} {a : gF} {set : Int32} (h : ∀ r, r < nr → (s_bit set r ≠ 0 ↔ a 12 r ≠ 0)) {X : Nat → Int} : ma_FC nn nr a (fun r => s_bit set r ≠ 0) X ↔ ma_FC nn nr a (fun r => a 12 r ≠ 0) X := ma_fs_R h
theorem ma_gr_c {Fe Fe' : Int32 → Prop} (h : ∀ s, Fe s ↔ Fe' s) : ∀ k s, ma_gr Fe k s = ma_gr Fe' k s
  | 0, _ => rfl
  | k + 1, s => by
    by_cases q : m_bt s k ≠ 0 ∧ ¬ Fe (s_wo s k)
    · rw [ma_gr_y q, ma_gr_y ⟨q.1, fun w => q.2 ((h _).mpr w)⟩]
      exact ma_gr_c h k _
    · rw [ma_gr_n q, ma_gr_n (fun w => q ⟨w.1, fun w2 => w.2 ((h _).mp w2)⟩)]
      exact ma_gr_c h k _
theorem ma_BP_c {nn nr : Nat} {J J' : gL} {a a' : gF} {b b' : gL} (hr : nr ≤ 8) (h : ma_sm6 a a') (hb : ∀ i, b' 20 i = b 20 i) (hJ : J' 2 4 = J 2 4) (B : ma_BP nn nr J a b) : ma_BP nn nr J' a' b' := by
  obtain ⟨Y, t, y1, y2, y3, y4, y5, y6, y7⟩ := B
  have hR : ∀ r, r < nr → (a 12 r ≠ 0 ↔ a' 12 r ≠ 0) := fun r _ => by rw [h.2.2.2.2.2.1]
  have eF : ∀ X, ma_FC nn nr a' (fun r => a' 12 r ≠ 0) X ↔ ma_FC nn nr a (fun r => a 12 r ≠ 0) X := fun X => (ma_fs_c hr h).trans (ma_fs_R hR).symm
  have eM : ∀ X, ma_MC nn nr a' (fun r => a' 12 r ≠ 0) X ↔ ma_MC nn nr a (fun r => a 12 r ≠ 0) X := by
    intro X
    unfold ma_MC
    constructor
    · intro w X' hX'
      have := w X' ((eF X').mpr hX')
      rw [ma_cost_c h.2.2.1, ma_cost_c h.2.2.1] at this
      exact this
    · intro w X' hX'
      rw [ma_cost_c h.2.2.1, ma_cost_c h.2.2.1]
      exact w X' ((eF X').mp hX')
  refine ⟨Y, t, (eF Y).mpr y1, ?_, fun i hi => by rw [hb]; exact y3 i hi, by rw [hJ]; exact y4, y5, (eM Y).mpr y6, fun X h1 h2 => y7 X ((eF X).mp h1) ((eM X).mp h2)⟩
  have eC : ∀ c, ma_C nn (ma_ci a' 6) (ma_ci a' 7) (ma_ci a' 10) (ma_fa a') c = ma_C nn (ma_ci a 6) (ma_ci a 7) (ma_ci a 10) (ma_fa a) c := by
    intro c
    have e6 : ma_ci a' 6 = ma_ci a 6 := funext (fun i => by show (a' 6 i).toInt = _; rw [h.1])
    have e7 : ma_ci a' 7 = ma_ci a 7 := funext (fun i => by show (a' 7 i).toInt = _; rw [h.2.1])
    have e10 : ma_ci a' 10 = ma_ci a 10 := funext (fun i => by show (a' 10 i).toInt = _; rw [h.2.2.2.2.1])
    rw [e6, e7, e10]
    unfold ma_C
    by_cases q : c < 8
    · rw [if_pos q, if_pos q]
      exact ma_fm_c (fun s _ => by show (a' (40 + c) s).toInt = _; rw [h.2.2.2.2.2.2 c q]) rfl
    · rw [if_neg q, if_neg q]
  obtain ⟨t1, t2, t3, t4⟩ := y2
  exact ⟨fun i hi => (ma_th_R hR).mp (t1 i hi), t2, fun i hi => by rw [eC]; exact t3 i hi, fun Z z1 z2 z3 => t4 Z z1 z2 (fun i hi => by rw [← eC]; exact z3 i hi)⟩
theorem ma_Fec_c {nn nr : Nat} {a a' : gF} (hr : nr ≤ 8) (h : ma_sm6 a a') (s : Int32) : ma_Fec nn nr a' s ↔ ma_Fec nn nr a s := by
  unfold ma_Fec
  constructor
  · rintro ⟨X, hX⟩; exact ⟨X, (ma_fs_c hr h).mp hX⟩
  · rintro ⟨X, hX⟩; exact ⟨X, (ma_fs_c hr h).mpr hX⟩
theorem ma_sall_c {a a' : gF} (h : ∀ j, a' 12 j = a 12 j) : ∀ n, s_all a' n = s_all a n
  | 0 => rfl
  | n + 1 => by
    show (if a' 12 n = 0 then s_all a' n else s_all a' n ||| ((1 : Int32) <<< (nI n &&& 31))) = (if a 12 n = 0 then s_all a n else s_all a n ||| ((1 : Int32) <<< (nI n &&& 31)))
    rw [ma_sall_c h n, h n]
/-- hasPoint -/
theorem ma_hS {nn nr : Nat} {x : gS} (H : ma_CI nn nr x) : ma_CI nn nr (hS x) ∧ ma_fw x.1 (fun k j => if k = 2 ∧ (j = 5 ∨ j = 6) then x.1 k j else (hS x).1 k j) x.2.1 (hS x).2.1 x.2.2.1 (hS x).2.2.1 x.2.2.2 (hS x).2.2.2 ∧ (hS x).1 2 5 = 1 ∧ h_r x = (hS x).1 2 6 ∧ ((h_r x = 1 ∧ ma_OKD nn nr (hS x).1 (hS x).2.1 (hS x).2.2.1 (hS x).2.2.2) ∨ (h_r x = 0 ∧ ∀ X, ¬ ma_FC nn nr x.2.2.1 (fun r => x.2.2.1 12 r ≠ 0) X)) := by
  obtain ⟨h1, h2, hd, hk, h6, hf, hb, hbr⟩ := H
  have hnn : cN (x.1 1 7) = nn := by rw [h1]; exact ma_cN (by have := hd.1; omega)
  have hnr : cN (x.1 1 8) = nr := by rw [h2]; exact ma_cN (by have := hd.2.1; omega)
  have hr8 := hd.2.1
  unfold hS h_r s_hpI s_hpJ s_hpA s_hpB s_hp
  rw [hnn, hnr]
  by_cases h0 : x.1 2 5 = 0
  · simp only [if_pos h0]
    obtain ⟨f1, f2, f3⟩ := ma_ckS (I := x.1) (J := x.2.1) (b := x.2.2.2) (set := s_all x.2.2.1 nr) hd
    obtain ⟨a1, a2, a3⟩ := ma_sall_S (a := x.2.2.1) hr8
    generalize s_kI x.1 x.2.2.1 x.2.2.2 nn nr (s_all x.2.2.1 nr) = I' at *
    generalize s_kf x.1 x.2.1 x.2.2.1 x.2.2.2 nn nr (s_all x.2.2.1 nr) = y at *
    have s6 := ma_fw_6 f1
    have i25 : gU (gU I' 2 6 y.1) 2 5 1 2 5 = 1 := gU_s
    have i26 : gU (gU I' 2 6 y.1) 2 5 1 2 6 = y.1 := by rw [gU_n (by omega), gU_s]
    have io : ∀ k j, ¬ (k = 2 ∧ (j = 5 ∨ j = 6)) → gU (gU I' 2 6 y.1) 2 5 1 k j = I' k j := fun k j h => by rw [gU_n (by omega), gU_n (by omega)]
    have hR : ∀ r, r < nr → (s_bit (s_all x.2.2.1 nr) r ≠ 0 ↔ y.2.2.1 12 r ≠ 0) := fun r hr => by rw [a3 r hr, s6.2.2.2.2.2.1]
    have main : (y.1 = 1 ∧ ma_OKD nn nr (gU (gU I' 2 6 y.1) 2 5 1) y.2.1 y.2.2.1 y.2.2.2) ∨ (y.1 = 0 ∧ ∀ X, ¬ ma_FC nn nr x.2.2.1 (fun r => x.2.2.1 12 r ≠ 0) X) := by
      rcases f3 with ⟨q1, ⟨V, nl, v1, v2, v3, v4, v5⟩, -⟩ | ⟨q1, q2⟩
      · exact Or.inl ⟨q1, V, nl, by rw [io 4 7 (by omega)]; exact v1, by rw [io 4 8 (by omega)]; exact v2, ma_CD_c hr8 s6 hR v3, v4, v5⟩
      · exact Or.inr ⟨q1, fun X hX => q2 X ((ma_fs_R a3).mpr hX)⟩
    refine ⟨⟨?_, ?_, ma_dat_c s6 hd, ?_, ?_, ?_, ?_, ?_⟩, ?_, i25, i26.symm, main⟩
    · show gU (gU I' 2 6 y.1) 2 5 1 1 7 = _
      rw [io 1 7 (by omega), f1.1 1 7 (by omega) (by omega)]; exact h1
    · show gU (gU I' 2 6 y.1) 2 5 1 1 8 = _
      rw [io 1 8 (by omega), f1.1 1 8 (by omega) (by omega)]; exact h2
    · show ma_dk (gU (gU I' 2 6 y.1) 2 5 1) y.2.2.1
      unfold ma_dk at f2 ⊢
      rw [io 4 7 (by omega), io 4 8 (by omega)]
      exact f2
    · show gU (gU I' 2 6 y.1) 2 5 1 2 6 = 0 ∨ gU (gU I' 2 6 y.1) 2 5 1 2 6 = 1
      rw [i26]
      rcases main with q | q
      · exact Or.inr q.1
      · exact Or.inl q.1
    · refine Or.inr ⟨i25, ?_⟩
      show (gU (gU I' 2 6 y.1) 2 5 1 2 6 = 1 ∧ _) ∨ (gU (gU I' 2 6 y.1) 2 5 1 2 6 = 0 ∧ _)
      rw [i26]
      rcases main with q | q
      · exact Or.inl q
      · refine Or.inr ⟨q.1, fun X hX => q.2 X ?_⟩
        have := (ma_fs_c hr8 s6).mp hX
        exact (ma_fs_R (fun r _ => by rw [s6.2.2.2.2.2.1])).mp this
    · show gU (gU I' 2 6 y.1) 2 5 1 2 7 = 0 ∨ (gU (gU I' 2 6 y.1) 2 5 1 2 7 = 1 ∧ _)
      rw [io 2 7 (by omega), f1.1 2 7 (by omega) (by omega)]
      rcases hb with q | q
      · exact Or.inl q
      · exact Or.inr ⟨q.1, ma_BP_c hr8 s6 (fun i => f1.2.2.2 20 i (by omega) (by omega) (by omega)) (f1.2.1 2 4 (by omega)) q.2⟩
    · show gU (gU I' 2 6 y.1) 2 5 1 2 8 = 0 ∨ (gU (gU I' 2 6 y.1) 2 5 1 2 8 = 1 ∧ gU (gU I' 2 6 y.1) 2 5 1 2 9 = ma_gr (ma_Fec nn nr y.2.2.1) nr (s_all y.2.2.1 nr))
      rw [io 2 8 (by omega), f1.1 2 8 (by omega) (by omega), io 2 9 (by omega), f1.1 2 9 (by omega) (by omega), ma_sall_c s6.2.2.2.2.2.1, ma_gr_c (ma_Fec_c hr8 s6)]
      exact hbr
    · refine ⟨fun k j q1 q2 => ?_, f1.2.1, f1.2.2.1, f1.2.2.2⟩
      show (if k = 2 ∧ (j = 5 ∨ j = 6) then x.1 k j else gU (gU I' 2 6 y.1) 2 5 1 k j) = x.1 k j
      split
      · rfl
      · next w => rw [io k j w, f1.1 k j q1 q2]
  · simp only [if_neg h0]
    have hf' := hf
    rcases hf with q | ⟨q, w⟩
    · exact absurd q h0
    · refine ⟨⟨h1, h2, hd, hk, h6, hf', hb, hbr⟩, ⟨fun k j _ _ => ?_, fun _ _ _ => rfl, fun _ _ _ _ _ _ => rfl, fun _ _ _ _ _ => rfl⟩, q, trivial, w⟩
      show (if k = 2 ∧ (j = 5 ∨ j = 6) then x.1 k j else x.1 k j) = x.1 k j
      split <;> rfl
end
