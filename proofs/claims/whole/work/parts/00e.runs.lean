/-! THE MATHEMATICS, 4: runs of pivots end -/
def ma_has (O : Nat → Nat) : Nat → Nat → Bool
  | 0, _ => false
  | n + 1, v => ma_has O n v || O n == v
theorem ma_has_iff {O : Nat → Nat} {v : Nat} : ∀ {n : Nat}, ma_has O n v = true ↔ ∃ s, s < n ∧ O s = v
  | 0 => by
    constructor
    · intro h; cases h
    · rintro ⟨s, h, -⟩; omega
  | n + 1 => by
    show (ma_has O n v || O n == v) = true ↔ _
    rw [Bool.or_eq_true, ma_has_iff (n := n), beq_iff_eq]
    constructor
    · rintro (⟨s, h1, h2⟩ | h)
      · exact ⟨s, by omega, h2⟩
      · exact ⟨n, by omega, h⟩
    · rintro ⟨s, h1, h2⟩
      by_cases e : s = n
      · rw [e] at h2; exact Or.inr h2
      · exact Or.inl ⟨s, by omega, h2⟩
theorem ma_cnt_add {b : Nat → Bool} {x : Nat} (hb : b x = false) : ∀ N, ma_cnt (fun v => b v || x == v) N = ma_cnt b N + (if x < N then 1 else 0)
  | 0 => by simp [ma_cnt]
  | m + 1 => by
    show ma_cnt (fun v => b v || x == v) m + (if (b m || x == m) then 1 else 0) = ma_cnt b m + (if b m then 1 else 0) + _
    rw [ma_cnt_add hb m]
    by_cases e : x = m
    · subst e
      rw [if_neg (show ¬ x < x by omega), if_pos (show x < x + 1 by omega), hb]
      simp
    · have : (x == m) = false := by simp [e]
      rw [this, Bool.or_false]
      by_cases h : x < m
      · rw [if_pos h, if_pos (show x < m + 1 by omega)]; omega
      · rw [if_neg h, if_neg (show ¬ x < m + 1 by omega)]; omega
theorem ma_cnt_has {O : Nat → Nat} {N : Nat} : ∀ {n : Nat}, (∀ s, s < n → O s < N) → (∀ s s', s < n → s' < n → O s = O s' → s = s') → ma_cnt (ma_has O n) N = n
  | 0, _, _ => by
    have : ∀ N, ma_cnt (ma_has O 0) N = 0 := by
      intro N
      induction N with
      | zero => rfl
      | succ m ih => show ma_cnt (ma_has O 0) m + (if ma_has O 0 m then 1 else 0) = 0; rw [ih]; rfl
    exact this N
  | n + 1, h1, h2 => by
    have e : ma_has O (n + 1) = (fun v => ma_has O n v || O n == v) := by funext v; rfl
    have hb : ma_has O n (O n) = false := by
      rw [Bool.eq_false_iff]
      intro q
      obtain ⟨s, a1, a2⟩ := ma_has_iff.mp q
      have := h2 s n (by omega) (by omega) a2
      omega
    rw [e, ma_cnt_add hb, ma_cnt_has (n := n) (fun s hs => h1 s (by omega)) (fun s s' a1 a2 => h2 s s' (by omega) (by omega)), if_pos (h1 n (by omega))]
def ma_run (n N L : Nat) (V : Nat → Nat → Int) (u : Nat → Int) (k : Nat → Nat → (Nat → Int) → Int) (O : Nat → Nat → Nat) (sa le : Nat → Nat) : Prop :=
  (∀ c, c ≤ L → ma_LP (u c) (k c) (ma_o n V (O c))) ∧ (∀ c, c ≤ L → ∀ s, s < n → O c s < N) ∧ (∀ c, c < L → sa c < n ∧ (∀ s, s < n → O (c + 1) s = if s = sa c then le c else O c s) ∧ ∀ s, s < n → O c s ≠ le c)
theorem ma_LP_inj {n : Nat} (hn : n ≤ 5) {V : Nat → Nat → Int} {u : Int} {k : Nat → (Nat → Int) → Int} {O : Nat → Nat} (Lb : ma_LP u k (ma_o n V O)) {s s' : Nat} (h1 : s < n) (h2 : s' < n) (h : O s = O s') : s = s' := by
  apply Classical.byContradiction
  intro e
  have a1 := Lb.2.2.2 s s' (by omega) (by omega)
  have a3 := Lb.2.2.2 s s (by omega) (by omega)
  rw [if_neg (fun q => e q.symm), ma_o_in h2] at a1
  rw [if_pos rfl, ma_o_in h1, h, a1] at a3
  have := Lb.1
  omega
/-- too long a run comes back to the same set -/
theorem ma_run_rep {n N L : Nat} (hn : n ≤ 5) {V : Nat → Nat → Int} {u : Nat → Int} {k : Nat → Nat → (Nat → Int) → Int} {O : Nat → Nat → Nat} {sa le : Nat → Nat} (R : ma_run n N L V u k O sa le) (hL : ma_ch N n ≤ L) : ∃ i j, i < j ∧ j ≤ L ∧ ∀ v, (∃ s, s < n ∧ O i s = v) ↔ (∃ s, s < n ∧ O j s = v) := by
  have hc : ∀ c, c ≤ L → ma_cnt (ma_has (O c) n) N = n := fun c hc => ma_cnt_has (R.2.1 c hc) (fun s s' a1 a2 a3 => ma_LP_inj hn (R.1 c hc) a1 a2 a3)
  obtain ⟨i, j, h1, h2, h3⟩ := ma_pig (ma_ch N n) (L + 1) (fun c => ma_rk (ma_has (O c) n) N) (by omega) (fun c hcl => by
    have := ma_rk_lt (ma_has (O c) n) N
    rw [hc c (by omega)] at this
    exact this)
  refine ⟨i, j, h1, by omega, fun v => ?_⟩
  have key : ∀ w, w < N → (ma_has (O i) n w = ma_has (O j) n w) := ma_rk_inj _ _ N (by rw [hc i (by omega), hc j (by omega)]) h3
  constructor
  · rintro ⟨s, a1, a2⟩
    have := R.2.1 i (by omega) s a1
    exact ma_has_iff.mp ((key v (by omega)) ▸ ma_has_iff.mpr ⟨s, a1, a2⟩)
  · rintro ⟨s, a1, a2⟩
    have := R.2.1 j (by omega) s a1
    exact ma_has_iff.mp ((key v (by omega)).symm ▸ ma_has_iff.mpr ⟨s, a1, a2⟩)
theorem ma_run_cycle {n N L : Nat} (hn : n ≤ 5) {V : Nat → Nat → Int} {u : Nat → Int} {k : Nat → Nat → (Nat → Int) → Int} {O : Nat → Nat → Nat} {sa le : Nat → Nat} (R : ma_run n N L V u k O sa le) {i j : Nat} (hij : i < j) (hj : j ≤ L) (he : ∀ v, (∃ s, s < n ∧ O i s = v) ↔ (∃ s, s < n ∧ O j s = v)) :
    ∃ t x y, i ≤ x ∧ x < j ∧ i ≤ y ∧ y < j ∧ le x = t ∧ O y (sa y) = t ∧ (∀ c, i ≤ c → c < j → O c (sa c) ≤ t ∧ le c ≤ t) ∧ (∀ v, t < v → ∀ c c', i ≤ c → c ≤ j → i ≤ c' → c' ≤ j → ((∃ s, s < n ∧ O c s = v) → (∃ s, s < n ∧ O c' s = v))) := by
  refine ma_cycle (out := fun c v => ∃ s, s < n ∧ O c s = v) (en := fun c => O c (sa c)) (le := le) hij (fun c a1 a2 => ⟨sa c, (R.2.2 c (by omega)).1, rfl⟩) (fun c a1 a2 => ?_) (fun c a1 a2 v => ?_) he
  · rintro ⟨s, b1, b2⟩
    exact (R.2.2 c (by omega)).2.2 s b1 b2
  · obtain ⟨r1, r2, r3⟩ := R.2.2 c (by omega)
    constructor
    · rintro ⟨s, b1, b2⟩
      rw [r2 s b1] at b2
      by_cases e : s = sa c
      · rw [if_pos e] at b2
        exact Or.inr b2.symm
      · rw [if_neg e] at b2
        refine Or.inl ⟨⟨s, b1, b2⟩, fun q => e ?_⟩
        exact ma_LP_inj hn (R.1 c (by omega)) b1 r1 (b2.trans q)
    · rintro (⟨⟨s, b1, b2⟩, b3⟩ | b)
      · refine ⟨s, b1, ?_⟩
        rw [r2 s b1, if_neg (fun q => b3 (by rw [← b2, q]))]
        exact b2
      · refine ⟨sa c, r1, ?_⟩
        rw [r2 _ r1, if_pos rfl]
        exact b.symm
theorem ma_dual_run {n N L : Nat} (hn : n ≤ 5) {V : Nat → Nat → Int} {u : Nat → Int} {k : Nat → Nat → (Nat → Int) → Int} {O : Nat → Nat → Nat} {sa le : Nat → Nat} (R : ma_run n N L V u k O sa le)
    (hD : ∀ c, c < L → k c 5 (V (le c)) < 0 ∧ (∀ j, j < le c → j < N → 0 ≤ k c 5 (V j)) ∧ 0 < k c (sa c) (V (le c)) ∧ (∀ s, s < n → O c s < O c (sa c) → k c s (V (le c)) ≤ 0)) : L < ma_ch N n := by
  apply Classical.byContradiction
  intro hL
  obtain ⟨i, j, hij, hj, he⟩ := ma_run_rep hn R (by omega)
  obtain ⟨t, x, y, x1, x2, y1, y2, hx, hy, hm, hc⟩ := ma_run_cycle hn R hij hj he
  obtain ⟨d1, d2, d3, d4⟩ := hD x (by omega)
  obtain ⟨e1, e2, e3, e4⟩ := hD y (by omega)
  obtain ⟨r1, r2, r3⟩ := R.2.2 y (by omega)
  have hlN : le x < N := by
    have := R.2.1 (x + 1) (by omega) (sa x) (R.2.2 x (by omega)).1
    rw [(R.2.2 x (by omega)).2.1 _ (R.2.2 x (by omega)).1, if_pos rfl] at this
    exact this
  refine ma_dual hn (R.1 x (by omega)) (R.1 y (by omega)) (t := t) (u0 := le y) (sb := sa y) ?_ ?_ ?_ e1 r1 hy e3 ?_ ?_
  · rw [← hx]; exact d1
  · intro w hw
    exact d2 w (by omega) (by omega)
  · have := (hm y y1 y2).2
    have : le y ≠ t := fun q => r3 (sa y) r1 (by rw [hy, q])
    omega
  · intro s hs hlt
    rw [← hy] at hlt
    exact e4 s hs hlt
  · intro s hs hlt
    obtain ⟨s', b1, b2⟩ := hc _ hlt y x y1 (by omega) x1 (by omega) ⟨s, hs, rfl⟩
    have := (R.1 x (by omega)).2.2.2 5 s' (by decide) (by omega)
    rw [if_neg (by omega), ma_o_in b1, b2] at this
    exact this
theorem ma_fr {a b c d e f : Int} (hb : 0 < b) (hd : 0 < d) (hf : 0 < f) (h1 : a * d ≤ c * b) (h2 : c * f ≤ e * d) : a * f ≤ e * b := by
  have q1 : a * d * f ≤ c * b * f := Int.mul_le_mul_of_nonneg_right h1 (Int.le_of_lt hf)
  have q2 : c * f * b ≤ e * d * b := Int.mul_le_mul_of_nonneg_right h2 (Int.le_of_lt hb)
  have q3 : a * f * d ≤ e * b * d := by
    have e1 : a * f * d = a * d * f := by grind
    have e2 : e * b * d = e * d * b := by grind
    have e3 : c * b * f = c * f * b := by grind
    omega
  exact Int.le_of_mul_le_mul_right q3 hd
theorem ma_fr1 {a b c d e f : Int} (hb : 0 < b) (hd : 0 < d) (hf : 0 < f) (h1 : a * d < c * b) (h2 : c * f ≤ e * d) : a * f < e * b := by
  have q1 : a * d * f < c * b * f := Int.mul_lt_mul_of_pos_right h1 hf
  have q2 : c * f * b ≤ e * d * b := Int.mul_le_mul_of_nonneg_right h2 (Int.le_of_lt hb)
  have q3 : a * f * d < e * b * d := by
    have e1 : a * f * d = a * d * f := by grind
    have e2 : e * b * d = e * d * b := by grind
    have e3 : c * b * f = c * f * b := by grind
    omega
  exact Int.lt_of_mul_lt_mul_right q3 (Int.le_of_lt hd)
theorem ma_fr2 {a b c d e f : Int} (hb : 0 < b) (hd : 0 < d) (hf : 0 < f) (h1 : a * d ≤ c * b) (h2 : c * f < e * d) : a * f < e * b := by
  have q1 : a * d * f ≤ c * b * f := Int.mul_le_mul_of_nonneg_right h1 (Int.le_of_lt hf)
  have q2 : c * f * b < e * d * b := Int.mul_lt_mul_of_pos_right h2 hb
  have q3 : a * f * d < e * b * d := by
    have e1 : a * f * d = a * d * f := by grind
    have e2 : e * b * d = e * d * b := by grind
    have e3 : c * b * f = c * f * b := by grind
    omega
  exact Int.lt_of_mul_lt_mul_right q3 (Int.le_of_lt hd)
/-- what a pivot does to the numbers at the point -/
theorem ma_step5 {n N L : Nat} (hn : n ≤ 5) {V : Nat → Nat → Int} {u : Nat → Int} {k : Nat → Nat → (Nat → Int) → Int} {O : Nat → Nat → Nat} {sa le : Nat → Nat} (R : ma_run n N L V u k O sa le) {c : Nat} (hc : c < L) (v : Nat → Int) : u c * k (c + 1) 5 v = k c (sa c) v * k (c + 1) 5 (V (O c (sa c))) + k c 5 v * u (c + 1) := by
  obtain ⟨r1, r2, r3⟩ := R.2.2 c hc
  have L1 := R.1 c (by omega)
  have L2 := R.1 (c + 1) (by omega)
  have h := L1.2.1 v (fun i => k (c + 1) 5 (ma_e i))
  rw [L2.2.2.1 5 (by decide)] at h
  rw [h, ma_sm_congr (g := fun s => (if s = sa c then k c (sa c) v * k (c + 1) 5 (V (O c (sa c))) else 0) + (if s = 5 then k c 5 v * u (c + 1) else 0)) (fun s hs => ?_)]
  · rw [ma_sm_add, ma_sm_one (by omega), ma_sm_one (by decide)]
  · show k c s v * ma_dot (ma_o n V (O c) s) (fun i => k (c + 1) 5 (ma_e i)) = _
    rw [L2.2.2.1 5 (by decide)]
    by_cases e : s = sa c
    · subst e
      rw [if_pos rfl, if_neg (by omega), ma_o_in r1]
      omega
    · rw [if_neg e]
      have q := L2.2.2.2 5 s (by decide) hs
      have e2 : ma_o n V (O (c + 1)) s = ma_o n V (O c) s := by
        by_cases e3 : s < n
        · rw [ma_o_in e3, ma_o_in e3, r2 s e3, if_neg e]
        · rw [ma_o_out (by omega), ma_o_out (by omega)]
      rw [e2] at q
      rw [q]
      split
      · next g => subst g; omega
      · omega
theorem ma_primal_run {n N L : Nat} (hn : n ≤ 5) {V : Nat → Nat → Int} {u : Nat → Int} {k : Nat → Nat → (Nat → Int) → Int} {O : Nat → Nat → Nat} {sa le : Nat → Nat} (R : ma_run n N L V u k O sa le) (g : Nat → Int) (F : Nat → Prop)
    (hF : ∀ c, c ≤ L → ∀ j, j < N → 0 ≤ k c 5 (V j))
    (hP : ∀ c, c < L → ¬ F (sa c) ∧ k c (sa c) g < 0 ∧ (∀ s, s < n → ¬ F s → O c s < O c (sa c) → 0 ≤ k c s g) ∧ k c (sa c) (V (le c)) < 0 ∧ (∀ j, j < N → k c (sa c) (V j) < 0 → k c 5 (V (le c)) * (- k c (sa c) (V j)) < k c 5 (V j) * (- k c (sa c) (V (le c))) ∨ (k c 5 (V (le c)) * (- k c (sa c) (V j)) = k c 5 (V j) * (- k c (sa c) (V (le c))) ∧ le c ≤ j))) : L < ma_ch N n := by
  apply Classical.byContradiction
  intro hL
  obtain ⟨i, j, hij, hj, he⟩ := ma_run_rep hn R (by omega)
  obtain ⟨t, x, y, x1, x2, y1, y2, hx, hy, hm, hc⟩ := ma_run_cycle hn R hij hj he
  have hu : ∀ c, c ≤ L → 0 < u c := fun c hc => (R.1 c hc).1
  have hth : ∀ c, c < L → 0 ≤ k (c + 1) 5 (V (O c (sa c))) := fun c hcl => hF (c + 1) (by omega) _ (R.2.1 c (by omega) _ (R.2.2 c hcl).1)
  have hz : ∀ c, c < L → k (c + 1) 5 g * u c ≤ k c 5 g * u (c + 1) := by
    intro c hcl
    have := ma_step5 hn R hcl g
    have h2 : k c (sa c) g * k (c + 1) 5 (V (O c (sa c))) ≤ 0 := Int.mul_nonpos_of_nonpos_of_nonneg (Int.le_of_lt (hP c hcl).2.1) (hth c hcl)
    rw [Int.mul_comm (k (c + 1) 5 g)]
    omega
  have hzz : ∀ y x, i ≤ x → x ≤ y → y ≤ j → k y 5 g * u x ≤ k x 5 g * u y := by
    intro y
    induction y with
    | zero =>
      intro x a1 a2 a3
      have : x = 0 := by omega
      rw [this]
      exact Int.le_refl _
    | succ y ih =>
      intro x a1 a2 a3
      by_cases e : x = y + 1
      · rw [e]; exact Int.le_refl _
      · exact ma_fr (hu _ (by omega)) (hu y (by omega)) (hu _ (by omega)) (hz y (by omega)) (ih x a1 (by omega) (by omega)) |> fun q => q
  have hend : k j 5 g * u i = k i 5 g * u j := by
    have h := (R.1 i (by omega)).2.1 g (fun w => k j 5 (ma_e w))
    rw [(R.1 j hj).2.2.1 5 (by decide)] at h
    rw [Int.mul_comm, h, ma_sm_congr (g := fun s => if s = 5 then k i 5 g * u j else 0) (fun s hs => ?_), ma_sm_one (by decide)]
    show k i s g * ma_dot (ma_o n V (O i) s) (fun w => k j 5 (ma_e w)) = _
    rw [(R.1 j hj).2.2.1 5 (by decide)]
    by_cases e : s < n
    · rw [ma_o_in e, if_neg (by omega)]
      obtain ⟨s', b1, b2⟩ := (he (O i s)).mp ⟨s, e, rfl⟩
      have := (R.1 j hj).2.2.2 5 s' (by decide) (by omega)
      rw [if_neg (by omega), ma_o_in b1, b2] at this
      rw [this]
      omega
    · have := (R.1 j hj).2.2.2 5 s (by decide) hs
      rw [ma_o_out (by omega)] at this
      rw [ma_o_out (by omega), this]
      split
      · next q => rw [q]
      · omega
  have hdeg : ∀ c, i ≤ c → c < j → k (c + 1) 5 (V (O c (sa c))) = 0 := by
    intro c a1 a2
    apply Classical.byContradiction
    intro hne
    have hpos : 0 < k (c + 1) 5 (V (O c (sa c))) := by
      have := hth c (by omega)
      omega
    have hs : k (c + 1) 5 g * u c < k c 5 g * u (c + 1) := by
      have := ma_step5 hn R (show c < L by omega) g
      have h2 : k c (sa c) g * k (c + 1) 5 (V (O c (sa c))) < 0 := Int.mul_neg_of_neg_of_pos (hP c (by omega)).2.1 hpos
      rw [Int.mul_comm (k (c + 1) 5 g)]
      omega
    have q1 := ma_fr1 (hu _ (by omega)) (hu c (by omega)) (hu i (by omega)) hs (hzz c i (Nat.le_refl _) a1 (by omega))
    have q2 := ma_fr2 (hu _ (by omega)) (hu (c + 1) (by omega)) (hu i (by omega)) (hzz j (c + 1) (by omega) (by omega) (Nat.le_refl _)) q1
    omega
  have hval : ∀ v : Nat → Int, ∀ x, i ≤ x → x ≤ j → (k x 5 v = 0 ↔ k i 5 v = 0) := by
    intro v
    have st : ∀ c, i ≤ c → c < j → (k c 5 v = 0 ↔ k (c + 1) 5 v = 0) := by
      intro c a1 a2
      have := ma_step5 hn R (show c < L by omega) v
      rw [hdeg c a1 a2, Int.mul_zero, Int.zero_add] at this
      have u1 := hu c (by omega)
      have u2 := hu (c + 1) (by omega)
      constructor
      · intro q
        rw [q, Int.zero_mul] at this
        rcases Int.mul_eq_zero.mp this with g | g
        · omega
        · exact g
      · intro q
        rw [q, Int.mul_zero] at this
        rcases Int.mul_eq_zero.mp this.symm with g | g
        · exact g
        · omega
    intro x a1 a2
    constructor
    · intro g
      apply Classical.byContradiction
      intro hn
      exact ma_mono (P := fun c => ¬ k c 5 v = 0) (i := i) (j := j) (fun c b1 b2 b3 b4 => b3 ((st c b1 b2).mpr b4)) x i (Nat.le_refl _) a1 a2 hn g
    · intro g
      exact ma_mono (P := fun c => k c 5 v = 0) (i := i) (j := j) (fun c b1 b2 b3 => (st c b1 b2).mp b3) x i (Nat.le_refl _) a1 a2 g
  have houtz : ∀ c, c ≤ L → ∀ s, s < n → k c 5 (V (O c s)) = 0 := by
    intro c hcl s hs
    have := (R.1 c hcl).2.2.2 5 s (by decide) (by omega)
    rw [if_neg (by omega), ma_o_in hs] at this
    exact this
  have hfz : ∀ s, s < n → F s → ∀ c, c ≤ L → O c s = O 0 s := by
    intro s hs hf c
    induction c with
    | zero => intro _; rfl
    | succ c ih =>
      intro hcl
      rw [(R.2.2 c (by omega)).2.1 s hs, if_neg (fun (q : s = sa c) => (hP c (by omega)).1 (q ▸ hf))]
      exact ih (by omega)
  obtain ⟨d1, d2, d3, d4, d5⟩ := hP x (by omega)
  obtain ⟨e1, e2, e3, e4, e5⟩ := hP y (by omega)
  obtain ⟨r1, r2, r3⟩ := R.2.2 y (by omega)
  obtain ⟨z1, z2, z3⟩ := R.2.2 x (by omega)
  refine ma_primal hn (R.1 x (by omega)) (R.1 y (by omega)) (g := g) (t := t) (sa := sa x) (sb := sa y) z1 r1 d2 (by rw [← hx]; exact d4) hy e2 ?_ ?_
  · intro s hs hlt
    by_cases hf : F s
    · have : O y s = O x s := by rw [hfz s hs hf y (by omega), hfz s hs hf x (by omega)]
      rw [this]
      have q := (R.1 x (by omega)).2.2.2 (sa x) s (by omega) (by omega)
      rw [if_neg (fun (q2 : s = sa x) => d1 (q2 ▸ hf)), ma_o_in hs] at q
      rw [q]
      omega
    · have k1 := e3 s hs hf (by rw [hy]; exact hlt)
      refine Int.mul_nonneg k1 ?_
      apply Classical.byContradiction
      intro hneg
      have hneg : k x (sa x) (V (O y s)) < 0 := by omega
      have vz : ∀ w, w < n → k x 5 (V (O y w)) = 0 := fun w hw => (hval _ x x1 (by omega)).mpr ((hval _ y y1 (by omega)).mp (houtz y (by omega) w hw))
      have vt : k x 5 (V (le x)) = 0 := by
        rw [hx, ← hy]
        exact vz _ r1
      have := d5 (O y s) (R.2.1 y (by omega) s hs) hneg
      rw [vt, vz s hs] at this
      omega
  · intro s hs hlt
    obtain ⟨s', b1, b2⟩ := hc _ hlt y x y1 (by omega) x1 (by omega) ⟨s, hs, rfl⟩
    have hne : s' ≠ sa x := fun q => by
      have := (hm x x1 x2).1
      rw [← q, b2] at this
      omega
    have := (R.1 x (by omega)).2.2.2 (sa x) s' (by omega) (by omega)
    rw [if_neg hne, ma_o_in b1, b2] at this
    exact this
theorem ma_ch_b : ∀ n, n ≤ 5 → ∀ N, N ≤ 26 → ma_ch N n ≤ 65780 := by decide +kernel
