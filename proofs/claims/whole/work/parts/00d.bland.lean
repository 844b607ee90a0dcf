/-! THE MATHEMATICS, 3: no basis comes twice by Bland's rule, and how many there are -/
def ma_ch : Nat → Nat → Nat
  | _, 0 => 1
  | 0, _ + 1 => 0
  | n + 1, k + 1 => ma_ch n k + ma_ch n (k + 1)
def ma_cnt (b : Nat → Bool) : Nat → Nat
  | 0 => 0
  | m + 1 => ma_cnt b m + (if b m then 1 else 0)
def ma_rk (b : Nat → Bool) : Nat → Nat
  | 0 => 0
  | m + 1 => ma_rk b m + (if b m then ma_ch m (ma_cnt b m + 1) else 0)
theorem ma_ch_up : ∀ m k, ma_ch m k ≤ ma_ch (m + 1) k
  | m, 0 => by cases m <;> simp [ma_ch]
  | m, k + 1 => by
    show ma_ch m (k + 1) ≤ ma_ch m k + ma_ch m (k + 1)
    omega
theorem ma_rk_lt (b : Nat → Bool) : ∀ m, ma_rk b m < ma_ch m (ma_cnt b m)
  | 0 => Nat.zero_lt_one
  | m + 1 => by
    have ih := ma_rk_lt b m
    show ma_rk b m + (if b m then ma_ch m (ma_cnt b m + 1) else 0) < ma_ch (m + 1) (ma_cnt b m + (if b m then 1 else 0))
    by_cases h : b m = true
    · rw [if_pos h, if_pos h]
      show _ < ma_ch m (ma_cnt b m) + ma_ch m (ma_cnt b m + 1)
      omega
    · rw [if_neg h, if_neg h]
      have := ma_ch_up m (ma_cnt b m)
      simp only [Nat.add_zero]
      omega
theorem ma_rk_inj (b b' : Nat → Bool) : ∀ m, ma_cnt b m = ma_cnt b' m → ma_rk b m = ma_rk b' m → ∀ i, i < m → b i = b' i
  | 0, _, _, i, hi => by omega
  | m + 1, hc, hr, i, hi => by
    change ma_cnt b m + (if b m then 1 else 0) = ma_cnt b' m + (if b' m then 1 else 0) at hc
    change ma_rk b m + (if b m then ma_ch m (ma_cnt b m + 1) else 0) = ma_rk b' m + (if b' m then ma_ch m (ma_cnt b' m + 1) else 0) at hr
    have l1 := ma_rk_lt b m
    have l2 := ma_rk_lt b' m
    by_cases h : b m = true
    · by_cases h' : b' m = true
      · simp only [if_pos h, if_pos h'] at hc hr
        have hc' : ma_cnt b m = ma_cnt b' m := by omega
        rw [hc'] at hr
        by_cases e : i = m
        · rw [e, h, h']
        · exact ma_rk_inj b b' m hc' (by omega) i (by omega)
      · simp only [if_pos h, if_neg h', Nat.add_zero] at hc hr
        rw [← hc] at l2
        omega
    · by_cases h' : b' m = true
      · simp only [if_neg h, if_pos h', Nat.add_zero] at hc hr
        rw [hc] at l1
        omega
      · simp only [if_neg h, if_neg h', Nat.add_zero] at hc hr
        by_cases e : i = m
        · rw [e]
          simp only [Bool.not_eq_true] at h h'
          rw [h, h']
        · exact ma_rk_inj b b' m hc hr i (by omega)
theorem ma_pig : ∀ (N L : Nat) (f : Nat → Nat), N < L → (∀ i, i < L → f i < N) → ∃ i j, i < j ∧ j < L ∧ f i = f j
  | 0, L, f, h, hf => absurd (hf 0 h) (Nat.not_lt_zero _)
  | N + 1, L, f, h, hf => by
    by_cases hx : ∃ i, i < L ∧ f i = N
    · obtain ⟨i0, h1, h2⟩ := hx
      by_cases hy : ∃ j, j < L ∧ j ≠ i0 ∧ f j = N
      · obtain ⟨j, h3, h4, h5⟩ := hy
        rcases Nat.lt_or_gt_of_ne h4 with q | q
        · exact ⟨j, i0, q, h1, by rw [h5, h2]⟩
        · exact ⟨i0, j, q, h3, by rw [h5, h2]⟩
      · obtain ⟨i, j, hij, hj, he⟩ := ma_pig N (L - 1) (fun k => f (ma_sk i0 k)) (by omega) (fun k hk => by
          have hl : ma_sk i0 k < L := by unfold ma_sk; split <;> omega
          have hn : ma_sk i0 k ≠ i0 := by unfold ma_sk; split <;> omega
          have q1 := hf _ hl
          have q2 : f (ma_sk i0 k) ≠ N := fun q => hy ⟨_, hl, hn, q⟩
          show f (ma_sk i0 k) < N
          omega)
        refine ⟨ma_sk i0 i, ma_sk i0 j, ?_, ?_, he⟩
        · unfold ma_sk
          split <;> split <;> omega
        · unfold ma_sk
          split <;> omega
    · exact ma_pig N L f (by omega) (fun i hi => by
        have q1 := hf i hi
        have q2 : f i ≠ N := fun q => hx ⟨i, hi, q⟩
        omega)
theorem ma_mono {P : Nat → Prop} {i j : Nat} (h : ∀ c, i ≤ c → c < j → P c → P (c + 1)) : ∀ y x, i ≤ x → x ≤ y → y ≤ j → P x → P y
  | 0, x, _, h2, _, hp => by
    have : x = 0 := by omega
    rw [← this]
    exact hp
  | y + 1, x, h1, h2, h3, hp => by
    by_cases e : x = y + 1
    · rw [← e]
      exact hp
    · exact h y (by omega) (by omega) (ma_mono h y x h1 (by omega) (by omega) hp)
theorem ma_max (f : Nat → Nat) (i : Nat) : ∀ d, ∃ c0, i ≤ c0 ∧ c0 < i + d + 1 ∧ ∀ c, i ≤ c → c < i + d + 1 → f c ≤ f c0
  | 0 => ⟨i, Nat.le_refl _, by omega, fun c h1 h2 => by
      have : c = i := by omega
      rw [this]
      exact Nat.le_refl _⟩
  | d + 1 => by
    obtain ⟨c0, h1, h2, h3⟩ := ma_max f i d
    by_cases q : f (i + d + 1) ≤ f c0
    · refine ⟨c0, h1, by omega, fun c q1 q2 => ?_⟩
      by_cases e : c = i + d + 1
      · rw [e]; exact q
      · exact h3 c q1 (by omega)
    · refine ⟨i + d + 1, by omega, by omega, fun c q1 q2 => ?_⟩
      by_cases e : c = i + d + 1
      · rw [e]; exact Nat.le_refl _
      · have := h3 c q1 (by omega)
        omega
/-- what comes and goes while the same set comes back: the greatest of them comes and goes -/
theorem ma_cycle {out : Nat → Nat → Prop} {en le : Nat → Nat} {i j : Nat} (hij : i < j) (h1 : ∀ c, i ≤ c → c < j → out c (en c)) (h2 : ∀ c, i ≤ c → c < j → ¬ out c (le c)) (h3 : ∀ c, i ≤ c → c < j → ∀ v, out (c + 1) v ↔ (out c v ∧ v ≠ en c) ∨ v = le c) (he : ∀ v, out i v ↔ out j v) :
    ∃ t x y, i ≤ x ∧ x < j ∧ i ≤ y ∧ y < j ∧ le x = t ∧ en y = t ∧ (∀ c, i ≤ c → c < j → en c ≤ t ∧ le c ≤ t) ∧ (∀ v, t < v → ∀ c c', i ≤ c → c ≤ j → i ≤ c' → c' ≤ j → (out c v → out c' v)) := by
  obtain ⟨c0, q1, q2, q3⟩ := ma_max (fun c => max (en c) (le c)) i (j - i - 1)
  have q2' : c0 < j := by omega
  have q3' : ∀ c, i ≤ c → c < j → en c ≤ max (en c0) (le c0) ∧ le c ≤ max (en c0) (le c0) := by
    intro c g1 g2
    have this : max (en c) (le c) ≤ max (en c0) (le c0) := q3 c g1 (by omega)
    omega
  have hconst : ∀ v, max (en c0) (le c0) < v → ∀ c c', i ≤ c → c ≤ j → i ≤ c' → c' ≤ j → (out c v → out c' v) := by
    intro v hv
    have st : ∀ c, i ≤ c → c < j → (out c v ↔ out (c + 1) v) := by
      intro c g1 g2
      have g3 := q3' c g1 g2
      rw [h3 c g1 g2 v]
      constructor
      · intro g; exact Or.inl ⟨g, by omega⟩
      · intro g
        rcases g with g | g
        · exact g.1
        · omega
    have up : ∀ c, i ≤ c → c ≤ j → (out c v ↔ out i v) := by
      intro c g1 g2
      constructor
      · intro g
        apply Classical.byContradiction
        intro hn
        exact ma_mono (P := fun c => ¬ out c v) (i := i) (j := j) (fun c a1 a2 a3 a4 => a3 ((st c a1 a2).mpr a4)) c i (Nat.le_refl _) g1 g2 hn g
      · intro g
        exact ma_mono (P := fun c => out c v) (i := i) (j := j) (fun c a1 a2 a3 => (st c a1 a2).mp a3) c i (Nat.le_refl _) g1 g2 g
    intro c c' g1 g2 g3 g4 g
    exact (up c' g3 g4).mpr ((up c g1 g2).mp g)
  by_cases hm : le c0 ≤ en c0
  · have et : max (en c0) (le c0) = en c0 := by omega
    rw [et] at q3' hconst
    by_cases hx : ∃ x, i ≤ x ∧ x < j ∧ le x = en c0
    · obtain ⟨x, g1, g2, g3⟩ := hx
      exact ⟨en c0, x, c0, g1, g2, q1, q2', g3, rfl, q3', hconst⟩
    · exfalso
      have st : ∀ c, i ≤ c → c < j → ¬ out c (en c0) → ¬ out (c + 1) (en c0) := by
        intro c g1 g2 g3 g4
        rcases (h3 c g1 g2 _).mp g4 with g | g
        · exact g3 g.1
        · exact hx ⟨c, g1, g2, g.symm⟩
      have n1 : ¬ out (c0 + 1) (en c0) := by
        intro g4
        rcases (h3 c0 q1 q2' _).mp g4 with g | g
        · exact g.2 rfl
        · exact hx ⟨c0, q1, q2', g.symm⟩
      have n2 : ¬ out j (en c0) := ma_mono st j (c0 + 1) (by omega) (by omega) (Nat.le_refl _) n1
      have n3 : out i (en c0) := by
        apply Classical.byContradiction
        intro hn
        exact ma_mono st c0 i (Nat.le_refl _) q1 (by omega) hn (h1 c0 q1 q2')
      exact n2 ((he _).mp n3)
  · have et : max (en c0) (le c0) = le c0 := by omega
    rw [et] at q3' hconst
    by_cases hx : ∃ x, i ≤ x ∧ x < j ∧ en x = le c0
    · obtain ⟨x, g1, g2, g3⟩ := hx
      exact ⟨le c0, c0, x, q1, q2', g1, g2, rfl, g3, q3', hconst⟩
    · exfalso
      have st : ∀ c, i ≤ c → c < j → out c (le c0) → out (c + 1) (le c0) := by
        intro c g1 g2 g3
        exact (h3 c g1 g2 _).mpr (Or.inl ⟨g3, fun q => hx ⟨c, g1, g2, q.symm⟩⟩)
      have n1 : out (c0 + 1) (le c0) := (h3 c0 q1 q2' _).mpr (Or.inr rfl)
      have n2 : out j (le c0) := ma_mono st j (c0 + 1) (by omega) (by omega) (Nat.le_refl _) n1
      have n3 : ¬ out i (le c0) := fun g => h2 c0 q1 q2' (ma_mono st c0 i (Nat.le_refl _) q1 (by omega) g)
      exact n3 ((he _).mpr n2)
/-- a dictionary: u times every row is told by the six rows o, by the numbers k -/
def ma_LP (u : Int) (k : Nat → (Nat → Int) → Int) (o : Nat → Nat → Int) : Prop := 0 < u ∧ (∀ v Y : Nat → Int, u * ma_dot v Y = ma_sm (fun s => k s v * ma_dot (o s) Y) 6) ∧ (∀ s, s < 6 → ∀ v, ma_dot v (fun i => k s (ma_e i)) = k s v) ∧ (∀ s s', s < 6 → s' < 6 → k s (o s') = if s' = s then u else 0)
def ma_o (n : Nat) (V : Nat → Nat → Int) (O : Nat → Nat) : Nat → Nat → Int := fun s => if s < n then V (O s) else ma_e s
theorem ma_o_in {n : Nat} {V : Nat → Nat → Int} {O : Nat → Nat} {s : Nat} (h : s < n) : ma_o n V O s = V (O s) := if_pos h
theorem ma_o_out {n : Nat} {V : Nat → Nat → Int} {O : Nat → Nat} {s : Nat} (h : n ≤ s) : ma_o n V O s = ma_e s := if_neg (by omega)
theorem ma_sm_le {f : Nat → Int} : ∀ {n : Nat}, (∀ i, i < n → f i ≤ 0) → ma_sm f n ≤ 0
  | 0, _ => by simp [ma_sm]
  | n + 1, h => by
    have h1 := ma_sm_le (n := n) (fun i hi => h i (by omega))
    have h2 := h n (by omega)
    show ma_sm f n + f n ≤ 0
    omega
theorem ma_sm_lt {f : Nat → Int} {k : Nat} : ∀ {n : Nat}, (∀ i, i < n → f i ≤ 0) → k < n → f k < 0 → ma_sm f n < 0
  | 0, _, hk, _ => by omega
  | n + 1, h, hk, hf => by
    show ma_sm f n + f n < 0
    have h2 := h n (by omega)
    by_cases e : k = n
    · subst e
      have h1 := ma_sm_le (n := k) (fun i hi => h i (by omega))
      omega
    · have := ma_sm_lt (n := n) (fun i hi => h i (by omega)) (by omega) hf
      omega
theorem ma_np {x y : Int} (hx : x ≤ 0) (hy : 0 ≤ y) : x * y ≤ 0 := Int.mul_nonpos_of_nonpos_of_nonneg hx hy
theorem ma_dual {n : Nat} (hn : n ≤ 5) {V : Nat → Nat → Int} {ua ub : Int} {ka kb : Nat → (Nat → Int) → Int} {Oa Ob : Nat → Nat} (La : ma_LP ua ka (ma_o n V Oa)) (Lb : ma_LP ub kb (ma_o n V Ob)) {t u0 sb : Nat} (h1 : ka 5 (V t) < 0) (h2 : ∀ j, j < t → 0 ≤ ka 5 (V j)) (hu : u0 < t) (h3 : kb 5 (V u0) < 0) (hsb : sb < n) (hO : Ob sb = t) (h4 : 0 < kb sb (V u0)) (h5 : ∀ s, s < n → Ob s < t → kb s (V u0) ≤ 0) (h6 : ∀ s, s < n → t < Ob s → ka 5 (V (Ob s)) = 0) : False := by
  have h := Lb.2.1 (V u0) (fun i => ka 5 (ma_e i))
  rw [La.2.2.1 5 (by decide)] at h
  have hneg : ma_sm (fun s => kb s (V u0) * ma_dot (ma_o n V Ob s) (fun i => ka 5 (ma_e i))) 6 < 0 := by
    have hz : ∀ s, n ≤ s → s < 6 → ka 5 (ma_e s) = if s = 5 then ua else 0 := by
      intro s q1 q2
      have := La.2.2.2 5 s (by decide) q2
      rw [ma_o_out q1] at this
      exact this
    refine ma_sm_lt (k := 5) (fun s hs => ?_) (by decide) ?_
    · show kb s (V u0) * ma_dot (ma_o n V Ob s) (fun i => ka 5 (ma_e i)) ≤ 0
      rw [La.2.2.1 5 (by decide)]
      by_cases e : s < n
      · rw [ma_o_in e]
        rcases Nat.lt_trichotomy (Ob s) t with q | q | q
        · exact ma_np (h5 s e q) (h2 _ q)
        · by_cases e2 : s = sb
          · subst e2
            rw [q]
            have := Int.mul_pos h4 (show 0 < -ka 5 (V t) by omega)
            rw [Int.mul_neg] at this
            omega
          · exfalso
            have a1 := Lb.2.2.2 s sb (by omega) (by omega)
            have a2 := Lb.2.2.2 sb sb (by omega) (by omega)
            rw [if_neg (fun q => e2 q.symm), ma_o_in hsb] at a1
            have a3 := Lb.2.2.2 s s (by omega) (by omega)
            rw [if_pos rfl, ma_o_in e, q, ← hO, a1] at a3
            have := Lb.1
            omega
        · rw [h6 s e q]
          omega
      · rw [ma_o_out (by omega), hz s (by omega) hs]
        split
        · next q =>
          subst q
          exact Int.le_of_lt (Int.mul_neg_of_neg_of_pos h3 La.1)
        · omega
    · show kb 5 (V u0) * ma_dot (ma_o n V Ob 5) (fun i => ka 5 (ma_e i)) < 0
      rw [La.2.2.1 5 (by decide), ma_o_out (by omega), hz 5 (by omega) (by decide), if_pos rfl]
      exact Int.mul_neg_of_neg_of_pos h3 La.1
  have hpos : 0 ≤ ub * ka 5 (V u0) := Int.mul_nonneg (Int.le_of_lt Lb.1) (h2 _ hu)
  omega
theorem ma_primal {n : Nat} (hn : n ≤ 5) {V : Nat → Nat → Int} {ua ub : Int} {ka kb : Nat → (Nat → Int) → Int} {Oa Ob : Nat → Nat} (La : ma_LP ua ka (ma_o n V Oa)) (Lb : ma_LP ub kb (ma_o n V Ob)) {g : Nat → Int} {t sa sb : Nat} (hsa : sa < n) (hsb : sb < n) (h1 : ka sa g < 0) (h2 : ka sa (V t) < 0) (hO : Ob sb = t) (h3 : kb sb g < 0) (h4 : ∀ s, s < n → Ob s < t → 0 ≤ kb s g * ka sa (V (Ob s))) (h5 : ∀ s, s < n → t < Ob s → ka sa (V (Ob s)) = 0) : False := by
  have h := Lb.2.1 g (fun i => ka sa (ma_e i))
  rw [La.2.2.1 sa (by omega)] at h
  have hnn : ma_sm (fun s => (-1) * (kb s g * ma_dot (ma_o n V Ob s) (fun i => ka sa (ma_e i)))) 6 ≤ 0 := by
    refine ma_sm_le (fun s hs => ?_)
    show (-1) * (kb s g * ma_dot (ma_o n V Ob s) (fun i => ka sa (ma_e i))) ≤ 0
    rw [La.2.2.1 sa (by omega)]
    by_cases e : s < n
    · rw [ma_o_in e]
      rcases Nat.lt_trichotomy (Ob s) t with q | q | q
      · have := h4 s e q
        omega
      · by_cases e2 : s = sb
        · subst e2
          rw [q]
          have := Int.mul_pos_of_neg_of_neg h3 h2
          omega
        · exfalso
          have a1 := Lb.2.2.2 s sb (by omega) (by omega)
          rw [if_neg (fun q => e2 q.symm), ma_o_in hsb] at a1
          have a3 := Lb.2.2.2 s s (by omega) (by omega)
          rw [if_pos rfl, ma_o_in e, q, ← hO, a1] at a3
          have := Lb.1
          omega
      · rw [h5 s e q]
        omega
    · have := La.2.2.2 sa s (by omega) hs
      rw [ma_o_out (by omega), if_neg (by omega)] at this
      rw [ma_o_out (by omega), this]
      omega
  rw [ma_sm_mul, ← h] at hnn
  have := Int.mul_neg_of_pos_of_neg Lb.1 h1
  omega
