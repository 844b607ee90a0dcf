/-! THE MATHEMATICS, 2: six rows that span, told by determinants, and one row put in another's place -/
def ma_e (i : Nat) : Nat → Int := fun c => if c = i then 1 else 0
def ma_dot (v Y : Nat → Int) : Int := ma_sm (fun i => v i * Y i) 6
def ma_K (o : Nat → Nat → Int) (s : Nat) (v : Nat → Int) : Int := ma_D 6 (ma_rw o s v)
def ma_sp (o : Nat → Nat → Int) : Prop := ∀ v Y : Nat → Int, ma_D 6 o * ma_dot v Y = ma_sm (fun s => ma_K o s v * ma_dot (o s) Y) 6
theorem ma_dot_e {v : Nat → Int} {c : Nat} (h : c < 6) : ma_dot v (ma_e c) = v c := by
  unfold ma_dot
  rw [ma_sm_congr (g := fun j => if j = c then v c else 0) (fun i _ => by
    unfold ma_e
    split
    · next q => rw [q]; omega
    · omega)]
  exact ma_sm_one h
theorem ma_e_dot {Y : Nat → Int} {c : Nat} (h : c < 6) : ma_dot (ma_e c) Y = Y c := by
  unfold ma_dot
  rw [ma_sm_congr (g := fun j => if j = c then Y c else 0) (fun i _ => by
    unfold ma_e
    split
    · next q => rw [q]; omega
    · omega)]
  exact ma_sm_one h
theorem ma_dot_lin {u v Y : Nat → Int} {x y : Int} : ma_dot (fun c => x * u c + y * v c) Y = x * ma_dot u Y + y * ma_dot v Y := by
  unfold ma_dot
  rw [← ma_sm_lin]
  exact ma_sm_congr (fun i _ => by grind)
theorem ma_K_congr {o : Nat → Nat → Int} {s : Nat} {u v : Nat → Int} (h : ∀ c, c < 6 → u c = v c) : ma_K o s u = ma_K o s v := by
  refine ma_D_congr 6 _ _ (fun i _ c hc => ?_)
  unfold ma_rw
  split
  · exact h c hc
  · rfl
theorem ma_K_lin {o : Nat → Nat → Int} {s : Nat} (hs : s < 6) (u v : Nat → Int) (x y : Int) : ma_K o s (fun c => x * u c + y * v c) = x * ma_K o s u + y * ma_K o s v := ma_D_lin 6 o s u v x y hs
theorem ma_K_sum {o : Nat → Nat → Int} {s : Nat} (hs : s < 6) (x : Nat → Int) (w : Nat → Nat → Int) (m : Nat) : ma_K o s (fun c => ma_sm (fun k => x k * w k c) m) = ma_sm (fun k => x k * ma_K o s (w k)) m := ma_D_sum o s hs x w m
theorem ma_K_o {o : Nat → Nat → Int} {s : Nat} : ma_K o s (o s) = ma_D 6 o := by
  unfold ma_K
  rw [ma_rw_self]
theorem ma_K_z {o : Nat → Nat → Int} {s k : Nat} (hs : s < 6) (hk : k < 6) (h : k ≠ s) : ma_K o s (o k) = 0 :=
  ma_D_eq _ k s hk hs h (fun c => by rw [ma_rw_n h, ma_rw_s])
/-- the numbers by which a row is told are found again -/
theorem ma_K_coef {o : Nat → Nat → Int} {s : Nat} (hs : s < 6) {v x : Nat → Int} (h : ∀ c, c < 6 → v c = ma_sm (fun k => x k * o k c) 6) : ma_K o s v = x s * ma_D 6 o := by
  rw [ma_K_congr h, ma_K_sum hs]
  rw [ma_sm_congr (g := fun k => if k = s then x s * ma_D 6 o else 0) (fun k hk => ?_)]
  · exact ma_sm_one hs
  · split
    · next q => rw [q, ma_K_o]
    · next q => rw [ma_K_z hs hk q]; omega
theorem ma_sp_co {o : Nat → Nat → Int} (H : ma_sp o) (v : Nat → Int) {c : Nat} (hc : c < 6) : ma_D 6 o * v c = ma_sm (fun s => ma_K o s v * o s c) 6 := by
  have := H v (ma_e c)
  rw [ma_dot_e hc] at this
  rw [this]
  exact ma_sm_congr (fun s _ => by rw [ma_dot_e hc])
theorem ma_plu {o : Nat → Nat → Int} (H : ma_sp o) (u v : Nat → Int) {s j : Nat} (hs : s < 6) (hj : j < 6) (hsj : s ≠ j) : ma_D 6 o * ma_D 6 (ma_rw (ma_rw o s u) j v) = ma_K o j v * ma_K o s u - ma_K o s v * ma_K o j u := by
  have h1 := ma_D_lin 6 (ma_rw o s u) j v v (ma_D 6 o) 0 hj
  have h2 : ma_D 6 (ma_rw (ma_rw o s u) j (fun c => ma_D 6 o * v c + 0 * v c)) = ma_D 6 (ma_rw (ma_rw o s u) j (fun c => ma_sm (fun k => ma_K o k v * o k c) 6)) := by
    refine ma_D_congr 6 _ _ (fun i _ c hc => ?_)
    by_cases e : i = j
    · subst e
      rw [ma_rw_s, ma_rw_s, ← ma_sp_co H v hc]
      omega
    · rw [ma_rw_n e, ma_rw_n e]
  rw [h2, ma_D_sum _ j hj] at h1
  have h3 : ma_sm (fun k => ma_K o k v * ma_D 6 (ma_rw (ma_rw o s u) j (o k))) 6 = ma_sm (fun k => (if k = j then ma_K o j v * ma_K o s u else 0) + (if k = s then - (ma_K o s v * ma_K o j u) else 0)) 6 := by
    refine ma_sm_congr (fun k hk => ?_)
    by_cases e1 : k = j
    · subst e1
      rw [if_pos rfl, if_neg (fun q => hsj q.symm), ma_rw_c hsj, ma_rw_self]
      show ma_K o k v * ma_K o s u = _
      omega
    · rw [if_neg e1]
      by_cases e2 : k = s
      · subst e2
        rw [if_pos rfl, ma_D_swap o k j u (o k) hk hj hsj, ma_rw_self]
        show ma_K o k v * -ma_K o j u = _
        grind
      · rw [if_neg e2, ma_D_eq _ k j hk hj e1 (fun c => by rw [ma_rw_n e1, ma_rw_n e2, ma_rw_s])]
        omega
  rw [h3, ma_sm_add, ma_sm_one hj, ma_sm_one hs] at h1
  omega
theorem ma_K_rw {o : Nat → Nat → Int} {s : Nat} {u v : Nat → Int} : ma_K (ma_rw o s u) s v = ma_K o s v := by
  unfold ma_K
  rw [ma_rw_rw]
/-- a row is put in another's place -/
theorem ma_sp_rw {o : Nat → Nat → Int} (H : ma_sp o) (h0 : ma_D 6 o ≠ 0) (u : Nat → Int) {s : Nat} (hs : s < 6) : ma_sp (ma_rw o s u) := by
  intro v Y
  have hu := H u Y
  have hv := H v Y
  have h1 : ma_D 6 o * ma_sm (fun j => ma_K (ma_rw o s u) j v * ma_dot (ma_rw o s u j) Y) 6 = ma_sm (fun j => (ma_K o s u * (ma_K o j v * ma_dot (o j) Y) + (- ma_K o s v) * (ma_K o j u * ma_dot (o j) Y)) + (if j = s then ma_K o s v * (ma_D 6 o * ma_dot u Y) else 0)) 6 := by
    rw [← ma_sm_mul]
    refine ma_sm_congr (fun j hj => ?_)
    by_cases e : j = s
    · subst e
      rw [if_pos rfl, ma_rw_s, ma_K_rw]
      generalize ma_K o j v = x1
      generalize ma_K o j u = x2
      generalize ma_dot (o j) Y = x3
      generalize ma_dot u Y = x4
      grind
    · rw [if_neg e, ma_rw_n e]
      have := ma_plu H u v hs hj (fun q => e q.symm)
      have e2 : ma_D 6 o * (ma_K (ma_rw o s u) j v * ma_dot (o j) Y) = (ma_D 6 o * ma_K (ma_rw o s u) j v) * ma_dot (o j) Y := by grind
      rw [e2]
      unfold ma_K at this ⊢
      rw [this]
      grind
  rw [ma_sm_add, ma_sm_one hs, ma_sm_lin, ← hu, ← hv] at h1
  have h2 : ma_D 6 (ma_rw o s u) = ma_K o s u := rfl
  have h3 : ma_D 6 o * (ma_D 6 (ma_rw o s u) * ma_dot v Y - ma_sm (fun j => ma_K (ma_rw o s u) j v * ma_dot (ma_rw o s u j) Y) 6) = 0 := by
    rw [Int.mul_sub, h1, h2]
    grind
  rcases Int.mul_eq_zero.mp h3 with q | q
  · exact absurd q h0
  · omega
/-- the point, or the way, that belongs to a place -/
def ma_Y (o : Nat → Nat → Int) (s : Nat) : Nat → Int := fun i => ma_K o s (ma_e i)
theorem ma_dot_Y {o : Nat → Nat → Int} {s : Nat} (hs : s < 6) (v : Nat → Int) : ma_dot v (ma_Y o s) = ma_K o s v := by
  have : ma_K o s v = ma_K o s (fun c => ma_sm (fun k => v k * ma_e k c) 6) := ma_K_congr (fun c hc => by
    rw [ma_sm_congr (g := fun k => if k = c then v c else 0) (fun k _ => by
      unfold ma_e
      by_cases q : k = c
      · rw [if_pos q.symm, if_pos q, q]; omega
      · rw [if_neg (fun h => q h.symm), if_neg q]; omega), ma_sm_one hc])
  rw [this, ma_K_sum hs]
  rfl
theorem ma_D_e : ma_D 6 ma_e = 1 := by decide +kernel
theorem ma_K_e {s : Nat} (hs : s < 6) (v : Nat → Int) : ma_K ma_e s v = v s := by
  rw [ma_K_coef (x := v) hs (fun c hc => ?_), ma_D_e]
  · omega
  · rw [ma_sm_congr (g := fun k => if k = c then v c else 0) (fun k _ => by
      unfold ma_e
      by_cases q : k = c
      · rw [if_pos q.symm, if_pos q, q]; omega
      · rw [if_neg (fun h => q h.symm), if_neg q]; omega), ma_sm_one hc]
theorem ma_sp_e : ma_sp ma_e := by
  intro v Y
  rw [ma_D_e, Int.one_mul]
  exact ma_sm_congr (fun s hs => by rw [ma_K_e hs, ma_e_dot hs])
/-- what a row of the class or of the reference keeps to -/
def ma_bd (v : Nat → Int) : Prop := (∀ c, c < 5 → (v c).natAbs ≤ 9) ∧ (v 5).natAbs ≤ 1000
theorem ma_D_big {o : Nat → Nat → Int} (h : ∀ s, s < 6 → ma_bd (o s)) : (ma_D 6 o).natAbs ≤ 42515280000 :=
  Nat.le_trans (ma_D_bK (K := 1000) 5 o (fun i hi c hc => (h i (by omega)).1 c hc) (fun i hi => (h i (by omega)).2)) (by decide)
theorem ma_D_five {o : Nat → Nat → Int} (h5 : o 5 = ma_e 5) : ma_D 6 o = ma_D 5 o := by
  show ma_sm (fun j => ma_sg j 5 * o 5 j * ma_D 5 (fun i c => o i (ma_sk j c))) 6 = _
  rw [ma_sm_congr (g := fun j => if j = 5 then ma_D 5 o else 0) (fun j hj => ?_)]
  · exact ma_sm_one (by decide)
  · rw [h5]
    by_cases e : j = 5
    · subst e
      rw [if_pos rfl]
      have q : ma_D 5 (fun i c => o i (ma_sk 5 c)) = ma_D 5 o := ma_D_congr 5 _ _ (fun i hi c hc => by
        have : ma_sk 5 c = c := if_pos hc
        rw [this])
      rw [q]
      simp [ma_sg, ma_e]
    · rw [if_neg e]
      simp [ma_e, e]
theorem ma_D_small {o : Nat → Nat → Int} (h5 : o 5 = ma_e 5) (h : ∀ s, s < 5 → ma_bd (o s)) : (ma_D 6 o).natAbs ≤ 7085880 := by
  rw [ma_D_five h5]
  exact Nat.le_trans (ma_D_b9 5 o (fun i hi c hc => (h i hi).1 c hc)) (by decide)
theorem ma_bd_e {i : Nat} : ma_bd (ma_e i) := by
  refine ⟨fun c _ => ?_, ?_⟩ <;> unfold ma_e <;> split <;> decide
