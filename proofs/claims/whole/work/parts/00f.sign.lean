/-! THE MATHEMATICS, 5: the dictionary over a denominator above 0 -/
def ma_s (o : Nat → Nat → Int) : Int := if 0 < ma_D 6 o then 1 else -1
def ma_u (o : Nat → Nat → Int) : Int := ma_s o * ma_D 6 o
def ma_k (o : Nat → Nat → Int) (s : Nat) (v : Nat → Int) : Int := ma_s o * ma_K o s v
theorem ma_s_c (o : Nat → Nat → Int) : ma_s o = 1 ∨ ma_s o = -1 := by
  unfold ma_s
  split
  · exact Or.inl rfl
  · exact Or.inr rfl
theorem ma_u_pos {o : Nat → Nat → Int} (h : ma_D 6 o ≠ 0) : 0 < ma_u o := by
  unfold ma_u ma_s
  split <;> omega
theorem ma_LP_of {o : Nat → Nat → Int} (H : ma_sp o) (h : ma_D 6 o ≠ 0) : ma_LP (ma_u o) (ma_k o) o := by
  refine ⟨ma_u_pos h, fun v Y => ?_, fun s hs v => ?_, fun s s' h1 h2 => ?_⟩
  · unfold ma_u ma_k
    rw [Int.mul_assoc, H v Y, ← ma_sm_mul]
    exact ma_sm_congr (fun s _ => by rw [Int.mul_assoc])
  · have : ma_dot v (fun i => ma_k o s (ma_e i)) = ma_s o * ma_dot v (ma_Y o s) := by
      unfold ma_dot
      rw [← ma_sm_mul]
      exact ma_sm_congr (fun i _ => by unfold ma_k ma_Y; grind)
    rw [this, ma_dot_Y hs]
    rfl
  · unfold ma_k
    by_cases e : s' = s
    · subst e
      rw [if_pos rfl, ma_K_o]
      rfl
    · rw [if_neg e, ma_K_z h1 h2 e]
      omega
theorem ma_k_lin {o : Nat → Nat → Int} {s : Nat} (hs : s < 6) (u v : Nat → Int) (x y : Int) : ma_k o s (fun c => x * u c + y * v c) = x * ma_k o s u + y * ma_k o s v := by
  unfold ma_k
  rw [ma_K_lin hs]
  grind
theorem ma_k_congr {o : Nat → Nat → Int} {s : Nat} {u v : Nat → Int} (h : ∀ c, c < 6 → u c = v c) : ma_k o s u = ma_k o s v := by
  unfold ma_k
  rw [ma_K_congr h]
def ma_t (p : Int) : Int := if 0 < p then 1 else -1
theorem ma_s_rw {o : Nat → Nat → Int} {s : Nat} {w : Nat → Int} (hp : ma_k o s w ≠ 0) : ma_s (ma_rw o s w) = ma_t (ma_k o s w) * ma_s o := by
  have e : ma_D 6 (ma_rw o s w) = ma_K o s w := rfl
  unfold ma_t ma_k at *
  rw [ma_s, e]
  rcases ma_s_c o with q | q <;> rw [q] at hp ⊢
  · rw [Int.one_mul] at hp ⊢
    split <;> rfl
  · split <;> split <;> omega
theorem ma_piv_0 {o : Nat → Nat → Int} {s : Nat} {w : Nat → Int} (hp : ma_k o s w ≠ 0) : ma_D 6 (ma_rw o s w) ≠ 0 := by
  intro h
  apply hp
  have e : ma_K o s w = 0 := h
  unfold ma_k
  rw [e, Int.mul_zero]
theorem ma_piv_u {o : Nat → Nat → Int} {s : Nat} {w : Nat → Int} (hp : ma_k o s w ≠ 0) : ma_u (ma_rw o s w) = ma_t (ma_k o s w) * ma_k o s w := by
  unfold ma_u
  rw [ma_s_rw hp, Int.mul_assoc]
  rfl
theorem ma_piv_s {o : Nat → Nat → Int} {s : Nat} {w : Nat → Int} (hp : ma_k o s w ≠ 0) (v : Nat → Int) : ma_k (ma_rw o s w) s v = ma_t (ma_k o s w) * ma_k o s v := by
  show ma_s (ma_rw o s w) * ma_K (ma_rw o s w) s v = _
  rw [ma_s_rw hp, ma_K_rw, Int.mul_assoc]
  rfl
theorem ma_piv_j {o : Nat → Nat → Int} (H : ma_sp o) {s j : Nat} {w : Nat → Int} (hs : s < 6) (hj : j < 6) (hsj : s ≠ j) (hp : ma_k o s w ≠ 0) (v : Nat → Int) : ma_u o * ma_k (ma_rw o s w) j v = ma_t (ma_k o s w) * (ma_k o j v * ma_k o s w - ma_k o s v * ma_k o j w) := by
  have h := ma_plu H w v hs hj hsj
  have e : ma_k (ma_rw o s w) j v = ma_t (ma_k o s w) * ma_s o * ma_D 6 (ma_rw (ma_rw o s w) j v) := by
    show ma_s (ma_rw o s w) * ma_K (ma_rw o s w) j v = _
    rw [ma_s_rw hp]
    rfl
  rw [e]
  unfold ma_u
  generalize ma_t (ma_k o s w) = tt
  unfold ma_k
  generalize ma_D 6 (ma_rw (ma_rw o s w) j v) = d2 at *
  generalize ma_D 6 o = d1 at *
  generalize ma_K o j v = x1 at *
  generalize ma_K o s w = x2 at *
  generalize ma_K o s v = x3 at *
  generalize ma_K o j w = x4 at *
  rcases ma_s_c o with q | q <;> rw [q] <;> grind
theorem ma_t_c (p : Int) : ma_t p = 1 ∨ ma_t p = -1 := by
  unfold ma_t
  split
  · exact Or.inl rfl
  · exact Or.inr rfl
theorem ma_k_abs (o : Nat → Nat → Int) (s : Nat) (v : Nat → Int) : (ma_k o s v).natAbs = (ma_K o s v).natAbs := by
  unfold ma_k
  rcases ma_s_c o with q | q <;> rw [q] <;> omega
theorem ma_u_abs (o : Nat → Nat → Int) : (ma_u o).natAbs = (ma_D 6 o).natAbs := by
  unfold ma_u
  rcases ma_s_c o with q | q <;> rw [q] <;> omega
theorem ma_rw_bd {o : Nat → Nat → Int} {s n : Nat} {v : Nat → Int} (h : ∀ i, i < n → ma_bd (o i)) (hv : ma_bd v) : ∀ i, i < n → ma_bd (ma_rw o s v i) := by
  intro i hi
  unfold ma_rw
  split
  · exact hv
  · exact h i hi
theorem ma_k_big {o : Nat → Nat → Int} {s : Nat} {v : Nat → Int} (h : ∀ i, i < 6 → ma_bd (o i)) (hv : ma_bd v) : (ma_k o s v).natAbs ≤ 42515280000 := by
  rw [ma_k_abs]
  exact ma_D_big (ma_rw_bd h hv)
theorem ma_k_small {o : Nat → Nat → Int} {s : Nat} {v : Nat → Int} (hs : s < 5) (h5 : o 5 = ma_e 5) (h : ∀ i, i < 6 → ma_bd (o i)) (hv : ma_bd v) : (ma_k o s v).natAbs ≤ 7085880 := by
  rw [ma_k_abs]
  exact ma_D_small (by rw [ma_rw_n (by omega), h5]) (fun i hi => ma_rw_bd (n := 6) h hv i (by omega))
theorem ma_u_small {o : Nat → Nat → Int} (h5 : o 5 = ma_e 5) (h : ∀ i, i < 6 → ma_bd (o i)) : (ma_u o).natAbs ≤ 7085880 := by
  rw [ma_u_abs]
  exact ma_D_small h5 (fun i hi => h i (by omega))
/-! numbers of 64 and 32 bits that do not run over -/
theorem ma_bm {x : Int} (h : x.natAbs ≤ 9000000000000000000) : x.bmod (2 ^ 64) = x := Int.bmod_eq_of_le (by omega) (by omega)
theorem ma_mul {x y : Int64} {p q : Int} (hx : x.toInt = p) (hy : y.toInt = q) (h : (p * q).natAbs ≤ 9000000000000000000) : (x * y).toInt = p * q := by
  rw [Int64.toInt_mul, hx, hy, ma_bm h]
theorem ma_sub {x y : Int64} {p q : Int} (hx : x.toInt = p) (hy : y.toInt = q) (h : (p - q).natAbs ≤ 9000000000000000000) : (x - y).toInt = p - q := by
  rw [Int64.toInt_sub, hx, hy, ma_bm h]
theorem ma_add {x y : Int64} {p q : Int} (hx : x.toInt = p) (hy : y.toInt = q) (h : (p + q).natAbs ≤ 9000000000000000000) : (x + y).toInt = p + q := by
  rw [Int64.toInt_add, hx, hy, ma_bm h]
theorem ma_neg {x : Int64} {p : Int} (hx : x.toInt = p) (h : p.natAbs ≤ 9000000000000000000) : (-x).toInt = -p := by
  rw [Int64.toInt_neg, hx, ma_bm (by omega)]
theorem ma_div {x y : Int64} {d z : Int} (hx : x.toInt = d * z) (hy : y.toInt = d) (hd : d ≠ 0) (h : z.natAbs ≤ 9000000000000000000) : (x / y).toInt = z := by
  rw [Int64.toInt_div, hx, hy, Int.mul_tdiv_cancel_left z hd, ma_bm h]
theorem ma_mb {x y : Int} {A B : Nat} (hx : x.natAbs ≤ A) (hy : y.natAbs ≤ B) : (x * y).natAbs ≤ A * B := by
  rw [Int.natAbs_mul]
  exact Nat.mul_le_mul hx hy
theorem ma_l0 {x : Int64} : 0 ≤ x ↔ 0 ≤ x.toInt := by rw [Int64.le_iff_toInt_le, Int64.toInt_zero]
theorem ma_l0' {x : Int64} : x ≤ 0 ↔ x.toInt ≤ 0 := by rw [Int64.le_iff_toInt_le, Int64.toInt_zero]
theorem ma_p0 {x : Int64} : 0 < x ↔ 0 < x.toInt := by rw [Int64.lt_iff_toInt_lt, Int64.toInt_zero]
theorem ma_e0 {x : Int64} : x = 0 ↔ x.toInt = 0 := by rw [← Int64.toInt_inj, Int64.toInt_zero]
