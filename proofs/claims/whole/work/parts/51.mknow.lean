/-! THE MATHEMATICS, 17: sets of rows; what the reference knows -/
theorem ma_bt_n : ∀ m, m < 256 → ∀ r, r < 8 → m_bt (nI m) r = nI (m / 2 ^ r % 2) ∧ s_bit (nI m) r = nI (m / 2 ^ r % 2 * 2 ^ r) := by decide +kernel
theorem ma_wo_n : ∀ m, m < 256 → ∀ k, k < 8 → s_wo (nI m) k = nI (m - m / 2 ^ k % 2 * 2 ^ k) := by decide +kernel
theorem ma_or_n : ∀ k, k < 8 → ∀ m, m < 2 ^ k → nI m ||| ((1 : Int32) <<< (nI k &&& 31)) = nI (m + 2 ^ k) := by decide +kernel
theorem ma_wo_b : ∀ m, m < 256 → ∀ k, k < 8 → ∀ r, r < 8 → (m - m / 2 ^ k % 2 * 2 ^ k) / 2 ^ r % 2 = if r = k then 0 else m / 2 ^ r % 2 := by decide +kernel
theorem ma_or_b : ∀ k, k < 8 → ∀ m, m < 2 ^ k → ∀ r, r < 8 → (m + 2 ^ k) / 2 ^ r % 2 = if r = k then 1 else m / 2 ^ r % 2 := by decide +kernel
theorem ma_lt_b0 : ∀ k, k < 9 → ∀ m, m < 2 ^ k → ∀ r, r < 8 → k ≤ r → m / 2 ^ r % 2 = 0 := by decide +kernel
theorem ma_lt_b (k : Nat) (hk : k < 9) (m : Nat) (hm : m < 2 ^ k) (r : Nat) (h1 : k ≤ r) (h2 : r < 8) : m / 2 ^ r % 2 = 0 := ma_lt_b0 k hk m hm r h2 h1
def ma_isS (set : Int32) : Prop := ∃ m, m < 256 ∧ set = nI m
theorem ma_S_bt {set : Int32} (h : ma_isS set) {r : Nat} (hr : r < 8) : (m_bt set r = 0 ∨ m_bt set r = 1) ∧ (s_bit set r ≠ 0 ↔ m_bt set r ≠ 0) := by
  obtain ⟨m, h1, rfl⟩ := h
  obtain ⟨e1, e2⟩ := ma_bt_n m h1 r hr
  rw [e1, e2]
  have hp : 1 ≤ 2 ^ r := Nat.pos_of_ne_zero (by exact Nat.ne_of_gt (Nat.pow_pos (by decide)))
  have hp2 : 2 ^ r ≤ 128 := Nat.pow_le_pow_right (n := 2) (by decide) (show r ≤ 7 by omega)
  rcases Nat.mod_two_eq_zero_or_one (m / 2 ^ r) with q | q
  · rw [q, Nat.zero_mul]
    exact ⟨Or.inl rfl, Iff.rfl⟩
  · rw [q, Nat.one_mul]
    exact ⟨Or.inr rfl, ⟨fun _ => by decide, fun _ => nI_ne0 (by omega) (by omega)⟩⟩
theorem ma_S_wo {set : Int32} (h : ma_isS set) {k : Nat} (hk : k < 8) : ma_isS (s_wo set k) ∧ (∀ r, r < 8 → (m_bt (s_wo set k) r ≠ 0 ↔ (m_bt set r ≠ 0 ∧ r ≠ k))) ∧ (s_wo set k = set ↔ m_bt set k = 0) := by
  obtain ⟨m, h1, rfl⟩ := h
  have e := ma_wo_n m h1 k hk
  have h2 : m - m / 2 ^ k % 2 * 2 ^ k < 256 := by omega
  rw [e]
  refine ⟨⟨_, h2, rfl⟩, fun r hr => ?_, ?_⟩
  · rw [(ma_bt_n _ h2 r hr).1, (ma_bt_n m h1 r hr).1, ma_wo_b m h1 k hk r hr]
    by_cases q : r = k
    · rw [if_pos q]
      exact ⟨fun w => absurd rfl w, fun w => absurd q w.2⟩
    · rw [if_neg q]
      exact ⟨fun w => ⟨w, q⟩, fun w => w.1⟩
  · rw [(ma_bt_n m h1 k hk).1, nI_eq (by omega) (by omega)]
    have hp : 1 ≤ 2 ^ k := Nat.pos_of_ne_zero (by exact Nat.ne_of_gt (Nat.pow_pos (by decide)))
    have hle : m / 2 ^ k % 2 * 2 ^ k ≤ m := Nat.le_trans (Nat.mul_le_mul_right _ (Nat.mod_le _ _)) (Nat.div_mul_le_self m (2 ^ k))
    rcases Nat.mod_two_eq_zero_or_one (m / 2 ^ k) with q | q
    · rw [q]
      exact ⟨fun _ => rfl, fun _ => by omega⟩
    · rw [q] at hle ⊢
      refine ⟨fun w => ?_, fun w => absurd w (by decide)⟩
      exfalso
      omega
theorem ma_S_all {a : gF} : ∀ n, n ≤ 8 → ∃ m, m < 2 ^ n ∧ m_all a n = nI m ∧ ∀ r, r < n → (m / 2 ^ r % 2 ≠ 0 ↔ a 33 r ≠ 0)
  | 0, _ => ⟨0, by decide, rfl, fun r h => by omega⟩
  | n + 1, hn => by
    obtain ⟨m, h1, h2, h3⟩ := ma_S_all (a := a) n (by omega)
    have e : m_all a (n + 1) = if a 33 n = 0 then m_all a n ||| 0 else m_all a n ||| ((1 : Int32) <<< (nI n &&& 31)) := rfl
    have hpow : 2 ^ (n + 1) = 2 ^ n * 2 := Nat.pow_succ ..
    by_cases h : a 33 n = 0
    · refine ⟨m, by omega, by rw [e, if_pos h, Int32.or_zero, h2], fun r hr => ?_⟩
      by_cases q : r = n
      · rw [q, ma_lt_b n (by omega) m h1 n (Nat.le_refl _) (by omega)]
        exact ⟨fun w => absurd rfl w, fun w => absurd h w⟩
      · exact h3 r (by omega)
    · refine ⟨m + 2 ^ n, by omega, by rw [e, if_neg h, h2, ma_or_n n (by omega) m h1], fun r hr => ?_⟩
      rw [ma_or_b n (by omega) m h1 r (by omega)]
      by_cases q : r = n
      · rw [if_pos q, q]
        exact ⟨fun _ => h, fun _ => by decide⟩
      · rw [if_neg q]
        exact h3 r (by omega)
theorem ma_all_S {a : gF} {mr : Nat} (hmr : mr ≤ 8) : ma_isS (m_all a mr) ∧ (∀ r, r < 8 → (m_bt (m_all a mr) r ≠ 0 ↔ (r < mr ∧ a 33 r ≠ 0))) := by
  obtain ⟨m, h1, h2, h3⟩ := ma_S_all (a := a) mr hmr
  have hp : 2 ^ mr ≤ 256 := Nat.pow_le_pow_right (n := 2) (by decide) hmr
  refine ⟨⟨m, by omega, h2⟩, fun r hr => ?_⟩
  rw [h2, (ma_bt_n m (by omega) r hr).1]
  have e : nI (m / 2 ^ r % 2) ≠ 0 ↔ m / 2 ^ r % 2 ≠ 0 := by
    rcases Nat.mod_two_eq_zero_or_one (m / 2 ^ r) with q | q
    · rw [q]; exact ⟨fun w => absurd rfl w, fun w => absurd rfl w⟩
    · rw [q]; exact ⟨fun _ => by decide, fun _ => by decide⟩
  rw [e]
  by_cases q : r < mr
  · rw [h3 r q]
    exact ⟨fun w => ⟨q, w⟩, fun w => w.2⟩
  · rw [ma_lt_b mr (by omega) m h1 r (by omega) hr]
    exact ⟨fun w => absurd rfl w, fun w => absurd w.1 q⟩
/-- where there is a point there is a corner -/
def ma_ac (a : gF) : gF := fun k j => if k = 6 then a 27 j else if k = 7 then a 28 j else if k = 8 then a 29 j else if k = 9 then a 30 j else if k = 10 then a 31 j else a 32 (5 * (k - 40) + j)
theorem ma_ac_f (a : gF) : ma_ci (ma_ac a) 6 = ma_ci a 27 ∧ ma_ci (ma_ac a) 7 = ma_ci a 28 ∧ ma_ci (ma_ac a) 9 = ma_ci a 30 ∧ ma_ci (ma_ac a) 10 = ma_ci a 31 ∧ ma_fa (ma_ac a) = ma_fm2 a := by
  refine ⟨rfl, rfl, rfl, rfl, ?_⟩
  funext r i
  show (ma_ac a (40 + r) i).toInt = (a 32 (5 * r + i)).toInt
  unfold ma_ac
  rw [if_neg (by omega), if_neg (by omega), if_neg (by omega), if_neg (by omega), if_neg (by omega), Nat.add_sub_cancel_left]
theorem ma_fs_R {nn nr : Nat} {lo hi se ri : Nat → Int} {fa : Nat → Nat → Int} {R R' : Nat → Prop} {X : Nat → Int} (h : ∀ r, r < nr → (R r ↔ R' r)) : ma_fs nn nr lo hi se ri fa R X ↔ ma_fs nn nr lo hi se ri fa R' X :=
  ⟨fun w => ⟨w.1, fun r hr hR => w.2 r hr ((h r hr).mpr hR)⟩, fun w => ⟨w.1, fun r hr hR => w.2 r hr ((h r hr).mp hR)⟩⟩
theorem ma_th_R {nn nr : Nat} {R R' : Nat → Prop} {c : Nat} (h : ∀ r, r < nr → (R r ↔ R' r)) : ma_th nn nr R c ↔ ma_th nn nr R' c :=
  ⟨fun w => ⟨w.1, fun q => ⟨(w.2.1 q).1, (h c (w.2.1 q).1).mp (w.2.1 q).2⟩, w.2.2⟩, fun w => ⟨w.1, fun q => ⟨(w.2.1 q).1, (h c (w.2.1 q).1).mpr (w.2.1 q).2⟩, w.2.2⟩⟩
theorem ma_exc {mn mr : Nat} {a : gF} {set : Int32} (hd : ma_datM mn mr a) (hS : ma_isS set) (h : ∃ X, ma_FE mn mr a set X) : ∃ t X, ma_FE mn mr a set X ∧ ma_cor mn (ma_CM mn a) (ma_TH mn mr set) t X := by
  obtain ⟨e6, e7, e9, e10, ef⟩ := ma_ac_f a
  have hd' : ma_dat mn mr (ma_ac a) := by
    obtain ⟨d1, d2, d3, d4⟩ := hd
    refine ⟨d1, d2, fun i hi => d3 i hi, fun r hr => ⟨(d4 r hr).1, (d4 r hr).2.1, fun i hi => ?_⟩⟩
    have := congrFun (congrFun ef r) i
    have this : (ma_ac a (40 + r) i).toInt = (a 32 (5 * r + i)).toInt := this
    rw [this]
    exact (d4 r hr).2.2 i hi
  have hR : ∀ r, r < mr → (s_bit set r ≠ 0 ↔ m_bt set r ≠ 0) := fun r hr => (ma_S_bt hS (by have := hd.2.1; omega)).2
  obtain ⟨V, C, D, -, K⟩ := ma_keep (I := fun _ _ => 0) (J := fun _ _ => 0) (b := fun _ _ => 0) (n := 65780) (set := set) hd' (Nat.le_refl _)
  rcases K with ⟨⟨-, fe⟩, -⟩ | ⟨-, no⟩
  · have Y := ma_yes D C fe
    obtain ⟨t, T⟩ := ma_corner D C
    rw [e6, e7, e9, e10, ef] at Y
    rw [e6, e7, e10, ef] at T
    refine ⟨t, _, (ma_fs_R hR).mp Y, fun i hi => (ma_th_R hR).mp (T.1 i hi), T.2⟩
  · exfalso
    obtain ⟨X, hX⟩ := h
    refine no X ?_
    rw [e6, e7, e9, e10, ef]
    exact (ma_fs_R hR).mpr hX
theorem ma_corners {mn mr : Nat} {set al : Int32} {x : gS} (hd : ma_datM mn mr x.2.2.1) (hI : x.1 5 0 = nI mn) (hS : ma_isS set) (hs : ∀ r, r < 8 → m_bt set r ≠ 0 → r < mr) (ha : al ≠ 0 → x.1 5 24 = 0) : ma_CP mn mr set al x (m_corners x set al mn mr) := by
  have hb : ∀ r, r < 8 → m_bt set r = 0 ∨ m_bt set r = 1 := fun r hr => (ma_S_bt hS hr).1
  have hmn := hd.1
  unfold m_corners
  by_cases h0 : mn = 0
  · subst h0
    rw [if_pos (show x.1 5 0 = 0 from hI)]
    unfold m_c0
    have u1 : (gU x.2.1 5 23 1 5 23).toInt = 1 := by rw [gU_s]; rfl
    obtain ⟨E1, E2, E3, E4⟩ := ma_a88 (a := gU x.2.2.1 88 0 (-1)) (a0 := x.2.2.1) (fun k j h => gU_n (by omega)) 0 mr set
    obtain ⟨k0, k1⟩ := ma_mkeeps (J := gU x.2.1 5 23 1) (a := gU x.2.2.1 88 0 (-1)) (b := x.2.2.2) (mn := 0) (mr := mr) (set := set) (E3.mpr hd) (by rw [u1]; decide) (by rw [u1]; decide) (fun i hi => by omega)
    have k1 : m_keeps (gU x.2.1 5 23 1) (gU x.2.2.1 88 0 (-1)) x.2.2.2 set 0 mr = 1 ↔ ma_FE 0 mr x.2.2.1 set (ma_mX (gU x.2.1 5 23 1) x.2.2.2 0) := by rw [k1]; exact Iff.of_eq (congrFun E2 _)
    have fr : ma_fr4 x (x.1, gU x.2.1 5 23 1, gU x.2.2.1 88 0 (-1), x.2.2.2) := ⟨fun _ _ _ => rfl, fun k j h => gU_n (by omega), fun k j h => gU_n (by omega), fun _ _ _ _ _ => rfl⟩
    have hp : ∀ X, ma_FE 0 mr x.2.2.1 set X → ma_eq X (ma_mX (gU x.2.1 5 23 1) x.2.2.2 0) ∧ ma_FE 0 mr x.2.2.1 set (ma_mX (gU x.2.1 5 23 1) x.2.2.2 0) := by
      intro X hX
      have he : ma_eq X (ma_mX (gU x.2.1 5 23 1) x.2.2.2 0) := fun i hi => by
        rw [hX.1.2.1 i (by omega) hi, ma_mX_z i (by omega) hi]
        omega
      exact ⟨he, ma_fs_eq hmn he hX (by rw [ma_mX_5, u1]; decide) ma_mX_z⟩
    by_cases hk : m_keeps (gU x.2.1 5 23 1) (gU x.2.2.1 88 0 (-1)) x.2.2.2 set 0 mr = 0
    · rw [if_pos hk]
      have no : ∀ X, ¬ ma_FE 0 mr x.2.2.1 set X := fun X hX => by
        have := k1.mpr (hp X hX).2
        rw [hk] at this
        exact absurd this (by decide)
      refine ⟨fr, k0, fun _ => Or.inr ⟨hk, fun t X hX => absurd hX (no X)⟩, fun w => ⟨fun _ => False, ⟨fun q => absurd hk q, fun ⟨X, q⟩ => q.elim⟩, fun X q => q.elim, ⟨fun X q => q.elim, Or.inl ⟨ha w, fun X q => q⟩⟩, fun t X hX => absurd hX (no X)⟩⟩
    · rw [if_neg hk]
      have hk1 := k0.resolve_left hk
      have fe := k1.mp hk1
      by_cases hal : al = 0
      · rw [if_pos hal]
        exact ⟨fr, k0, fun _ => Or.inl ⟨hk1, _, fe⟩, fun w => absurd hal w⟩
      · rw [if_neg hal]
        obtain ⟨tJ, tB⟩ := ma_take_f (I := x.1) (J := gU x.2.1 5 23 1) (a := gU x.2.2.1 88 0 (-1)) (b := x.2.2.2) (mn := 0) hmn
        refine ⟨ma_fr4_t fr ⟨fun k j h => gU_n (by omega), fun k j h => tJ k j (by omega), fun _ _ _ => rfl, fun k j h1 _ _ => tB k j h1⟩, k0, fun w => absurd w hal, fun w => ⟨fun Y => False ∨ Y = ma_mX (gU x.2.1 5 23 1) x.2.2.2 0, ⟨fun _ => ⟨_, Or.inr rfl⟩, fun _ => hk⟩, fun X q => ?_, ?_, fun t X hX _ => ⟨_, Or.inr rfl, (hp X hX).1⟩⟩⟩
        · rcases q with q | q
          · exact q.elim
          · rw [q]; exact fe
        · have A : ma_Acc 0 (ma_ci (gU x.2.2.1 88 0 (-1)) 29) (fun _ => False) x.1 (gU x.2.1 5 23 1) x.2.2.2 := ⟨fun X q => q.elim, Or.inl ⟨ha w, fun X q => q⟩⟩
          have := ma_take (a := gU x.2.2.1 88 0 (-1)) hmn (fun i hi => by omega) A (ma_sb_of hd fe (by rw [ma_mX_5, u1]; decide)) (fun Y => Iff.rfl)
          rw [E4] at this
          exact this
  · rw [if_neg (by rw [hI]; exact nI_ne0 (by omega) (by omega))]
    unfold m_cc
    have q0 : gU x.2.2.1 88 0 (-1) 88 0 + 1 = nI 0 := by rw [gU_s]; rfl
    have hmu : m_mu (gU x.2.2.1 88 0 (-1)) 1 < mCF := by
      have := ma_mu_s q0 (by decide)
      rw [this]
      show 0 + (19 - 0) * 20 ^ (5 - 0) < 1000000000000
      decide
    generalize mCF = fuel at hmu
    have fr : ma_fr4 x (x.1, x.2.1, gU x.2.2.1 88 0 (-1), x.2.2.2) := ⟨fun _ _ _ => rfl, fun _ _ _ => rfl, fun k j h => gU_n (by omega), fun _ _ _ _ _ => rfl⟩
    refine ma_corL hd hI (by omega) hs hb fuel 1 0 (x.1, x.2.1, gU x.2.2.1 88 0 (-1), x.2.2.2) (fun _ => False) hmu ⟨fr, by omega, fun i h => by omega, fun d h => ?_, Or.inl rfl, ⟨fun q => absurd rfl q, fun ⟨X, q⟩ => q.elim⟩, fun X q => q.elim, fun _ X q => q, fun w => ⟨fun X q => q.elim, Or.inl ⟨ha w, fun X q => q⟩⟩, fun t ht => absurd ⟨0, by omega, fun i h => by omega, 0, q0, by omega, by omega⟩ ht⟩
    have : d = 0 := by omega
    rw [this]
    exact ⟨0, q0, by omega⟩
theorem ma_corners0 {mn mr : Nat} {set : Int32} {x : gS} (hd : ma_datM mn mr x.2.2.1) (hI : x.1 5 0 = nI mn) (hS : ma_isS set) (hs : ∀ r, r < 8 → m_bt set r ≠ 0 → r < mr) : ma_fr4 x (m_corners x set 0 mn mr).2 ∧ ((m_corners x set 0 mn mr).1 ≠ 0 ↔ ∃ X, ma_FE mn mr x.2.2.1 set X) := by
  obtain ⟨c1, c2, c3, -⟩ := ma_corners (al := 0) hd hI hS hs (fun w => absurd rfl w)
  refine ⟨c1, ?_⟩
  rcases c3 rfl with ⟨q1, q2⟩ | ⟨q1, q2⟩
  · exact ⟨fun _ => q2, fun _ => by rw [q1]; decide⟩
  · refine ⟨fun w => absurd q1 w, fun w => ?_⟩
    obtain ⟨t, X, h1, h2⟩ := ma_exc hd hS w
    exact absurd h2 (q2 t X h1)
/-- rows are left out while there is still no point -/
noncomputable def ma_gr (Fe : Int32 → Prop) : Nat → Int32 → Int32
  | 0, s => s
  | k + 1, s => @ite _ (m_bt s k ≠ 0 ∧ ¬ Fe (s_wo s k)) (Classical.propDecidable _) (ma_gr Fe k (s_wo s k)) (ma_gr Fe k s)
theorem ma_gr_y {Fe : Int32 → Prop} {k : Nat} {s : Int32} (h : m_bt s k ≠ 0 ∧ ¬ Fe (s_wo s k)) : ma_gr Fe (k + 1) s = ma_gr Fe k (s_wo s k) := @if_pos _ (Classical.propDecidable _) h _ _ _
theorem ma_gr_n {Fe : Int32 → Prop} {k : Nat} {s : Int32} (h : ¬ (m_bt s k ≠ 0 ∧ ¬ Fe (s_wo s k))) : ma_gr Fe (k + 1) s = ma_gr Fe k s := @if_neg _ (Classical.propDecidable _) h _ _ _
def ma_Fe (mn mr : Nat) (a : gF) : Int32 → Prop := fun set => ∃ X, ma_FE mn mr a set X
theorem ma_kn0 {mn mr : Nat} {x0 : gS} (hd : ma_datM mn mr x0.2.2.1) (hI : x0.1 5 0 = nI mn) (hh : x0.1 5 10 = 0) : ∀ k, k ≤ 8 → ∀ set x, ma_fr4 x0 x → ma_isS set → (∀ r, r < 8 → m_bt set r ≠ 0 → r < mr) → ma_fr4 x0 (m_kn mn mr k (set, x)).2 ∧ (m_kn mn mr k (set, x)).1 = ma_gr (ma_Fe mn mr x0.2.2.1) k set
  | 0, _, set, x, hf, _, _ => ⟨hf, rfl⟩
  | k + 1, hk, set, x, hf, hS, hs => by
    have e : m_kn mn mr (k + 1) (set, x) = if x.1 5 10 = 0 then if m_bt set k = 1 then if (m_corners x (s_wo set k) 0 mn mr).1 = 0 then m_kn mn mr k (s_wo set k, (m_corners x (s_wo set k) 0 mn mr).2) else m_kn mn mr k (set, (m_corners x (s_wo set k) 0 mn mr).2) else m_kn mn mr k (set, x) else (set, x) := rfl
    have h10 : x.1 5 10 = 0 := by rw [hf.1 5 10 (by omega)]; exact hh
    rw [e, if_pos h10]
    obtain ⟨b0, -⟩ := ma_S_bt hS (show k < 8 by omega)
    by_cases hb : m_bt set k = 1
    · rw [if_pos hb]
      have hbn : m_bt set k ≠ 0 := by rw [hb]; decide
      obtain ⟨w1, w2, w3⟩ := ma_S_wo hS (show k < 8 by omega)
      have hs' : ∀ r, r < 8 → m_bt (s_wo set k) r ≠ 0 → r < mr := fun r hr h => hs r hr ((w2 r hr).mp h).1
      obtain ⟨E1, E2, E3, E4⟩ := ma_a88 hf.2.2.1 mn mr (s_wo set k)
      obtain ⟨c1, c2⟩ := ma_corners0 (E3.mpr hd) (by rw [hf.1 5 0 (by omega)]; exact hI) w1 hs'
      rw [E2] at c2
      have hf' := ma_fr4_t hf c1
      by_cases hc : (m_corners x (s_wo set k) 0 mn mr).1 = 0
      · rw [if_pos hc]
        have := ma_kn0 hd hI hh k (by omega) (s_wo set k) _ hf' w1 hs'
        rw [ma_gr_y ⟨hbn, fun w => c2.mpr w hc⟩]
        exact this
      · rw [if_neg hc]
        have := ma_kn0 hd hI hh k (by omega) set _ hf' hS hs
        rw [ma_gr_n (fun w => w.2 (c2.mp hc))]
        exact this
    · rw [if_neg hb]
      have := ma_kn0 hd hI hh k (by omega) set x hf hS hs
      rw [ma_gr_n (fun w => w.1 (b0.resolve_right hb))]
      exact this
theorem ma_gr_S {Fe : Int32 → Prop} : ∀ k, k ≤ 8 → ∀ set, ma_isS set → ma_isS (ma_gr Fe k set)
  | 0, _, _, h => h
  | k + 1, hk, set, h => by
    by_cases q : m_bt set k ≠ 0 ∧ ¬ Fe (s_wo set k)
    · rw [ma_gr_y q]
      exact ma_gr_S k (by omega) _ (ma_S_wo h (by omega)).1
    · rw [ma_gr_n q]
      exact ma_gr_S k (by omega) _ h
theorem ma_ib {I a : gF} {set : Int32} (hS : ma_isS set) : ∀ n, n ≤ 8 → ∀ K j, m_ib I a set n K j = if K = 39 ∧ j < n then (if I 5 10 = 0 then (if m_bt set j = 1 then 1 else 0) else 0) else a K j
  | 0, _, K, j => by
    rw [if_neg (by omega)]
    rfl
  | n + 1, hn, K, j => by
    have e : m_ib I a set (n + 1) = gU (m_ib I a set n) 39 n (if I 5 10 = 0 then (if m_bt set n = 1 then 1 else 0) else 0) := by
      show (if I 5 10 = 0 then if m_bt set n = 1 then gU (m_ib I a set n) 39 n 1 else gU (m_ib I a set n) 39 n 0 else gU (m_ib I a set n) 39 n 0) = _
      split
      · split <;> rfl
      · rfl
    rw [e]
    by_cases h : K = 39 ∧ j = n
    · obtain ⟨rfl, rfl⟩ := h
      rw [gU_s, if_pos (show 39 = 39 ∧ j < j + 1 by omega)]
    · rw [gU_n (by omega), ma_ib hS n (by omega)]
      by_cases h2 : K = 39 ∧ j < n
      · rw [if_pos h2, if_pos (show K = 39 ∧ j < n + 1 by omega)]
      · rw [if_neg h2, if_neg (show ¬ (K = 39 ∧ j < n + 1) by omega)]
/-- what the reference holds once it knows -/
def ma_KN (mn mr : Nat) (x : gS) : Prop := ∃ S : (Nat → Int) → Prop, (x.1 5 10 ≠ 0 ↔ ∃ X, S X) ∧ (∀ X, S X → ma_FE mn mr x.2.2.1 (m_all x.2.2.1 mr) X) ∧ (x.1 5 10 ≠ 0 → ma_Acc mn (ma_ci x.2.2.1 29) S x.1 x.2.1 x.2.2.2) ∧ (∀ t X, ma_FE mn mr x.2.2.1 (m_all x.2.2.1 mr) X → ma_cor mn (ma_CM mn x.2.2.1) (ma_TH mn mr (m_all x.2.2.1 mr)) t X → ∃ Y, S Y ∧ ma_eq X Y) ∧ (x.1 5 10 = 0 → ∀ r, r < 8 → (x.2.2.1 39 r ≠ 0 ↔ m_bt (ma_gr (ma_Fe mn mr x.2.2.1) 8 (m_all x.2.2.1 mr)) r ≠ 0))
/-- what know may change -/
def ma_fr5 (x y : gS) : Prop := (∀ k j, ¬ (k = 5 ∧ (j = 9 ∨ j = 10 ∨ j = 24)) → y.1 k j = x.1 k j) ∧ (∀ k j, ¬ (k = 5 ∧ (j = 11 ∨ j = 12 ∨ j = 14 ∨ j = 23)) → y.2.1 k j = x.2.1 k j) ∧ (∀ k j, k ≠ 88 → k ≠ 39 → y.2.2.1 k j = x.2.2.1 k j) ∧ (∀ k j, (k < 34 ∨ 38 < k) → k ≠ 87 → k ≠ 89 → y.2.2.2 k j = x.2.2.2 k j)
theorem ma_all_c {a a' : gF} (h : ∀ r, a' 33 r = a 33 r) : ∀ n, m_all a' n = m_all a n
  | 0 => rfl
  | n + 1 => by
    show (if a' 33 n = 0 then m_all a' n ||| 0 else m_all a' n ||| ((1 : Int32) <<< (nI n &&& 31))) = (if a 33 n = 0 then m_all a n ||| 0 else m_all a n ||| ((1 : Int32) <<< (nI n &&& 31)))
    rw [ma_all_c h n, h n]
theorem ma_know {mn mr : Nat} {x : gS} (hd : ma_datM mn mr x.2.2.1) (hI : x.1 5 0 = nI mn) (hk : x.1 5 9 = 0 ∨ (x.1 5 9 = 1 ∧ ma_KN mn mr x)) : ma_KN mn mr (m_know x mn mr) ∧ (m_know x mn mr).1 5 9 = 1 ∧ ma_fr5 x (m_know x mn mr) := by
  unfold m_know
  rcases hk with hk | ⟨hk, hK⟩
  · rw [if_pos hk]
    obtain ⟨aS, aB⟩ := ma_all_S (a := x.2.2.1) hd.2.1
    have hI1 : (gU (gU x.1 5 9 1) 5 24 0) 5 0 = nI mn := by rw [gU_n (by omega), gU_n (by omega)]; exact hI
    have C := ma_corners (x := (gU (gU x.1 5 9 1) 5 24 0, x.2.1, x.2.2.1, x.2.2.2)) (al := 1) hd hI1 aS (fun r hr h => ((aB r hr).mp h).1) (fun _ => gU_s (f := gU x.1 5 9 1) (k := 5) (j := 24))
    have e1 : m_corners (gU (gU x.1 5 9 1) 5 24 0, x.2.1, x.2.2.1, x.2.2.2) (m_all x.2.2.1 mr) 1 mn mr = m_k1 x mn mr := rfl
    rw [e1] at C
    obtain ⟨c1, c2, -, c4⟩ := C
    obtain ⟨S, s1, s2, s3, s4⟩ := c4 (by decide)
    have a33 : ∀ r, (m_k2 x mn mr).2.2.1 33 r = x.2.2.1 33 r := fun r => c1.2.2.1 33 r (by omega)
    have eall : m_all (m_k2 x mn mr).2.2.1 mr = m_all x.2.2.1 mr := ma_all_c a33 mr
    have h10 : (m_k2 x mn mr).1 5 10 = (m_k1 x mn mr).1 := gU_s (f := (m_k1 x mn mr).2.1) (k := 5) (j := 10)
    have fr2 : ma_fr4 (m_k2 x mn mr) (m_k2 x mn mr) := ma_fr4_r _
    have k2a : ∀ k j, k ≠ 88 → (m_k2 x mn mr).2.2.1 k j = x.2.2.1 k j := fun k j h => c1.2.2.1 k j h
    obtain ⟨E1, E2, E3, E4⟩ := ma_a88 k2a mn mr (m_all x.2.2.1 mr)
    have k2I : (m_k2 x mn mr).1 5 0 = nI mn := by
      show gU (m_k1 x mn mr).2.1 5 10 (m_k1 x mn mr).1 5 0 = _
      rw [gU_n (by omega), c1.1 5 0 (by omega)]
      exact hI1
    have k3f : ma_fr4 (m_k2 x mn mr) (m_k3 x mn mr).2 ∧ ((m_k1 x mn mr).1 = 0 → (m_k3 x mn mr).1 = ma_gr (ma_Fe mn mr (m_k2 x mn mr).2.2.1) 8 (m_all x.2.2.1 mr)) ∧ ((m_k1 x mn mr).1 ≠ 0 → m_k3 x mn mr = (m_all x.2.2.1 mr, m_k2 x mn mr)) ∧ ma_isS (m_k3 x mn mr).1 := by
      unfold m_k3
      rw [eall]
      by_cases h : (m_k1 x mn mr).1 = 0
      · obtain ⟨q1, q2⟩ := ma_kn0 (x0 := m_k2 x mn mr) (E3.mpr hd) k2I (by rw [h10]; exact h) 8 (Nat.le_refl _) (m_all x.2.2.1 mr) (m_k2 x mn mr) fr2 aS (fun r hr w => ((aB r hr).mp w).1)
        exact ⟨q1, fun _ => q2, fun w => absurd h w, by rw [q2]; exact ma_gr_S 8 (Nat.le_refl _) _ aS⟩
      · have e : m_kn mn mr 8 (m_all x.2.2.1 mr, m_k2 x mn mr) = (m_all x.2.2.1 mr, m_k2 x mn mr) := by
          show (if (m_k2 x mn mr).1 5 10 = 0 then _ else (m_all x.2.2.1 mr, m_k2 x mn mr)) = _
          rw [if_neg (by rw [h10]; exact h)]
        rw [e]
        exact ⟨fr2, fun w => absurd w h, fun _ => rfl, aS⟩
    obtain ⟨f3, g0, g1, gS⟩ := k3f
    have I10 : (m_k3 x mn mr).2.1 5 10 = (m_k1 x mn mr).1 := by rw [f3.1 5 10 (by omega)]; exact h10
    have I9 : (m_k3 x mn mr).2.1 5 9 = 1 := by
      rw [f3.1 5 9 (by omega)]
      show gU (m_k1 x mn mr).2.1 5 10 (m_k1 x mn mr).1 5 9 = 1
      rw [gU_n (by omega), c1.1 5 9 (by omega)]
      show gU (gU x.1 5 9 1) 5 24 0 5 9 = 1
      rw [gU_n (by omega), gU_s]
    have hib := ma_ib (I := (m_k3 x mn mr).2.1) (a := (m_k3 x mn mr).2.2.2.1) gS 8 (Nat.le_refl _)
    have fa : ∀ k j, k ≠ 88 → k ≠ 39 → m_ib (m_k3 x mn mr).2.1 (m_k3 x mn mr).2.2.2.1 (m_k3 x mn mr).1 8 k j = x.2.2.1 k j := fun k j h1 h2 => by
      rw [hib, if_neg (by omega), f3.2.2.1 k j h1]
      exact k2a k j h1
    have fe : ∀ k, k ≠ 88 → k ≠ 39 → m_ib (m_k3 x mn mr).2.1 (m_k3 x mn mr).2.2.2.1 (m_k3 x mn mr).1 8 k = x.2.2.1 k := fun k h1 h2 => funext (fun j => fa k j h1 h2)
    have eall2 : m_all (m_ib (m_k3 x mn mr).2.1 (m_k3 x mn mr).2.2.2.1 (m_k3 x mn mr).1 8) mr = m_all x.2.2.1 mr := ma_all_c (fun r => fa 33 r (by omega) (by omega)) mr
    have eFE : ∀ set, ma_FE mn mr (m_ib (m_k3 x mn mr).2.1 (m_k3 x mn mr).2.2.2.1 (m_k3 x mn mr).1 8) set = ma_FE mn mr x.2.2.1 set := fun set => by
      unfold ma_FE ma_ci ma_fm2
      rw [fe 27 (by omega) (by omega), fe 28 (by omega) (by omega), fe 30 (by omega) (by omega), fe 31 (by omega) (by omega), fe 32 (by omega) (by omega)]
    have eCM : ma_CM mn (m_ib (m_k3 x mn mr).2.1 (m_k3 x mn mr).2.2.2.1 (m_k3 x mn mr).1 8) = ma_CM mn x.2.2.1 := by
      unfold ma_CM ma_ci ma_fm2
      rw [fe 27 (by omega) (by omega), fe 28 (by omega) (by omega), fe 31 (by omega) (by omega), fe 32 (by omega) (by omega)]
    have eFe : ma_Fe mn mr (m_ib (m_k3 x mn mr).2.1 (m_k3 x mn mr).2.2.2.1 (m_k3 x mn mr).1 8) = ma_Fe mn mr x.2.2.1 := by
      funext set
      unfold ma_Fe
      rw [eFE]
    have eFe2 : ma_Fe mn mr (m_k2 x mn mr).2.2.1 = ma_Fe mn mr x.2.2.1 := by
      funext set
      unfold ma_Fe
      rw [(ma_a88 k2a mn mr set).2.1]
    refine ⟨⟨S, ?_, ?_, ?_, ?_, ?_⟩, I9, ?_, ?_, ?_, ?_⟩
    · show (m_k3 x mn mr).2.1 5 10 ≠ 0 ↔ _
      rw [I10]
      exact s1
    · show ∀ X, S X → ma_FE mn mr (m_ib (m_k3 x mn mr).2.1 (m_k3 x mn mr).2.2.2.1 (m_k3 x mn mr).1 8) (m_all (m_ib (m_k3 x mn mr).2.1 (m_k3 x mn mr).2.2.2.1 (m_k3 x mn mr).1 8) mr) X
      rw [eall2, eFE]
      exact s2
    · show (m_k3 x mn mr).2.1 5 10 ≠ 0 → ma_Acc mn (ma_ci (m_ib (m_k3 x mn mr).2.1 (m_k3 x mn mr).2.2.2.1 (m_k3 x mn mr).1 8) 29) S (m_k3 x mn mr).2.1 (m_k3 x mn mr).2.2.1 (m_k3 x mn mr).2.2.2.2
      rw [I10]
      intro h
      have e29 : ma_ci (m_ib (m_k3 x mn mr).2.1 (m_k3 x mn mr).2.2.2.1 (m_k3 x mn mr).1 8) 29 = ma_ci x.2.2.1 29 := by
        unfold ma_ci
        rw [fe 29 (by omega) (by omega)]
      rw [e29, g1 h]
      show ma_Acc mn (ma_ci x.2.2.1 29) S (gU (m_k1 x mn mr).2.1 5 10 (m_k1 x mn mr).1) (m_k1 x mn mr).2.2.1 (m_k1 x mn mr).2.2.2.2
      unfold ma_Acc at s3 ⊢
      rw [gU_n (by omega)]
      exact s3
    · show ∀ t X, ma_FE mn mr (m_ib (m_k3 x mn mr).2.1 (m_k3 x mn mr).2.2.2.1 (m_k3 x mn mr).1 8) (m_all (m_ib (m_k3 x mn mr).2.1 (m_k3 x mn mr).2.2.2.1 (m_k3 x mn mr).1 8) mr) X → ma_cor mn (ma_CM mn (m_ib (m_k3 x mn mr).2.1 (m_k3 x mn mr).2.2.2.1 (m_k3 x mn mr).1 8)) (ma_TH mn mr (m_all (m_ib (m_k3 x mn mr).2.1 (m_k3 x mn mr).2.2.2.1 (m_k3 x mn mr).1 8) mr)) t X → _
      rw [eall2, eFE, eCM]
      exact s4
    · show (m_k3 x mn mr).2.1 5 10 = 0 → ∀ r, r < 8 → (m_ib (m_k3 x mn mr).2.1 (m_k3 x mn mr).2.2.2.1 (m_k3 x mn mr).1 8 39 r ≠ 0 ↔ m_bt (ma_gr (ma_Fe mn mr (m_ib (m_k3 x mn mr).2.1 (m_k3 x mn mr).2.2.2.1 (m_k3 x mn mr).1 8)) 8 (m_all (m_ib (m_k3 x mn mr).2.1 (m_k3 x mn mr).2.2.2.1 (m_k3 x mn mr).1 8) mr)) r ≠ 0)
      intro h r hr
      rw [eall2, eFe, hib, if_pos (show 39 = 39 ∧ r < 8 from ⟨rfl, hr⟩), if_pos h]
      rw [I10] at h
      have := g0 h
      rw [eFe2] at this
      rw [← this]
      rcases (ma_S_bt gS hr).1 with q | q
      · rw [q, if_neg (by decide)]
      · rw [q, if_pos rfl]
    · intro k j h
      show (m_k3 x mn mr).2.1 k j = _
      rw [f3.1 k j (by omega)]
      show gU (m_k1 x mn mr).2.1 5 10 (m_k1 x mn mr).1 k j = _
      rw [gU_n (by omega), c1.1 k j (by omega)]
      show gU (gU x.1 5 9 1) 5 24 0 k j = _
      rw [gU_n (by omega), gU_n (by omega)]
    · intro k j h
      show (m_k3 x mn mr).2.2.1 k j = _
      rw [f3.2.1 k j h]
      exact c1.2.1 k j h
    · exact fa
    · intro k j h1 h2 h3
      show (m_k3 x mn mr).2.2.2.2 k j = _
      rw [f3.2.2.2 k j h1 h2 h3]
      exact c1.2.2.2 k j h1 h2 h3
  · rw [if_neg (by rw [hk]; decide)]
    exact ⟨hK, hk, fun _ _ _ => rfl, fun _ _ _ => rfl, fun _ _ _ _ => rfl, fun _ _ _ _ _ => rfl⟩
