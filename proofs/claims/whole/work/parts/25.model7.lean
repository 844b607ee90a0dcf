/-! The reference: know, and what asks it -/
theorem m_cor_I (mn mr : Nat) (set al : Int32) {k j : Nat} (h : k ≠ 5 ∨ j ≠ 24) : ∀ n (y : m_C), (m_cor mn mr set al n y).2.1 k j = y.2.2.1 k j
  | 0, y => rfl
  | n + 1, (0, f, x) => rfl
  | n + 1, (d + 1, f, x) => by
    unfold m_cor
    repeat' split
    all_goals first
      | exact m_cor_I mn mr set al h n _
      | exact (m_cor_I mn mr set al h n _).trans (gU_n h)
      | rfl
theorem m_cor_01 (mn mr : Nat) (set al : Int32) : ∀ n (y : m_C), (y.2.1 = 0 ∨ y.2.1 = 1) → ((m_cor mn mr set al n y).1 = 0 ∨ (m_cor mn mr set al n y).1 = 1)
  | 0, y, h => h
  | n + 1, (0, f, x), h => h
  | n + 1, (d + 1, f, x), h => by
    unfold m_cor
    repeat' split
    all_goals first
      | exact m_cor_01 mn mr set al n _ h
      | exact m_cor_01 mn mr set al n _ (Or.inr rfl)
      | exact Or.inr rfl
theorem m_corners_I {x : gS} {set al : Int32} {mn mr k j : Nat} (h : k ≠ 5 ∨ j ≠ 24) : (m_corners x set al mn mr).2.1 k j = x.1 k j := by
  unfold m_corners
  split
  · unfold m_c0
    repeat' split
    all_goals first | rfl | exact gU_n h
  · exact m_cor_I mn mr set al h _ _
theorem m_corners_01 (x : gS) (set al : Int32) (mn mr : Nat) : (m_corners x set al mn mr).1 = 0 ∨ (m_corners x set al mn mr).1 = 1 := by
  unfold m_corners
  split
  · unfold m_c0
    repeat' split
    all_goals exact m_keeps_01 _ _ _ _ _ _
  · exact m_cor_01 mn mr set al _ _ (Or.inl rfl)
abbrev m_K : Type := Int32 × gS
def m_bt (set : Int32) (k : Nat) : Int32 := (set >>> (nI k &&& 31)) &&& 1
def m_kn (mn mr : Nat) : Nat → m_K → m_K
  | 0, x => x
  | k + 1, x => if x.2.1 5 10 = 0 then if m_bt x.1 k = 1 then if (m_corners x.2 (s_wo x.1 k) 0 mn mr).1 = 0 then m_kn mn mr k (s_wo x.1 k, (m_corners x.2 (s_wo x.1 k) 0 mn mr).2) else m_kn mn mr k (x.1, (m_corners x.2 (s_wo x.1 k) 0 mn mr).2) else m_kn mn mr k x else x
theorem m_kn_has (mn mr : Nat) : ∀ k x, ¬ x.2.1 5 10 = 0 → m_kn mn mr k x = x
  | 0, _, _ => rfl
  | k + 1, x, h => by
    unfold m_kn
    rw [if_neg h]
def m_ib (I a : gF) (set : Int32) : Nat → gF
  | 0 => a
  | r + 1 => if I 5 10 = 0 then if m_bt set r = 1 then gU (m_ib I a set r) 39 r 1 else gU (m_ib I a set r) 39 r 0 else gU (m_ib I a set r) 39 r 0
def m_k1 (x : gS) (mn mr : Nat) : Int32 × gS := m_corners (gU (gU x.1 5 9 1) 5 24 0, x.2.1, x.2.2.1, x.2.2.2) (m_all x.2.2.1 mr) 1 mn mr
def m_k2 (x : gS) (mn mr : Nat) : gS := (gU (m_k1 x mn mr).2.1 5 10 (m_k1 x mn mr).1, (m_k1 x mn mr).2.2.1, (m_k1 x mn mr).2.2.2.1, (m_k1 x mn mr).2.2.2.2)
def m_k3 (x : gS) (mn mr : Nat) : m_K := m_kn mn mr 8 (m_all (m_k2 x mn mr).2.2.1 mr, m_k2 x mn mr)
def m_know (x : gS) (mn mr : Nat) : gS := if x.1 5 9 = 0 then ((m_k3 x mn mr).2.1, (m_k3 x mn mr).2.2.1, m_ib (m_k3 x mn mr).2.1 (m_k3 x mn mr).2.2.2.1 (m_k3 x mn mr).1 8, (m_k3 x mn mr).2.2.2.2) else x
theorem m_k2_I {x : gS} {mn mr j : Nat} (h1 : j ≠ 24) (h2 : j ≠ 10) (h3 : j ≠ 9) : (m_k2 x mn mr).1 5 j = x.1 5 j := by
  show gU _ 5 10 _ 5 j = _
  rw [gU_n (Or.inr h2)]
  unfold m_k1
  rw [m_corners_I (Or.inr h1)]
  show gU (gU x.1 5 9 1) 5 24 0 5 j = _
  rw [gU_n (Or.inr h1), gU_n (Or.inr h3)]
theorem m_kn_I (mn mr : Nat) {j : Nat} (h : j ≠ 24) : ∀ k x, (m_kn mn mr k x).2.1 5 j = x.2.1 5 j
  | 0, _ => rfl
  | k + 1, x => by
    unfold m_kn
    repeat' split
    all_goals first
      | rfl
      | exact m_kn_I mn mr h k _
      | exact (m_kn_I mn mr h k _).trans (m_corners_I (Or.inr h))
theorem m_know_I {x : gS} {mn mr j : Nat} (h1 : j ≠ 24) (h2 : j ≠ 10) (h3 : j ≠ 9) : (m_know x mn mr).1 5 j = x.1 5 j := by
  unfold m_know
  split
  · exact (m_kn_I mn mr h1 8 _).trans (m_k2_I h1 h2 h3)
  · rfl

def kS (x : gS) : gS := m_know x (cN (x.1 5 0)) (cN (x.1 5 1))
/-- the denominators that are told are not 0 -/
def m_nz (y : gS) (mn : Nat) : Prop := ¬ y.1 5 10 = 0 → ¬ y.2.1 5 12 = 0 ∧ (0 < mn → ¬ y.2.1 5 14 = 0) ∧ ∀ k, k < 2 * mn → ¬ y.2.2.2 36 k = 0 ∧ ¬ y.2.2.2 38 k = 0
def m_run (x : gS) : Int32 := if (kS x).1 5 10 = 0 then 0 else 1
def m_least (x : gS) (pt : Int32) : Int64 := if q_z01 pt = 0 then -2 else if (kS x).1 5 10 = 0 then -3 else m_lowest ((kS x).2.1 5 11) ((kS x).2.1 5 12) pt
def m_leastS (x : gS) (pt : Int32) : gS := if q_z01 pt = 0 then x else kS x
def m_value (x : gS) (v pt : Int32) : Int64 := if m_isN x.1 v = 0 then -1 else if q_z01 pt = 0 then -2 else if (kS x).1 5 10 = 0 then -3 else m_lowest ((kS x).2.2.2 34 (cN v)) ((kS x).2.1 5 14) pt
def m_valueS (x : gS) (v pt : Int32) : gS := if m_isN x.1 v = 0 then x else if q_z01 pt = 0 then x else kS x
def m_reach (x : gS) (v sd pt : Int32) : Int64 := if m_isN x.1 v = 0 then -1 else if q_z01 sd = 0 then -2 else if q_z01 pt = 0 then -2 else if (kS x).1 5 10 = 0 then -3 else m_lowest ((kS x).2.2.2 35 ((2 * cN v) + cN sd)) ((kS x).2.2.2 36 ((2 * cN v) + cN sd)) pt
def m_reachS (x : gS) (v sd pt : Int32) : gS := if m_isN x.1 v = 0 then x else if q_z01 sd = 0 then x else if q_z01 pt = 0 then x else kS x
def m_far (x : gS) (v sd pt : Int32) : Int64 := if m_isN x.1 v = 0 then -1 else if q_z01 sd = 0 then -2 else if q_z01 pt = 0 then -2 else if (kS x).1 5 10 = 0 then -3 else m_lowest ((kS x).2.2.2 37 ((2 * cN v) + cN sd)) ((kS x).2.2.2 38 ((2 * cN v) + cN sd)) pt
theorem q_z01_ix {v : Int32} (h : ¬ q_z01 v = 0) : ∃ j, j < 2 ∧ v = nI j := by
  unfold q_z01 at h
  split at h
  · rename_i c
    exact ⟨0, by decide, c⟩
  · split at h
    · rename_i c
      exact ⟨1, by decide, c⟩
    · exact absurd rfl h
def m_tsum (x : gS) (r : Nat) : Nat → Int64
  | 0 => if x.1 5 0 = 0 then (-x.2.2.1 31 r).toInt64 else (-x.2.2.1 31 r).toInt64 * x.2.1 5 14
  | n + 1 => m_tsum x r n + (x.2.2.1 32 ((5 * r) + n)).toInt64 * x.2.2.2 34 n
def m_tight (x : gS) (r : Int32) : Int32 := if m_isR x.1 x.2.2.1 r = 0 then -1 else if (kS x).1 5 10 = 0 then -3 else if m_tsum (kS x) (cN r) (cN (x.1 5 0)) = 0 then 1 else 0
def m_tightS (x : gS) (r : Int32) : gS := if m_isR x.1 x.2.2.1 r = 0 then x else kS x
def m_brow (a : gF) (k : Int32) : Nat → Nat → Int32 → Int32
  | 0, _, _ => -1
  | n + 1, r, pl => if a 39 r = 0 then m_brow a k n (r + 1) pl else if pl = k then nI r else m_brow a k n (r + 1) (pl + 1)
theorem m_brow_s (a : gF) (k : Int32) {r : Nat} (h : r < 8) (pl : Int32) : m_brow a k (8 - r) r pl = if a 39 r = 0 then m_brow a k (8 - (r + 1)) (r + 1) pl else if pl = k then nI r else m_brow a k (8 - (r + 1)) (r + 1) (pl + 1) := by
  rw [show 8 - r = (8 - (r + 1)) + 1 by omega]
  rfl
def m_barred (x : gS) (k : Int32) : Int32 := if (kS x).1 5 10 = 0 then m_brow (kS x).2.2.1 k 8 0 0 else -3

set_option maxHeartbeats 4000000 in
set_option maxRecDepth 100000 in
theorem kX5_know (l : Launch) (D : va_G) (ad : Nat → Nat) (cy : Nat → ClassId) (I : gF) (J : gL) (a : gF) (b : gL) (sz : Nat) (mn mr : Nat) (hmn : I 5 0 = nI mn) (hmn2 : mn ≤ 5) (hmr : I 5 1 = nI mr) (hmr2 : mr ≤ 8) : gMv l yX5_know wsX5_know ({ frames := 3, cells := 0, slots := 0, locals := 82 }) D ad cy I J a b sz [.ref (ad 5)] (fun u => u = m_know (I, J, a, b) mn mr) := by
  refine Met.ofW (cc := cX5_know) (maxL := 3) (ret := none) (by decide) rfl ?_
  intro p e s m args below meth c s₁ B hml hv
  obtain ⟨hargs, hsz, G⟩ := gx_begin hv
  subst hsz
  have hx := B.exec
  have hb := B.bytes
  have hr := B.returns
  have hts := atoms_spec (ws := wsX5_know) B.pre
  have hown : s.vm.findClass RX5 = some m.cls := findClass_of_methodNamed B.named
  have hlocks := B.notSynchronized
  have hinX5 : ∀ w ∈ wsX50, w ∈ wsX5_know := by decide +kernel
  have lk48 := hts (.fieldLink RX5 48 "ExactSimplexModel" "isBarred" "[Z") (by decide +kernel)
  have lk100 := hts (.fieldLink RX5 100 "ExactSimplexModel" "any" "Z") (by decide +kernel)
  have lk117 := hts (.fieldLink RX5 117 "ExactSimplexModel" "known" "Z") (by decide +kernel)
  have lk128 := hts (.fieldLink RX5 128 "ExactSimplexModel" "has" "Z") (by decide +kernel)
  have hl := lv_entry ([.ref (ad 5)]) (n := 3) (Nat.le_of_ble_eq_true rfl)
  have hent := lg_entry_eq m ([.ref (ad 5)]) 3
  rw [← hargs] at hent
  rw [hent]
  clear hent
  generalize (lg_sl ([.ref (ad 5)]) ++ List.replicate (3 - (lg_sl ([.ref (ad 5)])).length) Slot.unset).toArray = ls at hl ⊢
  have hl : lv_has ls 3 [(0, .ref (ad 5))] := hl
  generalize hA : gA ad s.heap.size = A at G ⊢
  generalize hH : s.heap = H at G ⊢
  refine gx_q (fun Q hQ => ?_)
  refine lv_aload_n hx hb dX5_know_0 rfl (lv_at hl 0 rfl) ?_
  refine gx_get hx hb hts hinX5 hown G 5 (by decide) rfl rfl 9 (by decide) rfl lk117 rfl (v := .int (I 5 9)) rfl dX5_know_1 ?_
  refine lv_if_eq (tgt := 8) hx hb dX5_know_4 (by decide) (fun c4 => ?_) (fun c4 => ?_)
  · skip
    refine lv_aload_n hx hb dX5_know_8 rfl (lv_at hl 0 rfl) ?_
    refine lv_iconst (v := 1) hx hb dX5_know_9 (by decide) ?_
    refine gx_putI hx hb hts hinX5 tyX5 tyX5_ok nmX5 hown G 5 (by decide) rfl rfl 9 (by decide) rfl lk117 rfl rfl (tyX5_ok 9 (by decide)) (rfl) (rfl) dX5_know_10 (fun H locs G => ?_)
    refine lv_aload_n hx hb dX5_know_13 rfl (lv_at hl 0 rfl) ?_
    refine lv_iconst (v := 0) hx hb dX5_know_14 (by decide) ?_
    refine gx_putI hx hb hts hinX5 tyX5 tyX5_ok nmX5 hown G 5 (by decide) rfl rfl 24 (by decide) rfl lk100 rfl rfl (tyX5_ok 24 (by decide)) (rfl) (rfl) dX5_know_15 (fun H locs G => ?_)
    refine lv_aload_n hx hb dX5_know_18 rfl (lv_at hl 0 rfl) ?_
    refine lv_aload_n hx hb dX5_know_19 rfl (lv_at hl 0 rfl) ?_
    refine lv_aload_n hx hb dX5_know_20 rfl (lv_at hl 0 rfl) ?_
    refine gx_dVi (v := (m_all a mr)) (I1 := (gU (gU I 5 9 1) 5 24 0)) (J1 := J) (a1 := a) (b1 := b) (As := []) (rest := [.ref (ad 5), .ref (ad 5)]) ⟨hx, hb, hml, hown, hts⟩ G 5 (kX5_all l D ad cy (gU (gU I 5 9 1) 5 24 0) J a b H.size mr hmr hmr2) (cwV 0 hts gX5_know_X5_all rfl rfl rfl (by decide +kernel) ⟨Nat.le_of_ble_eq_true rfl, Nat.le_of_ble_eq_true rfl⟩) (by decide) rfl rfl rfl rfl hl.1 rfl (Nat.le_of_ble_eq_true rfl) ⟨Nat.zero_le _, Nat.zero_le _⟩ dX5_know_21 (fun H locs G => ?_)
    refine lv_iconst (v := 1) hx hb dX5_know_24 (by decide) ?_
    refine gx_dVi (v := ((m_corners (gU (gU I 5 9 1) 5 24 0, J, a, b) (m_all a mr) 1 mn mr).1)) (I1 := ((m_corners (gU (gU I 5 9 1) 5 24 0, J, a, b) (m_all a mr) 1 mn mr).2.1)) (J1 := ((m_corners (gU (gU I 5 9 1) 5 24 0, J, a, b) (m_all a mr) 1 mn mr).2.2.1)) (a1 := ((m_corners (gU (gU I 5 9 1) 5 24 0, J, a, b) (m_all a mr) 1 mn mr).2.2.2.1)) (b1 := ((m_corners (gU (gU I 5 9 1) 5 24 0, J, a, b) (m_all a mr) 1 mn mr).2.2.2.2)) (As := [.int (m_all a mr), .int 1]) (rest := [.ref (ad 5)]) ⟨hx, hb, hml, hown, hts⟩ G 5 (kX5_corners l D ad cy (gU (gU I 5 9 1) 5 24 0) J a b H.size mn mr (m_all a mr) 1 hmn hmn2 hmr hmr2) (cwV 2 hts gX5_know_X5_corners rfl rfl rfl (by decide +kernel) ⟨Nat.le_of_ble_eq_true rfl, Nat.le_of_ble_eq_true rfl⟩) (by decide) rfl rfl rfl rfl hl.1 rfl (Nat.le_of_ble_eq_true rfl) ⟨Nat.zero_le _, Nat.zero_le _⟩ dX5_know_25 (fun H locs G => ?_)
    refine gx_putI hx hb hts hinX5 tyX5 tyX5_ok nmX5 hown G 5 (by decide) rfl rfl 10 (by decide) rfl lk128 rfl rfl (tyX5_ok 10 (by decide)) (z01 (m_corners_01 _ _ _ _ _)) (z01f (m_corners_01 _ _ _ _ _)) dX5_know_28 (fun H locs G => ?_)
    refine lv_aload_n hx hb dX5_know_31 rfl (lv_at hl 0 rfl) ?_
    refine gx_dVi (v := (m_all ((m_corners (gU (gU I 5 9 1) 5 24 0, J, a, b) (m_all a mr) 1 mn mr).2.2.2.1) mr)) (I1 := (gU ((m_corners (gU (gU I 5 9 1) 5 24 0, J, a, b) (m_all a mr) 1 mn mr).2.1) 5 10 ((m_corners (gU (gU I 5 9 1) 5 24 0, J, a, b) (m_all a mr) 1 mn mr).1))) (J1 := ((m_corners (gU (gU I 5 9 1) 5 24 0, J, a, b) (m_all a mr) 1 mn mr).2.2.1)) (a1 := ((m_corners (gU (gU I 5 9 1) 5 24 0, J, a, b) (m_all a mr) 1 mn mr).2.2.2.1)) (b1 := ((m_corners (gU (gU I 5 9 1) 5 24 0, J, a, b) (m_all a mr) 1 mn mr).2.2.2.2)) (As := []) (rest := []) ⟨hx, hb, hml, hown, hts⟩ G 5 (kX5_all l D ad cy (gU ((m_corners (gU (gU I 5 9 1) 5 24 0, J, a, b) (m_all a mr) 1 mn mr).2.1) 5 10 ((m_corners (gU (gU I 5 9 1) 5 24 0, J, a, b) (m_all a mr) 1 mn mr).1)) ((m_corners (gU (gU I 5 9 1) 5 24 0, J, a, b) (m_all a mr) 1 mn mr).2.2.1) ((m_corners (gU (gU I 5 9 1) 5 24 0, J, a, b) (m_all a mr) 1 mn mr).2.2.2.1) ((m_corners (gU (gU I 5 9 1) 5 24 0, J, a, b) (m_all a mr) 1 mn mr).2.2.2.2) H.size mr ((m_k2_I (x := (I, J, a, b)) (mn := mn) (mr := mr) (by decide) (by decide) (by decide)).trans hmr) hmr2) (cwV 0 hts gX5_know_X5_all rfl rfl rfl (by decide +kernel) ⟨Nat.le_of_ble_eq_true rfl, Nat.le_of_ble_eq_true rfl⟩) (by decide) rfl rfl rfl rfl hl.1 rfl (Nat.le_of_ble_eq_true rfl) ⟨Nat.zero_le _, Nat.zero_le _⟩ dX5_know_32 (fun H locs G => ?_)
    refine lv_istore_n (lv' := [(1, .int (m_all ((m_corners (gU (gU I 5 9 1) 5 24 0, J, a, b) (m_all a mr) 1 mn mr).2.2.2.1) mr)), (0, .ref (ad 5))]) hx hb dX5_know_35 rfl hl (by decide) rfl (fun ls hl => ?_)
    refine lv_bipush (v := 7) hx hb dX5_know_36 (by decide) ?_
    refine lv_istore_n (lv' := [(2, .int 7), (1, .int (m_all ((m_corners (gU (gU I 5 9 1) 5 24 0, J, a, b) (m_all a mr) 1 mn mr).2.2.2.1) mr)), (0, .ref (ad 5))]) hx hb dX5_know_38 rfl hl (by decide) rfl (fun ls hl => ?_)
    have K39 : ∀ (nf : Nat) (k : Nat) (set : Int32) (I2 : gF) (J2 : gL) (a2 : gF) (b2 : gL) (H : Heap) (locs : List Loc) (ls : Array Slot), (k ≤ 8) → (m_k3 (I, J, a, b) mn mr = m_kn mn mr k (set, I2, J2, a2, b2)) → (I2 5 0 = nI mn) → (I2 5 1 = nI mr) → k < nf → GG D ad cy A s I2 J2 a2 b2 H locs → lv_has ls 3 [(0, .ref (ad 5)), (1, .int set), (2, .int (nI k - 1))] → W p l e ({ frames := 3, cells := 0, slots := 0, locals := 82 }) s m args below meth c H locs 0 0 Q (F0 m 39 ls []) := by
      intro nf
      induction nf with
      | zero => exact fun _ _ _ _ _ _ _ _ _ _ _ _ _ hz => absurd hz (Nat.not_lt_zero _)
      | succ nf ih =>
        intro k set I2 J2 a2 b2 H locs ls h1 h2 h50 h51 hmeas G hl
        have ih39 := ih
        clear ih
        refine lv_iload_n hx hb dX5_know_39 rfl (lv_at hl 2 rfl) ?_
        refine lv_if_lt (tgt := 88) hx hb dX5_know_40 (by decide) (fun c40 => ?_) (fun c40 => ?_)
        · skip
          have hres : m_k3 (I, J, a, b) mn mr = (set, I2, J2, a2, b2) := by
            rw [h2]
            first
              | exact m_kn_has mn mr _ _ c47
              | (have hk0 : k = 0 := by
                  rcases Nat.eq_zero_or_pos k with h0 | h0
                  · exact h0
                  · exact absurd c40 (by rw [show k = (k - 1) + 1 by omega, nI_pred]; exact nI_pos (by omega))
                 subst hk0
                 rfl)
          refine lv_iconst (v := 0) hx hb dX5_know_88 (by decide) ?_
          refine lv_istore_n (lv' := [(2, .int 0), (0, .ref (ad 5)), (1, .int set)]) hx hb dX5_know_89 rfl hl (by decide) rfl (fun ls hl => ?_)
          have K90 : ∀ (nf : Nat) (r : Nat) (H : Heap) (locs : List Loc) (ls : Array Slot), (r ≤ 8) → 8 - r < nf → GG D ad cy A s I2 J2 (m_ib I2 a2 set r) b2 H locs → lv_has ls 3 [(0, .ref (ad 5)), (1, .int set), (2, .int (nI r))] → W p l e ({ frames := 3, cells := 0, slots := 0, locals := 82 }) s m args below meth c H locs 0 0 Q (F0 m 90 ls []) := by
            intro nf
            induction nf with
            | zero => exact fun _ _ _ _ _ hz => absurd hz (Nat.not_lt_zero _)
            | succ nf ih =>
              intro r H locs ls h3 hmeas G hl
              have ih90 := ih
              clear ih
              refine lv_iload_n hx hb dX5_know_90 rfl (lv_at hl 2 rfl) ?_
              refine lv_bipush (v := 8) hx hb dX5_know_91 (by decide) ?_
              refine lv_icmp_ge (tgt := 129) hx hb dX5_know_93 (by decide) (fun c93 => ?_) (fun c93 => ?_)
              · skip
                have n93 := gn_le (X := 8) (Y := r) rfl rfl (by omega) (by omega) c93
                exact gx_vr hx hb hr hlocks G hQ (by unfold m_know; rw [if_pos c4, hres, show r = 8 by omega]) dX5_know_129
              · skip
                have n93 := gn_nle (X := 8) (Y := r) rfl rfl (by omega) (by omega) c93
                refine lv_aload_n hx hb dX5_know_96 rfl (lv_at hl 0 rfl) ?_
                refine gx_get hx hb hts hinX5 hown G 5 (by decide) rfl rfl 19 (by decide) rfl lk48 rfl (v := .ref (ad 39)) rfl dX5_know_97 ?_
                refine lv_iload_n hx hb dX5_know_100 rfl (lv_at hl 2 rfl) ?_
                refine lv_aload_n hx hb dX5_know_101 rfl (lv_at hl 0 rfl) ?_
                refine gx_get hx hb hts hinX5 hown G 5 (by decide) rfl rfl 10 (by decide) rfl lk128 rfl (v := .int (I2 5 10)) rfl dX5_know_102 ?_
                refine lv_if_ne (tgt := 121) hx hb dX5_know_105 (by decide) (fun c105 => ?_) (fun c105 => ?_)
                · skip
                  refine lv_iconst (v := 0) hx hb dX5_know_121 (by decide) ?_
                  refine gx_zast hx hb G 39 (by decide) (rfl) (by decide) r rfl (by omega) (rfl) dX5_know_122 (fun H locs G => ?_)
                  refine lv_iinc (v := (nI (r + 1))) (lv' := [(2, .int (nI (r + 1))), (0, .ref (ad 5)), (1, .int set)]) hx hb dX5_know_123 hl (k := 2) rfl (gn_add (X := r) (Y := 1) rfl rfl) (by decide) rfl (fun ls hl => ?_)
                  refine lv_goto (tgt := 90) hx hb dX5_know_126 (by decide) ?_
                  exact ih90  (r + 1) _ _ _ (by omega) (by omega) (gg_eq G rfl rfl (by (try simp only [m_ib]); unfold m_bt; (repeat (first | rw [if_pos c4] | rw [if_pos c40] | rw [if_neg c93] | rw [if_neg c105]))) rfl) (lv_sub hl [1, 2, 0] rfl)
                · skip
                  refine lv_iload_n hx hb dX5_know_108 rfl (lv_at hl 1 rfl) ?_
                  refine lv_iload_n hx hb dX5_know_109 rfl (lv_at hl 2 rfl) ?_
                  refine lv_ishr hx hb dX5_know_110 ?_
                  refine lv_iconst (v := 1) hx hb dX5_know_111 (by decide) ?_
                  refine lv_iand hx hb dX5_know_112 ?_
                  refine lv_iconst (v := 1) hx hb dX5_know_113 (by decide) ?_
                  refine lv_icmp_ne (tgt := 121) hx hb dX5_know_114 (by decide) (fun c114 => ?_) (fun c114 => ?_)
                  · skip
                    refine lv_iconst (v := 0) hx hb dX5_know_121 (by decide) ?_
                    refine gx_zast hx hb G 39 (by decide) (rfl) (by decide) r rfl (by omega) (rfl) dX5_know_122 (fun H locs G => ?_)
                    refine lv_iinc (v := (nI (r + 1))) (lv' := [(2, .int (nI (r + 1))), (0, .ref (ad 5)), (1, .int set)]) hx hb dX5_know_123 hl (k := 2) rfl (gn_add (X := r) (Y := 1) rfl rfl) (by decide) rfl (fun ls hl => ?_)
                    refine lv_goto (tgt := 90) hx hb dX5_know_126 (by decide) ?_
                    exact ih90  (r + 1) _ _ _ (by omega) (by omega) (gg_eq G rfl rfl (by (try simp only [m_ib]); unfold m_bt; (repeat (first | rw [if_pos c4] | rw [if_pos c40] | rw [if_neg c93] | rw [if_pos c105] | rw [if_neg c114]))) rfl) (lv_sub hl [1, 2, 0] rfl)
                  · skip
                    refine lv_iconst (v := 1) hx hb dX5_know_117 (by decide) ?_
                    refine lv_goto (tgt := 122) hx hb dX5_know_118 (by decide) ?_
                    refine gx_zast hx hb G 39 (by decide) (rfl) (by decide) r rfl (by omega) (rfl) dX5_know_122 (fun H locs G => ?_)
                    refine lv_iinc (v := (nI (r + 1))) (lv' := [(2, .int (nI (r + 1))), (0, .ref (ad 5)), (1, .int set)]) hx hb dX5_know_123 hl (k := 2) rfl (gn_add (X := r) (Y := 1) rfl rfl) (by decide) rfl (fun ls hl => ?_)
                    refine lv_goto (tgt := 90) hx hb dX5_know_126 (by decide) ?_
                    exact ih90  (r + 1) _ _ _ (by omega) (by omega) (gg_eq G rfl rfl (by (try simp only [m_ib]); unfold m_bt; (repeat (first | rw [if_pos c4] | rw [if_pos c40] | rw [if_neg c93] | rw [if_pos c105] | rw [if_pos c114]))) rfl) (lv_sub hl [1, 2, 0] rfl)
          exact K90 (8 - 0 + 1) 0 _ _ _ (by omega) (Nat.lt_succ_self _) (gg_eq G rfl rfl (rfl) rfl) (lv_sub hl [1, 2, 0] rfl)
        · skip
          have hk0 : 0 < k := by
            rcases Nat.eq_zero_or_pos k with h0 | h0
            · subst h0
              exact absurd (by decide) c40
            · exact h0
          obtain ⟨k1, rfl⟩ : ∃ k1, k = k1 + 1 := ⟨k - 1, by omega⟩
          rw [nI_pred] at hl
          refine lv_aload_n hx hb dX5_know_43 rfl (lv_at hl 0 rfl) ?_
          refine gx_get hx hb hts hinX5 hown G 5 (by decide) rfl rfl 10 (by decide) rfl lk128 rfl (v := .int (I2 5 10)) rfl dX5_know_44 ?_
          refine lv_if_ne (tgt := 88) hx hb dX5_know_47 (by decide) (fun c47 => ?_) (fun c47 => ?_)
          · skip
            have hres : m_k3 (I, J, a, b) mn mr = (set, I2, J2, a2, b2) := by
              rw [h2]
              first
                | exact m_kn_has mn mr _ _ c47
                | (have hk0 : k = 0 := by
                    rcases Nat.eq_zero_or_pos k with h0 | h0
                    · exact h0
                    · exact absurd c40 (by rw [show k = (k - 1) + 1 by omega, nI_pred]; exact nI_pos (by omega))
                   subst hk0
                   rfl)
            refine lv_iconst (v := 0) hx hb dX5_know_88 (by decide) ?_
            refine lv_istore_n (lv' := [(2, .int 0), (0, .ref (ad 5)), (1, .int set)]) hx hb dX5_know_89 rfl hl (by decide) rfl (fun ls hl => ?_)
            have K90 : ∀ (nf : Nat) (r : Nat) (H : Heap) (locs : List Loc) (ls : Array Slot), (r ≤ 8) → 8 - r < nf → GG D ad cy A s I2 J2 (m_ib I2 a2 set r) b2 H locs → lv_has ls 3 [(0, .ref (ad 5)), (1, .int set), (2, .int (nI r))] → W p l e ({ frames := 3, cells := 0, slots := 0, locals := 82 }) s m args below meth c H locs 0 0 Q (F0 m 90 ls []) := by
              intro nf
              induction nf with
              | zero => exact fun _ _ _ _ _ hz => absurd hz (Nat.not_lt_zero _)
              | succ nf ih =>
                intro r H locs ls h3 hmeas G hl
                have ih90 := ih
                clear ih
                refine lv_iload_n hx hb dX5_know_90 rfl (lv_at hl 2 rfl) ?_
                refine lv_bipush (v := 8) hx hb dX5_know_91 (by decide) ?_
                refine lv_icmp_ge (tgt := 129) hx hb dX5_know_93 (by decide) (fun c93 => ?_) (fun c93 => ?_)
                · skip
                  have n93 := gn_le (X := 8) (Y := r) rfl rfl (by omega) (by omega) c93
                  exact gx_vr hx hb hr hlocks G hQ (by unfold m_know; rw [if_pos c4, hres, show r = 8 by omega]) dX5_know_129
                · skip
                  have n93 := gn_nle (X := 8) (Y := r) rfl rfl (by omega) (by omega) c93
                  refine lv_aload_n hx hb dX5_know_96 rfl (lv_at hl 0 rfl) ?_
                  refine gx_get hx hb hts hinX5 hown G 5 (by decide) rfl rfl 19 (by decide) rfl lk48 rfl (v := .ref (ad 39)) rfl dX5_know_97 ?_
                  refine lv_iload_n hx hb dX5_know_100 rfl (lv_at hl 2 rfl) ?_
                  refine lv_aload_n hx hb dX5_know_101 rfl (lv_at hl 0 rfl) ?_
                  refine gx_get hx hb hts hinX5 hown G 5 (by decide) rfl rfl 10 (by decide) rfl lk128 rfl (v := .int (I2 5 10)) rfl dX5_know_102 ?_
                  refine lv_if_ne (tgt := 121) hx hb dX5_know_105 (by decide) (fun c105 => ?_) (fun c105 => ?_)
                  · skip
                    refine lv_iconst (v := 0) hx hb dX5_know_121 (by decide) ?_
                    refine gx_zast hx hb G 39 (by decide) (rfl) (by decide) r rfl (by omega) (rfl) dX5_know_122 (fun H locs G => ?_)
                    refine lv_iinc (v := (nI (r + 1))) (lv' := [(2, .int (nI (r + 1))), (0, .ref (ad 5)), (1, .int set)]) hx hb dX5_know_123 hl (k := 2) rfl (gn_add (X := r) (Y := 1) rfl rfl) (by decide) rfl (fun ls hl => ?_)
                    refine lv_goto (tgt := 90) hx hb dX5_know_126 (by decide) ?_
                    exact ih90  (r + 1) _ _ _ (by omega) (by omega) (gg_eq G rfl rfl (by (try simp only [m_ib]); unfold m_bt; (repeat (first | rw [if_pos c4] | rw [if_neg c40] | rw [if_neg c47] | rw [if_neg c93] | rw [if_neg c105]))) rfl) (lv_sub hl [1, 2, 0] rfl)
                  · skip
                    exact absurd c105 c47
            exact K90 (8 - 0 + 1) 0 _ _ _ (by omega) (Nat.lt_succ_self _) (gg_eq G rfl rfl (rfl) rfl) (lv_sub hl [1, 2, 0] rfl)
          · skip
            refine lv_iload_n hx hb dX5_know_50 rfl (lv_at hl 1 rfl) ?_
            refine lv_iload_n hx hb dX5_know_51 rfl (lv_at hl 2 rfl) ?_
            refine lv_ishr hx hb dX5_know_52 ?_
            refine lv_iconst (v := 1) hx hb dX5_know_53 (by decide) ?_
            refine lv_iand hx hb dX5_know_54 ?_
            refine lv_iconst (v := 1) hx hb dX5_know_55 (by decide) ?_
            refine lv_icmp_ne (tgt := 82) hx hb dX5_know_56 (by decide) (fun c56 => ?_) (fun c56 => ?_)
            · skip
              obtain ⟨x_1, ex_1⟩ : ∃ z : Int32, z = (nI k1) + -1 := ⟨_, rfl⟩
              refine lv_iinc (v := x_1) (lv' := [(2, .int x_1), (0, .ref (ad 5)), (1, .int set)]) hx hb dX5_know_82 hl (k := 2) rfl ex_1.symm (by decide) rfl (fun ls hl => ?_)
              refine lv_goto (tgt := 39) hx hb dX5_know_85 (by decide) ?_
              have q2 : x_1 = nI k1 - 1 := by rw [ex_1]; exact gx_m1 _
              have hl := lv_chg hl 0 rfl (congrArg Value.int q2)
              exact ih39  k1 set I2 J2 a2 b2 _ _ _ (by omega) (by rw [h2]; first | (have g56 : m_bt set k1 = 1 := c56; simp only [m_kn, c47, g56, c71, reduceIte]; done) | (have g56 : ¬ m_bt set k1 = 1 := c56; simp only [m_kn, c47, g56, reduceIte]; done)) (by first | exact h50 | exact (m_corners_I (Or.inr (by decide))).trans h50) (by first | exact h51 | exact (m_corners_I (Or.inr (by decide))).trans h51) (by omega) G (lv_sub hl [1, 2, 0] rfl)
            · skip
              refine lv_aload_n hx hb dX5_know_59 rfl (lv_at hl 0 rfl) ?_
              refine lv_iload_n hx hb dX5_know_60 rfl (lv_at hl 1 rfl) ?_
              refine lv_iconst (v := 1) hx hb dX5_know_61 (by decide) ?_
              refine lv_iload_n hx hb dX5_know_62 rfl (lv_at hl 2 rfl) ?_
              refine lv_ishl hx hb dX5_know_63 ?_
              refine lv_iconst (v := -1) hx hb dX5_know_64 (by decide) ?_
              refine lv_ixor hx hb dX5_know_65 ?_
              refine lv_iand hx hb dX5_know_66 ?_
              refine lv_iconst (v := 0) hx hb dX5_know_67 (by decide) ?_
              refine gx_dVi (v := ((m_corners (I2, J2, a2, b2) (s_wo set k1) 0 mn mr).1)) (I1 := ((m_corners (I2, J2, a2, b2) (s_wo set k1) 0 mn mr).2.1)) (J1 := ((m_corners (I2, J2, a2, b2) (s_wo set k1) 0 mn mr).2.2.1)) (a1 := ((m_corners (I2, J2, a2, b2) (s_wo set k1) 0 mn mr).2.2.2.1)) (b1 := ((m_corners (I2, J2, a2, b2) (s_wo set k1) 0 mn mr).2.2.2.2)) (As := [.int (set &&& ((1 <<< ((nI k1) &&& 31)) ^^^ (-1))), .int 0]) (rest := []) ⟨hx, hb, hml, hown, hts⟩ G 5 (kX5_corners l D ad cy I2 J2 a2 b2 H.size mn mr (s_wo set k1) 0 h50 hmn2 h51 hmr2) (cwV 2 hts gX5_know_X5_corners rfl rfl rfl (by decide +kernel) ⟨Nat.le_of_ble_eq_true rfl, Nat.le_of_ble_eq_true rfl⟩) (by decide) rfl rfl rfl rfl hl.1 rfl (Nat.le_of_ble_eq_true rfl) ⟨Nat.zero_le _, Nat.zero_le _⟩ dX5_know_68 (fun H locs G => ?_)
              refine lv_if_ne (tgt := 82) hx hb dX5_know_71 (by decide) (fun c71 => ?_) (fun c71 => ?_)
              · skip
                obtain ⟨x_2, ex_2⟩ : ∃ z : Int32, z = (nI k1) + -1 := ⟨_, rfl⟩
                refine lv_iinc (v := x_2) (lv' := [(2, .int x_2), (0, .ref (ad 5)), (1, .int set)]) hx hb dX5_know_82 hl (k := 2) rfl ex_2.symm (by decide) rfl (fun ls hl => ?_)
                refine lv_goto (tgt := 39) hx hb dX5_know_85 (by decide) ?_
                have q2 : x_2 = nI k1 - 1 := by rw [ex_2]; exact gx_m1 _
                have hl := lv_chg hl 0 rfl (congrArg Value.int q2)
                exact ih39  k1 set ((m_corners (I2, J2, a2, b2) (s_wo set k1) 0 mn mr).2.1) ((m_corners (I2, J2, a2, b2) (s_wo set k1) 0 mn mr).2.2.1) ((m_corners (I2, J2, a2, b2) (s_wo set k1) 0 mn mr).2.2.2.1) ((m_corners (I2, J2, a2, b2) (s_wo set k1) 0 mn mr).2.2.2.2) _ _ _ (by omega) (by rw [h2]; first | (have g56 : m_bt set k1 = 1 := c56; simp only [m_kn, c47, g56, c71, reduceIte]; done) | (have g56 : ¬ m_bt set k1 = 1 := c56; simp only [m_kn, c47, g56, reduceIte]; done)) (by first | exact h50 | exact (m_corners_I (Or.inr (by decide))).trans h50) (by first | exact h51 | exact (m_corners_I (Or.inr (by decide))).trans h51) (by omega) G (lv_sub hl [1, 2, 0] rfl)
              · skip
                refine lv_iload_n hx hb dX5_know_74 rfl (lv_at hl 1 rfl) ?_
                refine lv_iconst (v := 1) hx hb dX5_know_75 (by decide) ?_
                refine lv_iload_n hx hb dX5_know_76 rfl (lv_at hl 2 rfl) ?_
                refine lv_ishl hx hb dX5_know_77 ?_
                refine lv_iconst (v := -1) hx hb dX5_know_78 (by decide) ?_
                refine lv_ixor hx hb dX5_know_79 ?_
                refine lv_iand hx hb dX5_know_80 ?_
                refine lv_istore_n (lv' := [(1, .int (set &&& ((1 <<< ((nI k1) &&& 31)) ^^^ (-1)))), (0, .ref (ad 5)), (2, .int (nI k1))]) hx hb dX5_know_81 rfl hl (by decide) rfl (fun ls hl => ?_)
                obtain ⟨x_3, ex_3⟩ : ∃ z : Int32, z = (nI k1) + -1 := ⟨_, rfl⟩
                refine lv_iinc (v := x_3) (lv' := [(2, .int x_3), (1, .int (set &&& ((1 <<< ((nI k1) &&& 31)) ^^^ (-1)))), (0, .ref (ad 5))]) hx hb dX5_know_82 hl (k := 2) rfl ex_3.symm (by decide) rfl (fun ls hl => ?_)
                refine lv_goto (tgt := 39) hx hb dX5_know_85 (by decide) ?_
                have q1 : set &&& ((1 <<< ((nI k1) &&& 31)) ^^^ (-1)) = (s_wo set k1) := by first | rfl | (simp only [c40, c47, c56, c71, reduceIte]; done) | (simp [c40, c47, c56, c71, reduceIte]; done)
                have hl := lv_chg hl 1 rfl (congrArg Value.int q1)
                have q2 : x_3 = nI k1 - 1 := by rw [ex_3]; exact gx_m1 _
                have hl := lv_chg hl 0 rfl (congrArg Value.int q2)
                exact ih39  k1 (s_wo set k1) ((m_corners (I2, J2, a2, b2) (s_wo set k1) 0 mn mr).2.1) ((m_corners (I2, J2, a2, b2) (s_wo set k1) 0 mn mr).2.2.1) ((m_corners (I2, J2, a2, b2) (s_wo set k1) 0 mn mr).2.2.2.1) ((m_corners (I2, J2, a2, b2) (s_wo set k1) 0 mn mr).2.2.2.2) _ _ _ (by omega) (by rw [h2]; first | (have g56 : m_bt set k1 = 1 := c56; simp only [m_kn, c47, g56, c71, reduceIte]; done) | (have g56 : ¬ m_bt set k1 = 1 := c56; simp only [m_kn, c47, g56, reduceIte]; done)) (by first | exact h50 | exact (m_corners_I (Or.inr (by decide))).trans h50) (by first | exact h51 | exact (m_corners_I (Or.inr (by decide))).trans h51) (by omega) G (lv_sub hl [2, 1, 0] rfl)
    have q2 : 7 = nI 8 - 1 := by decide
    have hl := lv_chg hl 0 rfl (congrArg Value.int q2)
    exact K39 (8 + 1) 8 (m_all ((m_corners (gU (gU I 5 9 1) 5 24 0, J, a, b) (m_all a mr) 1 mn mr).2.2.2.1) mr) (gU ((m_corners (gU (gU I 5 9 1) 5 24 0, J, a, b) (m_all a mr) 1 mn mr).2.1) 5 10 ((m_corners (gU (gU I 5 9 1) 5 24 0, J, a, b) (m_all a mr) 1 mn mr).1)) ((m_corners (gU (gU I 5 9 1) 5 24 0, J, a, b) (m_all a mr) 1 mn mr).2.2.1) ((m_corners (gU (gU I 5 9 1) 5 24 0, J, a, b) (m_all a mr) 1 mn mr).2.2.2.1) ((m_corners (gU (gU I 5 9 1) 5 24 0, J, a, b) (m_all a mr) 1 mn mr).2.2.2.2) _ _ _ (by omega) (rfl) ((m_k2_I (x := (I, J, a, b)) (mn := mn) (mr := mr) (by decide) (by decide) (by decide)).trans hmn) ((m_k2_I (x := (I, J, a, b)) (mn := mn) (mr := mr) (by decide) (by decide) (by decide)).trans hmr) (Nat.lt_succ_self _) G (lv_sub hl [2, 1, 0] rfl)
  · skip
    exact gx_vr hx hb hr hlocks G hQ (by unfold m_know; rw [if_neg c4]) dX5_know_7

set_option maxHeartbeats 4000000 in
set_option maxRecDepth 100000 in
theorem kX5_run (l : Launch) (D : va_G) (ad : Nat → Nat) (cy : Nat → ClassId) (I : gF) (J : gL) (a : gF) (b : gL) (sz : Nat)  (hmn : I 5 0 = nI (cN (I 5 0))) (hmn2 : cN (I 5 0) ≤ 5) (hmr : I 5 1 = nI (cN (I 5 1))) (hmr2 : cN (I 5 1) ≤ 8) : gMi l yX5_run wsX5_run ({ frames := 4, cells := 0, slots := 0, locals := 104 }) D ad cy I J a b sz [.ref (ad 5)] (fun res u => res = m_run (I, J, a, b)  ∧ u = kS (I, J, a, b)) := by
  refine Met.ofW (cc := cX5_run) (maxL := 1) (ret := some .int) (by decide) rfl ?_
  intro p e s m args below meth c s₁ B hml hv
  obtain ⟨hargs, hsz, G⟩ := gx_begin hv
  subst hsz
  have hx := B.exec
  have hb := B.bytes
  have hr := B.returns
  have hts := atoms_spec (ws := wsX5_run) B.pre
  have hown : s.vm.findClass RX5 = some m.cls := findClass_of_methodNamed B.named
  have hlocks := B.notSynchronized
  have hinX5 : ∀ w ∈ wsX50, w ∈ wsX5_run := by decide +kernel
  have lk128 := hts (.fieldLink RX5 128 "ExactSimplexModel" "has" "Z") (by decide +kernel)
  have hl := lv_entry ([.ref (ad 5)]) (n := 1) (Nat.le_of_ble_eq_true rfl)
  have hent := lg_entry_eq m ([.ref (ad 5)]) 1
  rw [← hargs] at hent
  rw [hent]
  clear hent
  generalize (lg_sl ([.ref (ad 5)]) ++ List.replicate (1 - (lg_sl ([.ref (ad 5)])).length) Slot.unset).toArray = ls at hl ⊢
  have hl : lv_has ls 1 [(0, .ref (ad 5))] := hl
  generalize hA : gA ad s.heap.size = A at G ⊢
  generalize hH : s.heap = H at G ⊢
  refine gx_q (fun Q hQ => ?_)
  refine lv_aload_n hx hb dX5_run_0 rfl (lv_at hl 0 rfl) ?_
  refine gx_dVv (I1 := ((m_know (I, J, a, b) (cN (I 5 0)) (cN (I 5 1))).1)) (J1 := ((m_know (I, J, a, b) (cN (I 5 0)) (cN (I 5 1))).2.1)) (a1 := ((m_know (I, J, a, b) (cN (I 5 0)) (cN (I 5 1))).2.2.1)) (b1 := ((m_know (I, J, a, b) (cN (I 5 0)) (cN (I 5 1))).2.2.2)) (As := []) (rest := []) ⟨hx, hb, hml, hown, hts⟩ G 5 (kX5_know l D ad cy I J a b H.size (cN (I 5 0)) (cN (I 5 1)) hmn hmn2 hmr hmr2) (cwV 0 hts gX5_run_X5_know rfl rfl rfl (by decide +kernel) ⟨Nat.le_of_ble_eq_true rfl, Nat.le_of_ble_eq_true rfl⟩) (by decide) rfl rfl rfl rfl hl.1 rfl (Nat.le_of_ble_eq_true rfl) ⟨Nat.zero_le _, Nat.zero_le _⟩ dX5_run_1 (fun H locs G => ?_)
  refine lv_aload_n hx hb dX5_run_4 rfl (lv_at hl 0 rfl) ?_
  refine gx_get hx hb hts hinX5 hown G 5 (by decide) rfl rfl 10 (by decide) rfl lk128 rfl (v := .int (((m_know (I, J, a, b) (cN (I 5 0)) (cN (I 5 1))).1) 5 10)) rfl dX5_run_5 ?_
  refine lv_if_eq (tgt := 15) hx hb dX5_run_8 (by decide) (fun c8 => ?_) (fun c8 => ?_)
  · skip
    refine lv_iconst (v := 0) hx hb dX5_run_15 (by decide) ?_
    exact gx_ir hx hb hr hlocks G hQ ⟨by unfold m_run; unfold kS; (repeat (first | rw [if_pos c8])), rfl⟩ dX5_run_16
  · skip
    refine lv_iconst (v := 1) hx hb dX5_run_11 (by decide) ?_
    refine lv_goto (tgt := 16) hx hb dX5_run_12 (by decide) ?_
    exact gx_ir hx hb hr hlocks G hQ ⟨by unfold m_run; unfold kS; (repeat (first | rw [if_neg c8])), rfl⟩ dX5_run_16

set_option maxHeartbeats 4000000 in
set_option maxRecDepth 100000 in
theorem kX5_least (l : Launch) (D : va_G) (ad : Nat → Nat) (cy : Nat → ClassId) (I : gF) (J : gL) (a : gF) (b : gL) (sz : Nat) (pt : Int32) (hmn : I 5 0 = nI (cN (I 5 0))) (hmn2 : cN (I 5 0) ≤ 5) (hmr : I 5 1 = nI (cN (I 5 1))) (hmr2 : cN (I 5 1) ≤ 8) (hnz : m_nz (kS (I, J, a, b)) (cN (I 5 0))) : gMl l yX5_least wsX5_least ({ frames := 4, cells := 0, slots := 0, locals := 104 }) D ad cy I J a b sz [.ref (ad 5), .int pt] (fun res u => res = m_least (I, J, a, b) pt ∧ u = m_leastS (I, J, a, b) pt) := by
  refine Met.ofW (cc := cX5_least) (maxL := 2) (ret := some .long) (by decide) rfl ?_
  intro p e s m args below meth c s₁ B hml hv
  obtain ⟨hargs, hsz, G⟩ := gx_begin hv
  subst hsz
  have hx := B.exec
  have hb := B.bytes
  have hr := B.returns
  have hts := atoms_spec (ws := wsX5_least) B.pre
  have hown : s.vm.findClass RX5 = some m.cls := findClass_of_methodNamed B.named
  have hlocks := B.notSynchronized
  have hinX5 : ∀ w ∈ wsX50, w ∈ wsX5_least := by decide +kernel
  have lk108 := hts (.fieldLink RX5 108 "ExactSimplexModel" "costOver" "J") (by decide +kernel)
  have lk111 := hts (.fieldLink RX5 111 "ExactSimplexModel" "costUnder" "J") (by decide +kernel)
  have lk128 := hts (.fieldLink RX5 128 "ExactSimplexModel" "has" "Z") (by decide +kernel)
  have hl := lv_entry ([.ref (ad 5), .int pt]) (n := 2) (Nat.le_of_ble_eq_true rfl)
  have hent := lg_entry_eq m ([.ref (ad 5), .int pt]) 2
  rw [← hargs] at hent
  rw [hent]
  clear hent
  generalize (lg_sl ([.ref (ad 5), .int pt]) ++ List.replicate (2 - (lg_sl ([.ref (ad 5), .int pt])).length) Slot.unset).toArray = ls at hl ⊢
  have hl : lv_has ls 2 [(0, .ref (ad 5)), (1, .int pt)] := hl
  generalize hA : gA ad s.heap.size = A at G ⊢
  generalize hH : s.heap = H at G ⊢
  refine gx_q (fun Q hQ => ?_)
  refine lv_iload_n hx hb dX5_least_0 rfl (lv_at hl 1 rfl) ?_
  refine gx_dSi (v := (q_z01 pt)) (I1 := I) (J1 := J) (a1 := a) (b1 := b) (As := [.int pt]) (rest := []) ⟨hx, hb, hml, hown, hts⟩ G (kX5_isPart l D ad cy I J a b H.size pt) (va_cwS 1 hts gX5_least_X5_isPart rfl rfl rfl (by decide +kernel) ⟨Nat.le_of_ble_eq_true rfl, Nat.le_of_ble_eq_true rfl⟩) rfl hl.1 rfl (Nat.le_of_ble_eq_true rfl) ⟨Nat.zero_le _, Nat.zero_le _⟩ dX5_least_1 (fun H locs G => ?_)
  refine lv_if_ne (tgt := 11) hx hb dX5_least_4 (by decide) (fun c4 => ?_) (fun c4 => ?_)
  · skip
    refine lv_aload_n hx hb dX5_least_11 rfl (lv_at hl 0 rfl) ?_
    refine gx_dVv (I1 := ((m_know (I, J, a, b) (cN (I 5 0)) (cN (I 5 1))).1)) (J1 := ((m_know (I, J, a, b) (cN (I 5 0)) (cN (I 5 1))).2.1)) (a1 := ((m_know (I, J, a, b) (cN (I 5 0)) (cN (I 5 1))).2.2.1)) (b1 := ((m_know (I, J, a, b) (cN (I 5 0)) (cN (I 5 1))).2.2.2)) (As := []) (rest := []) ⟨hx, hb, hml, hown, hts⟩ G 5 (kX5_know l D ad cy I J a b H.size (cN (I 5 0)) (cN (I 5 1)) hmn hmn2 hmr hmr2) (cwV 0 hts gX5_least_X5_know rfl rfl rfl (by decide +kernel) ⟨Nat.le_of_ble_eq_true rfl, Nat.le_of_ble_eq_true rfl⟩) (by decide) rfl rfl rfl rfl hl.1 rfl (Nat.le_of_ble_eq_true rfl) ⟨Nat.zero_le _, Nat.zero_le _⟩ dX5_least_12 (fun H locs G => ?_)
    refine lv_aload_n hx hb dX5_least_15 rfl (lv_at hl 0 rfl) ?_
    refine gx_get hx hb hts hinX5 hown G 5 (by decide) rfl rfl 10 (by decide) rfl lk128 rfl (v := .int (((m_know (I, J, a, b) (cN (I 5 0)) (cN (I 5 1))).1) 5 10)) rfl dX5_least_16 ?_
    refine lv_if_eq (tgt := 37) hx hb dX5_least_19 (by decide) (fun c19 => ?_) (fun c19 => ?_)
    · skip
      refine lv_ldc2 hx hb hown (hts (.constantLong RX5 155 (-3)) (by decide +kernel)) dX5_least_37 ?_
      exact gx_lr hx hb hr hlocks G hQ ⟨by unfold m_least; unfold kS; (repeat (first | rw [if_neg c4] | rw [if_pos c19])); (try rw [ecl]); (try rfl), by unfold m_leastS; unfold kS; (repeat (first | rw [if_neg c4] | rw [if_pos c19])); (try rfl)⟩ dX5_least_40
    · skip
      refine lv_aload_n hx hb dX5_least_22 rfl (lv_at hl 0 rfl) ?_
      refine gx_get hx hb hts hinX5 hown G 5 (by decide) rfl rfl 11 (by decide) rfl lk108 rfl (v := .long (((m_know (I, J, a, b) (cN (I 5 0)) (cN (I 5 1))).2.1) 5 11)) rfl dX5_least_23 ?_
      refine lv_aload_n hx hb dX5_least_26 rfl (lv_at hl 0 rfl) ?_
      refine gx_get hx hb hts hinX5 hown G 5 (by decide) rfl rfl 12 (by decide) rfl lk111 rfl (v := .long (((m_know (I, J, a, b) (cN (I 5 0)) (cN (I 5 1))).2.1) 5 12)) rfl dX5_least_27 ?_
      refine lv_iload_n hx hb dX5_least_30 rfl (lv_at hl 1 rfl) ?_
      refine gx_dSl (v := (m_lowest (((m_know (I, J, a, b) (cN (I 5 0)) (cN (I 5 1))).2.1) 5 11) (((m_know (I, J, a, b) (cN (I 5 0)) (cN (I 5 1))).2.1) 5 12) pt)) (I1 := ((m_know (I, J, a, b) (cN (I 5 0)) (cN (I 5 1))).1)) (J1 := ((m_know (I, J, a, b) (cN (I 5 0)) (cN (I 5 1))).2.1)) (a1 := ((m_know (I, J, a, b) (cN (I 5 0)) (cN (I 5 1))).2.2.1)) (b1 := ((m_know (I, J, a, b) (cN (I 5 0)) (cN (I 5 1))).2.2.2)) (As := [.long (((m_know (I, J, a, b) (cN (I 5 0)) (cN (I 5 1))).2.1) 5 11), .long (((m_know (I, J, a, b) (cN (I 5 0)) (cN (I 5 1))).2.1) 5 12), .int pt]) (rest := []) ⟨hx, hb, hml, hown, hts⟩ G (kX5_lowest l D ad cy ((m_know (I, J, a, b) (cN (I 5 0)) (cN (I 5 1))).1) ((m_know (I, J, a, b) (cN (I 5 0)) (cN (I 5 1))).2.1) ((m_know (I, J, a, b) (cN (I 5 0)) (cN (I 5 1))).2.2.1) ((m_know (I, J, a, b) (cN (I 5 0)) (cN (I 5 1))).2.2.2) H.size (((m_know (I, J, a, b) (cN (I 5 0)) (cN (I 5 1))).2.1) 5 11) (((m_know (I, J, a, b) (cN (I 5 0)) (cN (I 5 1))).2.1) 5 12) pt (hnz c19).1) (va_cwS 3 hts gX5_least_X5_lowest rfl rfl rfl (by decide +kernel) ⟨Nat.le_of_ble_eq_true rfl, Nat.le_of_ble_eq_true rfl⟩) rfl hl.1 rfl (Nat.le_of_ble_eq_true rfl) ⟨Nat.zero_le _, Nat.zero_le _⟩ dX5_least_31 (fun H locs G => ?_)
      refine lv_goto (tgt := 40) hx hb dX5_least_34 (by decide) ?_
      exact gx_lr hx hb hr hlocks G hQ ⟨by unfold m_least; unfold kS; (repeat (first | rw [if_neg c4] | rw [if_neg c19])); (try rw [ecl]); (try rfl), by unfold m_leastS; unfold kS; (repeat (first | rw [if_neg c4] | rw [if_neg c19])); (try rfl)⟩ dX5_least_40
  · skip
    refine lv_ldc2 hx hb hown (hts (.constantLong RX5 149 (-2)) (by decide +kernel)) dX5_least_7 ?_
    exact gx_lr hx hb hr hlocks G hQ ⟨by unfold m_least; unfold kS; (repeat (first | rw [if_pos c4])); (try rw [ecl]); (try rfl), by unfold m_leastS; unfold kS; (repeat (first | rw [if_pos c4])); (try rfl)⟩ dX5_least_10

set_option maxHeartbeats 4000000 in
set_option maxRecDepth 100000 in
theorem kX5_value (l : Launch) (D : va_G) (ad : Nat → Nat) (cy : Nat → ClassId) (I : gF) (J : gL) (a : gF) (b : gL) (sz : Nat) (v pt : Int32) (hmn : I 5 0 = nI (cN (I 5 0))) (hmn2 : cN (I 5 0) ≤ 5) (hmr : I 5 1 = nI (cN (I 5 1))) (hmr2 : cN (I 5 1) ≤ 8) (hnz : m_nz (kS (I, J, a, b)) (cN (I 5 0))) : gMl l yX5_value wsX5_value ({ frames := 4, cells := 0, slots := 0, locals := 104 }) D ad cy I J a b sz [.ref (ad 5), .int v, .int pt] (fun res u => res = m_value (I, J, a, b) v pt ∧ u = m_valueS (I, J, a, b) v pt) := by
  refine Met.ofW (cc := cX5_value) (maxL := 3) (ret := some .long) (by decide) rfl ?_
  intro p e s m args below meth c s₁ B hml hv
  obtain ⟨hargs, hsz, G⟩ := gx_begin hv
  subst hsz
  have hx := B.exec
  have hb := B.bytes
  have hr := B.returns
  have hts := atoms_spec (ws := wsX5_value) B.pre
  have hown : s.vm.findClass RX5 = some m.cls := findClass_of_methodNamed B.named
  have hlocks := B.notSynchronized
  have hinX5 : ∀ w ∈ wsX50, w ∈ wsX5_value := by decide +kernel
  have lk32 := hts (.fieldLink RX5 32 "ExactSimplexModel" "bestOver" "[J") (by decide +kernel)
  have lk114 := hts (.fieldLink RX5 114 "ExactSimplexModel" "bestUnder" "J") (by decide +kernel)
  have lk128 := hts (.fieldLink RX5 128 "ExactSimplexModel" "has" "Z") (by decide +kernel)
  have hl := lv_entry ([.ref (ad 5), .int v, .int pt]) (n := 3) (Nat.le_of_ble_eq_true rfl)
  have hent := lg_entry_eq m ([.ref (ad 5), .int v, .int pt]) 3
  rw [← hargs] at hent
  rw [hent]
  clear hent
  generalize (lg_sl ([.ref (ad 5), .int v, .int pt]) ++ List.replicate (3 - (lg_sl ([.ref (ad 5), .int v, .int pt])).length) Slot.unset).toArray = ls at hl ⊢
  have hl : lv_has ls 3 [(0, .ref (ad 5)), (1, .int v), (2, .int pt)] := hl
  generalize hA : gA ad s.heap.size = A at G ⊢
  generalize hH : s.heap = H at G ⊢
  refine gx_q (fun Q hQ => ?_)
  refine lv_aload_n hx hb dX5_value_0 rfl (lv_at hl 0 rfl) ?_
  refine lv_iload_n hx hb dX5_value_1 rfl (lv_at hl 1 rfl) ?_
  refine gx_dVi (v := (m_isN I v)) (I1 := I) (J1 := J) (a1 := a) (b1 := b) (As := [.int v]) (rest := []) ⟨hx, hb, hml, hown, hts⟩ G 5 (kX5_isName l D ad cy I J a b H.size v) (cwV 1 hts gX5_value_X5_isName rfl rfl rfl (by decide +kernel) ⟨Nat.le_of_ble_eq_true rfl, Nat.le_of_ble_eq_true rfl⟩) (by decide) rfl rfl rfl rfl hl.1 rfl (Nat.le_of_ble_eq_true rfl) ⟨Nat.zero_le _, Nat.zero_le _⟩ dX5_value_2 (fun H locs G => ?_)
  refine lv_if_ne (tgt := 12) hx hb dX5_value_5 (by decide) (fun c5 => ?_) (fun c5 => ?_)
  · skip
    obtain ⟨j, hj, ej⟩ := m_isN_ix hmn (by omega) c5
    have ecl : cN v = j := cN_of ej (by omega)
    refine lv_iload_n hx hb dX5_value_12 rfl (lv_at hl 2 rfl) ?_
    refine gx_dSi (v := (q_z01 pt)) (I1 := I) (J1 := J) (a1 := a) (b1 := b) (As := [.int pt]) (rest := []) ⟨hx, hb, hml, hown, hts⟩ G (kX5_isPart l D ad cy I J a b H.size pt) (va_cwS 1 hts gX5_value_X5_isPart rfl rfl rfl (by decide +kernel) ⟨Nat.le_of_ble_eq_true rfl, Nat.le_of_ble_eq_true rfl⟩) rfl hl.1 rfl (Nat.le_of_ble_eq_true rfl) ⟨Nat.zero_le _, Nat.zero_le _⟩ dX5_value_13 (fun H locs G => ?_)
    refine lv_if_ne (tgt := 23) hx hb dX5_value_16 (by decide) (fun c16 => ?_) (fun c16 => ?_)
    · skip
      refine lv_aload_n hx hb dX5_value_23 rfl (lv_at hl 0 rfl) ?_
      refine gx_dVv (I1 := ((m_know (I, J, a, b) (cN (I 5 0)) (cN (I 5 1))).1)) (J1 := ((m_know (I, J, a, b) (cN (I 5 0)) (cN (I 5 1))).2.1)) (a1 := ((m_know (I, J, a, b) (cN (I 5 0)) (cN (I 5 1))).2.2.1)) (b1 := ((m_know (I, J, a, b) (cN (I 5 0)) (cN (I 5 1))).2.2.2)) (As := []) (rest := []) ⟨hx, hb, hml, hown, hts⟩ G 5 (kX5_know l D ad cy I J a b H.size (cN (I 5 0)) (cN (I 5 1)) hmn hmn2 hmr hmr2) (cwV 0 hts gX5_value_X5_know rfl rfl rfl (by decide +kernel) ⟨Nat.le_of_ble_eq_true rfl, Nat.le_of_ble_eq_true rfl⟩) (by decide) rfl rfl rfl rfl hl.1 rfl (Nat.le_of_ble_eq_true rfl) ⟨Nat.zero_le _, Nat.zero_le _⟩ dX5_value_24 (fun H locs G => ?_)
      refine lv_aload_n hx hb dX5_value_27 rfl (lv_at hl 0 rfl) ?_
      refine gx_get hx hb hts hinX5 hown G 5 (by decide) rfl rfl 10 (by decide) rfl lk128 rfl (v := .int (((m_know (I, J, a, b) (cN (I 5 0)) (cN (I 5 1))).1) 5 10)) rfl dX5_value_28 ?_
      refine lv_if_eq (tgt := 51) hx hb dX5_value_31 (by decide) (fun c31 => ?_) (fun c31 => ?_)
      · skip
        refine lv_ldc2 hx hb hown (hts (.constantLong RX5 155 (-3)) (by decide +kernel)) dX5_value_51 ?_
        exact gx_lr hx hb hr hlocks G hQ ⟨by unfold m_value; unfold kS; (repeat (first | rw [if_neg c5] | rw [if_neg c16] | rw [if_pos c31])); (try rw [ecl]); (try rfl), by unfold m_valueS; unfold kS; (repeat (first | rw [if_neg c5] | rw [if_neg c16] | rw [if_pos c31])); (try rfl)⟩ dX5_value_54
      · skip
        refine lv_aload_n hx hb dX5_value_34 rfl (lv_at hl 0 rfl) ?_
        refine gx_get hx hb hts hinX5 hown G 5 (by decide) rfl rfl 13 (by decide) rfl lk32 rfl (v := .ref (ad 34)) rfl dX5_value_35 ?_
        refine lv_iload_n hx hb dX5_value_38 rfl (lv_at hl 1 rfl) ?_
        refine gx_lald hx hb G 34 (by decide) (rfl) (by decide) j ej (by omega) dX5_value_39 ?_
        refine lv_aload_n hx hb dX5_value_40 rfl (lv_at hl 0 rfl) ?_
        refine gx_get hx hb hts hinX5 hown G 5 (by decide) rfl rfl 14 (by decide) rfl lk114 rfl (v := .long (((m_know (I, J, a, b) (cN (I 5 0)) (cN (I 5 1))).2.1) 5 14)) rfl dX5_value_41 ?_
        refine lv_iload_n hx hb dX5_value_44 rfl (lv_at hl 2 rfl) ?_
        refine gx_dSl (v := (m_lowest (((m_know (I, J, a, b) (cN (I 5 0)) (cN (I 5 1))).2.2.2) 34 j) (((m_know (I, J, a, b) (cN (I 5 0)) (cN (I 5 1))).2.1) 5 14) pt)) (I1 := ((m_know (I, J, a, b) (cN (I 5 0)) (cN (I 5 1))).1)) (J1 := ((m_know (I, J, a, b) (cN (I 5 0)) (cN (I 5 1))).2.1)) (a1 := ((m_know (I, J, a, b) (cN (I 5 0)) (cN (I 5 1))).2.2.1)) (b1 := ((m_know (I, J, a, b) (cN (I 5 0)) (cN (I 5 1))).2.2.2)) (As := [.long (((m_know (I, J, a, b) (cN (I 5 0)) (cN (I 5 1))).2.2.2) 34 j), .long (((m_know (I, J, a, b) (cN (I 5 0)) (cN (I 5 1))).2.1) 5 14), .int pt]) (rest := []) ⟨hx, hb, hml, hown, hts⟩ G (kX5_lowest l D ad cy ((m_know (I, J, a, b) (cN (I 5 0)) (cN (I 5 1))).1) ((m_know (I, J, a, b) (cN (I 5 0)) (cN (I 5 1))).2.1) ((m_know (I, J, a, b) (cN (I 5 0)) (cN (I 5 1))).2.2.1) ((m_know (I, J, a, b) (cN (I 5 0)) (cN (I 5 1))).2.2.2) H.size (((m_know (I, J, a, b) (cN (I 5 0)) (cN (I 5 1))).2.2.2) 34 j) (((m_know (I, J, a, b) (cN (I 5 0)) (cN (I 5 1))).2.1) 5 14) pt ((hnz c31).2.1 (by omega))) (va_cwS 3 hts gX5_value_X5_lowest rfl rfl rfl (by decide +kernel) ⟨Nat.le_of_ble_eq_true rfl, Nat.le_of_ble_eq_true rfl⟩) rfl hl.1 rfl (Nat.le_of_ble_eq_true rfl) ⟨Nat.zero_le _, Nat.zero_le _⟩ dX5_value_45 (fun H locs G => ?_)
        refine lv_goto (tgt := 54) hx hb dX5_value_48 (by decide) ?_
        exact gx_lr hx hb hr hlocks G hQ ⟨by unfold m_value; unfold kS; (repeat (first | rw [if_neg c5] | rw [if_neg c16] | rw [if_neg c31])); (try rw [ecl]); (try rfl), by unfold m_valueS; unfold kS; (repeat (first | rw [if_neg c5] | rw [if_neg c16] | rw [if_neg c31])); (try rfl)⟩ dX5_value_54
    · skip
      refine lv_ldc2 hx hb hown (hts (.constantLong RX5 149 (-2)) (by decide +kernel)) dX5_value_19 ?_
      exact gx_lr hx hb hr hlocks G hQ ⟨by unfold m_value; unfold kS; (repeat (first | rw [if_neg c5] | rw [if_pos c16])); (try rw [ecl]); (try rfl), by unfold m_valueS; unfold kS; (repeat (first | rw [if_neg c5] | rw [if_pos c16])); (try rfl)⟩ dX5_value_22
  · skip
    refine lv_ldc2 hx hb hown (hts (.constantLong RX5 157 (-1)) (by decide +kernel)) dX5_value_8 ?_
    exact gx_lr hx hb hr hlocks G hQ ⟨by unfold m_value; unfold kS; (repeat (first | rw [if_pos c5])); (try rw [ecl]); (try rfl), by unfold m_valueS; unfold kS; (repeat (first | rw [if_pos c5])); (try rfl)⟩ dX5_value_11

set_option maxHeartbeats 4000000 in
set_option maxRecDepth 100000 in
theorem kX5_reach (l : Launch) (D : va_G) (ad : Nat → Nat) (cy : Nat → ClassId) (I : gF) (J : gL) (a : gF) (b : gL) (sz : Nat) (v sd pt : Int32) (hmn : I 5 0 = nI (cN (I 5 0))) (hmn2 : cN (I 5 0) ≤ 5) (hmr : I 5 1 = nI (cN (I 5 1))) (hmr2 : cN (I 5 1) ≤ 8) (hnz : m_nz (kS (I, J, a, b)) (cN (I 5 0))) : gMl l yX5_reach wsX5_reach ({ frames := 4, cells := 0, slots := 0, locals := 104 }) D ad cy I J a b sz [.ref (ad 5), .int v, .int sd, .int pt] (fun res u => res = m_reach (I, J, a, b) v sd pt ∧ u = m_reachS (I, J, a, b) v sd pt) := by
  refine Met.ofW (cc := cX5_reach) (maxL := 4) (ret := some .long) (by decide) rfl ?_
  intro p e s m args below meth c s₁ B hml hv
  obtain ⟨hargs, hsz, G⟩ := gx_begin hv
  subst hsz
  have hx := B.exec
  have hb := B.bytes
  have hr := B.returns
  have hts := atoms_spec (ws := wsX5_reach) B.pre
  have hown : s.vm.findClass RX5 = some m.cls := findClass_of_methodNamed B.named
  have hlocks := B.notSynchronized
  have hinX5 : ∀ w ∈ wsX50, w ∈ wsX5_reach := by decide +kernel
  have lk36 := hts (.fieldLink RX5 36 "ExactSimplexModel" "reachOver" "[J") (by decide +kernel)
  have lk39 := hts (.fieldLink RX5 39 "ExactSimplexModel" "reachUnder" "[J") (by decide +kernel)
  have lk128 := hts (.fieldLink RX5 128 "ExactSimplexModel" "has" "Z") (by decide +kernel)
  have hl := lv_entry ([.ref (ad 5), .int v, .int sd, .int pt]) (n := 4) (Nat.le_of_ble_eq_true rfl)
  have hent := lg_entry_eq m ([.ref (ad 5), .int v, .int sd, .int pt]) 4
  rw [← hargs] at hent
  rw [hent]
  clear hent
  generalize (lg_sl ([.ref (ad 5), .int v, .int sd, .int pt]) ++ List.replicate (4 - (lg_sl ([.ref (ad 5), .int v, .int sd, .int pt])).length) Slot.unset).toArray = ls at hl ⊢
  have hl : lv_has ls 4 [(0, .ref (ad 5)), (1, .int v), (2, .int sd), (3, .int pt)] := hl
  generalize hA : gA ad s.heap.size = A at G ⊢
  generalize hH : s.heap = H at G ⊢
  refine gx_q (fun Q hQ => ?_)
  refine lv_aload_n hx hb dX5_reach_0 rfl (lv_at hl 0 rfl) ?_
  refine lv_iload_n hx hb dX5_reach_1 rfl (lv_at hl 1 rfl) ?_
  refine gx_dVi (v := (m_isN I v)) (I1 := I) (J1 := J) (a1 := a) (b1 := b) (As := [.int v]) (rest := []) ⟨hx, hb, hml, hown, hts⟩ G 5 (kX5_isName l D ad cy I J a b H.size v) (cwV 1 hts gX5_reach_X5_isName rfl rfl rfl (by decide +kernel) ⟨Nat.le_of_ble_eq_true rfl, Nat.le_of_ble_eq_true rfl⟩) (by decide) rfl rfl rfl rfl hl.1 rfl (Nat.le_of_ble_eq_true rfl) ⟨Nat.zero_le _, Nat.zero_le _⟩ dX5_reach_2 (fun H locs G => ?_)
  refine lv_if_ne (tgt := 12) hx hb dX5_reach_5 (by decide) (fun c5 => ?_) (fun c5 => ?_)
  · skip
    obtain ⟨j, hj, ej⟩ := m_isN_ix hmn (by omega) c5
    have ecl : cN v = j := cN_of ej (by omega)
    refine lv_iload_n hx hb dX5_reach_12 rfl (lv_at hl 2 rfl) ?_
    refine gx_dSi (v := (q_z01 sd)) (I1 := I) (J1 := J) (a1 := a) (b1 := b) (As := [.int sd]) (rest := []) ⟨hx, hb, hml, hown, hts⟩ G (kX5_isPart l D ad cy I J a b H.size sd) (va_cwS 1 hts gX5_reach_X5_isPart rfl rfl rfl (by decide +kernel) ⟨Nat.le_of_ble_eq_true rfl, Nat.le_of_ble_eq_true rfl⟩) rfl hl.1 rfl (Nat.le_of_ble_eq_true rfl) ⟨Nat.zero_le _, Nat.zero_le _⟩ dX5_reach_13 (fun H locs G => ?_)
    refine lv_if_eq (tgt := 26) hx hb dX5_reach_16 (by decide) (fun c16 => ?_) (fun c16 => ?_)
    · skip
      refine lv_ldc2 hx hb hown (hts (.constantLong RX5 149 (-2)) (by decide +kernel)) dX5_reach_26 ?_
      exact gx_lr hx hb hr hlocks G hQ ⟨by unfold m_reach; unfold kS; (repeat (first | rw [if_neg c5] | rw [if_pos c16])); (try rw [ecl, ecs]); (try rfl), by unfold m_reachS; unfold kS; (repeat (first | rw [if_neg c5] | rw [if_pos c16])); (try rfl)⟩ dX5_reach_29
    · skip
      refine lv_iload_n hx hb dX5_reach_19 rfl (lv_at hl 3 rfl) ?_
      refine gx_dSi (v := (q_z01 pt)) (I1 := I) (J1 := J) (a1 := a) (b1 := b) (As := [.int pt]) (rest := []) ⟨hx, hb, hml, hown, hts⟩ G (kX5_isPart l D ad cy I J a b H.size pt) (va_cwS 1 hts gX5_reach_X5_isPart rfl rfl rfl (by decide +kernel) ⟨Nat.le_of_ble_eq_true rfl, Nat.le_of_ble_eq_true rfl⟩) rfl hl.1 rfl (Nat.le_of_ble_eq_true rfl) ⟨Nat.zero_le _, Nat.zero_le _⟩ dX5_reach_20 (fun H locs G => ?_)
      refine lv_if_ne (tgt := 30) hx hb dX5_reach_23 (by decide) (fun c23 => ?_) (fun c23 => ?_)
      · skip
        refine lv_aload_n hx hb dX5_reach_30 rfl (lv_at hl 0 rfl) ?_
        refine gx_dVv (I1 := ((m_know (I, J, a, b) (cN (I 5 0)) (cN (I 5 1))).1)) (J1 := ((m_know (I, J, a, b) (cN (I 5 0)) (cN (I 5 1))).2.1)) (a1 := ((m_know (I, J, a, b) (cN (I 5 0)) (cN (I 5 1))).2.2.1)) (b1 := ((m_know (I, J, a, b) (cN (I 5 0)) (cN (I 5 1))).2.2.2)) (As := []) (rest := []) ⟨hx, hb, hml, hown, hts⟩ G 5 (kX5_know l D ad cy I J a b H.size (cN (I 5 0)) (cN (I 5 1)) hmn hmn2 hmr hmr2) (cwV 0 hts gX5_reach_X5_know rfl rfl rfl (by decide +kernel) ⟨Nat.le_of_ble_eq_true rfl, Nat.le_of_ble_eq_true rfl⟩) (by decide) rfl rfl rfl rfl hl.1 rfl (Nat.le_of_ble_eq_true rfl) ⟨Nat.zero_le _, Nat.zero_le _⟩ dX5_reach_31 (fun H locs G => ?_)
        refine lv_aload_n hx hb dX5_reach_34 rfl (lv_at hl 0 rfl) ?_
        refine gx_get hx hb hts hinX5 hown G 5 (by decide) rfl rfl 10 (by decide) rfl lk128 rfl (v := .int (((m_know (I, J, a, b) (cN (I 5 0)) (cN (I 5 1))).1) 5 10)) rfl dX5_reach_35 ?_
        refine lv_if_eq (tgt := 68) hx hb dX5_reach_38 (by decide) (fun c38 => ?_) (fun c38 => ?_)
        · skip
          refine lv_ldc2 hx hb hown (hts (.constantLong RX5 155 (-3)) (by decide +kernel)) dX5_reach_68 ?_
          exact gx_lr hx hb hr hlocks G hQ ⟨by unfold m_reach; unfold kS; (repeat (first | rw [if_neg c5] | rw [if_neg c16] | rw [if_neg c23] | rw [if_pos c38])); (try rw [ecl, ecs]); (try rfl), by unfold m_reachS; unfold kS; (repeat (first | rw [if_neg c5] | rw [if_neg c16] | rw [if_neg c23] | rw [if_pos c38])); (try rfl)⟩ dX5_reach_71
        · skip
          obtain ⟨js, hjs, ejs⟩ := q_z01_ix c16
          have ecs : cN sd = js := cN_of ejs (by omega)
          refine lv_aload_n hx hb dX5_reach_41 rfl (lv_at hl 0 rfl) ?_
          refine gx_get hx hb hts hinX5 hown G 5 (by decide) rfl rfl 15 (by decide) rfl lk36 rfl (v := .ref (ad 35)) rfl dX5_reach_42 ?_
          refine lv_iconst (v := 2) hx hb dX5_reach_45 (by decide) ?_
          refine lv_iload_n hx hb dX5_reach_46 rfl (lv_at hl 1 rfl) ?_
          rw [ej]
          refine lv_imul hx hb dX5_reach_47 ?_
          refine lv_iload_n hx hb dX5_reach_48 rfl (lv_at hl 2 rfl) ?_
          rw [ejs]
          refine lv_iadd hx hb dX5_reach_49 ?_
          refine gx_lald hx hb G 35 (by decide) (rfl) (by decide) ((2 * j) + js) (gn_add (gn_mul rfl rfl) rfl) (by omega) dX5_reach_50 ?_
          refine lv_aload_n hx hb dX5_reach_51 rfl (lv_at hl 0 rfl) ?_
          refine gx_get hx hb hts hinX5 hown G 5 (by decide) rfl rfl 16 (by decide) rfl lk39 rfl (v := .ref (ad 36)) rfl dX5_reach_52 ?_
          refine lv_iconst (v := 2) hx hb dX5_reach_55 (by decide) ?_
          refine lv_iload_n hx hb dX5_reach_56 rfl (lv_at hl 1 rfl) ?_
          rw [ej]
          refine lv_imul hx hb dX5_reach_57 ?_
          refine lv_iload_n hx hb dX5_reach_58 rfl (lv_at hl 2 rfl) ?_
          rw [ejs]
          refine lv_iadd hx hb dX5_reach_59 ?_
          refine gx_lald hx hb G 36 (by decide) (rfl) (by decide) ((2 * j) + js) (gn_add (gn_mul rfl rfl) rfl) (by omega) dX5_reach_60 ?_
          refine lv_iload_n hx hb dX5_reach_61 rfl (lv_at hl 3 rfl) ?_
          refine gx_dSl (v := (m_lowest (((m_know (I, J, a, b) (cN (I 5 0)) (cN (I 5 1))).2.2.2) 35 ((2 * j) + js)) (((m_know (I, J, a, b) (cN (I 5 0)) (cN (I 5 1))).2.2.2) 36 ((2 * j) + js)) pt)) (I1 := ((m_know (I, J, a, b) (cN (I 5 0)) (cN (I 5 1))).1)) (J1 := ((m_know (I, J, a, b) (cN (I 5 0)) (cN (I 5 1))).2.1)) (a1 := ((m_know (I, J, a, b) (cN (I 5 0)) (cN (I 5 1))).2.2.1)) (b1 := ((m_know (I, J, a, b) (cN (I 5 0)) (cN (I 5 1))).2.2.2)) (As := [.long (((m_know (I, J, a, b) (cN (I 5 0)) (cN (I 5 1))).2.2.2) 35 ((2 * j) + js)), .long (((m_know (I, J, a, b) (cN (I 5 0)) (cN (I 5 1))).2.2.2) 36 ((2 * j) + js)), .int pt]) (rest := []) ⟨hx, hb, hml, hown, hts⟩ G (kX5_lowest l D ad cy ((m_know (I, J, a, b) (cN (I 5 0)) (cN (I 5 1))).1) ((m_know (I, J, a, b) (cN (I 5 0)) (cN (I 5 1))).2.1) ((m_know (I, J, a, b) (cN (I 5 0)) (cN (I 5 1))).2.2.1) ((m_know (I, J, a, b) (cN (I 5 0)) (cN (I 5 1))).2.2.2) H.size (((m_know (I, J, a, b) (cN (I 5 0)) (cN (I 5 1))).2.2.2) 35 ((2 * j) + js)) (((m_know (I, J, a, b) (cN (I 5 0)) (cN (I 5 1))).2.2.2) 36 ((2 * j) + js)) pt ((hnz c38).2.2 ((2 * j) + js) (by omega)).1) (va_cwS 3 hts gX5_reach_X5_lowest rfl rfl rfl (by decide +kernel) ⟨Nat.le_of_ble_eq_true rfl, Nat.le_of_ble_eq_true rfl⟩) rfl hl.1 rfl (Nat.le_of_ble_eq_true rfl) ⟨Nat.zero_le _, Nat.zero_le _⟩ dX5_reach_62 (fun H locs G => ?_)
          refine lv_goto (tgt := 71) hx hb dX5_reach_65 (by decide) ?_
          exact gx_lr hx hb hr hlocks G hQ ⟨by unfold m_reach; unfold kS; (repeat (first | rw [if_neg c5] | rw [if_neg c16] | rw [if_neg c23] | rw [if_neg c38])); (try rw [ecl, ecs]); (try rfl), by unfold m_reachS; unfold kS; (repeat (first | rw [if_neg c5] | rw [if_neg c16] | rw [if_neg c23] | rw [if_neg c38])); (try rfl)⟩ dX5_reach_71
      · skip
        refine lv_ldc2 hx hb hown (hts (.constantLong RX5 149 (-2)) (by decide +kernel)) dX5_reach_26 ?_
        exact gx_lr hx hb hr hlocks G hQ ⟨by unfold m_reach; unfold kS; (repeat (first | rw [if_neg c5] | rw [if_neg c16] | rw [if_pos c23])); (try rw [ecl, ecs]); (try rfl), by unfold m_reachS; unfold kS; (repeat (first | rw [if_neg c5] | rw [if_neg c16] | rw [if_pos c23])); (try rfl)⟩ dX5_reach_29
  · skip
    refine lv_ldc2 hx hb hown (hts (.constantLong RX5 157 (-1)) (by decide +kernel)) dX5_reach_8 ?_
    exact gx_lr hx hb hr hlocks G hQ ⟨by unfold m_reach; unfold kS; (repeat (first | rw [if_pos c5])); (try rw [ecl, ecs]); (try rfl), by unfold m_reachS; unfold kS; (repeat (first | rw [if_pos c5])); (try rfl)⟩ dX5_reach_11

set_option maxHeartbeats 4000000 in
set_option maxRecDepth 100000 in
theorem kX5_far (l : Launch) (D : va_G) (ad : Nat → Nat) (cy : Nat → ClassId) (I : gF) (J : gL) (a : gF) (b : gL) (sz : Nat) (v sd pt : Int32) (hmn : I 5 0 = nI (cN (I 5 0))) (hmn2 : cN (I 5 0) ≤ 5) (hmr : I 5 1 = nI (cN (I 5 1))) (hmr2 : cN (I 5 1) ≤ 8) (hnz : m_nz (kS (I, J, a, b)) (cN (I 5 0))) : gMl l yX5_far wsX5_far ({ frames := 4, cells := 0, slots := 0, locals := 104 }) D ad cy I J a b sz [.ref (ad 5), .int v, .int sd, .int pt] (fun res u => res = m_far (I, J, a, b) v sd pt ∧ u = m_reachS (I, J, a, b) v sd pt) := by
  refine Met.ofW (cc := cX5_far) (maxL := 4) (ret := some .long) (by decide) rfl ?_
  intro p e s m args below meth c s₁ B hml hv
  obtain ⟨hargs, hsz, G⟩ := gx_begin hv
  subst hsz
  have hx := B.exec
  have hb := B.bytes
  have hr := B.returns
  have hts := atoms_spec (ws := wsX5_far) B.pre
  have hown : s.vm.findClass RX5 = some m.cls := findClass_of_methodNamed B.named
  have hlocks := B.notSynchronized
  have hinX5 : ∀ w ∈ wsX50, w ∈ wsX5_far := by decide +kernel
  have lk42 := hts (.fieldLink RX5 42 "ExactSimplexModel" "farOver" "[J") (by decide +kernel)
  have lk45 := hts (.fieldLink RX5 45 "ExactSimplexModel" "farUnder" "[J") (by decide +kernel)
  have lk128 := hts (.fieldLink RX5 128 "ExactSimplexModel" "has" "Z") (by decide +kernel)
  have hl := lv_entry ([.ref (ad 5), .int v, .int sd, .int pt]) (n := 4) (Nat.le_of_ble_eq_true rfl)
  have hent := lg_entry_eq m ([.ref (ad 5), .int v, .int sd, .int pt]) 4
  rw [← hargs] at hent
  rw [hent]
  clear hent
  generalize (lg_sl ([.ref (ad 5), .int v, .int sd, .int pt]) ++ List.replicate (4 - (lg_sl ([.ref (ad 5), .int v, .int sd, .int pt])).length) Slot.unset).toArray = ls at hl ⊢
  have hl : lv_has ls 4 [(0, .ref (ad 5)), (1, .int v), (2, .int sd), (3, .int pt)] := hl
  generalize hA : gA ad s.heap.size = A at G ⊢
  generalize hH : s.heap = H at G ⊢
  refine gx_q (fun Q hQ => ?_)
  refine lv_aload_n hx hb dX5_far_0 rfl (lv_at hl 0 rfl) ?_
  refine lv_iload_n hx hb dX5_far_1 rfl (lv_at hl 1 rfl) ?_
  refine gx_dVi (v := (m_isN I v)) (I1 := I) (J1 := J) (a1 := a) (b1 := b) (As := [.int v]) (rest := []) ⟨hx, hb, hml, hown, hts⟩ G 5 (kX5_isName l D ad cy I J a b H.size v) (cwV 1 hts gX5_far_X5_isName rfl rfl rfl (by decide +kernel) ⟨Nat.le_of_ble_eq_true rfl, Nat.le_of_ble_eq_true rfl⟩) (by decide) rfl rfl rfl rfl hl.1 rfl (Nat.le_of_ble_eq_true rfl) ⟨Nat.zero_le _, Nat.zero_le _⟩ dX5_far_2 (fun H locs G => ?_)
  refine lv_if_ne (tgt := 12) hx hb dX5_far_5 (by decide) (fun c5 => ?_) (fun c5 => ?_)
  · skip
    obtain ⟨j, hj, ej⟩ := m_isN_ix hmn (by omega) c5
    have ecl : cN v = j := cN_of ej (by omega)
    refine lv_iload_n hx hb dX5_far_12 rfl (lv_at hl 2 rfl) ?_
    refine gx_dSi (v := (q_z01 sd)) (I1 := I) (J1 := J) (a1 := a) (b1 := b) (As := [.int sd]) (rest := []) ⟨hx, hb, hml, hown, hts⟩ G (kX5_isPart l D ad cy I J a b H.size sd) (va_cwS 1 hts gX5_far_X5_isPart rfl rfl rfl (by decide +kernel) ⟨Nat.le_of_ble_eq_true rfl, Nat.le_of_ble_eq_true rfl⟩) rfl hl.1 rfl (Nat.le_of_ble_eq_true rfl) ⟨Nat.zero_le _, Nat.zero_le _⟩ dX5_far_13 (fun H locs G => ?_)
    refine lv_if_eq (tgt := 26) hx hb dX5_far_16 (by decide) (fun c16 => ?_) (fun c16 => ?_)
    · skip
      refine lv_ldc2 hx hb hown (hts (.constantLong RX5 149 (-2)) (by decide +kernel)) dX5_far_26 ?_
      exact gx_lr hx hb hr hlocks G hQ ⟨by unfold m_far; unfold kS; (repeat (first | rw [if_neg c5] | rw [if_pos c16])); (try rw [ecl, ecs]); (try rfl), by unfold m_reachS; unfold kS; (repeat (first | rw [if_neg c5] | rw [if_pos c16])); (try rfl)⟩ dX5_far_29
    · skip
      refine lv_iload_n hx hb dX5_far_19 rfl (lv_at hl 3 rfl) ?_
      refine gx_dSi (v := (q_z01 pt)) (I1 := I) (J1 := J) (a1 := a) (b1 := b) (As := [.int pt]) (rest := []) ⟨hx, hb, hml, hown, hts⟩ G (kX5_isPart l D ad cy I J a b H.size pt) (va_cwS 1 hts gX5_far_X5_isPart rfl rfl rfl (by decide +kernel) ⟨Nat.le_of_ble_eq_true rfl, Nat.le_of_ble_eq_true rfl⟩) rfl hl.1 rfl (Nat.le_of_ble_eq_true rfl) ⟨Nat.zero_le _, Nat.zero_le _⟩ dX5_far_20 (fun H locs G => ?_)
      refine lv_if_ne (tgt := 30) hx hb dX5_far_23 (by decide) (fun c23 => ?_) (fun c23 => ?_)
      · skip
        refine lv_aload_n hx hb dX5_far_30 rfl (lv_at hl 0 rfl) ?_
        refine gx_dVv (I1 := ((m_know (I, J, a, b) (cN (I 5 0)) (cN (I 5 1))).1)) (J1 := ((m_know (I, J, a, b) (cN (I 5 0)) (cN (I 5 1))).2.1)) (a1 := ((m_know (I, J, a, b) (cN (I 5 0)) (cN (I 5 1))).2.2.1)) (b1 := ((m_know (I, J, a, b) (cN (I 5 0)) (cN (I 5 1))).2.2.2)) (As := []) (rest := []) ⟨hx, hb, hml, hown, hts⟩ G 5 (kX5_know l D ad cy I J a b H.size (cN (I 5 0)) (cN (I 5 1)) hmn hmn2 hmr hmr2) (cwV 0 hts gX5_far_X5_know rfl rfl rfl (by decide +kernel) ⟨Nat.le_of_ble_eq_true rfl, Nat.le_of_ble_eq_true rfl⟩) (by decide) rfl rfl rfl rfl hl.1 rfl (Nat.le_of_ble_eq_true rfl) ⟨Nat.zero_le _, Nat.zero_le _⟩ dX5_far_31 (fun H locs G => ?_)
        refine lv_aload_n hx hb dX5_far_34 rfl (lv_at hl 0 rfl) ?_
        refine gx_get hx hb hts hinX5 hown G 5 (by decide) rfl rfl 10 (by decide) rfl lk128 rfl (v := .int (((m_know (I, J, a, b) (cN (I 5 0)) (cN (I 5 1))).1) 5 10)) rfl dX5_far_35 ?_
        refine lv_if_eq (tgt := 68) hx hb dX5_far_38 (by decide) (fun c38 => ?_) (fun c38 => ?_)
        · skip
          refine lv_ldc2 hx hb hown (hts (.constantLong RX5 155 (-3)) (by decide +kernel)) dX5_far_68 ?_
          exact gx_lr hx hb hr hlocks G hQ ⟨by unfold m_far; unfold kS; (repeat (first | rw [if_neg c5] | rw [if_neg c16] | rw [if_neg c23] | rw [if_pos c38])); (try rw [ecl, ecs]); (try rfl), by unfold m_reachS; unfold kS; (repeat (first | rw [if_neg c5] | rw [if_neg c16] | rw [if_neg c23] | rw [if_pos c38])); (try rfl)⟩ dX5_far_71
        · skip
          obtain ⟨js, hjs, ejs⟩ := q_z01_ix c16
          have ecs : cN sd = js := cN_of ejs (by omega)
          refine lv_aload_n hx hb dX5_far_41 rfl (lv_at hl 0 rfl) ?_
          refine gx_get hx hb hts hinX5 hown G 5 (by decide) rfl rfl 17 (by decide) rfl lk42 rfl (v := .ref (ad 37)) rfl dX5_far_42 ?_
          refine lv_iconst (v := 2) hx hb dX5_far_45 (by decide) ?_
          refine lv_iload_n hx hb dX5_far_46 rfl (lv_at hl 1 rfl) ?_
          rw [ej]
          refine lv_imul hx hb dX5_far_47 ?_
          refine lv_iload_n hx hb dX5_far_48 rfl (lv_at hl 2 rfl) ?_
          rw [ejs]
          refine lv_iadd hx hb dX5_far_49 ?_
          refine gx_lald hx hb G 37 (by decide) (rfl) (by decide) ((2 * j) + js) (gn_add (gn_mul rfl rfl) rfl) (by omega) dX5_far_50 ?_
          refine lv_aload_n hx hb dX5_far_51 rfl (lv_at hl 0 rfl) ?_
          refine gx_get hx hb hts hinX5 hown G 5 (by decide) rfl rfl 18 (by decide) rfl lk45 rfl (v := .ref (ad 38)) rfl dX5_far_52 ?_
          refine lv_iconst (v := 2) hx hb dX5_far_55 (by decide) ?_
          refine lv_iload_n hx hb dX5_far_56 rfl (lv_at hl 1 rfl) ?_
          rw [ej]
          refine lv_imul hx hb dX5_far_57 ?_
          refine lv_iload_n hx hb dX5_far_58 rfl (lv_at hl 2 rfl) ?_
          rw [ejs]
          refine lv_iadd hx hb dX5_far_59 ?_
          refine gx_lald hx hb G 38 (by decide) (rfl) (by decide) ((2 * j) + js) (gn_add (gn_mul rfl rfl) rfl) (by omega) dX5_far_60 ?_
          refine lv_iload_n hx hb dX5_far_61 rfl (lv_at hl 3 rfl) ?_
          refine gx_dSl (v := (m_lowest (((m_know (I, J, a, b) (cN (I 5 0)) (cN (I 5 1))).2.2.2) 37 ((2 * j) + js)) (((m_know (I, J, a, b) (cN (I 5 0)) (cN (I 5 1))).2.2.2) 38 ((2 * j) + js)) pt)) (I1 := ((m_know (I, J, a, b) (cN (I 5 0)) (cN (I 5 1))).1)) (J1 := ((m_know (I, J, a, b) (cN (I 5 0)) (cN (I 5 1))).2.1)) (a1 := ((m_know (I, J, a, b) (cN (I 5 0)) (cN (I 5 1))).2.2.1)) (b1 := ((m_know (I, J, a, b) (cN (I 5 0)) (cN (I 5 1))).2.2.2)) (As := [.long (((m_know (I, J, a, b) (cN (I 5 0)) (cN (I 5 1))).2.2.2) 37 ((2 * j) + js)), .long (((m_know (I, J, a, b) (cN (I 5 0)) (cN (I 5 1))).2.2.2) 38 ((2 * j) + js)), .int pt]) (rest := []) ⟨hx, hb, hml, hown, hts⟩ G (kX5_lowest l D ad cy ((m_know (I, J, a, b) (cN (I 5 0)) (cN (I 5 1))).1) ((m_know (I, J, a, b) (cN (I 5 0)) (cN (I 5 1))).2.1) ((m_know (I, J, a, b) (cN (I 5 0)) (cN (I 5 1))).2.2.1) ((m_know (I, J, a, b) (cN (I 5 0)) (cN (I 5 1))).2.2.2) H.size (((m_know (I, J, a, b) (cN (I 5 0)) (cN (I 5 1))).2.2.2) 37 ((2 * j) + js)) (((m_know (I, J, a, b) (cN (I 5 0)) (cN (I 5 1))).2.2.2) 38 ((2 * j) + js)) pt ((hnz c38).2.2 ((2 * j) + js) (by omega)).2) (va_cwS 3 hts gX5_far_X5_lowest rfl rfl rfl (by decide +kernel) ⟨Nat.le_of_ble_eq_true rfl, Nat.le_of_ble_eq_true rfl⟩) rfl hl.1 rfl (Nat.le_of_ble_eq_true rfl) ⟨Nat.zero_le _, Nat.zero_le _⟩ dX5_far_62 (fun H locs G => ?_)
          refine lv_goto (tgt := 71) hx hb dX5_far_65 (by decide) ?_
          exact gx_lr hx hb hr hlocks G hQ ⟨by unfold m_far; unfold kS; (repeat (first | rw [if_neg c5] | rw [if_neg c16] | rw [if_neg c23] | rw [if_neg c38])); (try rw [ecl, ecs]); (try rfl), by unfold m_reachS; unfold kS; (repeat (first | rw [if_neg c5] | rw [if_neg c16] | rw [if_neg c23] | rw [if_neg c38])); (try rfl)⟩ dX5_far_71
      · skip
        refine lv_ldc2 hx hb hown (hts (.constantLong RX5 149 (-2)) (by decide +kernel)) dX5_far_26 ?_
        exact gx_lr hx hb hr hlocks G hQ ⟨by unfold m_far; unfold kS; (repeat (first | rw [if_neg c5] | rw [if_neg c16] | rw [if_pos c23])); (try rw [ecl, ecs]); (try rfl), by unfold m_reachS; unfold kS; (repeat (first | rw [if_neg c5] | rw [if_neg c16] | rw [if_pos c23])); (try rfl)⟩ dX5_far_29
  · skip
    refine lv_ldc2 hx hb hown (hts (.constantLong RX5 157 (-1)) (by decide +kernel)) dX5_far_8 ?_
    exact gx_lr hx hb hr hlocks G hQ ⟨by unfold m_far; unfold kS; (repeat (first | rw [if_pos c5])); (try rw [ecl, ecs]); (try rfl), by unfold m_reachS; unfold kS; (repeat (first | rw [if_pos c5])); (try rfl)⟩ dX5_far_11

set_option maxHeartbeats 4000000 in
set_option maxRecDepth 100000 in
theorem kX5_tight (l : Launch) (D : va_G) (ad : Nat → Nat) (cy : Nat → ClassId) (I : gF) (J : gL) (a : gF) (b : gL) (sz : Nat) (r : Int32) (hmn : I 5 0 = nI (cN (I 5 0))) (hmn2 : cN (I 5 0) ≤ 5) (hmr : I 5 1 = nI (cN (I 5 1))) (hmr2 : cN (I 5 1) ≤ 8) : gMi l yX5_tight wsX5_tight ({ frames := 4, cells := 0, slots := 0, locals := 104 }) D ad cy I J a b sz [.ref (ad 5), .int r] (fun res u => res = m_tight (I, J, a, b) r ∧ u = m_tightS (I, J, a, b) r) := by
  refine Met.ofW (cc := cX5_tight) (maxL := 5) (ret := some .int) (by decide) rfl ?_
  intro p e s m args below meth c s₁ B hml hv
  obtain ⟨hargs, hsz, G⟩ := gx_begin hv
  subst hsz
  have hx := B.exec
  have hb := B.bytes
  have hr := B.returns
  have hts := atoms_spec (ws := wsX5_tight) B.pre
  have hown : s.vm.findClass RX5 = some m.cls := findClass_of_methodNamed B.named
  have hlocks := B.notSynchronized
  have hinX5 : ∀ w ∈ wsX50, w ∈ wsX5_tight := by decide +kernel
  have lk22 := hts (.fieldLink RX5 22 "ExactSimplexModel" "rights" "[I") (by decide +kernel)
  have lk25 := hts (.fieldLink RX5 25 "ExactSimplexModel" "factors" "[I") (by decide +kernel)
  have lk32 := hts (.fieldLink RX5 32 "ExactSimplexModel" "bestOver" "[J") (by decide +kernel)
  have lk66 := hts (.fieldLink RX5 66 "ExactSimplexModel" "names" "I") (by decide +kernel)
  have lk114 := hts (.fieldLink RX5 114 "ExactSimplexModel" "bestUnder" "J") (by decide +kernel)
  have lk128 := hts (.fieldLink RX5 128 "ExactSimplexModel" "has" "Z") (by decide +kernel)
  have hl := lv_entry ([.ref (ad 5), .int r]) (n := 5) (Nat.le_of_ble_eq_true rfl)
  have hent := lg_entry_eq m ([.ref (ad 5), .int r]) 5
  rw [← hargs] at hent
  rw [hent]
  clear hent
  generalize (lg_sl ([.ref (ad 5), .int r]) ++ List.replicate (5 - (lg_sl ([.ref (ad 5), .int r])).length) Slot.unset).toArray = ls at hl ⊢
  have hl : lv_has ls 5 [(0, .ref (ad 5)), (1, .int r)] := hl
  generalize hA : gA ad s.heap.size = A at G ⊢
  generalize hH : s.heap = H at G ⊢
  refine gx_q (fun Q hQ => ?_)
  refine lv_aload_n hx hb dX5_tight_0 rfl (lv_at hl 0 rfl) ?_
  refine lv_iload_n hx hb dX5_tight_1 rfl (lv_at hl 1 rfl) ?_
  refine gx_dVi (v := (m_isR I a r)) (I1 := I) (J1 := J) (a1 := a) (b1 := b) (As := [.int r]) (rest := []) ⟨hx, hb, hml, hown, hts⟩ G 5 (kX5_isRow l D ad cy I J a b H.size (cN (I 5 1)) r hmr hmr2) (cwV 1 hts gX5_tight_X5_isRow rfl rfl rfl (by decide +kernel) ⟨Nat.le_of_ble_eq_true rfl, Nat.le_of_ble_eq_true rfl⟩) (by decide) rfl rfl rfl rfl hl.1 rfl (Nat.le_of_ble_eq_true rfl) ⟨Nat.zero_le _, Nat.zero_le _⟩ dX5_tight_2 (fun H locs G => ?_)
  refine lv_if_ne (tgt := 10) hx hb dX5_tight_5 (by decide) (fun c5 => ?_) (fun c5 => ?_)
  · skip
    obtain ⟨j, hj, ej⟩ := m_isR_ix hmr (by omega) c5
    have eclj : cN r = j := cN_of ej (by omega)
    refine lv_aload_n hx hb dX5_tight_10 rfl (lv_at hl 0 rfl) ?_
    refine gx_dVv (I1 := ((m_know (I, J, a, b) (cN (I 5 0)) (cN (I 5 1))).1)) (J1 := ((m_know (I, J, a, b) (cN (I 5 0)) (cN (I 5 1))).2.1)) (a1 := ((m_know (I, J, a, b) (cN (I 5 0)) (cN (I 5 1))).2.2.1)) (b1 := ((m_know (I, J, a, b) (cN (I 5 0)) (cN (I 5 1))).2.2.2)) (As := []) (rest := []) ⟨hx, hb, hml, hown, hts⟩ G 5 (kX5_know l D ad cy I J a b H.size (cN (I 5 0)) (cN (I 5 1)) hmn hmn2 hmr hmr2) (cwV 0 hts gX5_tight_X5_know rfl rfl rfl (by decide +kernel) ⟨Nat.le_of_ble_eq_true rfl, Nat.le_of_ble_eq_true rfl⟩) (by decide) rfl rfl rfl rfl hl.1 rfl (Nat.le_of_ble_eq_true rfl) ⟨Nat.zero_le _, Nat.zero_le _⟩ dX5_tight_11 (fun H locs G => ?_)
    refine lv_aload_n hx hb dX5_tight_14 rfl (lv_at hl 0 rfl) ?_
    refine gx_get hx hb hts hinX5 hown G 5 (by decide) rfl rfl 10 (by decide) rfl lk128 rfl (v := .int (((m_know (I, J, a, b) (cN (I 5 0)) (cN (I 5 1))).1) 5 10)) rfl dX5_tight_15 ?_
    refine lv_if_ne (tgt := 24) hx hb dX5_tight_18 (by decide) (fun c18 => ?_) (fun c18 => ?_)
    · skip
      refine lv_aload_n hx hb dX5_tight_24 rfl (lv_at hl 0 rfl) ?_
      refine gx_get hx hb hts hinX5 hown G 5 (by decide) rfl rfl 0 (by decide) rfl lk66 rfl (v := .int (((m_know (I, J, a, b) (cN (I 5 0)) (cN (I 5 1))).1) 5 0)) rfl dX5_tight_25 ?_
      refine lv_if_ne (tgt := 42) hx hb dX5_tight_28 (by decide) (fun c28 => ?_) (fun c28 => ?_)
      · skip
        have n28 := gn_neq (X := (cN (I 5 0))) (Y := 0) ((m_know_I (x := (I, J, a, b)) (by decide) (by decide) (by decide)).trans hmn) rfl (by omega) (by omega) c28
        refine lv_aload_n hx hb dX5_tight_42 rfl (lv_at hl 0 rfl) ?_
        refine gx_get hx hb hts hinX5 hown G 5 (by decide) rfl rfl 6 (by decide) rfl lk22 rfl (v := .ref (ad 31)) rfl dX5_tight_43 ?_
        refine lv_iload_n hx hb dX5_tight_46 rfl (lv_at hl 1 rfl) ?_
        refine gx_iald hx hb G 31 (by decide) (rfl) (by decide) j ej (by omega) dX5_tight_47 ?_
        refine lv_ineg hx hb dX5_tight_48 ?_
        refine lv_i2l (v := (-(((m_know (I, J, a, b) (cN (I 5 0)) (cN (I 5 1))).2.2.1) 31 j)).toInt64) hx hb dX5_tight_49 rfl ?_
        refine lv_aload_n hx hb dX5_tight_50 rfl (lv_at hl 0 rfl) ?_
        refine gx_get hx hb hts hinX5 hown G 5 (by decide) rfl rfl 14 (by decide) rfl lk114 rfl (v := .long (((m_know (I, J, a, b) (cN (I 5 0)) (cN (I 5 1))).2.1) 5 14)) rfl dX5_tight_51 ?_
        refine lv_lmul hx hb dX5_tight_54 ?_
        refine lv_lstore_n (lv' := [(2, .long (((-(((m_know (I, J, a, b) (cN (I 5 0)) (cN (I 5 1))).2.2.1) 31 j)).toInt64) * (((m_know (I, J, a, b) (cN (I 5 0)) (cN (I 5 1))).2.1) 5 14))), (0, .ref (ad 5)), (1, .int r)]) hx hb dX5_tight_55 rfl hl (by decide) rfl (fun ls hl => ?_)
        refine lv_iconst (v := 0) hx hb dX5_tight_56 (by decide) ?_
        refine lv_istore (lv' := [(4, .int 0), (2, .long (((-(((m_know (I, J, a, b) (cN (I 5 0)) (cN (I 5 1))).2.2.1) 31 j)).toInt64) * (((m_know (I, J, a, b) (cN (I 5 0)) (cN (I 5 1))).2.1) 5 14))), (0, .ref (ad 5)), (1, .int r)]) hx hb dX5_tight_57 hl (by decide) rfl (fun ls hl => ?_)
        have K59 : ∀ (nf : Nat) (q : Nat) (H : Heap) (locs : List Loc) (ls : Array Slot), (q ≤ cN (I 5 0)) → cN (I 5 0) - q < nf → GG D ad cy A s ((m_know (I, J, a, b) (cN (I 5 0)) (cN (I 5 1))).1) ((m_know (I, J, a, b) (cN (I 5 0)) (cN (I 5 1))).2.1) ((m_know (I, J, a, b) (cN (I 5 0)) (cN (I 5 1))).2.2.1) ((m_know (I, J, a, b) (cN (I 5 0)) (cN (I 5 1))).2.2.2) H locs → lv_has ls 5 [(0, .ref (ad 5)), (1, .int r), (2, .long (m_tsum (kS (I, J, a, b)) j q)), (4, .int (nI q))] → W p l e ({ frames := 4, cells := 0, slots := 0, locals := 104 }) s m args below meth c H locs 0 0 Q (F0 m 59 ls []) := by
          intro nf
          induction nf with
          | zero => exact fun _ _ _ _ _ hz => absurd hz (Nat.not_lt_zero _)
          | succ nf ih =>
            intro q H locs ls h3 hmeas G hl
            have ih59 := ih
            clear ih
            refine lv_iload hx hb dX5_tight_59 (lv_at hl 3 rfl) ?_
            refine lv_aload_n hx hb dX5_tight_61 rfl (lv_at hl 0 rfl) ?_
            refine gx_get hx hb hts hinX5 hown G 5 (by decide) rfl rfl 0 (by decide) rfl lk66 rfl (v := .int (((m_know (I, J, a, b) (cN (I 5 0)) (cN (I 5 1))).1) 5 0)) rfl dX5_tight_62 ?_
            refine lv_icmp_ge (tgt := 97) hx hb dX5_tight_65 (by decide) (fun c65 => ?_) (fun c65 => ?_)
            · skip
              have n65 := gn_le (X := (cN (I 5 0))) (Y := q) ((m_know_I (x := (I, J, a, b)) (by decide) (by decide) (by decide)).trans hmn) rfl (by omega) (by omega) c65
              have hex : q = (cN (I 5 0)) := by omega
              rw [hex] at hl
              refine lv_lload_n hx hb dX5_tight_97 rfl (lv_at hl 2 rfl) ?_
              refine lv_lconst (v := 0) hx hb dX5_tight_98 (by decide) ?_
              refine gx_lc_ne (tgt := 107) hx hb dX5_tight_99 dX5_tight_100 (by decide) (fun c100 => ?_) (fun c100 => ?_)
              · skip
                refine lv_iconst (v := 0) hx hb dX5_tight_107 (by decide) ?_
                exact gx_ir hx hb hr hlocks G hQ ⟨by unfold m_tight; rw [if_neg c5, show (kS (I, J, a, b)).1 5 10 = ((m_know (I, J, a, b) (cN (I 5 0)) (cN (I 5 1))).1) 5 10 from rfl, if_neg c18, eclj]; first | rw [if_pos c100] | rw [if_neg c100], by unfold m_tightS; rw [if_neg c5]; rfl⟩ dX5_tight_108
              · skip
                refine lv_iconst (v := 1) hx hb dX5_tight_103 (by decide) ?_
                refine lv_goto (tgt := 108) hx hb dX5_tight_104 (by decide) ?_
                exact gx_ir hx hb hr hlocks G hQ ⟨by unfold m_tight; rw [if_neg c5, show (kS (I, J, a, b)).1 5 10 = ((m_know (I, J, a, b) (cN (I 5 0)) (cN (I 5 1))).1) 5 10 from rfl, if_neg c18, eclj]; first | rw [if_pos c100] | rw [if_neg c100], by unfold m_tightS; rw [if_neg c5]; rfl⟩ dX5_tight_108
            · skip
              have n65 := gn_nle (X := (cN (I 5 0))) (Y := q) ((m_know_I (x := (I, J, a, b)) (by decide) (by decide) (by decide)).trans hmn) rfl (by omega) (by omega) c65
              refine lv_lload_n hx hb dX5_tight_68 rfl (lv_at hl 2 rfl) ?_
              refine lv_aload_n hx hb dX5_tight_69 rfl (lv_at hl 0 rfl) ?_
              refine gx_get hx hb hts hinX5 hown G 5 (by decide) rfl rfl 7 (by decide) rfl lk25 rfl (v := .ref (ad 32)) rfl dX5_tight_70 ?_
              refine lv_iconst (v := 5) hx hb dX5_tight_73 (by decide) ?_
              refine lv_iload_n hx hb dX5_tight_74 rfl (lv_at hl 1 rfl) ?_
              rw [ej]
              refine lv_imul hx hb dX5_tight_75 ?_
              refine lv_iload hx hb dX5_tight_76 (lv_at hl 3 rfl) ?_
              refine lv_iadd hx hb dX5_tight_78 ?_
              refine gx_iald hx hb G 32 (by decide) (rfl) (by decide) ((5 * j) + q) (gn_add (gn_mul rfl rfl) rfl) (by omega) dX5_tight_79 ?_
              refine lv_i2l (v := (((m_know (I, J, a, b) (cN (I 5 0)) (cN (I 5 1))).2.2.1) 32 ((5 * j) + q)).toInt64) hx hb dX5_tight_80 rfl ?_
              refine lv_aload_n hx hb dX5_tight_81 rfl (lv_at hl 0 rfl) ?_
              refine gx_get hx hb hts hinX5 hown G 5 (by decide) rfl rfl 13 (by decide) rfl lk32 rfl (v := .ref (ad 34)) rfl dX5_tight_82 ?_
              refine lv_iload hx hb dX5_tight_85 (lv_at hl 3 rfl) ?_
              refine gx_lald hx hb G 34 (by decide) (rfl) (by decide) q rfl (by omega) dX5_tight_87 ?_
              refine lv_lmul hx hb dX5_tight_88 ?_
              refine lv_ladd hx hb dX5_tight_89 ?_
              refine lv_lstore_n (lv' := [(2, .long ((m_tsum (kS (I, J, a, b)) j q) + (((((m_know (I, J, a, b) (cN (I 5 0)) (cN (I 5 1))).2.2.1) 32 ((5 * j) + q)).toInt64) * (((m_know (I, J, a, b) (cN (I 5 0)) (cN (I 5 1))).2.2.2) 34 q)))), (0, .ref (ad 5)), (1, .int r), (4, .int (nI q))]) hx hb dX5_tight_90 rfl hl (by decide) rfl (fun ls hl => ?_)
              refine lv_iinc (v := (nI (q + 1))) (lv' := [(4, .int (nI (q + 1))), (2, .long ((m_tsum (kS (I, J, a, b)) j q) + (((((m_know (I, J, a, b) (cN (I 5 0)) (cN (I 5 1))).2.2.1) 32 ((5 * j) + q)).toInt64) * (((m_know (I, J, a, b) (cN (I 5 0)) (cN (I 5 1))).2.2.2) 34 q)))), (0, .ref (ad 5)), (1, .int r)]) hx hb dX5_tight_91 hl (k := 3) rfl (gn_add (X := q) (Y := 1) rfl rfl) (by decide) rfl (fun ls hl => ?_)
              refine lv_goto (tgt := 59) hx hb dX5_tight_94 (by decide) ?_
              have q2 : (m_tsum (kS (I, J, a, b)) j q) + (((((m_know (I, J, a, b) (cN (I 5 0)) (cN (I 5 1))).2.2.1) 32 ((5 * j) + q)).toInt64) * (((m_know (I, J, a, b) (cN (I 5 0)) (cN (I 5 1))).2.2.2) 34 q)) = m_tsum (kS (I, J, a, b)) j (q + 1) := rfl
              have hl := lv_chg hl 1 rfl (congrArg Value.long q2)
              exact ih59  (q + 1) _ _ _ (by omega) (by omega) G (lv_sub hl [2, 3, 1, 0] rfl)
        have q2 : ((-(((m_know (I, J, a, b) (cN (I 5 0)) (cN (I 5 1))).2.2.1) 31 j)).toInt64) * (((m_know (I, J, a, b) (cN (I 5 0)) (cN (I 5 1))).2.1) 5 14) = m_tsum (kS (I, J, a, b)) j 0 := by unfold m_tsum; unfold kS; (repeat (first | rw [if_neg c5] | rw [if_neg c18] | rw [if_neg c28]))
        have hl := lv_chg hl 1 rfl (congrArg Value.long q2)
        exact K59 (cN (I 5 0) - 0 + 1) 0 _ _ _ (by omega) (Nat.lt_succ_self _) G (lv_sub hl [2, 3, 1, 0] rfl)
      · skip
        have n28 := gn_eq (X := (cN (I 5 0))) (Y := 0) ((m_know_I (x := (I, J, a, b)) (by decide) (by decide) (by decide)).trans hmn) rfl (by omega) (by omega) c28
        refine lv_aload_n hx hb dX5_tight_31 rfl (lv_at hl 0 rfl) ?_
        refine gx_get hx hb hts hinX5 hown G 5 (by decide) rfl rfl 6 (by decide) rfl lk22 rfl (v := .ref (ad 31)) rfl dX5_tight_32 ?_
        refine lv_iload_n hx hb dX5_tight_35 rfl (lv_at hl 1 rfl) ?_
        refine gx_iald hx hb G 31 (by decide) (rfl) (by decide) j ej (by omega) dX5_tight_36 ?_
        refine lv_ineg hx hb dX5_tight_37 ?_
        refine lv_i2l (v := (-(((m_know (I, J, a, b) (cN (I 5 0)) (cN (I 5 1))).2.2.1) 31 j)).toInt64) hx hb dX5_tight_38 rfl ?_
        refine lv_goto (tgt := 55) hx hb dX5_tight_39 (by decide) ?_
        refine lv_lstore_n (lv' := [(2, .long ((-(((m_know (I, J, a, b) (cN (I 5 0)) (cN (I 5 1))).2.2.1) 31 j)).toInt64)), (0, .ref (ad 5)), (1, .int r)]) hx hb dX5_tight_55 rfl hl (by decide) rfl (fun ls hl => ?_)
        refine lv_iconst (v := 0) hx hb dX5_tight_56 (by decide) ?_
        refine lv_istore (lv' := [(4, .int 0), (2, .long ((-(((m_know (I, J, a, b) (cN (I 5 0)) (cN (I 5 1))).2.2.1) 31 j)).toInt64)), (0, .ref (ad 5)), (1, .int r)]) hx hb dX5_tight_57 hl (by decide) rfl (fun ls hl => ?_)
        have K59 : ∀ (nf : Nat) (q : Nat) (H : Heap) (locs : List Loc) (ls : Array Slot), (q ≤ cN (I 5 0)) → cN (I 5 0) - q < nf → GG D ad cy A s ((m_know (I, J, a, b) (cN (I 5 0)) (cN (I 5 1))).1) ((m_know (I, J, a, b) (cN (I 5 0)) (cN (I 5 1))).2.1) ((m_know (I, J, a, b) (cN (I 5 0)) (cN (I 5 1))).2.2.1) ((m_know (I, J, a, b) (cN (I 5 0)) (cN (I 5 1))).2.2.2) H locs → lv_has ls 5 [(0, .ref (ad 5)), (1, .int r), (2, .long (m_tsum (kS (I, J, a, b)) j q)), (4, .int (nI q))] → W p l e ({ frames := 4, cells := 0, slots := 0, locals := 104 }) s m args below meth c H locs 0 0 Q (F0 m 59 ls []) := by
          intro nf
          induction nf with
          | zero => exact fun _ _ _ _ _ hz => absurd hz (Nat.not_lt_zero _)
          | succ nf ih =>
            intro q H locs ls h3 hmeas G hl
            have ih59 := ih
            clear ih
            refine lv_iload hx hb dX5_tight_59 (lv_at hl 3 rfl) ?_
            refine lv_aload_n hx hb dX5_tight_61 rfl (lv_at hl 0 rfl) ?_
            refine gx_get hx hb hts hinX5 hown G 5 (by decide) rfl rfl 0 (by decide) rfl lk66 rfl (v := .int (((m_know (I, J, a, b) (cN (I 5 0)) (cN (I 5 1))).1) 5 0)) rfl dX5_tight_62 ?_
            refine lv_icmp_ge (tgt := 97) hx hb dX5_tight_65 (by decide) (fun c65 => ?_) (fun c65 => ?_)
            · skip
              have n65 := gn_le (X := (cN (I 5 0))) (Y := q) ((m_know_I (x := (I, J, a, b)) (by decide) (by decide) (by decide)).trans hmn) rfl (by omega) (by omega) c65
              have hex : q = (cN (I 5 0)) := by omega
              rw [hex] at hl
              refine lv_lload_n hx hb dX5_tight_97 rfl (lv_at hl 2 rfl) ?_
              refine lv_lconst (v := 0) hx hb dX5_tight_98 (by decide) ?_
              refine gx_lc_ne (tgt := 107) hx hb dX5_tight_99 dX5_tight_100 (by decide) (fun c100 => ?_) (fun c100 => ?_)
              · skip
                refine lv_iconst (v := 0) hx hb dX5_tight_107 (by decide) ?_
                exact gx_ir hx hb hr hlocks G hQ ⟨by unfold m_tight; rw [if_neg c5, show (kS (I, J, a, b)).1 5 10 = ((m_know (I, J, a, b) (cN (I 5 0)) (cN (I 5 1))).1) 5 10 from rfl, if_neg c18, eclj]; first | rw [if_pos c100] | rw [if_neg c100], by unfold m_tightS; rw [if_neg c5]; rfl⟩ dX5_tight_108
              · skip
                refine lv_iconst (v := 1) hx hb dX5_tight_103 (by decide) ?_
                refine lv_goto (tgt := 108) hx hb dX5_tight_104 (by decide) ?_
                exact gx_ir hx hb hr hlocks G hQ ⟨by unfold m_tight; rw [if_neg c5, show (kS (I, J, a, b)).1 5 10 = ((m_know (I, J, a, b) (cN (I 5 0)) (cN (I 5 1))).1) 5 10 from rfl, if_neg c18, eclj]; first | rw [if_pos c100] | rw [if_neg c100], by unfold m_tightS; rw [if_neg c5]; rfl⟩ dX5_tight_108
            · skip
              have n65 := gn_nle (X := (cN (I 5 0))) (Y := q) ((m_know_I (x := (I, J, a, b)) (by decide) (by decide) (by decide)).trans hmn) rfl (by omega) (by omega) c65
              refine lv_lload_n hx hb dX5_tight_68 rfl (lv_at hl 2 rfl) ?_
              refine lv_aload_n hx hb dX5_tight_69 rfl (lv_at hl 0 rfl) ?_
              refine gx_get hx hb hts hinX5 hown G 5 (by decide) rfl rfl 7 (by decide) rfl lk25 rfl (v := .ref (ad 32)) rfl dX5_tight_70 ?_
              refine lv_iconst (v := 5) hx hb dX5_tight_73 (by decide) ?_
              refine lv_iload_n hx hb dX5_tight_74 rfl (lv_at hl 1 rfl) ?_
              rw [ej]
              refine lv_imul hx hb dX5_tight_75 ?_
              refine lv_iload hx hb dX5_tight_76 (lv_at hl 3 rfl) ?_
              refine lv_iadd hx hb dX5_tight_78 ?_
              refine gx_iald hx hb G 32 (by decide) (rfl) (by decide) ((5 * j) + q) (gn_add (gn_mul rfl rfl) rfl) (by omega) dX5_tight_79 ?_
              refine lv_i2l (v := (((m_know (I, J, a, b) (cN (I 5 0)) (cN (I 5 1))).2.2.1) 32 ((5 * j) + q)).toInt64) hx hb dX5_tight_80 rfl ?_
              refine lv_aload_n hx hb dX5_tight_81 rfl (lv_at hl 0 rfl) ?_
              refine gx_get hx hb hts hinX5 hown G 5 (by decide) rfl rfl 13 (by decide) rfl lk32 rfl (v := .ref (ad 34)) rfl dX5_tight_82 ?_
              refine lv_iload hx hb dX5_tight_85 (lv_at hl 3 rfl) ?_
              refine gx_lald hx hb G 34 (by decide) (rfl) (by decide) q rfl (by omega) dX5_tight_87 ?_
              refine lv_lmul hx hb dX5_tight_88 ?_
              refine lv_ladd hx hb dX5_tight_89 ?_
              refine lv_lstore_n (lv' := [(2, .long ((m_tsum (kS (I, J, a, b)) j q) + (((((m_know (I, J, a, b) (cN (I 5 0)) (cN (I 5 1))).2.2.1) 32 ((5 * j) + q)).toInt64) * (((m_know (I, J, a, b) (cN (I 5 0)) (cN (I 5 1))).2.2.2) 34 q)))), (0, .ref (ad 5)), (1, .int r), (4, .int (nI q))]) hx hb dX5_tight_90 rfl hl (by decide) rfl (fun ls hl => ?_)
              refine lv_iinc (v := (nI (q + 1))) (lv' := [(4, .int (nI (q + 1))), (2, .long ((m_tsum (kS (I, J, a, b)) j q) + (((((m_know (I, J, a, b) (cN (I 5 0)) (cN (I 5 1))).2.2.1) 32 ((5 * j) + q)).toInt64) * (((m_know (I, J, a, b) (cN (I 5 0)) (cN (I 5 1))).2.2.2) 34 q)))), (0, .ref (ad 5)), (1, .int r)]) hx hb dX5_tight_91 hl (k := 3) rfl (gn_add (X := q) (Y := 1) rfl rfl) (by decide) rfl (fun ls hl => ?_)
              refine lv_goto (tgt := 59) hx hb dX5_tight_94 (by decide) ?_
              have q2 : (m_tsum (kS (I, J, a, b)) j q) + (((((m_know (I, J, a, b) (cN (I 5 0)) (cN (I 5 1))).2.2.1) 32 ((5 * j) + q)).toInt64) * (((m_know (I, J, a, b) (cN (I 5 0)) (cN (I 5 1))).2.2.2) 34 q)) = m_tsum (kS (I, J, a, b)) j (q + 1) := rfl
              have hl := lv_chg hl 1 rfl (congrArg Value.long q2)
              exact ih59  (q + 1) _ _ _ (by omega) (by omega) G (lv_sub hl [2, 3, 1, 0] rfl)
        have q2 : (-(((m_know (I, J, a, b) (cN (I 5 0)) (cN (I 5 1))).2.2.1) 31 j)).toInt64 = m_tsum (kS (I, J, a, b)) j 0 := by unfold m_tsum; unfold kS; (repeat (first | rw [if_neg c5] | rw [if_neg c18] | rw [if_pos c28]))
        have hl := lv_chg hl 1 rfl (congrArg Value.long q2)
        exact K59 (cN (I 5 0) - 0 + 1) 0 _ _ _ (by omega) (Nat.lt_succ_self _) G (lv_sub hl [2, 3, 1, 0] rfl)
    · skip
      refine lv_bipush (v := -3) hx hb dX5_tight_21 (by decide) ?_
      exact gx_ir hx hb hr hlocks G hQ ⟨by unfold m_tight; unfold kS; (repeat (first | rw [if_neg c5] | rw [if_pos c18])), by unfold m_tightS; (repeat (first | rw [if_neg c5] | rw [if_pos c18])); rfl⟩ dX5_tight_23
  · skip
    refine lv_iconst (v := -1) hx hb dX5_tight_8 (by decide) ?_
    exact gx_ir hx hb hr hlocks G hQ ⟨by unfold m_tight; (repeat (first | rw [if_pos c5])), by unfold m_tightS; (repeat (first | rw [if_pos c5]))⟩ dX5_tight_9

set_option maxHeartbeats 4000000 in
set_option maxRecDepth 100000 in
theorem kX5_barred (l : Launch) (D : va_G) (ad : Nat → Nat) (cy : Nat → ClassId) (I : gF) (J : gL) (a : gF) (b : gL) (sz : Nat) (k : Int32) (hmn : I 5 0 = nI (cN (I 5 0))) (hmn2 : cN (I 5 0) ≤ 5) (hmr : I 5 1 = nI (cN (I 5 1))) (hmr2 : cN (I 5 1) ≤ 8) : gMi l yX5_barred wsX5_barred ({ frames := 4, cells := 0, slots := 0, locals := 104 }) D ad cy I J a b sz [.ref (ad 5), .int k] (fun res u => res = m_barred (I, J, a, b) k ∧ u = kS (I, J, a, b)) := by
  refine Met.ofW (cc := cX5_barred) (maxL := 4) (ret := some .int) (by decide) rfl ?_
  intro p e s m args below meth c s₁ B hml hv
  obtain ⟨hargs, hsz, G⟩ := gx_begin hv
  subst hsz
  have hx := B.exec
  have hb := B.bytes
  have hr := B.returns
  have hts := atoms_spec (ws := wsX5_barred) B.pre
  have hown : s.vm.findClass RX5 = some m.cls := findClass_of_methodNamed B.named
  have hlocks := B.notSynchronized
  have hinX5 : ∀ w ∈ wsX50, w ∈ wsX5_barred := by decide +kernel
  have lk48 := hts (.fieldLink RX5 48 "ExactSimplexModel" "isBarred" "[Z") (by decide +kernel)
  have lk128 := hts (.fieldLink RX5 128 "ExactSimplexModel" "has" "Z") (by decide +kernel)
  have hl := lv_entry ([.ref (ad 5), .int k]) (n := 4) (Nat.le_of_ble_eq_true rfl)
  have hent := lg_entry_eq m ([.ref (ad 5), .int k]) 4
  rw [← hargs] at hent
  rw [hent]
  clear hent
  generalize (lg_sl ([.ref (ad 5), .int k]) ++ List.replicate (4 - (lg_sl ([.ref (ad 5), .int k])).length) Slot.unset).toArray = ls at hl ⊢
  have hl : lv_has ls 4 [(0, .ref (ad 5)), (1, .int k)] := hl
  generalize hA : gA ad s.heap.size = A at G ⊢
  generalize hH : s.heap = H at G ⊢
  refine gx_q (fun Q hQ => ?_)
  refine lv_aload_n hx hb dX5_barred_0 rfl (lv_at hl 0 rfl) ?_
  refine gx_dVv (I1 := ((m_know (I, J, a, b) (cN (I 5 0)) (cN (I 5 1))).1)) (J1 := ((m_know (I, J, a, b) (cN (I 5 0)) (cN (I 5 1))).2.1)) (a1 := ((m_know (I, J, a, b) (cN (I 5 0)) (cN (I 5 1))).2.2.1)) (b1 := ((m_know (I, J, a, b) (cN (I 5 0)) (cN (I 5 1))).2.2.2)) (As := []) (rest := []) ⟨hx, hb, hml, hown, hts⟩ G 5 (kX5_know l D ad cy I J a b H.size (cN (I 5 0)) (cN (I 5 1)) hmn hmn2 hmr hmr2) (cwV 0 hts gX5_barred_X5_know rfl rfl rfl (by decide +kernel) ⟨Nat.le_of_ble_eq_true rfl, Nat.le_of_ble_eq_true rfl⟩) (by decide) rfl rfl rfl rfl hl.1 rfl (Nat.le_of_ble_eq_true rfl) ⟨Nat.zero_le _, Nat.zero_le _⟩ dX5_barred_1 (fun H locs G => ?_)
  refine lv_aload_n hx hb dX5_barred_4 rfl (lv_at hl 0 rfl) ?_
  refine gx_get hx hb hts hinX5 hown G 5 (by decide) rfl rfl 10 (by decide) rfl lk128 rfl (v := .int (((m_know (I, J, a, b) (cN (I 5 0)) (cN (I 5 1))).1) 5 10)) rfl dX5_barred_5 ?_
  refine lv_if_eq (tgt := 14) hx hb dX5_barred_8 (by decide) (fun c8 => ?_) (fun c8 => ?_)
  · skip
    refine lv_iconst (v := 0) hx hb dX5_barred_14 (by decide) ?_
    refine lv_istore_n (lv' := [(2, .int 0), (0, .ref (ad 5)), (1, .int k)]) hx hb dX5_barred_15 rfl hl (by decide) rfl (fun ls hl => ?_)
    refine lv_iconst (v := 0) hx hb dX5_barred_16 (by decide) ?_
    refine lv_istore_n (lv' := [(3, .int 0), (2, .int 0), (0, .ref (ad 5)), (1, .int k)]) hx hb dX5_barred_17 rfl hl (by decide) rfl (fun ls hl => ?_)
    have K18 : ∀ (nf : Nat) (r : Nat) (pl : Int32) (H : Heap) (locs : List Loc) (ls : Array Slot), (r ≤ 8) → (m_brow ((m_know (I, J, a, b) (cN (I 5 0)) (cN (I 5 1))).2.2.1) k 8 0 0 = m_brow ((m_know (I, J, a, b) (cN (I 5 0)) (cN (I 5 1))).2.2.1) k (8 - r) r pl) → 8 - r < nf → GG D ad cy A s ((m_know (I, J, a, b) (cN (I 5 0)) (cN (I 5 1))).1) ((m_know (I, J, a, b) (cN (I 5 0)) (cN (I 5 1))).2.1) ((m_know (I, J, a, b) (cN (I 5 0)) (cN (I 5 1))).2.2.1) ((m_know (I, J, a, b) (cN (I 5 0)) (cN (I 5 1))).2.2.2) H locs → lv_has ls 4 [(0, .ref (ad 5)), (1, .int k), (2, .int pl), (3, .int (nI r))] → W p l e ({ frames := 4, cells := 0, slots := 0, locals := 104 }) s m args below meth c H locs 0 0 Q (F0 m 18 ls []) := by
      intro nf
      induction nf with
      | zero => exact fun _ _ _ _ _ _ _ hz => absurd hz (Nat.not_lt_zero _)
      | succ nf ih =>
        intro r pl H locs ls h1 h2 hmeas G hl
        have ih18 := ih
        clear ih
        refine lv_iload_n hx hb dX5_barred_18 rfl (lv_at hl 3 rfl) ?_
        refine lv_bipush (v := 8) hx hb dX5_barred_19 (by decide) ?_
        refine lv_icmp_ge (tgt := 49) hx hb dX5_barred_21 (by decide) (fun c21 => ?_) (fun c21 => ?_)
        · skip
          have n21 := gn_le (X := 8) (Y := r) rfl rfl (by omega) (by omega) c21
          refine lv_iconst (v := -1) hx hb dX5_barred_49 (by decide) ?_
          exact gx_ir hx hb hr hlocks G hQ ⟨by unfold m_barred; unfold kS; rw [if_pos c8, h2, show 8 - r = 0 by omega]; rfl, rfl⟩ dX5_barred_50
        · skip
          have n21 := gn_nle (X := 8) (Y := r) rfl rfl (by omega) (by omega) c21
          refine lv_aload_n hx hb dX5_barred_24 rfl (lv_at hl 0 rfl) ?_
          refine gx_get hx hb hts hinX5 hown G 5 (by decide) rfl rfl 19 (by decide) rfl lk48 rfl (v := .ref (ad 39)) rfl dX5_barred_25 ?_
          refine lv_iload_n hx hb dX5_barred_28 rfl (lv_at hl 3 rfl) ?_
          refine gx_zald hx hb G 39 (by decide) (rfl) (by decide) r rfl (by omega) dX5_barred_29 ?_
          refine lv_if_eq (tgt := 43) hx hb dX5_barred_30 (by decide) (fun c30 => ?_) (fun c30 => ?_)
          · skip
            refine lv_iinc (v := (nI (r + 1))) (lv' := [(3, .int (nI (r + 1))), (0, .ref (ad 5)), (1, .int k), (2, .int pl)]) hx hb dX5_barred_43 hl (k := 3) rfl (gn_add (X := r) (Y := 1) rfl rfl) (by decide) rfl (fun ls hl => ?_)
            refine lv_goto (tgt := 18) hx hb dX5_barred_46 (by decide) ?_
            exact ih18  (r + 1) pl _ _ _ (by omega) (by rw [h2, m_brow_s _ _ n21]; (repeat (first | rw [if_pos c8] | rw [if_neg c21] | rw [if_pos c30]))) (by omega) G (lv_sub hl [1, 2, 3, 0] rfl)
          · skip
            refine lv_iload_n hx hb dX5_barred_33 rfl (lv_at hl 2 rfl) ?_
            refine lv_iload_n hx hb dX5_barred_34 rfl (lv_at hl 1 rfl) ?_
            refine lv_icmp_ne (tgt := 40) hx hb dX5_barred_35 (by decide) (fun c35 => ?_) (fun c35 => ?_)
            · skip
              obtain ⟨x_1, ex_1⟩ : ∃ z : Int32, z = pl + 1 := ⟨_, rfl⟩
              refine lv_iinc (v := x_1) (lv' := [(2, .int x_1), (0, .ref (ad 5)), (1, .int k), (3, .int (nI r))]) hx hb dX5_barred_40 hl (k := 2) rfl ex_1.symm (by decide) rfl (fun ls hl => ?_)
              refine lv_iinc (v := (nI (r + 1))) (lv' := [(3, .int (nI (r + 1))), (2, .int x_1), (0, .ref (ad 5)), (1, .int k)]) hx hb dX5_barred_43 hl (k := 3) rfl (gn_add (X := r) (Y := 1) rfl rfl) (by decide) rfl (fun ls hl => ?_)
              refine lv_goto (tgt := 18) hx hb dX5_barred_46 (by decide) ?_
              have q2 : x_1 = (pl + 1) := ex_1
              have hl := lv_chg hl 1 rfl (congrArg Value.int q2)
              exact ih18  (r + 1) (pl + 1) _ _ _ (by omega) (by rw [h2, m_brow_s _ _ n21]; (repeat (first | rw [if_pos c8] | rw [if_neg c21] | rw [if_neg c30] | rw [if_neg c35]))) (by omega) G (lv_sub hl [2, 3, 1, 0] rfl)
            · skip
              refine lv_iload_n hx hb dX5_barred_38 rfl (lv_at hl 3 rfl) ?_
              exact gx_ir hx hb hr hlocks G hQ ⟨by unfold m_barred; unfold kS; rw [if_pos c8, h2, m_brow_s _ _ n21]; (repeat (first | rw [if_pos c8] | rw [if_neg c21] | rw [if_neg c30] | rw [if_pos c35])), rfl⟩ dX5_barred_39
    exact K18 (8 - 0 + 1) 0 0 _ _ _ (by omega) (rfl) (Nat.lt_succ_self _) G (lv_sub hl [2, 3, 1, 0] rfl)
  · skip
    refine lv_bipush (v := -3) hx hb dX5_barred_11 (by decide) ?_
    exact gx_ir hx hb hr hlocks G hQ ⟨by unfold m_barred; unfold kS; (repeat (first | rw [if_neg c8])), rfl⟩ dX5_barred_13
