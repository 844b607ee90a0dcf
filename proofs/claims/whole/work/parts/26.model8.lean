/-! The reference: findWhole, whole, wholeValue, isWhole -/
def m_w0 (a : gF) : Nat → gF
  | 0 => a
  | i + 1 => gU (m_w0 a i) 90 i (m_w0 a i 27 i)
def m_wc (a : gF) : Nat → Int32
  | 0 => 0
  | i + 1 => m_wc a i + a 29 i * a 90 i
def m_wb (a : gF) : Nat → gF
  | 0 => a
  | i + 1 => gU (m_wb a i) 91 i (m_wb a i 90 i)
/-- the row of whole numbers behind this one: the place that grows, counted from 1 (0: there is none) -/
def m_od : Nat → gF → Nat × gF
  | 0, a => (0, a)
  | k + 1, a => if a 90 k = a 28 k then m_od k (gU a 90 k (a 27 k)) else (k + 1, a)
abbrev m_F : Type := Int32 × gF × gF
def m_tw (mn mr : Nat) (x : m_F) : m_F := if m_kw x.2.2 mn mr 0 = 0 then x else if x.1 = 0 then (1, gU x.2.1 5 27 (m_wc x.2.2 mn), m_wb x.2.2 mn) else if x.2.1 5 27 ≤ m_wc x.2.2 mn then x else (1, gU x.2.1 5 27 (m_wc x.2.2 mn), m_wb x.2.2 mn)
def m_nw (mn : Nat) (a : gF) : Nat × gF := if (m_od mn a).1 = 0 then m_od mn a else ((m_od mn a).1, gU (m_od mn a).2 90 ((m_od mn a).1 - 1) ((m_od mn a).2 90 ((m_od mn a).1 - 1) + 1))
def m_fw (mn mr : Nat) : Nat → Nat × m_F → m_F
  | 0, x => x.2
  | n + 1, (0, x) => x
  | n + 1, (k + 1, x) => m_fw mn mr n ((m_nw mn (m_tw mn mr x).2.2).1, (m_tw mn mr x).1, (m_tw mn mr x).2.1, (m_nw mn (m_tw mn mr x).2.2).2)
def m_in (a : gF) (mn : Nat) : Prop := ∀ i, i < mn → -100 ≤ (a 27 i).toInt ∧ (a 27 i).toInt ≤ (a 90 i).toInt ∧ (a 90 i).toInt ≤ (a 28 i).toInt ∧ (a 28 i).toInt ≤ 100
def m_sps (a : gF) (mn : Nat) : Prop := ∀ i, i < mn → -100 ≤ (a 27 i).toInt ∧ (a 27 i).toInt ≤ (a 28 i).toInt ∧ (a 28 i).toInt ≤ 100
def m_rem (a : gF) (i : Nat) : Nat := ((a 28 i).toInt - (a 90 i).toInt).toNat
def m_mv (a : gF) : Nat → Nat
  | 0 => 0
  | i + 1 => m_mv a i * 201 + m_rem a i
theorem m_mv_k {a a2 : gF} : ∀ d, (∀ i, i < d → a2 90 i = a 90 i ∧ a2 28 i = a 28 i) → m_mv a2 d = m_mv a d
  | 0, _ => rfl
  | d + 1, h => by
    unfold m_mv m_rem
    rw [m_mv_k d (fun i hi => h i (by omega)), (h d (by omega)).1, (h d (by omega)).2]
theorem m_in_k {a a2 : gF} {mn : Nat} (h : m_in a mn) (h1 : a2 27 = a 27) (h2 : a2 28 = a 28) (h3 : a2 90 = a 90) : m_in a2 mn := by
  intro i hi
  rw [h1, h2, h3]
  exact h i hi
theorem m_od_k : ∀ k a, (∀ c, c ≠ 90 → (m_od k a).2 c = a c) ∧ (∀ i, k ≤ i → (m_od k a).2 90 i = a 90 i) ∧ (m_od k a).1 ≤ k
  | 0, a => ⟨fun _ _ => rfl, fun _ _ => rfl, Nat.le_refl 0⟩
  | k + 1, a => by
    unfold m_od
    split
    · obtain ⟨h1, h2, h3⟩ := m_od_k k (gU a 90 k (a 27 k))
      exact ⟨fun c hc => (h1 c hc).trans (gU_k hc), fun i hi => (h2 i (by omega)).trans (gU_n (Or.inr (by omega))), by omega⟩
    · exact ⟨fun _ _ => rfl, fun _ _ => rfl, Nat.le_refl _⟩
theorem m_od_in {mn : Nat} : ∀ k a, k ≤ mn → m_in a mn → m_in (m_od k a).2 mn
  | 0, a, _, h => h
  | k + 1, a, hk, h => by
    unfold m_od
    split
    · apply m_od_in k _ (by omega)
      intro i hi
      rw [gU_k (show 27 ≠ 90 by decide), gU_k (show 28 ≠ 90 by decide)]
      by_cases e : i = k
      · subst e
        rw [gU_s]
        have := h i hi
        omega
      · rw [gU_n (Or.inr e)]
        exact h i hi
    · exact h
theorem i32_add1 {x : Int32} (h1 : -1000 ≤ x.toInt) (h2 : x.toInt ≤ 1000) : (x + 1).toInt = x.toInt + 1 := by
  rw [Int32.toInt_add]
  have : (1 : Int32).toInt = 1 := rfl
  rw [this]
  apply Int.bmod_eq_of_le <;> omega
theorem m_od_lt {mn : Nat} : ∀ k a, k ≤ mn → m_in a mn → ∀ t, (m_od k a).1 = t + 1 → m_in (gU (m_od k a).2 90 t ((m_od k a).2 90 t + 1)) mn ∧ t < k ∧ m_mv (gU (m_od k a).2 90 t ((m_od k a).2 90 t + 1)) k < m_mv a k
  | 0, a, _, _, t, h => absurd h (by simp [m_od])
  | k + 1, a, hk, hin, t, h => by
    by_cases e : a 90 k = a 28 k
    · have ho : m_od (k + 1) a = m_od k (gU a 90 k (a 27 k)) := by
        show (if a 90 k = a 28 k then _ else _) = _
        rw [if_pos e]
      rw [ho] at h ⊢
      have hin1 : m_in (gU a 90 k (a 27 k)) mn := by
        intro i hi
        rw [gU_k (show 27 ≠ 90 by decide), gU_k (show 28 ≠ 90 by decide)]
        by_cases e2 : i = k
        · subst e2
          rw [gU_s]
          have := hin i hi
          omega
        · rw [gU_n (Or.inr e2)]
          exact hin i hi
      obtain ⟨g1, g2, g3⟩ := m_od_lt k _ (by omega) hin1 t h
      refine ⟨g1, by omega, ?_⟩
      have hm : m_mv (gU a 90 k (a 27 k)) k = m_mv a k := m_mv_k k (fun i hi => ⟨gU_n (Or.inr (by omega)), by rw [gU_k (by decide)]⟩)
      rw [hm] at g3
      have hb := g1 k (by omega)
      show m_mv _ k * 201 + m_rem _ k < m_mv a k * 201 + m_rem a k
      have hr : m_rem (gU (m_od k (gU a 90 k (a 27 k))).2 90 t ((m_od k (gU a 90 k (a 27 k))).2 90 t + 1)) k ≤ 200 := by
        unfold m_rem
        omega
      omega
    · have ho : m_od (k + 1) a = (k + 1, a) := by
        show (if a 90 k = a 28 k then _ else _) = _
        rw [if_neg e]
      rw [ho] at h ⊢
      obtain rfl : k = t := by
        have h9 : k + 1 = t + 1 := h
        omega
      have hb := hin k (by omega)
      have hne : (a 90 k).toInt ≠ (a 28 k).toInt := fun q => e (Int32.toInt_inj.mp q)
      have h1 := i32_add1 (x := a 90 k) (by omega) (by omega)
      refine ⟨?_, by omega, ?_⟩
      · intro i hi
        show -100 ≤ (gU a 90 k (a 90 k + 1) 27 i).toInt ∧ (gU a 90 k (a 90 k + 1) 27 i).toInt ≤ (gU a 90 k (a 90 k + 1) 90 i).toInt ∧ (gU a 90 k (a 90 k + 1) 90 i).toInt ≤ (gU a 90 k (a 90 k + 1) 28 i).toInt ∧ (gU a 90 k (a 90 k + 1) 28 i).toInt ≤ 100
        rw [gU_k (show 27 ≠ 90 by decide), gU_k (show 28 ≠ 90 by decide)]
        by_cases e2 : i = k
        · subst e2
          rw [gU_s]
          omega
        · rw [gU_n (Or.inr e2)]
          exact hin i hi
      · have hm : m_mv (gU a 90 k (a 90 k + 1)) k = m_mv a k := m_mv_k k (fun i hi => ⟨gU_n (Or.inr (by omega)), by rw [gU_k (by decide)]⟩)
        show m_mv (gU a 90 k (a 90 k + 1)) k * 201 + m_rem (gU a 90 k (a 90 k + 1)) k < m_mv a k * 201 + m_rem a k
        rw [hm]
        unfold m_rem
        rw [gU_k (show 28 ≠ 90 by decide), gU_s]
        omega
theorem m_wb_k (a : gF) {c : Nat} (h : c ≠ 91) : ∀ n, m_wb a n c = a c
  | 0 => rfl
  | n + 1 => (gU_k h).trans (m_wb_k a h n)
theorem m_w0_k (a : gF) : ∀ n, (∀ c, c ≠ 90 → m_w0 a n c = a c) ∧ ∀ i, i < n → m_w0 a n 90 i = a 27 i
  | 0 => ⟨fun _ _ => rfl, fun i hi => absurd hi (Nat.not_lt_zero i)⟩
  | n + 1 => by
    obtain ⟨h1, h2⟩ := m_w0_k a n
    refine ⟨fun c hc => (gU_k hc).trans (h1 c hc), fun i hi => ?_⟩
    show gU (m_w0 a n) 90 n (m_w0 a n 27 n) 90 i = _
    by_cases e : i = n
    · subst e
      rw [gU_s, h1 27 (by decide)]
    · rw [gU_n (Or.inr e)]
      exact h2 i (by omega)
theorem m_w0_in {a : gF} {mn : Nat} (h : m_sps a mn) : m_in (m_w0 a mn) mn := by
  intro i hi
  obtain ⟨h1, h2⟩ := m_w0_k a mn
  rw [h2 i hi, h1 27 (by decide), h1 28 (by decide)]
  have := h i hi
  omega
theorem m_tw_in {mn mr : Nat} {x : m_F} (h : m_in x.2.2 mn) : m_in (m_tw mn mr x).2.2 mn ∧ m_mv (m_tw mn mr x).2.2 mn = m_mv x.2.2 mn ∧ (∀ k j, (k ≠ 5 ∨ j ≠ 27) → (m_tw mn mr x).2.1 k j = x.2.1 k j) ∧ ((x.1 = 0 ∨ x.1 = 1) → ((m_tw mn mr x).1 = 0 ∨ (m_tw mn mr x).1 = 1)) := by
  have hb : m_in (m_wb x.2.2 mn) mn ∧ m_mv (m_wb x.2.2 mn) mn = m_mv x.2.2 mn := ⟨m_in_k h (m_wb_k _ (by decide) _) (m_wb_k _ (by decide) _) (m_wb_k _ (by decide) _), m_mv_k mn (fun i _ => ⟨by rw [m_wb_k _ (by decide)], by rw [m_wb_k _ (by decide)]⟩)⟩
  unfold m_tw
  repeat' split
  · exact ⟨h, rfl, fun _ _ _ => rfl, id⟩
  · exact ⟨hb.1, hb.2, fun _ _ q => gU_n q, fun _ => Or.inr rfl⟩
  · exact ⟨h, rfl, fun _ _ _ => rfl, id⟩
  · exact ⟨hb.1, hb.2, fun _ _ q => gU_n q, fun _ => Or.inr rfl⟩
def m_ms (kk : Nat) (a : gF) (mn : Nat) : Nat := if kk = 0 then 0 else m_mv a mn + 1
theorem m_nw_ok {mn : Nat} {a : gF} (h : m_in a mn) : m_in (m_nw mn a).2 mn ∧ m_ms (m_nw mn a).1 (m_nw mn a).2 mn < m_mv a mn + 1 ∧ (m_nw mn a).1 ≤ mn := by
  have hk := m_od_k mn a
  unfold m_nw
  split
  · rename_i c
    refine ⟨m_od_in mn a (Nat.le_refl mn) h, ?_, hk.2.2⟩
    unfold m_ms
    rw [if_pos c]
    omega
  · rename_i c
    obtain ⟨t, et⟩ : ∃ t, (m_od mn a).1 = t + 1 := ⟨(m_od mn a).1 - 1, by omega⟩
    obtain ⟨g1, g2, g3⟩ := m_od_lt mn a (Nat.le_refl mn) h t et
    rw [et, show t + 1 - 1 = t by omega]
    refine ⟨g1, ?_, by omega⟩
    show (if t + 1 = 0 then 0 else m_mv (gU (m_od mn a).2 90 t ((m_od mn a).2 90 t + 1)) mn + 1) < _
    rw [if_neg (by omega)]
    omega
def mWF : Nat := 1000000000000000
theorem m_mv_lt {mn : Nat} {a : gF} (hin : m_in a mn) : ∀ d, d ≤ mn → m_mv a d < 201 ^ d
  | 0, _ => Nat.lt_succ_self 0
  | d + 1, hd => by
    have h1 := m_mv_lt hin d (by omega)
    have h2 := hin d (by omega)
    have h3 : m_rem a d ≤ 200 := by
      unfold m_rem
      omega
    show m_mv a d * 201 + m_rem a d < _
    rw [Nat.pow_succ]
    omega
theorem m_fw_step {mn mr k : Nat} {x R : m_F} (hin : m_in x.2.2 mn) (h : ∃ F, m_ms (k + 1) x.2.2 mn < F ∧ R = m_fw mn mr F (k + 1, x)) : ∃ F, m_ms (m_nw mn (m_tw mn mr x).2.2).1 (m_nw mn (m_tw mn mr x).2.2).2 mn < F ∧ R = m_fw mn mr F ((m_nw mn (m_tw mn mr x).2.2).1, (m_tw mn mr x).1, (m_tw mn mr x).2.1, (m_nw mn (m_tw mn mr x).2.2).2) := by
  obtain ⟨F, hF, e⟩ := h
  obtain ⟨F1, rfl⟩ : ∃ F1, F = F1 + 1 := ⟨F - 1, by omega⟩
  obtain ⟨t1, t2, -, -⟩ := m_tw_in (mr := mr) hin
  obtain ⟨-, n2, -⟩ := m_nw_ok t1
  unfold m_ms at hF
  rw [if_neg (by omega)] at hF
  exact ⟨F1, by omega, e⟩
theorem m_fw_end {mn mr : Nat} {x R : m_F} (h : ∃ F, m_ms 0 x.2.2 mn < F ∧ R = m_fw mn mr F (0, x)) : R = x := by
  obtain ⟨F, hF, e⟩ := h
  obtain ⟨F1, rfl⟩ : ∃ F1, F = F1 + 1 := ⟨F - 1, by omega⟩
  exact e
def m_fwX (I a : gF) (mn mr : Nat) : m_F := m_fw mn mr mWF (1, 0, I, m_w0 a mn)

def m_fS (x : gS) : gS := ((m_fwX x.1 x.2.2.1 (cN (x.1 5 0)) (cN (x.1 5 1))).2.1, x.2.1, (m_fwX x.1 x.2.2.1 (cN (x.1 5 0)) (cN (x.1 5 1))).2.2, x.2.2.2)
def m_fr0 (x : gS) : Int32 := (m_fwX x.1 x.2.2.1 (cN (x.1 5 0)) (cN (x.1 5 1))).1
def m_lg (x : gS) : Int32 := m_large x.2.2.1 (cN (x.1 5 0))
def m_whole (x : gS) : Int32 := if m_lg x = 0 then if m_fr0 x = 0 then -3 else (m_fS x).1 5 27 else -4
def m_wholeS (x : gS) : gS := if m_lg x = 0 then m_fS x else x
def m_wv (x : gS) (v : Int32) : Int32 := if m_isN x.1 v = 0 then -1 else if m_lg x = 0 then if m_fr0 x = 0 then -3 else (m_fS x).2.2.1 91 (cN v) else -4
def m_wvS (x : gS) (v : Int32) : gS := if m_isN x.1 v = 0 then x else if m_lg x = 0 then m_fS x else x
def m_isW (x : gS) : Int32 := if m_lg x = 0 then if m_fr0 x = 0 then 0 else 1 else -4

set_option maxHeartbeats 4000000 in
set_option maxRecDepth 100000 in
theorem kX5_findWhole (l : Launch) (D : va_G) (ad : Nat → Nat) (cy : Nat → ClassId) (I : gF) (J : gL) (a : gF) (b : gL) (sz : Nat) (mn mr : Nat) (hmn : I 5 0 = nI mn) (hmn2 : mn ≤ 5) (hmr : I 5 1 = nI mr) (hmr2 : mr ≤ 8) (hsp : m_sps a mn) : gMi l yX5_findWhole wsX5_findWhole ({ frames := 1, cells := 0, slots := 0, locals := 23 }) D ad cy I J a b sz [.ref (ad 5)] (fun res u => res = (m_fwX I a mn mr).1 ∧ u = ((m_fwX I a mn mr).2.1, J, (m_fwX I a mn mr).2.2, b)) := by
  refine Met.ofW (cc := cX5_findWhole) (maxL := 5) (ret := some .boolean) (by decide) rfl ?_
  intro p e s m args below meth c s₁ B hml hv
  obtain ⟨hargs, hsz, G⟩ := gx_begin hv
  subst hsz
  have hx := B.exec
  have hb := B.bytes
  have hr := B.returns
  have hts := atoms_spec (ws := wsX5_findWhole) B.pre
  have hown : s.vm.findClass RX5 = some m.cls := findClass_of_methodNamed B.named
  have hlocks := B.notSynchronized
  have hinX5 : ∀ w ∈ wsX50, w ∈ wsX5_findWhole := by decide +kernel
  have lk7 := hts (.fieldLink RX5 7 "ExactSimplexModel" "low" "[I") (by decide +kernel)
  have lk13 := hts (.fieldLink RX5 13 "ExactSimplexModel" "high" "[I") (by decide +kernel)
  have lk16 := hts (.fieldLink RX5 16 "ExactSimplexModel" "costs" "[I") (by decide +kernel)
  have lk60 := hts (.fieldLink RX5 60 "ExactSimplexModel" "point" "[I") (by decide +kernel)
  have lk63 := hts (.fieldLink RX5 63 "ExactSimplexModel" "wholeBest" "[I") (by decide +kernel)
  have lk66 := hts (.fieldLink RX5 66 "ExactSimplexModel" "names" "I") (by decide +kernel)
  have lk164 := hts (.fieldLink RX5 164 "ExactSimplexModel" "wholeCost" "I") (by decide +kernel)
  have hl := lv_entry ([.ref (ad 5)]) (n := 5) (Nat.le_of_ble_eq_true rfl)
  have hent := lg_entry_eq m ([.ref (ad 5)]) 5
  rw [← hargs] at hent
  rw [hent]
  clear hent
  generalize (lg_sl ([.ref (ad 5)]) ++ List.replicate (5 - (lg_sl ([.ref (ad 5)])).length) Slot.unset).toArray = ls at hl ⊢
  have hl : lv_has ls 5 [(0, .ref (ad 5))] := hl
  generalize hA : gA ad s.heap.size = A at G ⊢
  generalize hH : s.heap = H at G ⊢
  refine gx_q (fun Q hQ => ?_)
  have hWF : mWF = 1000000000000000 := rfl
  refine lv_iconst (v := 0) hx hb dX5_findWhole_0 (by decide) ?_
  refine lv_istore_n (lv' := [(1, .int 0), (0, .ref (ad 5))]) hx hb dX5_findWhole_1 rfl hl (by decide) rfl (fun ls hl => ?_)
  refine lv_iconst (v := 0) hx hb dX5_findWhole_2 (by decide) ?_
  refine lv_istore_n (lv' := [(2, .int 0), (1, .int 0), (0, .ref (ad 5))]) hx hb dX5_findWhole_3 rfl hl (by decide) rfl (fun ls hl => ?_)
  have K4 : ∀ (nf : Nat) (r : Nat) (H : Heap) (locs : List Loc) (ls : Array Slot), (r ≤ mn) → mn - r < nf → GG D ad cy A s I J (m_w0 a r) b H locs → lv_has ls 5 [(0, .ref (ad 5)), (1, .int 0), (2, .int (nI r))] → W p l e ({ frames := 1, cells := 0, slots := 0, locals := 23 }) s m args below meth c H locs 0 0 Q (F0 m 4 ls []) := by
    intro nf
    induction nf with
    | zero => exact fun _ _ _ _ _ hz => absurd hz (Nat.not_lt_zero _)
    | succ nf ih =>
      intro r H locs ls h1 hmeas G hl
      have hm4 := hmeas
      have ih4 := ih
      clear ih
      refine lv_iload_n hx hb dX5_findWhole_4 rfl (lv_at hl 2 rfl) ?_
      refine lv_aload_n hx hb dX5_findWhole_5 rfl (lv_at hl 0 rfl) ?_
      refine gx_get hx hb hts hinX5 hown G 5 (by decide) rfl rfl 0 (by decide) rfl lk66 rfl (v := .int (I 5 0)) rfl dX5_findWhole_6 ?_
      refine lv_icmp_ge (tgt := 30) hx hb dX5_findWhole_9 (by decide) (fun c9 => ?_) (fun c9 => ?_)
      · skip
        have n9 := gn_le (X := mn) (Y := r) hmn rfl (by omega) (by omega) c9
        have hex : r = mn := by omega
        rw [hex] at hl
        rw [hex] at G
        refine lv_iconst (v := 0) hx hb dX5_findWhole_30 (by decide) ?_
        refine lv_istore_n (lv' := [(2, .int 0), (0, .ref (ad 5)), (1, .int 0)]) hx hb dX5_findWhole_31 rfl hl (by decide) rfl (fun ls hl => ?_)
        have K32 : ∀ (nf : Nat) (kk : Nat) (f : Int32) (I2 a2 : gF) (H : Heap) (locs : List Loc) (ls : Array Slot), (∃ F, m_ms kk a2 mn < F ∧ m_fwX I a mn mr = m_fw mn mr F (kk, (f, I2, a2))) → (m_in a2 mn) → (I2 5 0 = nI mn) → (I2 5 1 = nI mr) → (f = 0 ∨ f = 1) → (kk ≤ 5) → m_ms kk a2 mn < nf → GG D ad cy A s I2 J a2 b H locs → lv_has ls 5 [(0, .ref (ad 5)), (1, .int f), (2, .int (nI kk - 1))] → W p l e ({ frames := 1, cells := 0, slots := 0, locals := 23 }) s m args below meth c H locs 0 0 Q (F0 m 32 ls []) := by
          intro nf
          induction nf with
          | zero => exact fun _ _ _ _ _ _ _ _ _ _ _ _ _ hz => absurd hz (Nat.not_lt_zero _)
          | succ nf ih =>
            intro kk f I2 a2 H locs ls h2 hin h50 h51 hf01 hkk hmeas G hl
            have hm32 := hmeas
            have ih32 := ih
            clear ih
            refine lv_iload_n hx hb dX5_findWhole_32 rfl (lv_at hl 2 rfl) ?_
            refine lv_if_lt (tgt := 193) hx hb dX5_findWhole_33 (by decide) (fun c33 => ?_) (fun c33 => ?_)
            · skip
              have hk8 : kk = 0 := by
                rcases Nat.eq_zero_or_pos kk with h0 | h0
                · exact h0
                · exact absurd c33 (by rw [show kk = (kk - 1) + 1 by omega, nI_pred]; exact nI_pos (by omega))
              subst hk8
              refine lv_iload_n hx hb dX5_findWhole_193 rfl (lv_at hl 1 rfl) ?_
              exact gx_zr hx hb hr hlocks G hQ (z01 hf01) ⟨by rw [m_fw_end (x := (f, I2, a2)) h2], by rw [m_fw_end (x := (f, I2, a2)) h2]⟩ dX5_findWhole_194
            · skip
              have hk0 : 0 < kk := by
                rcases Nat.eq_zero_or_pos kk with h0 | h0
                · subst h0
                  exact absurd (by decide) c33
                · exact h0
              obtain ⟨k0, rfl⟩ : ∃ k0, kk = k0 + 1 := ⟨kk - 1, by omega⟩
              refine lv_aload_n hx hb dX5_findWhole_36 rfl (lv_at hl 0 rfl) ?_
              refine gx_dVi (v := (m_kw a2 mn mr 0)) (I1 := I2) (J1 := J) (a1 := a2) (b1 := b) (As := []) (rest := []) ⟨hx, hb, hml, hown, hts⟩ G 5 (kX5_keepsWhole l D ad cy I2 J a2 b H.size mn mr h50 hmn2 h51 hmr2) (cwV 0 hts gX5_findWhole_X5_keepsWhole rfl rfl rfl (by decide +kernel) ⟨Nat.le_of_ble_eq_true rfl, Nat.le_of_ble_eq_true rfl⟩) (by decide) rfl rfl rfl rfl hl.1 rfl (Nat.le_of_ble_eq_true rfl) ⟨Nat.zero_le _, Nat.zero_le _⟩ dX5_findWhole_37 (fun H locs G => ?_)
              refine lv_if_eq (tgt := 132) hx hb dX5_findWhole_40 (by decide) (fun c40 => ?_) (fun c40 => ?_)
              · skip
                have hT : (m_tw mn mr (f, I2, a2)) = (f, I2, a2) := by unfold m_tw; (repeat (first | rw [if_pos c9] | rw [if_neg c33] | rw [if_pos c40])); (try rw [show q = mn by omega]); (try rfl)
                have h50t : (m_tw mn mr (f, I2, a2)).2.1 5 0 = nI mn := ((m_tw_in (x := (f, I2, a2)) (mr := mr) hin).2.2.1 5 0 (Or.inr (by decide))).trans h50
                have hT1 : f = (m_tw mn mr (f, I2, a2)).1 := by rw [hT]
                have hl := lv_chg hl 1 rfl (congrArg Value.int hT1)
                have G := gg_eq G (show I2 = (m_tw mn mr (f, I2, a2)).2.1 by rw [hT]) rfl (show a2 = (m_tw mn mr (f, I2, a2)).2.2 by rw [hT]) rfl
                have hl : lv_has ls 5 [(0, .ref (ad 5)), (1, .int ((m_tw mn mr (f, I2, a2)).1)), (2, .int (nI (k0 + 1) - 1))] := hl
                refine lv_aload_n hx hb dX5_findWhole_132 rfl (lv_at hl 0 rfl) ?_
                refine gx_get hx hb hts hinX5 hown G 5 (by decide) rfl rfl 0 (by decide) rfl lk66 rfl (v := .int (((m_tw mn mr (f, I2, a2)).2.1) 5 0)) rfl dX5_findWhole_133 ?_
                refine lv_iconst (v := 1) hx hb dX5_findWhole_136 (by decide) ?_
                refine lv_isub hx hb dX5_findWhole_137 ?_
                refine lv_istore_n (lv' := [(2, .int ((((m_tw mn mr (f, I2, a2)).2.1) 5 0) - 1)), (0, .ref (ad 5)), (1, .int ((m_tw mn mr (f, I2, a2)).1))]) hx hb dX5_findWhole_138 rfl hl (by decide) rfl (fun ls hl => ?_)
                have K139 : ∀ (nf : Nat) (k : Nat) (a3 : gF) (H : Heap) (locs : List Loc) (ls : Array Slot), (k ≤ mn) → (m_od mn (m_tw mn mr (f, I2, a2)).2.2 = m_od k a3) → k < nf → GG D ad cy A s ((m_tw mn mr (f, I2, a2)).2.1) J a3 b H locs → lv_has ls 5 [(0, .ref (ad 5)), (1, .int ((m_tw mn mr (f, I2, a2)).1)), (2, .int (nI k - 1))] → W p l e ({ frames := 1, cells := 0, slots := 0, locals := 23 }) s m args below meth c H locs 0 0 Q (F0 m 139 ls []) := by
                  intro nf
                  induction nf with
                  | zero => exact fun _ _ _ _ _ _ _ hz => absurd hz (Nat.not_lt_zero _)
                  | succ nf ih =>
                    intro k a3 H locs ls h5 h6 hmeas G hl
                    have hm139 := hmeas
                    have ih139 := ih
                    clear ih
                    refine lv_iload_n hx hb dX5_findWhole_139 rfl (lv_at hl 2 rfl) ?_
                    refine lv_if_lt (tgt := 176) hx hb dX5_findWhole_140 (by decide) (fun c140 => ?_) (fun c140 => ?_)
                    · skip
                      have hk9 : k = 0 := by
                        rcases Nat.eq_zero_or_pos k with h0 | h0
                        · exact h0
                        · exact absurd c140 (by rw [show k = (k - 1) + 1 by omega, nI_pred]; exact nI_pos (by omega))
                      subst hk9
                      have hO : (m_od mn (m_tw mn mr (f, I2, a2)).2.2) = (0, a3) := by rw [h6]; rfl
                      have hz : (m_od mn (m_tw mn mr (f, I2, a2)).2.2).1 = 0 := by rw [hO]
                      refine lv_iload_n hx hb dX5_findWhole_176 rfl (lv_at hl 2 rfl) ?_
                      refine lv_if_lt (tgt := 32) hx hb dX5_findWhole_177 (by decide) (fun c177 => ?_) (fun c177 => ?_)
                      · skip
                        have q2 : nI 0 - 1 = nI ((m_nw mn (m_tw mn mr (f, I2, a2)).2.2).1) - 1 := by unfold m_nw; first | (rw [if_pos hz, hO]; done) | (rw [if_neg hz, hO]; exact (nI_pred k1).symm)
                        have hl := lv_chg hl 2 rfl (congrArg Value.int q2)
                        exact ih32  ((m_nw mn (m_tw mn mr (f, I2, a2)).2.2).1) ((m_tw mn mr (f, I2, a2)).1) ((m_tw mn mr (f, I2, a2)).2.1) ((m_nw mn (m_tw mn mr (f, I2, a2)).2.2).2) _ _ _ (m_fw_step (x := (f, I2, a2)) hin h2) ((m_nw_ok (m_tw_in (x := (f, I2, a2)) (mr := mr) hin).1).1) (h50t) (((m_tw_in (x := (f, I2, a2)) (mr := mr) hin).2.2.1 5 1 (Or.inr (by decide))).trans h51) ((m_tw_in (x := (f, I2, a2)) (mr := mr) hin).2.2.2 hf01) (by have := (m_nw_ok (m_tw_in (x := (f, I2, a2)) (mr := mr) hin).1).2.2; omega) (by have h9 := (m_nw_ok (m_tw_in (x := (f, I2, a2)) (mr := mr) hin).1).2.1; have h8 : m_mv (m_tw mn mr (f, I2, a2)).2.2 mn = m_mv a2 mn := (m_tw_in (x := (f, I2, a2)) (mr := mr) hin).2.1; unfold m_ms at hm32; rw [if_neg (by omega)] at hm32; omega) (gg_eq G rfl rfl (by unfold m_nw; first | (rw [if_pos hz, hO]; done) | (rw [if_neg hz, hO]; rfl)) rfl) (lv_sub hl [0, 1, 2] rfl)
                      · skip
                        exact absurd c140 c177
                    · skip
                      have hk1 : 0 < k := by
                        rcases Nat.eq_zero_or_pos k with h0 | h0
                        · subst h0
                          exact absurd (by decide) c140
                        · exact h0
                      obtain ⟨k1, rfl⟩ : ∃ k1, k = k1 + 1 := ⟨k - 1, by omega⟩
                      rw [nI_pred] at hl
                      refine lv_aload_n hx hb dX5_findWhole_143 rfl (lv_at hl 0 rfl) ?_
                      refine gx_get hx hb hts hinX5 hown G 5 (by decide) rfl rfl 25 (by decide) rfl lk60 rfl (v := .ref (ad 90)) rfl dX5_findWhole_144 ?_
                      refine lv_iload_n hx hb dX5_findWhole_147 rfl (lv_at hl 2 rfl) ?_
                      refine gx_iald hx hb G 90 (by decide) (rfl) (by decide) k1 rfl (by omega) dX5_findWhole_148 ?_
                      refine lv_aload_n hx hb dX5_findWhole_149 rfl (lv_at hl 0 rfl) ?_
                      refine gx_get hx hb hts hinX5 hown G 5 (by decide) rfl rfl 3 (by decide) rfl lk13 rfl (v := .ref (ad 28)) rfl dX5_findWhole_150 ?_
                      refine lv_iload_n hx hb dX5_findWhole_153 rfl (lv_at hl 2 rfl) ?_
                      refine gx_iald hx hb G 28 (by decide) (rfl) (by decide) k1 rfl (by omega) dX5_findWhole_154 ?_
                      refine lv_icmp_ne (tgt := 176) hx hb dX5_findWhole_155 (by decide) (fun c155 => ?_) (fun c155 => ?_)
                      · skip
                        have hO : (m_od mn (m_tw mn mr (f, I2, a2)).2.2) = (k1 + 1, a3) := by rw [h6]; simp only [m_od, c155, reduceIte]
                        have hz : ¬ (m_od mn (m_tw mn mr (f, I2, a2)).2.2).1 = 0 := by rw [hO]; exact Nat.succ_ne_zero _
                        refine lv_iload_n hx hb dX5_findWhole_176 rfl (lv_at hl 2 rfl) ?_
                        refine lv_if_lt (tgt := 32) hx hb dX5_findWhole_177 (by decide) (fun c177 => ?_) (fun c177 => ?_)
                        · skip
                          have n177 := gn_lt (X := k1) (Y := 0) rfl rfl (by omega) (by omega) c177
                          exact absurd c177 (nI_pos (by omega))
                        · skip
                          have n177 := gn_nlt (X := k1) (Y := 0) rfl rfl (by omega) (by omega) c177
                          refine lv_aload_n hx hb dX5_findWhole_180 rfl (lv_at hl 0 rfl) ?_
                          refine gx_get hx hb hts hinX5 hown G 5 (by decide) rfl rfl 25 (by decide) rfl lk60 rfl (v := .ref (ad 90)) rfl dX5_findWhole_181 ?_
                          refine lv_iload_n hx hb dX5_findWhole_184 rfl (lv_at hl 2 rfl) ?_
                          refine lv_dup2_11 hx hb dX5_findWhole_185 rfl rfl ?_
                          refine gx_iald hx hb G 90 (by decide) (rfl) (by decide) k1 rfl (by omega) dX5_findWhole_186 ?_
                          refine lv_iconst (v := 1) hx hb dX5_findWhole_187 (by decide) ?_
                          refine lv_iadd hx hb dX5_findWhole_188 ?_
                          refine gx_iast hx hb G 90 (by decide) (rfl) (by decide) k1 rfl (by omega) dX5_findWhole_189 (fun H locs G => ?_)
                          refine lv_goto (tgt := 32) hx hb dX5_findWhole_190 (by decide) ?_
                          have q2 : nI k1 = nI ((m_nw mn (m_tw mn mr (f, I2, a2)).2.2).1) - 1 := by unfold m_nw; first | (rw [if_pos hz, hO]; done) | (rw [if_neg hz, hO]; exact (nI_pred k1).symm)
                          have hl := lv_chg hl 2 rfl (congrArg Value.int q2)
                          exact ih32  ((m_nw mn (m_tw mn mr (f, I2, a2)).2.2).1) ((m_tw mn mr (f, I2, a2)).1) ((m_tw mn mr (f, I2, a2)).2.1) ((m_nw mn (m_tw mn mr (f, I2, a2)).2.2).2) _ _ _ (m_fw_step (x := (f, I2, a2)) hin h2) ((m_nw_ok (m_tw_in (x := (f, I2, a2)) (mr := mr) hin).1).1) (h50t) (((m_tw_in (x := (f, I2, a2)) (mr := mr) hin).2.2.1 5 1 (Or.inr (by decide))).trans h51) ((m_tw_in (x := (f, I2, a2)) (mr := mr) hin).2.2.2 hf01) (by have := (m_nw_ok (m_tw_in (x := (f, I2, a2)) (mr := mr) hin).1).2.2; omega) (by have h9 := (m_nw_ok (m_tw_in (x := (f, I2, a2)) (mr := mr) hin).1).2.1; have h8 : m_mv (m_tw mn mr (f, I2, a2)).2.2 mn = m_mv a2 mn := (m_tw_in (x := (f, I2, a2)) (mr := mr) hin).2.1; unfold m_ms at hm32; rw [if_neg (by omega)] at hm32; omega) (gg_eq G rfl rfl (by unfold m_nw; first | (rw [if_pos hz, hO]; done) | (rw [if_neg hz, hO]; rfl)) rfl) (lv_sub hl [0, 1, 2] rfl)
                      · skip
                        refine lv_aload_n hx hb dX5_findWhole_158 rfl (lv_at hl 0 rfl) ?_
                        refine gx_get hx hb hts hinX5 hown G 5 (by decide) rfl rfl 25 (by decide) rfl lk60 rfl (v := .ref (ad 90)) rfl dX5_findWhole_159 ?_
                        refine lv_iload_n hx hb dX5_findWhole_162 rfl (lv_at hl 2 rfl) ?_
                        refine lv_aload_n hx hb dX5_findWhole_163 rfl (lv_at hl 0 rfl) ?_
                        refine gx_get hx hb hts hinX5 hown G 5 (by decide) rfl rfl 2 (by decide) rfl lk7 rfl (v := .ref (ad 27)) rfl dX5_findWhole_164 ?_
                        refine lv_iload_n hx hb dX5_findWhole_167 rfl (lv_at hl 2 rfl) ?_
                        refine gx_iald hx hb G 27 (by decide) (rfl) (by decide) k1 rfl (by omega) dX5_findWhole_168 ?_
                        refine gx_iast hx hb G 90 (by decide) (rfl) (by decide) k1 rfl (by omega) dX5_findWhole_169 (fun H locs G => ?_)
                        obtain ⟨x_1, ex_1⟩ : ∃ z : Int32, z = (nI k1) + -1 := ⟨_, rfl⟩
                        refine lv_iinc (v := x_1) (lv' := [(2, .int x_1), (0, .ref (ad 5)), (1, .int ((m_tw mn mr (f, I2, a2)).1))]) hx hb dX5_findWhole_170 hl (k := 2) rfl ex_1.symm (by decide) rfl (fun ls hl => ?_)
                        refine lv_goto (tgt := 139) hx hb dX5_findWhole_173 (by decide) ?_
                        have q2 : x_1 = nI k1 - 1 := by rw [ex_1]; exact gx_m1 _
                        have hl := lv_chg hl 0 rfl (congrArg Value.int q2)
                        exact ih139  k1 (gU a3 90 k1 (a3 27 k1)) _ _ _ (by omega) (by rw [h6]; simp only [m_od, c155, reduceIte]) (by omega) G (lv_sub hl [1, 2, 0] rfl)
                have q2 : (((m_tw mn mr (f, I2, a2)).2.1) 5 0) - 1 = nI mn - 1 := by rw [h50t]
                have hl := lv_chg hl 0 rfl (congrArg Value.int q2)
                exact K139 (mn + 1) mn ((m_tw mn mr (f, I2, a2)).2.2) _ _ _ (by omega) (rfl) (Nat.lt_succ_self _) G (lv_sub hl [1, 2, 0] rfl)
              · skip
                refine lv_iconst (v := 0) hx hb dX5_findWhole_43 (by decide) ?_
                refine lv_istore_n (lv' := [(3, .int 0), (0, .ref (ad 5)), (1, .int f), (2, .int (nI (k0 + 1) - 1))]) hx hb dX5_findWhole_44 rfl hl (by decide) rfl (fun ls hl => ?_)
                refine lv_iconst (v := 0) hx hb dX5_findWhole_45 (by decide) ?_
                refine lv_istore (lv' := [(4, .int 0), (3, .int 0), (0, .ref (ad 5)), (1, .int f), (2, .int (nI (k0 + 1) - 1))]) hx hb dX5_findWhole_46 hl (by decide) rfl (fun ls hl => ?_)
                have K48 : ∀ (nf : Nat) (q : Nat) (H : Heap) (locs : List Loc) (ls : Array Slot), (q ≤ mn) → mn - q < nf → GG D ad cy A s I2 J a2 b H locs → lv_has ls 5 [(0, .ref (ad 5)), (1, .int f), (2, .int (nI (k0 + 1) - 1)), (3, .int (m_wc a2 q)), (4, .int (nI q))] → W p l e ({ frames := 1, cells := 0, slots := 0, locals := 23 }) s m args below meth c H locs 0 0 Q (F0 m 48 ls []) := by
                  intro nf
                  induction nf with
                  | zero => exact fun _ _ _ _ _ hz => absurd hz (Nat.not_lt_zero _)
                  | succ nf ih =>
                    intro q H locs ls h3 hmeas G hl
                    have hm48 := hmeas
                    have ih48 := ih
                    clear ih
                    refine lv_iload hx hb dX5_findWhole_48 (lv_at hl 4 rfl) ?_
                    refine lv_aload_n hx hb dX5_findWhole_50 rfl (lv_at hl 0 rfl) ?_
                    refine gx_get hx hb hts hinX5 hown G 5 (by decide) rfl rfl 0 (by decide) rfl lk66 rfl (v := .int (I2 5 0)) rfl dX5_findWhole_51 ?_
                    refine lv_icmp_ge (tgt := 81) hx hb dX5_findWhole_54 (by decide) (fun c54 => ?_) (fun c54 => ?_)
                    · skip
                      have n54 := gn_le (X := mn) (Y := q) h50 rfl (by omega) (by omega) c54
                      have hex : q = mn := by omega
                      rw [hex] at hl
                      refine lv_iload_n hx hb dX5_findWhole_81 rfl (lv_at hl 1 rfl) ?_
                      refine lv_if_eq (tgt := 93) hx hb dX5_findWhole_82 (by decide) (fun c82 => ?_) (fun c82 => ?_)
                      · skip
                        refine lv_iconst (v := 1) hx hb dX5_findWhole_93 (by decide) ?_
                        refine lv_istore_n (lv' := [(1, .int 1), (0, .ref (ad 5)), (2, .int (nI (k0 + 1) - 1)), (3, .int (m_wc a2 mn)), (4, .int (nI mn))]) hx hb dX5_findWhole_94 rfl hl (by decide) rfl (fun ls hl => ?_)
                        refine lv_aload_n hx hb dX5_findWhole_95 rfl (lv_at hl 1 rfl) ?_
                        refine lv_iload_n hx hb dX5_findWhole_96 rfl (lv_at hl 3 rfl) ?_
                        refine gx_putI hx hb hts hinX5 tyX5 tyX5_ok nmX5 hown G 5 (by decide) rfl rfl 27 (by decide) rfl lk164 rfl rfl (tyX5_ok 27 (by decide)) (rfl) (rfl) dX5_findWhole_97 (fun H locs G => ?_)
                        refine lv_iconst (v := 0) hx hb dX5_findWhole_100 (by decide) ?_
                        refine lv_istore (lv' := [(4, .int 0), (1, .int 1), (0, .ref (ad 5)), (2, .int (nI (k0 + 1) - 1)), (3, .int (m_wc a2 mn))]) hx hb dX5_findWhole_101 hl (by decide) rfl (fun ls hl => ?_)
                        have K103 : ∀ (nf : Nat) (q : Nat) (H : Heap) (locs : List Loc) (ls : Array Slot), (q ≤ mn) → mn - q < nf → GG D ad cy A s (gU I2 5 27 (m_wc a2 mn)) J (m_wb a2 q) b H locs → lv_has ls 5 [(0, .ref (ad 5)), (1, .int 1), (2, .int (nI (k0 + 1) - 1)), (3, .int (m_wc a2 mn)), (4, .int (nI q))] → W p l e ({ frames := 1, cells := 0, slots := 0, locals := 23 }) s m args below meth c H locs 0 0 Q (F0 m 103 ls []) := by
                          intro nf
                          induction nf with
                          | zero => exact fun _ _ _ _ _ hz => absurd hz (Nat.not_lt_zero _)
                          | succ nf ih =>
                            intro q H locs ls h4 hmeas G hl
                            have hm103 := hmeas
                            have ih103 := ih
                            clear ih
                            refine lv_iload hx hb dX5_findWhole_103 (lv_at hl 4 rfl) ?_
                            refine lv_aload_n hx hb dX5_findWhole_105 rfl (lv_at hl 0 rfl) ?_
                            refine gx_get hx hb hts hinX5 hown G 5 (by decide) rfl rfl 0 (by decide) rfl lk66 rfl (v := .int (I2 5 0)) rfl dX5_findWhole_106 ?_
                            refine lv_icmp_ge (tgt := 132) hx hb dX5_findWhole_109 (by decide) (fun c109 => ?_) (fun c109 => ?_)
                            · skip
                              have n109 := gn_le (X := mn) (Y := q) h50 rfl (by omega) (by omega) c109
                              have hT : (m_tw mn mr (f, I2, a2)) = (1, (gU I2 5 27 (m_wc a2 mn)), (m_wb a2 q)) := by unfold m_tw; (repeat (first | rw [if_pos c9] | rw [if_neg c33] | rw [if_neg c40] | rw [if_pos c54] | rw [if_pos c82] | rw [if_pos c109])); (try rw [show q = mn by omega]); (try rfl)
                              have h50t : (m_tw mn mr (f, I2, a2)).2.1 5 0 = nI mn := ((m_tw_in (x := (f, I2, a2)) (mr := mr) hin).2.2.1 5 0 (Or.inr (by decide))).trans h50
                              have hT1 : 1 = (m_tw mn mr (f, I2, a2)).1 := by rw [hT]
                              have hl := lv_chg hl 1 rfl (congrArg Value.int hT1)
                              have G := gg_eq G (show (gU I2 5 27 (m_wc a2 mn)) = (m_tw mn mr (f, I2, a2)).2.1 by rw [hT]) rfl (show (m_wb a2 q) = (m_tw mn mr (f, I2, a2)).2.2 by rw [hT]) rfl
                              have hl : lv_has ls 5 [(0, .ref (ad 5)), (1, .int ((m_tw mn mr (f, I2, a2)).1)), (2, .int (nI (k0 + 1) - 1)), (3, .int (m_wc a2 mn)), (4, .int (nI q))] := hl
                              refine lv_aload_n hx hb dX5_findWhole_132 rfl (lv_at hl 0 rfl) ?_
                              refine gx_get hx hb hts hinX5 hown G 5 (by decide) rfl rfl 0 (by decide) rfl lk66 rfl (v := .int (((m_tw mn mr (f, I2, a2)).2.1) 5 0)) rfl dX5_findWhole_133 ?_
                              refine lv_iconst (v := 1) hx hb dX5_findWhole_136 (by decide) ?_
                              refine lv_isub hx hb dX5_findWhole_137 ?_
                              refine lv_istore_n (lv' := [(2, .int ((((m_tw mn mr (f, I2, a2)).2.1) 5 0) - 1)), (0, .ref (ad 5)), (1, .int ((m_tw mn mr (f, I2, a2)).1)), (3, .int (m_wc a2 mn)), (4, .int (nI q))]) hx hb dX5_findWhole_138 rfl hl (by decide) rfl (fun ls hl => ?_)
                              have K139 : ∀ (nf : Nat) (k : Nat) (a3 : gF) (H : Heap) (locs : List Loc) (ls : Array Slot), (k ≤ mn) → (m_od mn (m_tw mn mr (f, I2, a2)).2.2 = m_od k a3) → k < nf → GG D ad cy A s ((m_tw mn mr (f, I2, a2)).2.1) J a3 b H locs → lv_has ls 5 [(0, .ref (ad 5)), (1, .int ((m_tw mn mr (f, I2, a2)).1)), (2, .int (nI k - 1)), (3, .int (m_wc a2 mn)), (4, .int (nI q))] → W p l e ({ frames := 1, cells := 0, slots := 0, locals := 23 }) s m args below meth c H locs 0 0 Q (F0 m 139 ls []) := by
                                intro nf
                                induction nf with
                                | zero => exact fun _ _ _ _ _ _ _ hz => absurd hz (Nat.not_lt_zero _)
                                | succ nf ih =>
                                  intro k a3 H locs ls h5 h6 hmeas G hl
                                  have hm139 := hmeas
                                  have ih139 := ih
                                  clear ih
                                  refine lv_iload_n hx hb dX5_findWhole_139 rfl (lv_at hl 2 rfl) ?_
                                  refine lv_if_lt (tgt := 176) hx hb dX5_findWhole_140 (by decide) (fun c140 => ?_) (fun c140 => ?_)
                                  · skip
                                    have hk9 : k = 0 := by
                                      rcases Nat.eq_zero_or_pos k with h0 | h0
                                      · exact h0
                                      · exact absurd c140 (by rw [show k = (k - 1) + 1 by omega, nI_pred]; exact nI_pos (by omega))
                                    subst hk9
                                    have hO : (m_od mn (m_tw mn mr (f, I2, a2)).2.2) = (0, a3) := by rw [h6]; rfl
                                    have hz : (m_od mn (m_tw mn mr (f, I2, a2)).2.2).1 = 0 := by rw [hO]
                                    refine lv_iload_n hx hb dX5_findWhole_176 rfl (lv_at hl 2 rfl) ?_
                                    refine lv_if_lt (tgt := 32) hx hb dX5_findWhole_177 (by decide) (fun c177 => ?_) (fun c177 => ?_)
                                    · skip
                                      have q2 : nI 0 - 1 = nI ((m_nw mn (m_tw mn mr (f, I2, a2)).2.2).1) - 1 := by unfold m_nw; first | (rw [if_pos hz, hO]; done) | (rw [if_neg hz, hO]; exact (nI_pred k1).symm)
                                      have hl := lv_chg hl 2 rfl (congrArg Value.int q2)
                                      exact ih32  ((m_nw mn (m_tw mn mr (f, I2, a2)).2.2).1) ((m_tw mn mr (f, I2, a2)).1) ((m_tw mn mr (f, I2, a2)).2.1) ((m_nw mn (m_tw mn mr (f, I2, a2)).2.2).2) _ _ _ (m_fw_step (x := (f, I2, a2)) hin h2) ((m_nw_ok (m_tw_in (x := (f, I2, a2)) (mr := mr) hin).1).1) (h50t) (((m_tw_in (x := (f, I2, a2)) (mr := mr) hin).2.2.1 5 1 (Or.inr (by decide))).trans h51) ((m_tw_in (x := (f, I2, a2)) (mr := mr) hin).2.2.2 hf01) (by have := (m_nw_ok (m_tw_in (x := (f, I2, a2)) (mr := mr) hin).1).2.2; omega) (by have h9 := (m_nw_ok (m_tw_in (x := (f, I2, a2)) (mr := mr) hin).1).2.1; have h8 : m_mv (m_tw mn mr (f, I2, a2)).2.2 mn = m_mv a2 mn := (m_tw_in (x := (f, I2, a2)) (mr := mr) hin).2.1; unfold m_ms at hm32; rw [if_neg (by omega)] at hm32; omega) (gg_eq G rfl rfl (by unfold m_nw; first | (rw [if_pos hz, hO]; done) | (rw [if_neg hz, hO]; rfl)) rfl) (lv_sub hl [0, 1, 2] rfl)
                                    · skip
                                      exact absurd c140 c177
                                  · skip
                                    have hk1 : 0 < k := by
                                      rcases Nat.eq_zero_or_pos k with h0 | h0
                                      · subst h0
                                        exact absurd (by decide) c140
                                      · exact h0
                                    obtain ⟨k1, rfl⟩ : ∃ k1, k = k1 + 1 := ⟨k - 1, by omega⟩
                                    rw [nI_pred] at hl
                                    refine lv_aload_n hx hb dX5_findWhole_143 rfl (lv_at hl 0 rfl) ?_
                                    refine gx_get hx hb hts hinX5 hown G 5 (by decide) rfl rfl 25 (by decide) rfl lk60 rfl (v := .ref (ad 90)) rfl dX5_findWhole_144 ?_
                                    refine lv_iload_n hx hb dX5_findWhole_147 rfl (lv_at hl 2 rfl) ?_
                                    refine gx_iald hx hb G 90 (by decide) (rfl) (by decide) k1 rfl (by omega) dX5_findWhole_148 ?_
                                    refine lv_aload_n hx hb dX5_findWhole_149 rfl (lv_at hl 0 rfl) ?_
                                    refine gx_get hx hb hts hinX5 hown G 5 (by decide) rfl rfl 3 (by decide) rfl lk13 rfl (v := .ref (ad 28)) rfl dX5_findWhole_150 ?_
                                    refine lv_iload_n hx hb dX5_findWhole_153 rfl (lv_at hl 2 rfl) ?_
                                    refine gx_iald hx hb G 28 (by decide) (rfl) (by decide) k1 rfl (by omega) dX5_findWhole_154 ?_
                                    refine lv_icmp_ne (tgt := 176) hx hb dX5_findWhole_155 (by decide) (fun c155 => ?_) (fun c155 => ?_)
                                    · skip
                                      have hO : (m_od mn (m_tw mn mr (f, I2, a2)).2.2) = (k1 + 1, a3) := by rw [h6]; simp only [m_od, c155, reduceIte]
                                      have hz : ¬ (m_od mn (m_tw mn mr (f, I2, a2)).2.2).1 = 0 := by rw [hO]; exact Nat.succ_ne_zero _
                                      refine lv_iload_n hx hb dX5_findWhole_176 rfl (lv_at hl 2 rfl) ?_
                                      refine lv_if_lt (tgt := 32) hx hb dX5_findWhole_177 (by decide) (fun c177 => ?_) (fun c177 => ?_)
                                      · skip
                                        have n177 := gn_lt (X := k1) (Y := 0) rfl rfl (by omega) (by omega) c177
                                        exact absurd c177 (nI_pos (by omega))
                                      · skip
                                        have n177 := gn_nlt (X := k1) (Y := 0) rfl rfl (by omega) (by omega) c177
                                        refine lv_aload_n hx hb dX5_findWhole_180 rfl (lv_at hl 0 rfl) ?_
                                        refine gx_get hx hb hts hinX5 hown G 5 (by decide) rfl rfl 25 (by decide) rfl lk60 rfl (v := .ref (ad 90)) rfl dX5_findWhole_181 ?_
                                        refine lv_iload_n hx hb dX5_findWhole_184 rfl (lv_at hl 2 rfl) ?_
                                        refine lv_dup2_11 hx hb dX5_findWhole_185 rfl rfl ?_
                                        refine gx_iald hx hb G 90 (by decide) (rfl) (by decide) k1 rfl (by omega) dX5_findWhole_186 ?_
                                        refine lv_iconst (v := 1) hx hb dX5_findWhole_187 (by decide) ?_
                                        refine lv_iadd hx hb dX5_findWhole_188 ?_
                                        refine gx_iast hx hb G 90 (by decide) (rfl) (by decide) k1 rfl (by omega) dX5_findWhole_189 (fun H locs G => ?_)
                                        refine lv_goto (tgt := 32) hx hb dX5_findWhole_190 (by decide) ?_
                                        have q2 : nI k1 = nI ((m_nw mn (m_tw mn mr (f, I2, a2)).2.2).1) - 1 := by unfold m_nw; first | (rw [if_pos hz, hO]; done) | (rw [if_neg hz, hO]; exact (nI_pred k1).symm)
                                        have hl := lv_chg hl 2 rfl (congrArg Value.int q2)
                                        exact ih32  ((m_nw mn (m_tw mn mr (f, I2, a2)).2.2).1) ((m_tw mn mr (f, I2, a2)).1) ((m_tw mn mr (f, I2, a2)).2.1) ((m_nw mn (m_tw mn mr (f, I2, a2)).2.2).2) _ _ _ (m_fw_step (x := (f, I2, a2)) hin h2) ((m_nw_ok (m_tw_in (x := (f, I2, a2)) (mr := mr) hin).1).1) (h50t) (((m_tw_in (x := (f, I2, a2)) (mr := mr) hin).2.2.1 5 1 (Or.inr (by decide))).trans h51) ((m_tw_in (x := (f, I2, a2)) (mr := mr) hin).2.2.2 hf01) (by have := (m_nw_ok (m_tw_in (x := (f, I2, a2)) (mr := mr) hin).1).2.2; omega) (by have h9 := (m_nw_ok (m_tw_in (x := (f, I2, a2)) (mr := mr) hin).1).2.1; have h8 : m_mv (m_tw mn mr (f, I2, a2)).2.2 mn = m_mv a2 mn := (m_tw_in (x := (f, I2, a2)) (mr := mr) hin).2.1; unfold m_ms at hm32; rw [if_neg (by omega)] at hm32; omega) (gg_eq G rfl rfl (by unfold m_nw; first | (rw [if_pos hz, hO]; done) | (rw [if_neg hz, hO]; rfl)) rfl) (lv_sub hl [0, 1, 2] rfl)
                                    · skip
                                      refine lv_aload_n hx hb dX5_findWhole_158 rfl (lv_at hl 0 rfl) ?_
                                      refine gx_get hx hb hts hinX5 hown G 5 (by decide) rfl rfl 25 (by decide) rfl lk60 rfl (v := .ref (ad 90)) rfl dX5_findWhole_159 ?_
                                      refine lv_iload_n hx hb dX5_findWhole_162 rfl (lv_at hl 2 rfl) ?_
                                      refine lv_aload_n hx hb dX5_findWhole_163 rfl (lv_at hl 0 rfl) ?_
                                      refine gx_get hx hb hts hinX5 hown G 5 (by decide) rfl rfl 2 (by decide) rfl lk7 rfl (v := .ref (ad 27)) rfl dX5_findWhole_164 ?_
                                      refine lv_iload_n hx hb dX5_findWhole_167 rfl (lv_at hl 2 rfl) ?_
                                      refine gx_iald hx hb G 27 (by decide) (rfl) (by decide) k1 rfl (by omega) dX5_findWhole_168 ?_
                                      refine gx_iast hx hb G 90 (by decide) (rfl) (by decide) k1 rfl (by omega) dX5_findWhole_169 (fun H locs G => ?_)
                                      obtain ⟨x_2, ex_2⟩ : ∃ z : Int32, z = (nI k1) + -1 := ⟨_, rfl⟩
                                      refine lv_iinc (v := x_2) (lv' := [(2, .int x_2), (0, .ref (ad 5)), (1, .int ((m_tw mn mr (f, I2, a2)).1)), (3, .int (m_wc a2 mn)), (4, .int (nI q))]) hx hb dX5_findWhole_170 hl (k := 2) rfl ex_2.symm (by decide) rfl (fun ls hl => ?_)
                                      refine lv_goto (tgt := 139) hx hb dX5_findWhole_173 (by decide) ?_
                                      have q2 : x_2 = nI k1 - 1 := by rw [ex_2]; exact gx_m1 _
                                      have hl := lv_chg hl 0 rfl (congrArg Value.int q2)
                                      exact ih139  k1 (gU a3 90 k1 (a3 27 k1)) _ _ _ (by omega) (by rw [h6]; simp only [m_od, c155, reduceIte]) (by omega) G (lv_sub hl [1, 2, 0, 3, 4] rfl)
                              have q2 : (((m_tw mn mr (f, I2, a2)).2.1) 5 0) - 1 = nI mn - 1 := by rw [h50t]
                              have hl := lv_chg hl 0 rfl (congrArg Value.int q2)
                              exact K139 (mn + 1) mn ((m_tw mn mr (f, I2, a2)).2.2) _ _ _ (by omega) (rfl) (Nat.lt_succ_self _) G (lv_sub hl [1, 2, 0, 3, 4] rfl)
                            · skip
                              have n109 := gn_nle (X := mn) (Y := q) h50 rfl (by omega) (by omega) c109
                              refine lv_aload_n hx hb dX5_findWhole_112 rfl (lv_at hl 0 rfl) ?_
                              refine gx_get hx hb hts hinX5 hown G 5 (by decide) rfl rfl 26 (by decide) rfl lk63 rfl (v := .ref (ad 91)) rfl dX5_findWhole_113 ?_
                              refine lv_iload hx hb dX5_findWhole_116 (lv_at hl 4 rfl) ?_
                              refine lv_aload_n hx hb dX5_findWhole_118 rfl (lv_at hl 0 rfl) ?_
                              refine gx_get hx hb hts hinX5 hown G 5 (by decide) rfl rfl 25 (by decide) rfl lk60 rfl (v := .ref (ad 90)) rfl dX5_findWhole_119 ?_
                              refine lv_iload hx hb dX5_findWhole_122 (lv_at hl 4 rfl) ?_
                              refine gx_iald hx hb G 90 (by decide) (rfl) (by decide) q rfl (by omega) dX5_findWhole_124 ?_
                              refine gx_iast hx hb G 91 (by decide) (rfl) (by decide) q rfl (by omega) dX5_findWhole_125 (fun H locs G => ?_)
                              refine lv_iinc (v := (nI (q + 1))) (lv' := [(4, .int (nI (q + 1))), (0, .ref (ad 5)), (1, .int 1), (2, .int (nI (k0 + 1) - 1)), (3, .int (m_wc a2 mn))]) hx hb dX5_findWhole_126 hl (k := 4) rfl (gn_add (X := q) (Y := 1) rfl rfl) (by decide) rfl (fun ls hl => ?_)
                              refine lv_goto (tgt := 103) hx hb dX5_findWhole_129 (by decide) ?_
                              exact ih103  (q + 1) _ _ _ (by omega) (by omega) (gg_eq G rfl rfl (rfl) rfl) (lv_sub hl [1, 2, 3, 4, 0] rfl)
                        exact K103 (mn - 0 + 1) 0 _ _ _ (by omega) (Nat.lt_succ_self _) (gg_eq G rfl rfl (rfl) rfl) (lv_sub hl [2, 1, 3, 4, 0] rfl)
                      · skip
                        refine lv_iload_n hx hb dX5_findWhole_85 rfl (lv_at hl 3 rfl) ?_
                        refine lv_aload_n hx hb dX5_findWhole_86 rfl (lv_at hl 0 rfl) ?_
                        refine gx_get hx hb hts hinX5 hown G 5 (by decide) rfl rfl 27 (by decide) rfl lk164 rfl (v := .int (I2 5 27)) rfl dX5_findWhole_87 ?_
                        refine lv_icmp_ge (tgt := 132) hx hb dX5_findWhole_90 (by decide) (fun c90 => ?_) (fun c90 => ?_)
                        · skip
                          have hT : (m_tw mn mr (f, I2, a2)) = (f, I2, a2) := by unfold m_tw; (repeat (first | rw [if_pos c9] | rw [if_neg c33] | rw [if_neg c40] | rw [if_pos c54] | rw [if_neg c82] | rw [if_pos c90])); (try rw [show q = mn by omega]); (try rfl)
                          have h50t : (m_tw mn mr (f, I2, a2)).2.1 5 0 = nI mn := ((m_tw_in (x := (f, I2, a2)) (mr := mr) hin).2.2.1 5 0 (Or.inr (by decide))).trans h50
                          have hT1 : f = (m_tw mn mr (f, I2, a2)).1 := by rw [hT]
                          have hl := lv_chg hl 1 rfl (congrArg Value.int hT1)
                          have G := gg_eq G (show I2 = (m_tw mn mr (f, I2, a2)).2.1 by rw [hT]) rfl (show a2 = (m_tw mn mr (f, I2, a2)).2.2 by rw [hT]) rfl
                          have hl : lv_has ls 5 [(0, .ref (ad 5)), (1, .int ((m_tw mn mr (f, I2, a2)).1)), (2, .int (nI (k0 + 1) - 1)), (3, .int (m_wc a2 mn)), (4, .int (nI mn))] := hl
                          refine lv_aload_n hx hb dX5_findWhole_132 rfl (lv_at hl 0 rfl) ?_
                          refine gx_get hx hb hts hinX5 hown G 5 (by decide) rfl rfl 0 (by decide) rfl lk66 rfl (v := .int (((m_tw mn mr (f, I2, a2)).2.1) 5 0)) rfl dX5_findWhole_133 ?_
                          refine lv_iconst (v := 1) hx hb dX5_findWhole_136 (by decide) ?_
                          refine lv_isub hx hb dX5_findWhole_137 ?_
                          refine lv_istore_n (lv' := [(2, .int ((((m_tw mn mr (f, I2, a2)).2.1) 5 0) - 1)), (0, .ref (ad 5)), (1, .int ((m_tw mn mr (f, I2, a2)).1)), (3, .int (m_wc a2 mn)), (4, .int (nI mn))]) hx hb dX5_findWhole_138 rfl hl (by decide) rfl (fun ls hl => ?_)
                          have K139 : ∀ (nf : Nat) (k : Nat) (a3 : gF) (H : Heap) (locs : List Loc) (ls : Array Slot), (k ≤ mn) → (m_od mn (m_tw mn mr (f, I2, a2)).2.2 = m_od k a3) → k < nf → GG D ad cy A s ((m_tw mn mr (f, I2, a2)).2.1) J a3 b H locs → lv_has ls 5 [(0, .ref (ad 5)), (1, .int ((m_tw mn mr (f, I2, a2)).1)), (2, .int (nI k - 1)), (3, .int (m_wc a2 mn)), (4, .int (nI mn))] → W p l e ({ frames := 1, cells := 0, slots := 0, locals := 23 }) s m args below meth c H locs 0 0 Q (F0 m 139 ls []) := by
                            intro nf
                            induction nf with
                            | zero => exact fun _ _ _ _ _ _ _ hz => absurd hz (Nat.not_lt_zero _)
                            | succ nf ih =>
                              intro k a3 H locs ls h5 h6 hmeas G hl
                              have hm139 := hmeas
                              have ih139 := ih
                              clear ih
                              refine lv_iload_n hx hb dX5_findWhole_139 rfl (lv_at hl 2 rfl) ?_
                              refine lv_if_lt (tgt := 176) hx hb dX5_findWhole_140 (by decide) (fun c140 => ?_) (fun c140 => ?_)
                              · skip
                                have hk9 : k = 0 := by
                                  rcases Nat.eq_zero_or_pos k with h0 | h0
                                  · exact h0
                                  · exact absurd c140 (by rw [show k = (k - 1) + 1 by omega, nI_pred]; exact nI_pos (by omega))
                                subst hk9
                                have hO : (m_od mn (m_tw mn mr (f, I2, a2)).2.2) = (0, a3) := by rw [h6]; rfl
                                have hz : (m_od mn (m_tw mn mr (f, I2, a2)).2.2).1 = 0 := by rw [hO]
                                refine lv_iload_n hx hb dX5_findWhole_176 rfl (lv_at hl 2 rfl) ?_
                                refine lv_if_lt (tgt := 32) hx hb dX5_findWhole_177 (by decide) (fun c177 => ?_) (fun c177 => ?_)
                                · skip
                                  have q2 : nI 0 - 1 = nI ((m_nw mn (m_tw mn mr (f, I2, a2)).2.2).1) - 1 := by unfold m_nw; first | (rw [if_pos hz, hO]; done) | (rw [if_neg hz, hO]; exact (nI_pred k1).symm)
                                  have hl := lv_chg hl 2 rfl (congrArg Value.int q2)
                                  exact ih32  ((m_nw mn (m_tw mn mr (f, I2, a2)).2.2).1) ((m_tw mn mr (f, I2, a2)).1) ((m_tw mn mr (f, I2, a2)).2.1) ((m_nw mn (m_tw mn mr (f, I2, a2)).2.2).2) _ _ _ (m_fw_step (x := (f, I2, a2)) hin h2) ((m_nw_ok (m_tw_in (x := (f, I2, a2)) (mr := mr) hin).1).1) (h50t) (((m_tw_in (x := (f, I2, a2)) (mr := mr) hin).2.2.1 5 1 (Or.inr (by decide))).trans h51) ((m_tw_in (x := (f, I2, a2)) (mr := mr) hin).2.2.2 hf01) (by have := (m_nw_ok (m_tw_in (x := (f, I2, a2)) (mr := mr) hin).1).2.2; omega) (by have h9 := (m_nw_ok (m_tw_in (x := (f, I2, a2)) (mr := mr) hin).1).2.1; have h8 : m_mv (m_tw mn mr (f, I2, a2)).2.2 mn = m_mv a2 mn := (m_tw_in (x := (f, I2, a2)) (mr := mr) hin).2.1; unfold m_ms at hm32; rw [if_neg (by omega)] at hm32; omega) (gg_eq G rfl rfl (by unfold m_nw; first | (rw [if_pos hz, hO]; done) | (rw [if_neg hz, hO]; rfl)) rfl) (lv_sub hl [0, 1, 2] rfl)
                                · skip
                                  exact absurd c140 c177
                              · skip
                                have hk1 : 0 < k := by
                                  rcases Nat.eq_zero_or_pos k with h0 | h0
                                  · subst h0
                                    exact absurd (by decide) c140
                                  · exact h0
                                obtain ⟨k1, rfl⟩ : ∃ k1, k = k1 + 1 := ⟨k - 1, by omega⟩
                                rw [nI_pred] at hl
                                refine lv_aload_n hx hb dX5_findWhole_143 rfl (lv_at hl 0 rfl) ?_
                                refine gx_get hx hb hts hinX5 hown G 5 (by decide) rfl rfl 25 (by decide) rfl lk60 rfl (v := .ref (ad 90)) rfl dX5_findWhole_144 ?_
                                refine lv_iload_n hx hb dX5_findWhole_147 rfl (lv_at hl 2 rfl) ?_
                                refine gx_iald hx hb G 90 (by decide) (rfl) (by decide) k1 rfl (by omega) dX5_findWhole_148 ?_
                                refine lv_aload_n hx hb dX5_findWhole_149 rfl (lv_at hl 0 rfl) ?_
                                refine gx_get hx hb hts hinX5 hown G 5 (by decide) rfl rfl 3 (by decide) rfl lk13 rfl (v := .ref (ad 28)) rfl dX5_findWhole_150 ?_
                                refine lv_iload_n hx hb dX5_findWhole_153 rfl (lv_at hl 2 rfl) ?_
                                refine gx_iald hx hb G 28 (by decide) (rfl) (by decide) k1 rfl (by omega) dX5_findWhole_154 ?_
                                refine lv_icmp_ne (tgt := 176) hx hb dX5_findWhole_155 (by decide) (fun c155 => ?_) (fun c155 => ?_)
                                · skip
                                  have hO : (m_od mn (m_tw mn mr (f, I2, a2)).2.2) = (k1 + 1, a3) := by rw [h6]; simp only [m_od, c155, reduceIte]
                                  have hz : ¬ (m_od mn (m_tw mn mr (f, I2, a2)).2.2).1 = 0 := by rw [hO]; exact Nat.succ_ne_zero _
                                  refine lv_iload_n hx hb dX5_findWhole_176 rfl (lv_at hl 2 rfl) ?_
                                  refine lv_if_lt (tgt := 32) hx hb dX5_findWhole_177 (by decide) (fun c177 => ?_) (fun c177 => ?_)
                                  · skip
                                    have n177 := gn_lt (X := k1) (Y := 0) rfl rfl (by omega) (by omega) c177
                                    exact absurd c177 (nI_pos (by omega))
                                  · skip
                                    have n177 := gn_nlt (X := k1) (Y := 0) rfl rfl (by omega) (by omega) c177
                                    refine lv_aload_n hx hb dX5_findWhole_180 rfl (lv_at hl 0 rfl) ?_
                                    refine gx_get hx hb hts hinX5 hown G 5 (by decide) rfl rfl 25 (by decide) rfl lk60 rfl (v := .ref (ad 90)) rfl dX5_findWhole_181 ?_
                                    refine lv_iload_n hx hb dX5_findWhole_184 rfl (lv_at hl 2 rfl) ?_
                                    refine lv_dup2_11 hx hb dX5_findWhole_185 rfl rfl ?_
                                    refine gx_iald hx hb G 90 (by decide) (rfl) (by decide) k1 rfl (by omega) dX5_findWhole_186 ?_
                                    refine lv_iconst (v := 1) hx hb dX5_findWhole_187 (by decide) ?_
                                    refine lv_iadd hx hb dX5_findWhole_188 ?_
                                    refine gx_iast hx hb G 90 (by decide) (rfl) (by decide) k1 rfl (by omega) dX5_findWhole_189 (fun H locs G => ?_)
                                    refine lv_goto (tgt := 32) hx hb dX5_findWhole_190 (by decide) ?_
                                    have q2 : nI k1 = nI ((m_nw mn (m_tw mn mr (f, I2, a2)).2.2).1) - 1 := by unfold m_nw; first | (rw [if_pos hz, hO]; done) | (rw [if_neg hz, hO]; exact (nI_pred k1).symm)
                                    have hl := lv_chg hl 2 rfl (congrArg Value.int q2)
                                    exact ih32  ((m_nw mn (m_tw mn mr (f, I2, a2)).2.2).1) ((m_tw mn mr (f, I2, a2)).1) ((m_tw mn mr (f, I2, a2)).2.1) ((m_nw mn (m_tw mn mr (f, I2, a2)).2.2).2) _ _ _ (m_fw_step (x := (f, I2, a2)) hin h2) ((m_nw_ok (m_tw_in (x := (f, I2, a2)) (mr := mr) hin).1).1) (h50t) (((m_tw_in (x := (f, I2, a2)) (mr := mr) hin).2.2.1 5 1 (Or.inr (by decide))).trans h51) ((m_tw_in (x := (f, I2, a2)) (mr := mr) hin).2.2.2 hf01) (by have := (m_nw_ok (m_tw_in (x := (f, I2, a2)) (mr := mr) hin).1).2.2; omega) (by have h9 := (m_nw_ok (m_tw_in (x := (f, I2, a2)) (mr := mr) hin).1).2.1; have h8 : m_mv (m_tw mn mr (f, I2, a2)).2.2 mn = m_mv a2 mn := (m_tw_in (x := (f, I2, a2)) (mr := mr) hin).2.1; unfold m_ms at hm32; rw [if_neg (by omega)] at hm32; omega) (gg_eq G rfl rfl (by unfold m_nw; first | (rw [if_pos hz, hO]; done) | (rw [if_neg hz, hO]; rfl)) rfl) (lv_sub hl [0, 1, 2] rfl)
                                · skip
                                  refine lv_aload_n hx hb dX5_findWhole_158 rfl (lv_at hl 0 rfl) ?_
                                  refine gx_get hx hb hts hinX5 hown G 5 (by decide) rfl rfl 25 (by decide) rfl lk60 rfl (v := .ref (ad 90)) rfl dX5_findWhole_159 ?_
                                  refine lv_iload_n hx hb dX5_findWhole_162 rfl (lv_at hl 2 rfl) ?_
                                  refine lv_aload_n hx hb dX5_findWhole_163 rfl (lv_at hl 0 rfl) ?_
                                  refine gx_get hx hb hts hinX5 hown G 5 (by decide) rfl rfl 2 (by decide) rfl lk7 rfl (v := .ref (ad 27)) rfl dX5_findWhole_164 ?_
                                  refine lv_iload_n hx hb dX5_findWhole_167 rfl (lv_at hl 2 rfl) ?_
                                  refine gx_iald hx hb G 27 (by decide) (rfl) (by decide) k1 rfl (by omega) dX5_findWhole_168 ?_
                                  refine gx_iast hx hb G 90 (by decide) (rfl) (by decide) k1 rfl (by omega) dX5_findWhole_169 (fun H locs G => ?_)
                                  obtain ⟨x_3, ex_3⟩ : ∃ z : Int32, z = (nI k1) + -1 := ⟨_, rfl⟩
                                  refine lv_iinc (v := x_3) (lv' := [(2, .int x_3), (0, .ref (ad 5)), (1, .int ((m_tw mn mr (f, I2, a2)).1)), (3, .int (m_wc a2 mn)), (4, .int (nI mn))]) hx hb dX5_findWhole_170 hl (k := 2) rfl ex_3.symm (by decide) rfl (fun ls hl => ?_)
                                  refine lv_goto (tgt := 139) hx hb dX5_findWhole_173 (by decide) ?_
                                  have q2 : x_3 = nI k1 - 1 := by rw [ex_3]; exact gx_m1 _
                                  have hl := lv_chg hl 0 rfl (congrArg Value.int q2)
                                  exact ih139  k1 (gU a3 90 k1 (a3 27 k1)) _ _ _ (by omega) (by rw [h6]; simp only [m_od, c155, reduceIte]) (by omega) G (lv_sub hl [1, 2, 0, 3, 4] rfl)
                          have q2 : (((m_tw mn mr (f, I2, a2)).2.1) 5 0) - 1 = nI mn - 1 := by rw [h50t]
                          have hl := lv_chg hl 0 rfl (congrArg Value.int q2)
                          exact K139 (mn + 1) mn ((m_tw mn mr (f, I2, a2)).2.2) _ _ _ (by omega) (rfl) (Nat.lt_succ_self _) G (lv_sub hl [1, 2, 0, 3, 4] rfl)
                        · skip
                          refine lv_iconst (v := 1) hx hb dX5_findWhole_93 (by decide) ?_
                          refine lv_istore_n (lv' := [(1, .int 1), (0, .ref (ad 5)), (2, .int (nI (k0 + 1) - 1)), (3, .int (m_wc a2 mn)), (4, .int (nI mn))]) hx hb dX5_findWhole_94 rfl hl (by decide) rfl (fun ls hl => ?_)
                          refine lv_aload_n hx hb dX5_findWhole_95 rfl (lv_at hl 1 rfl) ?_
                          refine lv_iload_n hx hb dX5_findWhole_96 rfl (lv_at hl 3 rfl) ?_
                          refine gx_putI hx hb hts hinX5 tyX5 tyX5_ok nmX5 hown G 5 (by decide) rfl rfl 27 (by decide) rfl lk164 rfl rfl (tyX5_ok 27 (by decide)) (rfl) (rfl) dX5_findWhole_97 (fun H locs G => ?_)
                          refine lv_iconst (v := 0) hx hb dX5_findWhole_100 (by decide) ?_
                          refine lv_istore (lv' := [(4, .int 0), (1, .int 1), (0, .ref (ad 5)), (2, .int (nI (k0 + 1) - 1)), (3, .int (m_wc a2 mn))]) hx hb dX5_findWhole_101 hl (by decide) rfl (fun ls hl => ?_)
                          have K103 : ∀ (nf : Nat) (q : Nat) (H : Heap) (locs : List Loc) (ls : Array Slot), (q ≤ mn) → mn - q < nf → GG D ad cy A s (gU I2 5 27 (m_wc a2 mn)) J (m_wb a2 q) b H locs → lv_has ls 5 [(0, .ref (ad 5)), (1, .int 1), (2, .int (nI (k0 + 1) - 1)), (3, .int (m_wc a2 mn)), (4, .int (nI q))] → W p l e ({ frames := 1, cells := 0, slots := 0, locals := 23 }) s m args below meth c H locs 0 0 Q (F0 m 103 ls []) := by
                            intro nf
                            induction nf with
                            | zero => exact fun _ _ _ _ _ hz => absurd hz (Nat.not_lt_zero _)
                            | succ nf ih =>
                              intro q H locs ls h4 hmeas G hl
                              have hm103 := hmeas
                              have ih103 := ih
                              clear ih
                              refine lv_iload hx hb dX5_findWhole_103 (lv_at hl 4 rfl) ?_
                              refine lv_aload_n hx hb dX5_findWhole_105 rfl (lv_at hl 0 rfl) ?_
                              refine gx_get hx hb hts hinX5 hown G 5 (by decide) rfl rfl 0 (by decide) rfl lk66 rfl (v := .int (I2 5 0)) rfl dX5_findWhole_106 ?_
                              refine lv_icmp_ge (tgt := 132) hx hb dX5_findWhole_109 (by decide) (fun c109 => ?_) (fun c109 => ?_)
                              · skip
                                have n109 := gn_le (X := mn) (Y := q) h50 rfl (by omega) (by omega) c109
                                have hT : (m_tw mn mr (f, I2, a2)) = (1, (gU I2 5 27 (m_wc a2 mn)), (m_wb a2 q)) := by unfold m_tw; (repeat (first | rw [if_pos c9] | rw [if_neg c33] | rw [if_neg c40] | rw [if_pos c54] | rw [if_neg c82] | rw [if_neg c90] | rw [if_pos c109])); (try rw [show q = mn by omega]); (try rfl)
                                have h50t : (m_tw mn mr (f, I2, a2)).2.1 5 0 = nI mn := ((m_tw_in (x := (f, I2, a2)) (mr := mr) hin).2.2.1 5 0 (Or.inr (by decide))).trans h50
                                have hT1 : 1 = (m_tw mn mr (f, I2, a2)).1 := by rw [hT]
                                have hl := lv_chg hl 1 rfl (congrArg Value.int hT1)
                                have G := gg_eq G (show (gU I2 5 27 (m_wc a2 mn)) = (m_tw mn mr (f, I2, a2)).2.1 by rw [hT]) rfl (show (m_wb a2 q) = (m_tw mn mr (f, I2, a2)).2.2 by rw [hT]) rfl
                                have hl : lv_has ls 5 [(0, .ref (ad 5)), (1, .int ((m_tw mn mr (f, I2, a2)).1)), (2, .int (nI (k0 + 1) - 1)), (3, .int (m_wc a2 mn)), (4, .int (nI q))] := hl
                                refine lv_aload_n hx hb dX5_findWhole_132 rfl (lv_at hl 0 rfl) ?_
                                refine gx_get hx hb hts hinX5 hown G 5 (by decide) rfl rfl 0 (by decide) rfl lk66 rfl (v := .int (((m_tw mn mr (f, I2, a2)).2.1) 5 0)) rfl dX5_findWhole_133 ?_
                                refine lv_iconst (v := 1) hx hb dX5_findWhole_136 (by decide) ?_
                                refine lv_isub hx hb dX5_findWhole_137 ?_
                                refine lv_istore_n (lv' := [(2, .int ((((m_tw mn mr (f, I2, a2)).2.1) 5 0) - 1)), (0, .ref (ad 5)), (1, .int ((m_tw mn mr (f, I2, a2)).1)), (3, .int (m_wc a2 mn)), (4, .int (nI q))]) hx hb dX5_findWhole_138 rfl hl (by decide) rfl (fun ls hl => ?_)
                                have K139 : ∀ (nf : Nat) (k : Nat) (a3 : gF) (H : Heap) (locs : List Loc) (ls : Array Slot), (k ≤ mn) → (m_od mn (m_tw mn mr (f, I2, a2)).2.2 = m_od k a3) → k < nf → GG D ad cy A s ((m_tw mn mr (f, I2, a2)).2.1) J a3 b H locs → lv_has ls 5 [(0, .ref (ad 5)), (1, .int ((m_tw mn mr (f, I2, a2)).1)), (2, .int (nI k - 1)), (3, .int (m_wc a2 mn)), (4, .int (nI q))] → W p l e ({ frames := 1, cells := 0, slots := 0, locals := 23 }) s m args below meth c H locs 0 0 Q (F0 m 139 ls []) := by
                                  intro nf
                                  induction nf with
                                  | zero => exact fun _ _ _ _ _ _ _ hz => absurd hz (Nat.not_lt_zero _)
                                  | succ nf ih =>
                                    intro k a3 H locs ls h5 h6 hmeas G hl
                                    have hm139 := hmeas
                                    have ih139 := ih
                                    clear ih
                                    refine lv_iload_n hx hb dX5_findWhole_139 rfl (lv_at hl 2 rfl) ?_
                                    refine lv_if_lt (tgt := 176) hx hb dX5_findWhole_140 (by decide) (fun c140 => ?_) (fun c140 => ?_)
                                    · skip
                                      have hk9 : k = 0 := by
                                        rcases Nat.eq_zero_or_pos k with h0 | h0
                                        · exact h0
                                        · exact absurd c140 (by rw [show k = (k - 1) + 1 by omega, nI_pred]; exact nI_pos (by omega))
                                      subst hk9
                                      have hO : (m_od mn (m_tw mn mr (f, I2, a2)).2.2) = (0, a3) := by rw [h6]; rfl
                                      have hz : (m_od mn (m_tw mn mr (f, I2, a2)).2.2).1 = 0 := by rw [hO]
                                      refine lv_iload_n hx hb dX5_findWhole_176 rfl (lv_at hl 2 rfl) ?_
                                      refine lv_if_lt (tgt := 32) hx hb dX5_findWhole_177 (by decide) (fun c177 => ?_) (fun c177 => ?_)
                                      · skip
                                        have q2 : nI 0 - 1 = nI ((m_nw mn (m_tw mn mr (f, I2, a2)).2.2).1) - 1 := by unfold m_nw; first | (rw [if_pos hz, hO]; done) | (rw [if_neg hz, hO]; exact (nI_pred k1).symm)
                                        have hl := lv_chg hl 2 rfl (congrArg Value.int q2)
                                        exact ih32  ((m_nw mn (m_tw mn mr (f, I2, a2)).2.2).1) ((m_tw mn mr (f, I2, a2)).1) ((m_tw mn mr (f, I2, a2)).2.1) ((m_nw mn (m_tw mn mr (f, I2, a2)).2.2).2) _ _ _ (m_fw_step (x := (f, I2, a2)) hin h2) ((m_nw_ok (m_tw_in (x := (f, I2, a2)) (mr := mr) hin).1).1) (h50t) (((m_tw_in (x := (f, I2, a2)) (mr := mr) hin).2.2.1 5 1 (Or.inr (by decide))).trans h51) ((m_tw_in (x := (f, I2, a2)) (mr := mr) hin).2.2.2 hf01) (by have := (m_nw_ok (m_tw_in (x := (f, I2, a2)) (mr := mr) hin).1).2.2; omega) (by have h9 := (m_nw_ok (m_tw_in (x := (f, I2, a2)) (mr := mr) hin).1).2.1; have h8 : m_mv (m_tw mn mr (f, I2, a2)).2.2 mn = m_mv a2 mn := (m_tw_in (x := (f, I2, a2)) (mr := mr) hin).2.1; unfold m_ms at hm32; rw [if_neg (by omega)] at hm32; omega) (gg_eq G rfl rfl (by unfold m_nw; first | (rw [if_pos hz, hO]; done) | (rw [if_neg hz, hO]; rfl)) rfl) (lv_sub hl [0, 1, 2] rfl)
                                      · skip
                                        exact absurd c140 c177
                                    · skip
                                      have hk1 : 0 < k := by
                                        rcases Nat.eq_zero_or_pos k with h0 | h0
                                        · subst h0
                                          exact absurd (by decide) c140
                                        · exact h0
                                      obtain ⟨k1, rfl⟩ : ∃ k1, k = k1 + 1 := ⟨k - 1, by omega⟩
                                      rw [nI_pred] at hl
                                      refine lv_aload_n hx hb dX5_findWhole_143 rfl (lv_at hl 0 rfl) ?_
                                      refine gx_get hx hb hts hinX5 hown G 5 (by decide) rfl rfl 25 (by decide) rfl lk60 rfl (v := .ref (ad 90)) rfl dX5_findWhole_144 ?_
                                      refine lv_iload_n hx hb dX5_findWhole_147 rfl (lv_at hl 2 rfl) ?_
                                      refine gx_iald hx hb G 90 (by decide) (rfl) (by decide) k1 rfl (by omega) dX5_findWhole_148 ?_
                                      refine lv_aload_n hx hb dX5_findWhole_149 rfl (lv_at hl 0 rfl) ?_
                                      refine gx_get hx hb hts hinX5 hown G 5 (by decide) rfl rfl 3 (by decide) rfl lk13 rfl (v := .ref (ad 28)) rfl dX5_findWhole_150 ?_
                                      refine lv_iload_n hx hb dX5_findWhole_153 rfl (lv_at hl 2 rfl) ?_
                                      refine gx_iald hx hb G 28 (by decide) (rfl) (by decide) k1 rfl (by omega) dX5_findWhole_154 ?_
                                      refine lv_icmp_ne (tgt := 176) hx hb dX5_findWhole_155 (by decide) (fun c155 => ?_) (fun c155 => ?_)
                                      · skip
                                        have hO : (m_od mn (m_tw mn mr (f, I2, a2)).2.2) = (k1 + 1, a3) := by rw [h6]; simp only [m_od, c155, reduceIte]
                                        have hz : ¬ (m_od mn (m_tw mn mr (f, I2, a2)).2.2).1 = 0 := by rw [hO]; exact Nat.succ_ne_zero _
                                        refine lv_iload_n hx hb dX5_findWhole_176 rfl (lv_at hl 2 rfl) ?_
                                        refine lv_if_lt (tgt := 32) hx hb dX5_findWhole_177 (by decide) (fun c177 => ?_) (fun c177 => ?_)
                                        · skip
                                          have n177 := gn_lt (X := k1) (Y := 0) rfl rfl (by omega) (by omega) c177
                                          exact absurd c177 (nI_pos (by omega))
                                        · skip
                                          have n177 := gn_nlt (X := k1) (Y := 0) rfl rfl (by omega) (by omega) c177
                                          refine lv_aload_n hx hb dX5_findWhole_180 rfl (lv_at hl 0 rfl) ?_
                                          refine gx_get hx hb hts hinX5 hown G 5 (by decide) rfl rfl 25 (by decide) rfl lk60 rfl (v := .ref (ad 90)) rfl dX5_findWhole_181 ?_
                                          refine lv_iload_n hx hb dX5_findWhole_184 rfl (lv_at hl 2 rfl) ?_
                                          refine lv_dup2_11 hx hb dX5_findWhole_185 rfl rfl ?_
                                          refine gx_iald hx hb G 90 (by decide) (rfl) (by decide) k1 rfl (by omega) dX5_findWhole_186 ?_
                                          refine lv_iconst (v := 1) hx hb dX5_findWhole_187 (by decide) ?_
                                          refine lv_iadd hx hb dX5_findWhole_188 ?_
                                          refine gx_iast hx hb G 90 (by decide) (rfl) (by decide) k1 rfl (by omega) dX5_findWhole_189 (fun H locs G => ?_)
                                          refine lv_goto (tgt := 32) hx hb dX5_findWhole_190 (by decide) ?_
                                          have q2 : nI k1 = nI ((m_nw mn (m_tw mn mr (f, I2, a2)).2.2).1) - 1 := by unfold m_nw; first | (rw [if_pos hz, hO]; done) | (rw [if_neg hz, hO]; exact (nI_pred k1).symm)
                                          have hl := lv_chg hl 2 rfl (congrArg Value.int q2)
                                          exact ih32  ((m_nw mn (m_tw mn mr (f, I2, a2)).2.2).1) ((m_tw mn mr (f, I2, a2)).1) ((m_tw mn mr (f, I2, a2)).2.1) ((m_nw mn (m_tw mn mr (f, I2, a2)).2.2).2) _ _ _ (m_fw_step (x := (f, I2, a2)) hin h2) ((m_nw_ok (m_tw_in (x := (f, I2, a2)) (mr := mr) hin).1).1) (h50t) (((m_tw_in (x := (f, I2, a2)) (mr := mr) hin).2.2.1 5 1 (Or.inr (by decide))).trans h51) ((m_tw_in (x := (f, I2, a2)) (mr := mr) hin).2.2.2 hf01) (by have := (m_nw_ok (m_tw_in (x := (f, I2, a2)) (mr := mr) hin).1).2.2; omega) (by have h9 := (m_nw_ok (m_tw_in (x := (f, I2, a2)) (mr := mr) hin).1).2.1; have h8 : m_mv (m_tw mn mr (f, I2, a2)).2.2 mn = m_mv a2 mn := (m_tw_in (x := (f, I2, a2)) (mr := mr) hin).2.1; unfold m_ms at hm32; rw [if_neg (by omega)] at hm32; omega) (gg_eq G rfl rfl (by unfold m_nw; first | (rw [if_pos hz, hO]; done) | (rw [if_neg hz, hO]; rfl)) rfl) (lv_sub hl [0, 1, 2] rfl)
                                      · skip
                                        refine lv_aload_n hx hb dX5_findWhole_158 rfl (lv_at hl 0 rfl) ?_
                                        refine gx_get hx hb hts hinX5 hown G 5 (by decide) rfl rfl 25 (by decide) rfl lk60 rfl (v := .ref (ad 90)) rfl dX5_findWhole_159 ?_
                                        refine lv_iload_n hx hb dX5_findWhole_162 rfl (lv_at hl 2 rfl) ?_
                                        refine lv_aload_n hx hb dX5_findWhole_163 rfl (lv_at hl 0 rfl) ?_
                                        refine gx_get hx hb hts hinX5 hown G 5 (by decide) rfl rfl 2 (by decide) rfl lk7 rfl (v := .ref (ad 27)) rfl dX5_findWhole_164 ?_
                                        refine lv_iload_n hx hb dX5_findWhole_167 rfl (lv_at hl 2 rfl) ?_
                                        refine gx_iald hx hb G 27 (by decide) (rfl) (by decide) k1 rfl (by omega) dX5_findWhole_168 ?_
                                        refine gx_iast hx hb G 90 (by decide) (rfl) (by decide) k1 rfl (by omega) dX5_findWhole_169 (fun H locs G => ?_)
                                        obtain ⟨x_4, ex_4⟩ : ∃ z : Int32, z = (nI k1) + -1 := ⟨_, rfl⟩
                                        refine lv_iinc (v := x_4) (lv' := [(2, .int x_4), (0, .ref (ad 5)), (1, .int ((m_tw mn mr (f, I2, a2)).1)), (3, .int (m_wc a2 mn)), (4, .int (nI q))]) hx hb dX5_findWhole_170 hl (k := 2) rfl ex_4.symm (by decide) rfl (fun ls hl => ?_)
                                        refine lv_goto (tgt := 139) hx hb dX5_findWhole_173 (by decide) ?_
                                        have q2 : x_4 = nI k1 - 1 := by rw [ex_4]; exact gx_m1 _
                                        have hl := lv_chg hl 0 rfl (congrArg Value.int q2)
                                        exact ih139  k1 (gU a3 90 k1 (a3 27 k1)) _ _ _ (by omega) (by rw [h6]; simp only [m_od, c155, reduceIte]) (by omega) G (lv_sub hl [1, 2, 0, 3, 4] rfl)
                                have q2 : (((m_tw mn mr (f, I2, a2)).2.1) 5 0) - 1 = nI mn - 1 := by rw [h50t]
                                have hl := lv_chg hl 0 rfl (congrArg Value.int q2)
                                exact K139 (mn + 1) mn ((m_tw mn mr (f, I2, a2)).2.2) _ _ _ (by omega) (rfl) (Nat.lt_succ_self _) G (lv_sub hl [1, 2, 0, 3, 4] rfl)
                              · skip
                                have n109 := gn_nle (X := mn) (Y := q) h50 rfl (by omega) (by omega) c109
                                refine lv_aload_n hx hb dX5_findWhole_112 rfl (lv_at hl 0 rfl) ?_
                                refine gx_get hx hb hts hinX5 hown G 5 (by decide) rfl rfl 26 (by decide) rfl lk63 rfl (v := .ref (ad 91)) rfl dX5_findWhole_113 ?_
                                refine lv_iload hx hb dX5_findWhole_116 (lv_at hl 4 rfl) ?_
                                refine lv_aload_n hx hb dX5_findWhole_118 rfl (lv_at hl 0 rfl) ?_
                                refine gx_get hx hb hts hinX5 hown G 5 (by decide) rfl rfl 25 (by decide) rfl lk60 rfl (v := .ref (ad 90)) rfl dX5_findWhole_119 ?_
                                refine lv_iload hx hb dX5_findWhole_122 (lv_at hl 4 rfl) ?_
                                refine gx_iald hx hb G 90 (by decide) (rfl) (by decide) q rfl (by omega) dX5_findWhole_124 ?_
                                refine gx_iast hx hb G 91 (by decide) (rfl) (by decide) q rfl (by omega) dX5_findWhole_125 (fun H locs G => ?_)
                                refine lv_iinc (v := (nI (q + 1))) (lv' := [(4, .int (nI (q + 1))), (0, .ref (ad 5)), (1, .int 1), (2, .int (nI (k0 + 1) - 1)), (3, .int (m_wc a2 mn))]) hx hb dX5_findWhole_126 hl (k := 4) rfl (gn_add (X := q) (Y := 1) rfl rfl) (by decide) rfl (fun ls hl => ?_)
                                refine lv_goto (tgt := 103) hx hb dX5_findWhole_129 (by decide) ?_
                                exact ih103  (q + 1) _ _ _ (by omega) (by omega) (gg_eq G rfl rfl (rfl) rfl) (lv_sub hl [1, 2, 3, 4, 0] rfl)
                          exact K103 (mn - 0 + 1) 0 _ _ _ (by omega) (Nat.lt_succ_self _) (gg_eq G rfl rfl (rfl) rfl) (lv_sub hl [2, 1, 3, 4, 0] rfl)
                    · skip
                      have n54 := gn_nle (X := mn) (Y := q) h50 rfl (by omega) (by omega) c54
                      refine lv_iload_n hx hb dX5_findWhole_57 rfl (lv_at hl 3 rfl) ?_
                      refine lv_aload_n hx hb dX5_findWhole_58 rfl (lv_at hl 0 rfl) ?_
                      refine gx_get hx hb hts hinX5 hown G 5 (by decide) rfl rfl 4 (by decide) rfl lk16 rfl (v := .ref (ad 29)) rfl dX5_findWhole_59 ?_
                      refine lv_iload hx hb dX5_findWhole_62 (lv_at hl 4 rfl) ?_
                      refine gx_iald hx hb G 29 (by decide) (rfl) (by decide) q rfl (by omega) dX5_findWhole_64 ?_
                      refine lv_aload_n hx hb dX5_findWhole_65 rfl (lv_at hl 0 rfl) ?_
                      refine gx_get hx hb hts hinX5 hown G 5 (by decide) rfl rfl 25 (by decide) rfl lk60 rfl (v := .ref (ad 90)) rfl dX5_findWhole_66 ?_
                      refine lv_iload hx hb dX5_findWhole_69 (lv_at hl 4 rfl) ?_
                      refine gx_iald hx hb G 90 (by decide) (rfl) (by decide) q rfl (by omega) dX5_findWhole_71 ?_
                      refine lv_imul hx hb dX5_findWhole_72 ?_
                      refine lv_iadd hx hb dX5_findWhole_73 ?_
                      refine lv_istore_n (lv' := [(3, .int ((m_wc a2 q) + ((a2 29 q) * (a2 90 q)))), (0, .ref (ad 5)), (1, .int f), (2, .int (nI (k0 + 1) - 1)), (4, .int (nI q))]) hx hb dX5_findWhole_74 rfl hl (by decide) rfl (fun ls hl => ?_)
                      refine lv_iinc (v := (nI (q + 1))) (lv' := [(4, .int (nI (q + 1))), (3, .int ((m_wc a2 q) + ((a2 29 q) * (a2 90 q)))), (0, .ref (ad 5)), (1, .int f), (2, .int (nI (k0 + 1) - 1))]) hx hb dX5_findWhole_75 hl (k := 4) rfl (gn_add (X := q) (Y := 1) rfl rfl) (by decide) rfl (fun ls hl => ?_)
                      refine lv_goto (tgt := 48) hx hb dX5_findWhole_78 (by decide) ?_
                      have q3 : (m_wc a2 q) + ((a2 29 q) * (a2 90 q)) = m_wc a2 (q + 1) := rfl
                      have hl := lv_chg hl 1 rfl (congrArg Value.int q3)
                      exact ih48  (q + 1) _ _ _ (by omega) (by omega) G (lv_sub hl [2, 3, 4, 1, 0] rfl)
                have q3 : 0 = m_wc a2 0 := rfl
                have hl := lv_chg hl 1 rfl (congrArg Value.int q3)
                exact K48 (mn - 0 + 1) 0 _ _ _ (by omega) (Nat.lt_succ_self _) G (lv_sub hl [2, 3, 4, 1, 0] rfl)
        have q2 : 0 = nI 1 - 1 := rfl
        have hl := lv_chg hl 0 rfl (congrArg Value.int q2)
        exact K32 (m_ms 1 (m_w0 a mn) mn + 1) 1 0 I (m_w0 a mn) _ _ _ (⟨mWF, (by unfold m_ms; rw [if_neg (by decide)]; have h9 := m_mv_lt (m_w0_in hsp) mn (Nat.le_refl mn); have h8 : 201 ^ mn ≤ 201 ^ 5 := Nat.pow_le_pow_right (by decide) hmn2; have h7 : 201 ^ 5 < 1000000000000 := (by decide); omega), rfl⟩) (m_w0_in hsp) (hmn) (hmr) (Or.inl rfl) (by omega) (Nat.lt_succ_self _) G (lv_sub hl [1, 2, 0] rfl)
      · skip
        have n9 := gn_nle (X := mn) (Y := r) hmn rfl (by omega) (by omega) c9
        refine lv_aload_n hx hb dX5_findWhole_12 rfl (lv_at hl 0 rfl) ?_
        refine gx_get hx hb hts hinX5 hown G 5 (by decide) rfl rfl 25 (by decide) rfl lk60 rfl (v := .ref (ad 90)) rfl dX5_findWhole_13 ?_
        refine lv_iload_n hx hb dX5_findWhole_16 rfl (lv_at hl 2 rfl) ?_
        refine lv_aload_n hx hb dX5_findWhole_17 rfl (lv_at hl 0 rfl) ?_
        refine gx_get hx hb hts hinX5 hown G 5 (by decide) rfl rfl 2 (by decide) rfl lk7 rfl (v := .ref (ad 27)) rfl dX5_findWhole_18 ?_
        refine lv_iload_n hx hb dX5_findWhole_21 rfl (lv_at hl 2 rfl) ?_
        refine gx_iald hx hb G 27 (by decide) (rfl) (by decide) r rfl (by omega) dX5_findWhole_22 ?_
        refine gx_iast hx hb G 90 (by decide) (rfl) (by decide) r rfl (by omega) dX5_findWhole_23 (fun H locs G => ?_)
        refine lv_iinc (v := (nI (r + 1))) (lv' := [(2, .int (nI (r + 1))), (0, .ref (ad 5)), (1, .int 0)]) hx hb dX5_findWhole_24 hl (k := 2) rfl (gn_add (X := r) (Y := 1) rfl rfl) (by decide) rfl (fun ls hl => ?_)
        refine lv_goto (tgt := 4) hx hb dX5_findWhole_27 (by decide) ?_
        exact ih4  (r + 1) _ _ _ (by omega) (by omega) (gg_eq G rfl rfl (rfl) rfl) (lv_sub hl [1, 2, 0] rfl)
  exact K4 (mn - 0 + 1) 0 _ _ _ (by omega) (Nat.lt_succ_self _) (gg_eq G rfl rfl (rfl) rfl) (lv_sub hl [2, 1, 0] rfl)

set_option maxHeartbeats 4000000 in
set_option maxRecDepth 100000 in
theorem kX5_whole (l : Launch) (D : va_G) (ad : Nat → Nat) (cy : Nat → ClassId) (I : gF) (J : gL) (a : gF) (b : gL) (sz : Nat)  (hmn : I 5 0 = nI (cN (I 5 0))) (hmn2 : cN (I 5 0) ≤ 5) (hmr : I 5 1 = nI (cN (I 5 1))) (hmr2 : cN (I 5 1) ≤ 8) (hsp : m_sps a (cN (I 5 0))) : gMi l yX5_whole wsX5_whole ({ frames := 2, cells := 0, slots := 0, locals := 47 }) D ad cy I J a b sz [.ref (ad 5)] (fun res u => res = m_whole (I, J, a, b)  ∧ u = m_wholeS (I, J, a, b)) := by
  refine Met.ofW (cc := cX5_whole) (maxL := 1) (ret := some .int) (by decide) rfl ?_
  intro p e s m args below meth c s₁ B hml hv
  obtain ⟨hargs, hsz, G⟩ := gx_begin hv
  subst hsz
  have hx := B.exec
  have hb := B.bytes
  have hr := B.returns
  have hts := atoms_spec (ws := wsX5_whole) B.pre
  have hown : s.vm.findClass RX5 = some m.cls := findClass_of_methodNamed B.named
  have hlocks := B.notSynchronized
  have hinX5 : ∀ w ∈ wsX50, w ∈ wsX5_whole := by decide +kernel
  have lk164 := hts (.fieldLink RX5 164 "ExactSimplexModel" "wholeCost" "I") (by decide +kernel)
  have hl := lv_entry ([.ref (ad 5)]) (n := 1) (Nat.le_of_ble_eq_true rfl)
  have hent := lg_entry_eq m ([.ref (ad 5)]) 1
  rw [← hargs] at hent
  rw [hent]
  clear hent
  generalize (lg_sl ([.ref (ad 5)]) ++ List.replicate (1 - (lg_sl ([.ref (ad 5)])).length) Slot.unset).toArray = ls at hl ⊢
  have hl : lv_has ls 1 [(0, .ref (ad 5))] := hl
  generalize hA : gA ad s.heap.size = A at G ⊢
  generalize hH : s.heap = H at G ⊢
  refine gx_q (fun Q hQ => ?_)
  refine lv_aload_n hx hb dX5_whole_0 rfl (lv_at hl 0 rfl) ?_
  refine gx_dVi (v := (m_large a (cN (I 5 0)))) (I1 := I) (J1 := J) (a1 := a) (b1 := b) (As := []) (rest := []) ⟨hx, hb, hml, hown, hts⟩ G 5 (kX5_isLarge l D ad cy I J a b H.size (cN (I 5 0)) hmn hmn2) (cwV 0 hts gX5_whole_X5_isLarge rfl rfl rfl (by decide +kernel) ⟨Nat.le_of_ble_eq_true rfl, Nat.le_of_ble_eq_true rfl⟩) (by decide) rfl rfl rfl rfl hl.1 rfl (Nat.le_of_ble_eq_true rfl) ⟨Nat.zero_le _, Nat.zero_le _⟩ dX5_whole_1 (fun H locs G => ?_)
  refine lv_if_eq (tgt := 10) hx hb dX5_whole_4 (by decide) (fun c4 => ?_) (fun c4 => ?_)
  · skip
    refine lv_aload_n hx hb dX5_whole_10 rfl (lv_at hl 0 rfl) ?_
    refine gx_dVi (v := ((m_fwX I a (cN (I 5 0)) (cN (I 5 1))).1)) (I1 := ((m_fwX I a (cN (I 5 0)) (cN (I 5 1))).2.1)) (J1 := J) (a1 := ((m_fwX I a (cN (I 5 0)) (cN (I 5 1))).2.2)) (b1 := b) (As := []) (rest := []) ⟨hx, hb, hml, hown, hts⟩ G 5 (kX5_findWhole l D ad cy I J a b H.size (cN (I 5 0)) (cN (I 5 1)) hmn hmn2 hmr hmr2 hsp) (cwV 0 hts gX5_whole_X5_findWhole rfl rfl rfl (by decide +kernel) ⟨Nat.le_of_ble_eq_true rfl, Nat.le_of_ble_eq_true rfl⟩) (by decide) rfl rfl rfl rfl hl.1 rfl (Nat.le_of_ble_eq_true rfl) ⟨Nat.zero_le _, Nat.zero_le _⟩ dX5_whole_11 (fun H locs G => ?_)
    refine lv_if_eq (tgt := 24) hx hb dX5_whole_14 (by decide) (fun c14 => ?_) (fun c14 => ?_)
    · skip
      refine lv_bipush (v := -3) hx hb dX5_whole_24 (by decide) ?_
      exact gx_ir hx hb hr hlocks G hQ ⟨by unfold m_whole; (try unfold m_lg); (try unfold m_fr0); (try unfold m_fS); (repeat (first | rw [if_pos c4] | rw [if_pos c14])); (try rw [ecl]); (try rfl), by unfold m_wholeS; (try unfold m_lg); (try unfold m_fS); (repeat (first | rw [if_pos c4] | rw [if_pos c14])); (try rfl)⟩ dX5_whole_26
    · skip
      refine lv_aload_n hx hb dX5_whole_17 rfl (lv_at hl 0 rfl) ?_
      refine gx_get hx hb hts hinX5 hown G 5 (by decide) rfl rfl 27 (by decide) rfl lk164 rfl (v := .int (((m_fwX I a (cN (I 5 0)) (cN (I 5 1))).2.1) 5 27)) rfl dX5_whole_18 ?_
      refine lv_goto (tgt := 26) hx hb dX5_whole_21 (by decide) ?_
      exact gx_ir hx hb hr hlocks G hQ ⟨by unfold m_whole; (try unfold m_lg); (try unfold m_fr0); (try unfold m_fS); (repeat (first | rw [if_pos c4] | rw [if_neg c14])); (try rw [ecl]); (try rfl), by unfold m_wholeS; (try unfold m_lg); (try unfold m_fS); (repeat (first | rw [if_pos c4] | rw [if_neg c14])); (try rfl)⟩ dX5_whole_26
  · skip
    refine lv_bipush (v := -4) hx hb dX5_whole_7 (by decide) ?_
    exact gx_ir hx hb hr hlocks G hQ ⟨by unfold m_whole; (try unfold m_lg); (try unfold m_fr0); (try unfold m_fS); (repeat (first | rw [if_neg c4])); (try rw [ecl]); (try rfl), by unfold m_wholeS; (try unfold m_lg); (try unfold m_fS); (repeat (first | rw [if_neg c4])); (try rfl)⟩ dX5_whole_9

set_option maxHeartbeats 4000000 in
set_option maxRecDepth 100000 in
theorem kX5_wholeValue (l : Launch) (D : va_G) (ad : Nat → Nat) (cy : Nat → ClassId) (I : gF) (J : gL) (a : gF) (b : gL) (sz : Nat) (v : Int32) (hmn : I 5 0 = nI (cN (I 5 0))) (hmn2 : cN (I 5 0) ≤ 5) (hmr : I 5 1 = nI (cN (I 5 1))) (hmr2 : cN (I 5 1) ≤ 8) (hsp : m_sps a (cN (I 5 0))) : gMi l yX5_wholeValue wsX5_wholeValue ({ frames := 2, cells := 0, slots := 0, locals := 47 }) D ad cy I J a b sz [.ref (ad 5), .int v] (fun res u => res = m_wv (I, J, a, b) v ∧ u = m_wvS (I, J, a, b) v) := by
  refine Met.ofW (cc := cX5_wholeValue) (maxL := 2) (ret := some .int) (by decide) rfl ?_
  intro p e s m args below meth c s₁ B hml hv
  obtain ⟨hargs, hsz, G⟩ := gx_begin hv
  subst hsz
  have hx := B.exec
  have hb := B.bytes
  have hr := B.returns
  have hts := atoms_spec (ws := wsX5_wholeValue) B.pre
  have hown : s.vm.findClass RX5 = some m.cls := findClass_of_methodNamed B.named
  have hlocks := B.notSynchronized
  have hinX5 : ∀ w ∈ wsX50, w ∈ wsX5_wholeValue := by decide +kernel
  have lk63 := hts (.fieldLink RX5 63 "ExactSimplexModel" "wholeBest" "[I") (by decide +kernel)
  have hl := lv_entry ([.ref (ad 5), .int v]) (n := 2) (Nat.le_of_ble_eq_true rfl)
  have hent := lg_entry_eq m ([.ref (ad 5), .int v]) 2
  rw [← hargs] at hent
  rw [hent]
  clear hent
  generalize (lg_sl ([.ref (ad 5), .int v]) ++ List.replicate (2 - (lg_sl ([.ref (ad 5), .int v])).length) Slot.unset).toArray = ls at hl ⊢
  have hl : lv_has ls 2 [(0, .ref (ad 5)), (1, .int v)] := hl
  generalize hA : gA ad s.heap.size = A at G ⊢
  generalize hH : s.heap = H at G ⊢
  refine gx_q (fun Q hQ => ?_)
  refine lv_aload_n hx hb dX5_wholeValue_0 rfl (lv_at hl 0 rfl) ?_
  refine lv_iload_n hx hb dX5_wholeValue_1 rfl (lv_at hl 1 rfl) ?_
  refine gx_dVi (v := (m_isN I v)) (I1 := I) (J1 := J) (a1 := a) (b1 := b) (As := [.int v]) (rest := []) ⟨hx, hb, hml, hown, hts⟩ G 5 (kX5_isName l D ad cy I J a b H.size v) (cwV 1 hts gX5_wholeValue_X5_isName rfl rfl rfl (by decide +kernel) ⟨Nat.le_of_ble_eq_true rfl, Nat.le_of_ble_eq_true rfl⟩) (by decide) rfl rfl rfl rfl hl.1 rfl (Nat.le_of_ble_eq_true rfl) ⟨Nat.zero_le _, Nat.zero_le _⟩ dX5_wholeValue_2 (fun H locs G => ?_)
  refine lv_if_ne (tgt := 10) hx hb dX5_wholeValue_5 (by decide) (fun c5 => ?_) (fun c5 => ?_)
  · skip
    obtain ⟨j, hj, ej⟩ := m_isN_ix hmn (by omega) c5
    have ecl : cN v = j := cN_of ej (by omega)
    refine lv_aload_n hx hb dX5_wholeValue_10 rfl (lv_at hl 0 rfl) ?_
    refine gx_dVi (v := (m_large a (cN (I 5 0)))) (I1 := I) (J1 := J) (a1 := a) (b1 := b) (As := []) (rest := []) ⟨hx, hb, hml, hown, hts⟩ G 5 (kX5_isLarge l D ad cy I J a b H.size (cN (I 5 0)) hmn hmn2) (cwV 0 hts gX5_wholeValue_X5_isLarge rfl rfl rfl (by decide +kernel) ⟨Nat.le_of_ble_eq_true rfl, Nat.le_of_ble_eq_true rfl⟩) (by decide) rfl rfl rfl rfl hl.1 rfl (Nat.le_of_ble_eq_true rfl) ⟨Nat.zero_le _, Nat.zero_le _⟩ dX5_wholeValue_11 (fun H locs G => ?_)
    refine lv_if_eq (tgt := 20) hx hb dX5_wholeValue_14 (by decide) (fun c14 => ?_) (fun c14 => ?_)
    · skip
      refine lv_aload_n hx hb dX5_wholeValue_20 rfl (lv_at hl 0 rfl) ?_
      refine gx_dVi (v := ((m_fwX I a (cN (I 5 0)) (cN (I 5 1))).1)) (I1 := ((m_fwX I a (cN (I 5 0)) (cN (I 5 1))).2.1)) (J1 := J) (a1 := ((m_fwX I a (cN (I 5 0)) (cN (I 5 1))).2.2)) (b1 := b) (As := []) (rest := []) ⟨hx, hb, hml, hown, hts⟩ G 5 (kX5_findWhole l D ad cy I J a b H.size (cN (I 5 0)) (cN (I 5 1)) hmn hmn2 hmr hmr2 hsp) (cwV 0 hts gX5_wholeValue_X5_findWhole rfl rfl rfl (by decide +kernel) ⟨Nat.le_of_ble_eq_true rfl, Nat.le_of_ble_eq_true rfl⟩) (by decide) rfl rfl rfl rfl hl.1 rfl (Nat.le_of_ble_eq_true rfl) ⟨Nat.zero_le _, Nat.zero_le _⟩ dX5_wholeValue_21 (fun H locs G => ?_)
      refine lv_if_eq (tgt := 36) hx hb dX5_wholeValue_24 (by decide) (fun c24 => ?_) (fun c24 => ?_)
      · skip
        refine lv_bipush (v := -3) hx hb dX5_wholeValue_36 (by decide) ?_
        exact gx_ir hx hb hr hlocks G hQ ⟨by unfold m_wv; (try unfold m_lg); (try unfold m_fr0); (try unfold m_fS); (repeat (first | rw [if_neg c5] | rw [if_pos c14] | rw [if_pos c24])); (try rw [ecl]); (try rfl), by unfold m_wvS; (try unfold m_lg); (try unfold m_fS); (repeat (first | rw [if_neg c5] | rw [if_pos c14] | rw [if_pos c24])); (try rfl)⟩ dX5_wholeValue_38
      · skip
        refine lv_aload_n hx hb dX5_wholeValue_27 rfl (lv_at hl 0 rfl) ?_
        refine gx_get hx hb hts hinX5 hown G 5 (by decide) rfl rfl 26 (by decide) rfl lk63 rfl (v := .ref (ad 91)) rfl dX5_wholeValue_28 ?_
        refine lv_iload_n hx hb dX5_wholeValue_31 rfl (lv_at hl 1 rfl) ?_
        refine gx_iald hx hb G 91 (by decide) (rfl) (by decide) j ej (by omega) dX5_wholeValue_32 ?_
        refine lv_goto (tgt := 38) hx hb dX5_wholeValue_33 (by decide) ?_
        exact gx_ir hx hb hr hlocks G hQ ⟨by unfold m_wv; (try unfold m_lg); (try unfold m_fr0); (try unfold m_fS); (repeat (first | rw [if_neg c5] | rw [if_pos c14] | rw [if_neg c24])); (try rw [ecl]); (try rfl), by unfold m_wvS; (try unfold m_lg); (try unfold m_fS); (repeat (first | rw [if_neg c5] | rw [if_pos c14] | rw [if_neg c24])); (try rfl)⟩ dX5_wholeValue_38
    · skip
      refine lv_bipush (v := -4) hx hb dX5_wholeValue_17 (by decide) ?_
      exact gx_ir hx hb hr hlocks G hQ ⟨by unfold m_wv; (try unfold m_lg); (try unfold m_fr0); (try unfold m_fS); (repeat (first | rw [if_neg c5] | rw [if_neg c14])); (try rw [ecl]); (try rfl), by unfold m_wvS; (try unfold m_lg); (try unfold m_fS); (repeat (first | rw [if_neg c5] | rw [if_neg c14])); (try rfl)⟩ dX5_wholeValue_19
  · skip
    refine lv_iconst (v := -1) hx hb dX5_wholeValue_8 (by decide) ?_
    exact gx_ir hx hb hr hlocks G hQ ⟨by unfold m_wv; (repeat (first | rw [if_pos c5])), by unfold m_wvS; (repeat (first | rw [if_pos c5]))⟩ dX5_wholeValue_9

set_option maxHeartbeats 4000000 in
set_option maxRecDepth 100000 in
theorem kX5_isWhole (l : Launch) (D : va_G) (ad : Nat → Nat) (cy : Nat → ClassId) (I : gF) (J : gL) (a : gF) (b : gL) (sz : Nat)  (hmn : I 5 0 = nI (cN (I 5 0))) (hmn2 : cN (I 5 0) ≤ 5) (hmr : I 5 1 = nI (cN (I 5 1))) (hmr2 : cN (I 5 1) ≤ 8) (hsp : m_sps a (cN (I 5 0))) : gMi l yX5_isWhole wsX5_isWhole ({ frames := 2, cells := 0, slots := 0, locals := 47 }) D ad cy I J a b sz [.ref (ad 5)] (fun res u => res = m_isW (I, J, a, b)  ∧ u = m_wholeS (I, J, a, b)) := by
  refine Met.ofW (cc := cX5_isWhole) (maxL := 1) (ret := some .int) (by decide) rfl ?_
  intro p e s m args below meth c s₁ B hml hv
  obtain ⟨hargs, hsz, G⟩ := gx_begin hv
  subst hsz
  have hx := B.exec
  have hb := B.bytes
  have hr := B.returns
  have hts := atoms_spec (ws := wsX5_isWhole) B.pre
  have hown : s.vm.findClass RX5 = some m.cls := findClass_of_methodNamed B.named
  have hlocks := B.notSynchronized
  have hl := lv_entry ([.ref (ad 5)]) (n := 1) (Nat.le_of_ble_eq_true rfl)
  have hent := lg_entry_eq m ([.ref (ad 5)]) 1
  rw [← hargs] at hent
  rw [hent]
  clear hent
  generalize (lg_sl ([.ref (ad 5)]) ++ List.replicate (1 - (lg_sl ([.ref (ad 5)])).length) Slot.unset).toArray = ls at hl ⊢
  have hl : lv_has ls 1 [(0, .ref (ad 5))] := hl
  generalize hA : gA ad s.heap.size = A at G ⊢
  generalize hH : s.heap = H at G ⊢
  refine gx_q (fun Q hQ => ?_)
  refine lv_aload_n hx hb dX5_isWhole_0 rfl (lv_at hl 0 rfl) ?_
  refine gx_dVi (v := (m_large a (cN (I 5 0)))) (I1 := I) (J1 := J) (a1 := a) (b1 := b) (As := []) (rest := []) ⟨hx, hb, hml, hown, hts⟩ G 5 (kX5_isLarge l D ad cy I J a b H.size (cN (I 5 0)) hmn hmn2) (cwV 0 hts gX5_isWhole_X5_isLarge rfl rfl rfl (by decide +kernel) ⟨Nat.le_of_ble_eq_true rfl, Nat.le_of_ble_eq_true rfl⟩) (by decide) rfl rfl rfl rfl hl.1 rfl (Nat.le_of_ble_eq_true rfl) ⟨Nat.zero_le _, Nat.zero_le _⟩ dX5_isWhole_1 (fun H locs G => ?_)
  refine lv_if_eq (tgt := 10) hx hb dX5_isWhole_4 (by decide) (fun c4 => ?_) (fun c4 => ?_)
  · skip
    refine lv_aload_n hx hb dX5_isWhole_10 rfl (lv_at hl 0 rfl) ?_
    refine gx_dVi (v := ((m_fwX I a (cN (I 5 0)) (cN (I 5 1))).1)) (I1 := ((m_fwX I a (cN (I 5 0)) (cN (I 5 1))).2.1)) (J1 := J) (a1 := ((m_fwX I a (cN (I 5 0)) (cN (I 5 1))).2.2)) (b1 := b) (As := []) (rest := []) ⟨hx, hb, hml, hown, hts⟩ G 5 (kX5_findWhole l D ad cy I J a b H.size (cN (I 5 0)) (cN (I 5 1)) hmn hmn2 hmr hmr2 hsp) (cwV 0 hts gX5_isWhole_X5_findWhole rfl rfl rfl (by decide +kernel) ⟨Nat.le_of_ble_eq_true rfl, Nat.le_of_ble_eq_true rfl⟩) (by decide) rfl rfl rfl rfl hl.1 rfl (Nat.le_of_ble_eq_true rfl) ⟨Nat.zero_le _, Nat.zero_le _⟩ dX5_isWhole_11 (fun H locs G => ?_)
    refine lv_if_eq (tgt := 21) hx hb dX5_isWhole_14 (by decide) (fun c14 => ?_) (fun c14 => ?_)
    · skip
      refine lv_iconst (v := 0) hx hb dX5_isWhole_21 (by decide) ?_
      exact gx_ir hx hb hr hlocks G hQ ⟨by unfold m_isW; (try unfold m_lg); (try unfold m_fr0); (try unfold m_fS); (repeat (first | rw [if_pos c4] | rw [if_pos c14])); (try rw [ecl]); (try rfl), by unfold m_wholeS; (try unfold m_lg); (try unfold m_fS); (repeat (first | rw [if_pos c4] | rw [if_pos c14])); (try rfl)⟩ dX5_isWhole_22
    · skip
      refine lv_iconst (v := 1) hx hb dX5_isWhole_17 (by decide) ?_
      refine lv_goto (tgt := 22) hx hb dX5_isWhole_18 (by decide) ?_
      exact gx_ir hx hb hr hlocks G hQ ⟨by unfold m_isW; (try unfold m_lg); (try unfold m_fr0); (try unfold m_fS); (repeat (first | rw [if_pos c4] | rw [if_neg c14])); (try rw [ecl]); (try rfl), by unfold m_wholeS; (try unfold m_lg); (try unfold m_fS); (repeat (first | rw [if_pos c4] | rw [if_neg c14])); (try rfl)⟩ dX5_isWhole_22
  · skip
    refine lv_bipush (v := -4) hx hb dX5_isWhole_7 (by decide) ?_
    exact gx_ir hx hb hr hlocks G hQ ⟨by unfold m_isW; (try unfold m_lg); (try unfold m_fr0); (try unfold m_fS); (repeat (first | rw [if_neg c4])); (try rw [ecl]); (try rfl), by unfold m_wholeS; (try unfold m_lg); (try unfold m_fS); (repeat (first | rw [if_neg c4])); (try rfl)⟩ dX5_isWhole_9
