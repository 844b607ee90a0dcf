/-! Dictionary: what its methods do, over the cells 13 .. 18 and 48 .. 68 (b 14: rests, a 15: basic, a 16: outside, a 17: frozen, b 18: slopes, b (48 + r): row r of the table; I 4 7: lines, I 4 8: columns, J 4 6: under) -/
/-- frozen, the first n columns thawed -/
def d_thaw (a : gF) : Nat → gF
  | 0 => a
  | n + 1 => gU (d_thaw a n) 17 n 0
def d_freeze (a : gF) (b : gL) : Nat → gF
  | 0 => a
  | n + 1 => if b 18 n ≤ 0 then d_freeze a b n else gU (d_freeze a b n) 17 n 1
/-- the broken line among the first n -/
def d_broken (a : gF) (b : gL) : Nat → Int32
  | 0 => -1
  | n + 1 => if 0 ≤ b 14 n then d_broken a b n else if d_broken a b n < 0 then nI n else if a 15 (d_broken a b n).toNatClampNeg ≤ a 15 n then d_broken a b n else nI n
def d_mend (a : gF) (b : gL) (r : Nat) : Nat → Int32
  | 0 => -1
  | n + 1 => if 0 ≤ b (48 + r) n then d_mend a b r n else if d_mend a b r n < 0 then nI n else if a 16 (d_mend a b r n).toNatClampNeg ≤ a 16 n then d_mend a b r n else nI n
def d_fall (a : gF) (b : gL) : Nat → Int32
  | 0 => -1
  | n + 1 => if a 17 n = 0 then if 0 ≤ b 18 n then d_fall a b n else if d_fall a b n < 0 then nI n else if a 16 (d_fall a b n).toNatClampNeg ≤ a 16 n then d_fall a b n else nI n else d_fall a b n
theorem d_broken_ix (a : gF) (b : gL) : ∀ n, d_broken a b n < 0 ∨ ∃ j, j < n ∧ d_broken a b n = nI j
  | 0 => Or.inl (show (-1 : Int32) < 0 by decide)
  | n + 1 => by
    have h := d_broken_ix a b n
    have h2 : d_broken a b (n + 1) = d_broken a b n ∨ d_broken a b (n + 1) = nI n := by
      simp only [d_broken]
      split
      · exact Or.inl rfl
      · split
        · exact Or.inr rfl
        · split
          · exact Or.inl rfl
          · exact Or.inr rfl
    rcases h2 with h2 | h2 <;> rw [h2]
    · rcases h with h | ⟨j, hj, e⟩
      · exact Or.inl h
      · exact Or.inr ⟨j, by omega, e⟩
    · exact Or.inr ⟨n, by omega, rfl⟩
theorem d_mend_ix (a : gF) (b : gL) (r : Nat) : ∀ n, d_mend a b r n < 0 ∨ ∃ j, j < n ∧ d_mend a b r n = nI j
  | 0 => Or.inl (show (-1 : Int32) < 0 by decide)
  | n + 1 => by
    have h := d_mend_ix a b r n
    have h2 : d_mend a b r (n + 1) = d_mend a b r n ∨ d_mend a b r (n + 1) = nI n := by
      simp only [d_mend]
      split
      · exact Or.inl rfl
      · split
        · exact Or.inr rfl
        · split
          · exact Or.inl rfl
          · exact Or.inr rfl
    rcases h2 with h2 | h2 <;> rw [h2]
    · rcases h with h | ⟨j, hj, e⟩
      · exact Or.inl h
      · exact Or.inr ⟨j, by omega, e⟩
    · exact Or.inr ⟨n, by omega, rfl⟩
theorem d_fall_ix (a : gF) (b : gL) : ∀ n, d_fall a b n < 0 ∨ ∃ j, j < n ∧ d_fall a b n = nI j
  | 0 => Or.inl (show (-1 : Int32) < 0 by decide)
  | n + 1 => by
    have h := d_fall_ix a b n
    have h2 : d_fall a b (n + 1) = d_fall a b n ∨ d_fall a b (n + 1) = nI n := by
      simp only [d_fall]
      split
      · split
        · exact Or.inl rfl
        · split
          · exact Or.inr rfl
          · split
            · exact Or.inl rfl
            · exact Or.inr rfl
      · exact Or.inl rfl
    rcases h2 with h2 | h2 <;> rw [h2]
    · rcases h with h | ⟨j, hj, e⟩
      · exact Or.inl h
      · exact Or.inr ⟨j, by omega, e⟩
    · exact Or.inr ⟨n, by omega, rfl⟩
/-- what a variable is at the dictionary's point: from line r on, n lines left -/
def d_num (a : gF) (b : gL) (v : Int32) : Nat → Nat → Int64
  | 0, _ => 0
  | n + 1, r => if a 15 r = v then b 14 r else d_num a b v n (r + 1)
theorem d_num_s (a : gF) (b : gL) (v : Int32) {n r : Nat} (h : r < n) : d_num a b v (n - r) r = if a 15 r = v then b 14 r else d_num a b v (n - (r + 1)) (r + 1) := by
  rw [show n - r = (n - (r + 1)) + 1 by omega]
  rfl
theorem gx_clamp {x : Int32} {j : Nat} (h : x = nI j) (hj : j < 2 ^ 31) : x.toNatClampNeg = j := by rw [h, nI_clamp hj]


def d_stops (a : gF) (b : gL) (r o s : Nat) : Int32 := if b 14 r * b (48 + o) s < b 14 o * b (48 + r) s then 1 else if b 14 r * b (48 + o) s = b 14 o * b (48 + r) s then if a 15 o ≤ a 15 r then 0 else 1 else 0
def d_stop (a : gF) (b : gL) (s : Nat) : Nat → Int32
  | 0 => -1
  | n + 1 => if b (48 + n) s ≤ 0 then d_stop a b s n else if d_stop a b s n < 0 then nI n else if d_stops a b n (d_stop a b s n).toNatClampNeg s = 0 then d_stop a b s n else nI n
theorem d_stop_ix (a : gF) (b : gL) (s : Nat) : ∀ n, d_stop a b s n < 0 ∨ ∃ j, j < n ∧ d_stop a b s n = nI j
  | 0 => Or.inl (show (-1 : Int32) < 0 by decide)
  | n + 1 => by
    have h := d_stop_ix a b s n
    have h2 : d_stop a b s (n + 1) = d_stop a b s n ∨ d_stop a b s (n + 1) = nI n := by
      simp only [d_stop]
      split
      · exact Or.inl rfl
      · split
        · exact Or.inr rfl
        · split
          · exact Or.inl rfl
          · exact Or.inr rfl
    rcases h2 with h2 | h2 <;> rw [h2]
    · rcases h with h | ⟨j, hj, e⟩
      · exact Or.inl h
      · exact Or.inr ⟨j, by omega, e⟩
    · exact Or.inr ⟨n, by omega, rfl⟩
/-- the first n columns of line r turned -/
def d_turnL (b : gL) (r : Nat) : Nat → gL
  | 0 => b
  | n + 1 => gU (d_turnL b r n) (48 + r) n (-(d_turnL b r n (48 + r) n))
def d_turn (b : gL) (r nc : Nat) : gL := gU (d_turnL b r nc) 14 r (-(d_turnL b r nc 14 r))
/-- line i swept with line r at column s: the first n columns -/
def d_swL (b : gL) (i r s : Nat) (p q dv : Int64) : Nat → gL
  | 0 => b
  | n + 1 => if nI n = nI s then d_swL b i r s p q dv n else gU (d_swL b i r s p q dv n) (48 + i) n ((p * d_swL b i r s p q dv n (48 + i) n - q * d_swL b i r s p q dv n (48 + r) n) / dv)
def d_swR (b : gL) (nc i r s : Nat) (p q dv : Int64) : gL := gU (d_swL b i r s p q dv nc) 14 i ((p * d_swL b i r s p q dv nc 14 i - q * d_swL b i r s p q dv nc 14 r) / dv)
def d_swF (b : gL) (nc i r s : Nat) (p q dv : Int64) : gL := if 0 ≤ p then gU (d_swR b nc i r s p q dv) (48 + i) s (-q) else gU (d_swR b nc i r s p q dv) (48 + i) s q
def d_sweep (b : gL) (nc i r s : Nat) (dv : Int64) : gL := if dv = 0 then b else if b (48 + i) s = 0 then if b (48 + r) s = dv then b else d_swF b nc i r s (b (48 + r) s) (b (48 + i) s) dv else d_swF b nc i r s (b (48 + r) s) (b (48 + i) s) dv
def d_sweeps (b : gL) (nc r s : Nat) (dv : Int64) : Nat → gL
  | 0 => b
  | n + 1 => if nI n = nI r then d_sweeps b nc r s dv n else d_sweep (d_sweeps b nc r s dv n) nc n r s dv

set_option maxHeartbeats 4000000 in
set_option maxRecDepth 100000 in
theorem kX0_denominator (l : Launch) (D : va_G) (ad : Nat → Nat) (cy : Nat → ClassId) (I : gF) (J : gL) (a : gF) (b : gL) (sz : Nat)   : gMl l yX0_denominator wsX0_denominator ({ frames := 0, cells := 0, slots := 0, locals := 0 }) D ad cy I J a b sz [.ref (ad 4)] (fun r u => r = J 4 6 ∧ u = (I, J, a, b)) := by
  refine Met.ofW (cc := cX0_denominator) (maxL := 1) (ret := some .long) (by decide) rfl ?_
  intro p e s m args below meth c s₁ B hml hv
  obtain ⟨hargs, hsz, G⟩ := gx_begin hv
  subst hsz
  have hx := B.exec
  have hb := B.bytes
  have hr := B.returns
  have hts := atoms_spec (ws := wsX0_denominator) B.pre
  have hown : s.vm.findClass RX0 = some m.cls := findClass_of_methodNamed B.named
  have hlocks := B.notSynchronized
  have hinX0 : ∀ w ∈ wsX00, w ∈ wsX0_denominator := by decide +kernel
  have lk34 := hts (.fieldLink RX0 34 "ExactSimplex$Dictionary" "under" "J") (by decide +kernel)
  have hl := lv_entry ([.ref (ad 4)]) (n := 1) (Nat.le_of_ble_eq_true rfl)
  have hent := lg_entry_eq m ([.ref (ad 4)]) 1
  rw [← hargs] at hent
  rw [hent]
  clear hent
  generalize (lg_sl ([.ref (ad 4)]) ++ List.replicate (1 - (lg_sl ([.ref (ad 4)])).length) Slot.unset).toArray = ls at hl ⊢
  have hl : lv_has ls 1 [(0, .ref (ad 4))] := hl
  generalize hA : gA ad s.heap.size = A at G ⊢
  generalize hH : s.heap = H at G ⊢
  refine gx_q (fun Q hQ => ?_)
  refine lv_aload_n hx hb dX0_denominator_0 rfl (lv_at hl 0 rfl) ?_
  refine gx_get hx hb hts hinX0 hown G 4 (by decide) rfl rfl 6 (by decide) rfl lk34 rfl (v := .long (J 4 6)) rfl dX0_denominator_1 ?_
  exact gx_lr hx hb hr hlocks G hQ ⟨by first | rfl | (simp only [reduceIte]; done) | (simp [reduceIte]; done), rfl⟩ dX0_denominator_4

set_option maxHeartbeats 4000000 in
set_option maxRecDepth 100000 in
theorem kX0_thawAll (l : Launch) (D : va_G) (ad : Nat → Nat) (cy : Nat → ClassId) (I : gF) (J : gL) (a : gF) (b : gL) (sz : Nat) (nc : Nat) (hnc : I 4 8 = nI nc) (hnc2 : nc ≤ 5) : gMv l yX0_thawAll wsX0_thawAll ({ frames := 0, cells := 0, slots := 0, locals := 0 }) D ad cy I J a b sz [.ref (ad 4)] (fun u => u = (I, J, d_thaw a nc, b)) := by
  refine Met.ofW (cc := cX0_thawAll) (maxL := 2) (ret := none) (by decide) rfl ?_
  intro p e s m args below meth c s₁ B hml hv
  obtain ⟨hargs, hsz, G⟩ := gx_begin hv
  subst hsz
  have hx := B.exec
  have hb := B.bytes
  have hr := B.returns
  have hts := atoms_spec (ws := wsX0_thawAll) B.pre
  have hown : s.vm.findClass RX0 = some m.cls := findClass_of_methodNamed B.named
  have hlocks := B.notSynchronized
  have hinX0 : ∀ w ∈ wsX00, w ∈ wsX0_thawAll := by decide +kernel
  have lk27 := hts (.fieldLink RX0 27 "ExactSimplex$Dictionary" "frozen" "[Z") (by decide +kernel)
  have lk44 := hts (.fieldLink RX0 44 "ExactSimplex$Dictionary" "columns" "I") (by decide +kernel)
  have hl := lv_entry ([.ref (ad 4)]) (n := 2) (Nat.le_of_ble_eq_true rfl)
  have hent := lg_entry_eq m ([.ref (ad 4)]) 2
  rw [← hargs] at hent
  rw [hent]
  clear hent
  generalize (lg_sl ([.ref (ad 4)]) ++ List.replicate (2 - (lg_sl ([.ref (ad 4)])).length) Slot.unset).toArray = ls at hl ⊢
  have hl : lv_has ls 2 [(0, .ref (ad 4))] := hl
  generalize hA : gA ad s.heap.size = A at G ⊢
  generalize hH : s.heap = H at G ⊢
  refine gx_q (fun Q hQ => ?_)
  refine lv_iconst (v := 0) hx hb dX0_thawAll_0 (by decide) ?_
  refine lv_istore_n (lv' := [(1, .int 0), (0, .ref (ad 4))]) hx hb dX0_thawAll_1 rfl hl (by decide) rfl (fun ls hl => ?_)
  have K2 : ∀ (nf : Nat) (r : Nat) (H : Heap) (locs : List Loc) (ls : Array Slot), (r ≤ nc) → nc - r < nf → GG D ad cy A s I J (d_thaw a r) b H locs → lv_has ls 2 [(0, .ref (ad 4)), (1, .int (nI r))] → W p l e ({ frames := 0, cells := 0, slots := 0, locals := 0 }) s m args below meth c H locs 0 0 Q (F0 m 2 ls []) := by
    intro nf
    induction nf with
    | zero => exact fun _ _ _ _ _ hz => absurd hz (Nat.not_lt_zero _)
    | succ nf ih =>
      intro r H locs ls h1 hmeas G hl
      have ih2 := ih
      clear ih
      refine lv_iload_n hx hb dX0_thawAll_2 rfl (lv_at hl 1 rfl) ?_
      refine lv_aload_n hx hb dX0_thawAll_3 rfl (lv_at hl 0 rfl) ?_
      refine gx_get hx hb hts hinX0 hown G 4 (by decide) rfl rfl 8 (by decide) rfl lk44 rfl (v := .int (I 4 8)) rfl dX0_thawAll_4 ?_
      refine lv_icmp_ge (tgt := 23) hx hb dX0_thawAll_7 (by decide) (fun c7 => ?_) (fun c7 => ?_)
      · skip
        have n7 := gn_le (X := nc) (Y := r) hnc rfl (by omega) (by omega) c7
        exact gx_vr hx hb hr hlocks G hQ (by first | rfl | (simp only [d_thaw, c7, reduceIte]; done) | (rw [show nc = r by omega]; done) | (rw [show nc = r by omega]; simp only [d_thaw, c7, reduceIte]; done) | (simp [d_thaw, c7, reduceIte]; done)) dX0_thawAll_23
      · skip
        have n7 := gn_nle (X := nc) (Y := r) hnc rfl (by omega) (by omega) c7
        refine lv_aload_n hx hb dX0_thawAll_10 rfl (lv_at hl 0 rfl) ?_
        refine gx_get hx hb hts hinX0 hown G 4 (by decide) rfl rfl 4 (by decide) rfl lk27 rfl (v := .ref (ad 17)) rfl dX0_thawAll_11 ?_
        refine lv_iload_n hx hb dX0_thawAll_14 rfl (lv_at hl 1 rfl) ?_
        refine lv_iconst (v := 0) hx hb dX0_thawAll_15 (by decide) ?_
        refine gx_zast hx hb G 17 (by decide) (rfl) (by decide) r rfl (by omega) (rfl) dX0_thawAll_16 (fun H locs G => ?_)
        refine lv_iinc (v := (nI (r + 1))) (lv' := [(1, .int (nI (r + 1))), (0, .ref (ad 4))]) hx hb dX0_thawAll_17 hl (k := 1) rfl (gn_add (X := r) (Y := 1) rfl rfl) (by decide) rfl (fun ls hl => ?_)
        refine lv_goto (tgt := 2) hx hb dX0_thawAll_20 (by decide) ?_
        exact ih2  (r + 1) _ _ _ (by omega) (by omega) (gg_eq G rfl rfl (by first | rfl | (simp only [d_thaw, c7, reduceIte]; done) | (rw [show nc = r by omega]; done) | (rw [show nc = r by omega]; simp only [d_thaw, c7, reduceIte]; done) | (simp [d_thaw, c7, reduceIte]; done)) rfl) (lv_sub hl [1, 0] rfl)
  have q1 : 0 = nI 0 := by first | rfl | (simp only [d_thaw, reduceIte]; done) | (rw [show nc = r by omega]; done) | (rw [show nc = r by omega]; simp only [d_thaw, reduceIte]; done) | (simp [d_thaw, reduceIte]; done)
  rw [q1] at hl
  exact K2 (nc - 0 + 1) 0 _ _ _ (by omega) (Nat.lt_succ_self _) (gg_eq G rfl rfl (by first | rfl | (simp only [d_thaw, reduceIte]; done) | (rw [show nc = r by omega]; done) | (rw [show nc = r by omega]; simp only [d_thaw, reduceIte]; done) | (simp [d_thaw, reduceIte]; done)) rfl) (lv_sub hl [1, 0] rfl)

set_option maxHeartbeats 4000000 in
set_option maxRecDepth 100000 in
theorem kX0_freezeDear (l : Launch) (D : va_G) (ad : Nat → Nat) (cy : Nat → ClassId) (I : gF) (J : gL) (a : gF) (b : gL) (sz : Nat) (nc : Nat) (hnc : I 4 8 = nI nc) (hnc2 : nc ≤ 5) : gMv l yX0_freezeDear wsX0_freezeDear ({ frames := 0, cells := 0, slots := 0, locals := 0 }) D ad cy I J a b sz [.ref (ad 4)] (fun u => u = (I, J, d_freeze a b nc, b)) := by
  refine Met.ofW (cc := cX0_freezeDear) (maxL := 2) (ret := none) (by decide) rfl ?_
  intro p e s m args below meth c s₁ B hml hv
  obtain ⟨hargs, hsz, G⟩ := gx_begin hv
  subst hsz
  have hx := B.exec
  have hb := B.bytes
  have hr := B.returns
  have hts := atoms_spec (ws := wsX0_freezeDear) B.pre
  have hown : s.vm.findClass RX0 = some m.cls := findClass_of_methodNamed B.named
  have hlocks := B.notSynchronized
  have hinX0 : ∀ w ∈ wsX00, w ∈ wsX0_freezeDear := by decide +kernel
  have lk27 := hts (.fieldLink RX0 27 "ExactSimplex$Dictionary" "frozen" "[Z") (by decide +kernel)
  have lk31 := hts (.fieldLink RX0 31 "ExactSimplex$Dictionary" "slopes" "[J") (by decide +kernel)
  have lk44 := hts (.fieldLink RX0 44 "ExactSimplex$Dictionary" "columns" "I") (by decide +kernel)
  have hl := lv_entry ([.ref (ad 4)]) (n := 2) (Nat.le_of_ble_eq_true rfl)
  have hent := lg_entry_eq m ([.ref (ad 4)]) 2
  rw [← hargs] at hent
  rw [hent]
  clear hent
  generalize (lg_sl ([.ref (ad 4)]) ++ List.replicate (2 - (lg_sl ([.ref (ad 4)])).length) Slot.unset).toArray = ls at hl ⊢
  have hl : lv_has ls 2 [(0, .ref (ad 4))] := hl
  generalize hA : gA ad s.heap.size = A at G ⊢
  generalize hH : s.heap = H at G ⊢
  refine gx_q (fun Q hQ => ?_)
  refine lv_iconst (v := 0) hx hb dX0_freezeDear_0 (by decide) ?_
  refine lv_istore_n (lv' := [(1, .int 0), (0, .ref (ad 4))]) hx hb dX0_freezeDear_1 rfl hl (by decide) rfl (fun ls hl => ?_)
  have K2 : ∀ (nf : Nat) (r : Nat) (H : Heap) (locs : List Loc) (ls : Array Slot), (r ≤ nc) → nc - r < nf → GG D ad cy A s I J (d_freeze a b r) b H locs → lv_has ls 2 [(0, .ref (ad 4)), (1, .int (nI r))] → W p l e ({ frames := 0, cells := 0, slots := 0, locals := 0 }) s m args below meth c H locs 0 0 Q (F0 m 2 ls []) := by
    intro nf
    induction nf with
    | zero => exact fun _ _ _ _ _ hz => absurd hz (Nat.not_lt_zero _)
    | succ nf ih =>
      intro r H locs ls h1 hmeas G hl
      have ih2 := ih
      clear ih
      refine lv_iload_n hx hb dX0_freezeDear_2 rfl (lv_at hl 1 rfl) ?_
      refine lv_aload_n hx hb dX0_freezeDear_3 rfl (lv_at hl 0 rfl) ?_
      refine gx_get hx hb hts hinX0 hown G 4 (by decide) rfl rfl 8 (by decide) rfl lk44 rfl (v := .int (I 4 8)) rfl dX0_freezeDear_4 ?_
      refine lv_icmp_ge (tgt := 34) hx hb dX0_freezeDear_7 (by decide) (fun c7 => ?_) (fun c7 => ?_)
      · skip
        have n7 := gn_le (X := nc) (Y := r) hnc rfl (by omega) (by omega) c7
        exact gx_vr hx hb hr hlocks G hQ (by first | rfl | (simp only [d_freeze, c7, reduceIte]; done) | (rw [show nc = r by omega]; done) | (rw [show nc = r by omega]; simp only [d_freeze, c7, reduceIte]; done) | (simp [d_freeze, c7, reduceIte]; done)) dX0_freezeDear_34
      · skip
        have n7 := gn_nle (X := nc) (Y := r) hnc rfl (by omega) (by omega) c7
        refine lv_aload_n hx hb dX0_freezeDear_10 rfl (lv_at hl 0 rfl) ?_
        refine gx_get hx hb hts hinX0 hown G 4 (by decide) rfl rfl 5 (by decide) rfl lk31 rfl (v := .ref (ad 18)) rfl dX0_freezeDear_11 ?_
        refine lv_iload_n hx hb dX0_freezeDear_14 rfl (lv_at hl 1 rfl) ?_
        refine gx_lald hx hb G 18 (by decide) (rfl) (by decide) r rfl (by omega) dX0_freezeDear_15 ?_
        refine lv_lconst (v := 0) hx hb dX0_freezeDear_16 (by decide) ?_
        refine gx_lc_le (tgt := 28) hx hb dX0_freezeDear_17 dX0_freezeDear_18 (by decide) (fun c18 => ?_) (fun c18 => ?_)
        · skip
          refine lv_iinc (v := (nI (r + 1))) (lv' := [(1, .int (nI (r + 1))), (0, .ref (ad 4))]) hx hb dX0_freezeDear_28 hl (k := 1) rfl (gn_add (X := r) (Y := 1) rfl rfl) (by decide) rfl (fun ls hl => ?_)
          refine lv_goto (tgt := 2) hx hb dX0_freezeDear_31 (by decide) ?_
          exact ih2  (r + 1) _ _ _ (by omega) (by omega) (gg_eq G rfl rfl (by first | rfl | (simp only [d_freeze, c7, c18, reduceIte]; done) | (rw [show nc = r by omega]; done) | (rw [show nc = r by omega]; simp only [d_freeze, c7, c18, reduceIte]; done) | (simp [d_freeze, c7, c18, reduceIte]; done)) rfl) (lv_sub hl [1, 0] rfl)
        · skip
          refine lv_aload_n hx hb dX0_freezeDear_21 rfl (lv_at hl 0 rfl) ?_
          refine gx_get hx hb hts hinX0 hown G 4 (by decide) rfl rfl 4 (by decide) rfl lk27 rfl (v := .ref (ad 17)) rfl dX0_freezeDear_22 ?_
          refine lv_iload_n hx hb dX0_freezeDear_25 rfl (lv_at hl 1 rfl) ?_
          refine lv_iconst (v := 1) hx hb dX0_freezeDear_26 (by decide) ?_
          refine gx_zast hx hb G 17 (by decide) (rfl) (by decide) r rfl (by omega) (rfl) dX0_freezeDear_27 (fun H locs G => ?_)
          refine lv_iinc (v := (nI (r + 1))) (lv' := [(1, .int (nI (r + 1))), (0, .ref (ad 4))]) hx hb dX0_freezeDear_28 hl (k := 1) rfl (gn_add (X := r) (Y := 1) rfl rfl) (by decide) rfl (fun ls hl => ?_)
          refine lv_goto (tgt := 2) hx hb dX0_freezeDear_31 (by decide) ?_
          exact ih2  (r + 1) _ _ _ (by omega) (by omega) (gg_eq G rfl rfl (by first | rfl | (simp only [d_freeze, c7, c18, reduceIte]; done) | (rw [show nc = r by omega]; done) | (rw [show nc = r by omega]; simp only [d_freeze, c7, c18, reduceIte]; done) | (simp [d_freeze, c7, c18, reduceIte]; done)) rfl) (lv_sub hl [1, 0] rfl)
  have q1 : 0 = nI 0 := by first | rfl | (simp only [d_freeze, reduceIte]; done) | (rw [show nc = r by omega]; done) | (rw [show nc = r by omega]; simp only [d_freeze, reduceIte]; done) | (simp [d_freeze, reduceIte]; done)
  rw [q1] at hl
  exact K2 (nc - 0 + 1) 0 _ _ _ (by omega) (Nat.lt_succ_self _) (gg_eq G rfl rfl (by first | rfl | (simp only [d_freeze, reduceIte]; done) | (rw [show nc = r by omega]; done) | (rw [show nc = r by omega]; simp only [d_freeze, reduceIte]; done) | (simp [d_freeze, reduceIte]; done)) rfl) (lv_sub hl [1, 0] rfl)

set_option maxHeartbeats 4000000 in
set_option maxRecDepth 100000 in
theorem kX0_brokenLine (l : Launch) (D : va_G) (ad : Nat → Nat) (cy : Nat → ClassId) (I : gF) (J : gL) (a : gF) (b : gL) (sz : Nat) (nl : Nat) (hnl : I 4 7 = nI nl) (hnl2 : nl ≤ 21) : gMi l yX0_brokenLine wsX0_brokenLine ({ frames := 0, cells := 0, slots := 0, locals := 0 }) D ad cy I J a b sz [.ref (ad 4)] (fun r u => r = d_broken a b nl ∧ u = (I, J, a, b)) := by
  refine Met.ofW (cc := cX0_brokenLine) (maxL := 3) (ret := some .int) (by decide) rfl ?_
  intro p e s m args below meth c s₁ B hml hv
  obtain ⟨hargs, hsz, G⟩ := gx_begin hv
  subst hsz
  have hx := B.exec
  have hb := B.bytes
  have hr := B.returns
  have hts := atoms_spec (ws := wsX0_brokenLine) B.pre
  have hown : s.vm.findClass RX0 = some m.cls := findClass_of_methodNamed B.named
  have hlocks := B.notSynchronized
  have hinX0 : ∀ w ∈ wsX00, w ∈ wsX0_brokenLine := by decide +kernel
  have lk16 := hts (.fieldLink RX0 16 "ExactSimplex$Dictionary" "rests" "[J") (by decide +kernel)
  have lk20 := hts (.fieldLink RX0 20 "ExactSimplex$Dictionary" "basic" "[I") (by decide +kernel)
  have lk48 := hts (.fieldLink RX0 48 "ExactSimplex$Dictionary" "lines" "I") (by decide +kernel)
  have hl := lv_entry ([.ref (ad 4)]) (n := 3) (Nat.le_of_ble_eq_true rfl)
  have hent := lg_entry_eq m ([.ref (ad 4)]) 3
  rw [← hargs] at hent
  rw [hent]
  clear hent
  generalize (lg_sl ([.ref (ad 4)]) ++ List.replicate (3 - (lg_sl ([.ref (ad 4)])).length) Slot.unset).toArray = ls at hl ⊢
  have hl : lv_has ls 3 [(0, .ref (ad 4))] := hl
  generalize hA : gA ad s.heap.size = A at G ⊢
  generalize hH : s.heap = H at G ⊢
  refine gx_q (fun Q hQ => ?_)
  refine lv_iconst (v := -1) hx hb dX0_brokenLine_0 (by decide) ?_
  refine lv_istore_n (lv' := [(1, .int (-1)), (0, .ref (ad 4))]) hx hb dX0_brokenLine_1 rfl hl (by decide) rfl (fun ls hl => ?_)
  refine lv_iconst (v := 0) hx hb dX0_brokenLine_2 (by decide) ?_
  refine lv_istore_n (lv' := [(2, .int 0), (1, .int (-1)), (0, .ref (ad 4))]) hx hb dX0_brokenLine_3 rfl hl (by decide) rfl (fun ls hl => ?_)
  have K4 : ∀ (nf : Nat) (r : Nat) (H : Heap) (locs : List Loc) (ls : Array Slot), (r ≤ nl) → nl - r < nf → GG D ad cy A s I J a b H locs → lv_has ls 3 [(0, .ref (ad 4)), (1, .int (d_broken a b r)), (2, .int (nI r))] → W p l e ({ frames := 0, cells := 0, slots := 0, locals := 0 }) s m args below meth c H locs 0 0 Q (F0 m 4 ls []) := by
    intro nf
    induction nf with
    | zero => exact fun _ _ _ _ _ hz => absurd hz (Nat.not_lt_zero _)
    | succ nf ih =>
      intro r H locs ls h1 hmeas G hl
      have ih4 := ih
      clear ih
      refine lv_iload_n hx hb dX0_brokenLine_4 rfl (lv_at hl 2 rfl) ?_
      refine lv_aload_n hx hb dX0_brokenLine_5 rfl (lv_at hl 0 rfl) ?_
      refine gx_get hx hb hts hinX0 hown G 4 (by decide) rfl rfl 7 (by decide) rfl lk48 rfl (v := .int (I 4 7)) rfl dX0_brokenLine_6 ?_
      refine lv_icmp_ge (tgt := 50) hx hb dX0_brokenLine_9 (by decide) (fun c9 => ?_) (fun c9 => ?_)
      · skip
        have n9 := gn_le (X := nl) (Y := r) hnl rfl (by omega) (by omega) c9
        refine lv_iload_n hx hb dX0_brokenLine_50 rfl (lv_at hl 1 rfl) ?_
        exact gx_ir hx hb hr hlocks G hQ ⟨by first | rfl | (simp only [d_broken, c9, reduceIte]; done) | (rw [show nl = r by omega]; done) | (rw [show nl = r by omega]; simp only [d_broken, c9, reduceIte]; done) | (simp [d_broken, c9, reduceIte]; done), rfl⟩ dX0_brokenLine_51
      · skip
        have n9 := gn_nle (X := nl) (Y := r) hnl rfl (by omega) (by omega) c9
        refine lv_aload_n hx hb dX0_brokenLine_12 rfl (lv_at hl 0 rfl) ?_
        refine gx_get hx hb hts hinX0 hown G 4 (by decide) rfl rfl 1 (by decide) rfl lk16 rfl (v := .ref (ad 14)) rfl dX0_brokenLine_13 ?_
        refine lv_iload_n hx hb dX0_brokenLine_16 rfl (lv_at hl 2 rfl) ?_
        refine gx_lald hx hb G 14 (by decide) (rfl) (by decide) r rfl (by omega) dX0_brokenLine_17 ?_
        refine lv_lconst (v := 0) hx hb dX0_brokenLine_18 (by decide) ?_
        refine gx_lc_ge (tgt := 44) hx hb dX0_brokenLine_19 dX0_brokenLine_20 (by decide) (fun c20 => ?_) (fun c20 => ?_)
        · skip
          refine lv_iinc (v := (nI (r + 1))) (lv' := [(2, .int (nI (r + 1))), (0, .ref (ad 4)), (1, .int (d_broken a b r))]) hx hb dX0_brokenLine_44 hl (k := 2) rfl (gn_add (X := r) (Y := 1) rfl rfl) (by decide) rfl (fun ls hl => ?_)
          refine lv_goto (tgt := 4) hx hb dX0_brokenLine_47 (by decide) ?_
          have q1 : d_broken a b r = d_broken a b (r + 1) := by first | rfl | (simp only [d_broken, c9, c20, reduceIte]; done) | (rw [show nl = r by omega]; done) | (rw [show nl = r by omega]; simp only [d_broken, c9, c20, reduceIte]; done) | (simp [d_broken, c9, c20, reduceIte]; done)
          rw [q1] at hl
          exact ih4  (r + 1) _ _ _ (by omega) (by omega) G (lv_sub hl [1, 2, 0] rfl)
        · skip
          refine lv_iload_n hx hb dX0_brokenLine_23 rfl (lv_at hl 1 rfl) ?_
          refine lv_if_lt (tgt := 42) hx hb dX0_brokenLine_24 (by decide) (fun c24 => ?_) (fun c24 => ?_)
          · skip
            refine lv_iload_n hx hb dX0_brokenLine_42 rfl (lv_at hl 2 rfl) ?_
            refine lv_istore_n (lv' := [(1, .int (nI r)), (0, .ref (ad 4)), (2, .int (nI r))]) hx hb dX0_brokenLine_43 rfl hl (by decide) rfl (fun ls hl => ?_)
            refine lv_iinc (v := (nI (r + 1))) (lv' := [(2, .int (nI (r + 1))), (1, .int (nI r)), (0, .ref (ad 4))]) hx hb dX0_brokenLine_44 hl (k := 2) rfl (gn_add (X := r) (Y := 1) rfl rfl) (by decide) rfl (fun ls hl => ?_)
            refine lv_goto (tgt := 4) hx hb dX0_brokenLine_47 (by decide) ?_
            have q1 : nI r = d_broken a b (r + 1) := by first | rfl | (simp only [d_broken, c9, c20, c24, reduceIte]; done) | (rw [show nl = r by omega]; done) | (rw [show nl = r by omega]; simp only [d_broken, c9, c20, c24, reduceIte]; done) | (simp [d_broken, c9, c20, c24, reduceIte]; done)
            rw [q1] at hl
            exact ih4  (r + 1) _ _ _ (by omega) (by omega) G (lv_sub hl [2, 1, 0] rfl)
          · skip
            obtain ⟨jb, hjb, ejb⟩ := (d_broken_ix a b r).resolve_left c24
            have ecl := gx_clamp ejb (by omega)
            refine lv_aload_n hx hb dX0_brokenLine_27 rfl (lv_at hl 0 rfl) ?_
            refine gx_get hx hb hts hinX0 hown G 4 (by decide) rfl rfl 2 (by decide) rfl lk20 rfl (v := .ref (ad 15)) rfl dX0_brokenLine_28 ?_
            refine lv_iload_n hx hb dX0_brokenLine_31 rfl (lv_at hl 2 rfl) ?_
            refine gx_iald hx hb G 15 (by decide) (rfl) (by decide) r rfl (by omega) dX0_brokenLine_32 ?_
            refine lv_aload_n hx hb dX0_brokenLine_33 rfl (lv_at hl 0 rfl) ?_
            refine gx_get hx hb hts hinX0 hown G 4 (by decide) rfl rfl 2 (by decide) rfl lk20 rfl (v := .ref (ad 15)) rfl dX0_brokenLine_34 ?_
            refine lv_iload_n hx hb dX0_brokenLine_37 rfl (lv_at hl 1 rfl) ?_
            refine gx_iald hx hb G 15 (by decide) (rfl) (by decide) jb ejb (by omega) dX0_brokenLine_38 ?_
            refine lv_icmp_ge (tgt := 44) hx hb dX0_brokenLine_39 (by decide) (fun c39 => ?_) (fun c39 => ?_)
            · skip
              refine lv_iinc (v := (nI (r + 1))) (lv' := [(2, .int (nI (r + 1))), (0, .ref (ad 4)), (1, .int (d_broken a b r))]) hx hb dX0_brokenLine_44 hl (k := 2) rfl (gn_add (X := r) (Y := 1) rfl rfl) (by decide) rfl (fun ls hl => ?_)
              refine lv_goto (tgt := 4) hx hb dX0_brokenLine_47 (by decide) ?_
              have q1 : d_broken a b r = d_broken a b (r + 1) := by first | rfl | (simp only [d_broken, c9, c20, c24, ecl, c39, reduceIte]; done) | (rw [show nl = r by omega]; done) | (rw [show nl = r by omega]; simp only [d_broken, c9, c20, c24, ecl, c39, reduceIte]; done) | (simp [d_broken, c9, c20, c24, ecl, c39, reduceIte]; done)
              rw [q1] at hl
              exact ih4  (r + 1) _ _ _ (by omega) (by omega) G (lv_sub hl [1, 2, 0] rfl)
            · skip
              refine lv_iload_n hx hb dX0_brokenLine_42 rfl (lv_at hl 2 rfl) ?_
              refine lv_istore_n (lv' := [(1, .int (nI r)), (0, .ref (ad 4)), (2, .int (nI r))]) hx hb dX0_brokenLine_43 rfl hl (by decide) rfl (fun ls hl => ?_)
              refine lv_iinc (v := (nI (r + 1))) (lv' := [(2, .int (nI (r + 1))), (1, .int (nI r)), (0, .ref (ad 4))]) hx hb dX0_brokenLine_44 hl (k := 2) rfl (gn_add (X := r) (Y := 1) rfl rfl) (by decide) rfl (fun ls hl => ?_)
              refine lv_goto (tgt := 4) hx hb dX0_brokenLine_47 (by decide) ?_
              have q1 : nI r = d_broken a b (r + 1) := by first | rfl | (simp only [d_broken, c9, c20, c24, ecl, c39, reduceIte]; done) | (rw [show nl = r by omega]; done) | (rw [show nl = r by omega]; simp only [d_broken, c9, c20, c24, ecl, c39, reduceIte]; done) | (simp [d_broken, c9, c20, c24, ecl, c39, reduceIte]; done)
              rw [q1] at hl
              exact ih4  (r + 1) _ _ _ (by omega) (by omega) G (lv_sub hl [2, 1, 0] rfl)
  have q1 : -1 = d_broken a b 0 := by first | rfl | (simp only [d_broken, reduceIte]; done) | (rw [show nl = r by omega]; done) | (rw [show nl = r by omega]; simp only [d_broken, reduceIte]; done) | (simp [d_broken, reduceIte]; done)
  rw [q1] at hl
  have q2 : 0 = nI 0 := by first | rfl | (simp only [d_broken, reduceIte]; done) | (rw [show nl = r by omega]; done) | (rw [show nl = r by omega]; simp only [d_broken, reduceIte]; done) | (simp [d_broken, reduceIte]; done)
  rw [q2] at hl
  exact K4 (nl - 0 + 1) 0 _ _ _ (by omega) (Nat.lt_succ_self _) G (lv_sub hl [2, 1, 0] rfl)

set_option maxHeartbeats 4000000 in
set_option maxRecDepth 100000 in
theorem kX0_mendingColumn (l : Launch) (D : va_G) (ad : Nat → Nat) (cy : Nat → ClassId) (I : gF) (J : gL) (a : gF) (b : gL) (sz : Nat) (nc r0 : Nat) (hnc : I 4 8 = nI nc) (hnc2 : nc ≤ 5) (hr0 : r0 < 21) : gMi l yX0_mendingColumn wsX0_mendingColumn ({ frames := 0, cells := 0, slots := 0, locals := 0 }) D ad cy I J a b sz [.ref (ad 4), .int (nI r0)] (fun r u => r = d_mend a b r0 nc ∧ u = (I, J, a, b)) := by
  refine Met.ofW (cc := cX0_mendingColumn) (maxL := 4) (ret := some .int) (by decide) rfl ?_
  intro p e s m args below meth c s₁ B hml hv
  obtain ⟨hargs, hsz, G⟩ := gx_begin hv
  subst hsz
  have hx := B.exec
  have hb := B.bytes
  have hr := B.returns
  have hts := atoms_spec (ws := wsX0_mendingColumn) B.pre
  have hown : s.vm.findClass RX0 = some m.cls := findClass_of_methodNamed B.named
  have hlocks := B.notSynchronized
  have hinX0 : ∀ w ∈ wsX00, w ∈ wsX0_mendingColumn := by decide +kernel
  have lk13 := hts (.fieldLink RX0 13 "ExactSimplex$Dictionary" "table" "[[J") (by decide +kernel)
  have lk24 := hts (.fieldLink RX0 24 "ExactSimplex$Dictionary" "outside" "[I") (by decide +kernel)
  have lk44 := hts (.fieldLink RX0 44 "ExactSimplex$Dictionary" "columns" "I") (by decide +kernel)
  have hl := lv_entry ([.ref (ad 4), .int (nI r0)]) (n := 4) (Nat.le_of_ble_eq_true rfl)
  have hent := lg_entry_eq m ([.ref (ad 4), .int (nI r0)]) 4
  rw [← hargs] at hent
  rw [hent]
  clear hent
  generalize (lg_sl ([.ref (ad 4), .int (nI r0)]) ++ List.replicate (4 - (lg_sl ([.ref (ad 4), .int (nI r0)])).length) Slot.unset).toArray = ls at hl ⊢
  have hl : lv_has ls 4 [(0, .ref (ad 4)), (1, .int (nI r0))] := hl
  generalize hA : gA ad s.heap.size = A at G ⊢
  generalize hH : s.heap = H at G ⊢
  refine gx_q (fun Q hQ => ?_)
  refine lv_iconst (v := -1) hx hb dX0_mendingColumn_0 (by decide) ?_
  refine lv_istore_n (lv' := [(2, .int (-1)), (0, .ref (ad 4)), (1, .int (nI r0))]) hx hb dX0_mendingColumn_1 rfl hl (by decide) rfl (fun ls hl => ?_)
  refine lv_iconst (v := 0) hx hb dX0_mendingColumn_2 (by decide) ?_
  refine lv_istore_n (lv' := [(3, .int 0), (2, .int (-1)), (0, .ref (ad 4)), (1, .int (nI r0))]) hx hb dX0_mendingColumn_3 rfl hl (by decide) rfl (fun ls hl => ?_)
  have K4 : ∀ (nf : Nat) (r : Nat) (H : Heap) (locs : List Loc) (ls : Array Slot), (r ≤ nc) → nc - r < nf → GG D ad cy A s I J a b H locs → lv_has ls 4 [(0, .ref (ad 4)), (1, .int (nI r0)), (2, .int (d_mend a b r0 r)), (3, .int (nI r))] → W p l e ({ frames := 0, cells := 0, slots := 0, locals := 0 }) s m args below meth c H locs 0 0 Q (F0 m 4 ls []) := by
    intro nf
    induction nf with
    | zero => exact fun _ _ _ _ _ hz => absurd hz (Nat.not_lt_zero _)
    | succ nf ih =>
      intro r H locs ls h1 hmeas G hl
      have ih4 := ih
      clear ih
      refine lv_iload_n hx hb dX0_mendingColumn_4 rfl (lv_at hl 3 rfl) ?_
      refine lv_aload_n hx hb dX0_mendingColumn_5 rfl (lv_at hl 0 rfl) ?_
      refine gx_get hx hb hts hinX0 hown G 4 (by decide) rfl rfl 8 (by decide) rfl lk44 rfl (v := .int (I 4 8)) rfl dX0_mendingColumn_6 ?_
      refine lv_icmp_ge (tgt := 52) hx hb dX0_mendingColumn_9 (by decide) (fun c9 => ?_) (fun c9 => ?_)
      · skip
        have n9 := gn_le (X := nc) (Y := r) hnc rfl (by omega) (by omega) c9
        refine lv_iload_n hx hb dX0_mendingColumn_52 rfl (lv_at hl 2 rfl) ?_
        exact gx_ir hx hb hr hlocks G hQ ⟨by first | rfl | (simp only [d_mend, c9, reduceIte]; done) | (rw [show nc = r by omega]; done) | (rw [show nc = r by omega]; simp only [d_mend, c9, reduceIte]; done) | (simp [d_mend, c9, reduceIte]; done), rfl⟩ dX0_mendingColumn_53
      · skip
        have n9 := gn_nle (X := nc) (Y := r) hnc rfl (by omega) (by omega) c9
        refine lv_aload_n hx hb dX0_mendingColumn_12 rfl (lv_at hl 0 rfl) ?_
        refine gx_get hx hb hts hinX0 hown G 4 (by decide) rfl rfl 0 (by decide) rfl lk13 rfl (v := .ref (ad 13)) rfl dX0_mendingColumn_13 ?_
        refine lv_iload_n hx hb dX0_mendingColumn_16 rfl (lv_at hl 1 rfl) ?_
        refine gx_aald hx hb G 13 (by decide) rfl (Or.inr rfl) (by decide) r0 rfl (by omega) dX0_mendingColumn_17 ?_
        refine lv_iload_n hx hb dX0_mendingColumn_18 rfl (lv_at hl 3 rfl) ?_
        refine gx_lald hx hb G (48 + r0) (by omega) (gsh_T _ (by omega)) (by decide) r rfl (by omega) dX0_mendingColumn_19 ?_
        refine lv_lconst (v := 0) hx hb dX0_mendingColumn_20 (by decide) ?_
        refine gx_lc_ge (tgt := 46) hx hb dX0_mendingColumn_21 dX0_mendingColumn_22 (by decide) (fun c22 => ?_) (fun c22 => ?_)
        · skip
          refine lv_iinc (v := (nI (r + 1))) (lv' := [(3, .int (nI (r + 1))), (0, .ref (ad 4)), (1, .int (nI r0)), (2, .int (d_mend a b r0 r))]) hx hb dX0_mendingColumn_46 hl (k := 3) rfl (gn_add (X := r) (Y := 1) rfl rfl) (by decide) rfl (fun ls hl => ?_)
          refine lv_goto (tgt := 4) hx hb dX0_mendingColumn_49 (by decide) ?_
          have q2 : d_mend a b r0 r = d_mend a b r0 (r + 1) := by first | rfl | (simp only [d_mend, c9, c22, reduceIte]; done) | (rw [show nc = r by omega]; done) | (rw [show nc = r by omega]; simp only [d_mend, c9, c22, reduceIte]; done) | (simp [d_mend, c9, c22, reduceIte]; done)
          rw [q2] at hl
          exact ih4  (r + 1) _ _ _ (by omega) (by omega) G (lv_sub hl [1, 2, 3, 0] rfl)
        · skip
          refine lv_iload_n hx hb dX0_mendingColumn_25 rfl (lv_at hl 2 rfl) ?_
          refine lv_if_lt (tgt := 44) hx hb dX0_mendingColumn_26 (by decide) (fun c26 => ?_) (fun c26 => ?_)
          · skip
            refine lv_iload_n hx hb dX0_mendingColumn_44 rfl (lv_at hl 3 rfl) ?_
            refine lv_istore_n (lv' := [(2, .int (nI r)), (0, .ref (ad 4)), (1, .int (nI r0)), (3, .int (nI r))]) hx hb dX0_mendingColumn_45 rfl hl (by decide) rfl (fun ls hl => ?_)
            refine lv_iinc (v := (nI (r + 1))) (lv' := [(3, .int (nI (r + 1))), (2, .int (nI r)), (0, .ref (ad 4)), (1, .int (nI r0))]) hx hb dX0_mendingColumn_46 hl (k := 3) rfl (gn_add (X := r) (Y := 1) rfl rfl) (by decide) rfl (fun ls hl => ?_)
            refine lv_goto (tgt := 4) hx hb dX0_mendingColumn_49 (by decide) ?_
            have q2 : nI r = d_mend a b r0 (r + 1) := by first | rfl | (simp only [d_mend, c9, c22, c26, reduceIte]; done) | (rw [show nc = r by omega]; done) | (rw [show nc = r by omega]; simp only [d_mend, c9, c22, c26, reduceIte]; done) | (simp [d_mend, c9, c22, c26, reduceIte]; done)
            rw [q2] at hl
            exact ih4  (r + 1) _ _ _ (by omega) (by omega) G (lv_sub hl [2, 3, 1, 0] rfl)
          · skip
            obtain ⟨jb, hjb, ejb⟩ := (d_mend_ix a b r0 r).resolve_left c26
            have ecl := gx_clamp ejb (by omega)
            refine lv_aload_n hx hb dX0_mendingColumn_29 rfl (lv_at hl 0 rfl) ?_
            refine gx_get hx hb hts hinX0 hown G 4 (by decide) rfl rfl 3 (by decide) rfl lk24 rfl (v := .ref (ad 16)) rfl dX0_mendingColumn_30 ?_
            refine lv_iload_n hx hb dX0_mendingColumn_33 rfl (lv_at hl 3 rfl) ?_
            refine gx_iald hx hb G 16 (by decide) (rfl) (by decide) r rfl (by omega) dX0_mendingColumn_34 ?_
            refine lv_aload_n hx hb dX0_mendingColumn_35 rfl (lv_at hl 0 rfl) ?_
            refine gx_get hx hb hts hinX0 hown G 4 (by decide) rfl rfl 3 (by decide) rfl lk24 rfl (v := .ref (ad 16)) rfl dX0_mendingColumn_36 ?_
            refine lv_iload_n hx hb dX0_mendingColumn_39 rfl (lv_at hl 2 rfl) ?_
            refine gx_iald hx hb G 16 (by decide) (rfl) (by decide) jb ejb (by omega) dX0_mendingColumn_40 ?_
            refine lv_icmp_ge (tgt := 46) hx hb dX0_mendingColumn_41 (by decide) (fun c41 => ?_) (fun c41 => ?_)
            · skip
              refine lv_iinc (v := (nI (r + 1))) (lv' := [(3, .int (nI (r + 1))), (0, .ref (ad 4)), (1, .int (nI r0)), (2, .int (d_mend a b r0 r))]) hx hb dX0_mendingColumn_46 hl (k := 3) rfl (gn_add (X := r) (Y := 1) rfl rfl) (by decide) rfl (fun ls hl => ?_)
              refine lv_goto (tgt := 4) hx hb dX0_mendingColumn_49 (by decide) ?_
              have q2 : d_mend a b r0 r = d_mend a b r0 (r + 1) := by first | rfl | (simp only [d_mend, c9, c22, c26, ecl, c41, reduceIte]; done) | (rw [show nc = r by omega]; done) | (rw [show nc = r by omega]; simp only [d_mend, c9, c22, c26, ecl, c41, reduceIte]; done) | (simp [d_mend, c9, c22, c26, ecl, c41, reduceIte]; done)
              rw [q2] at hl
              exact ih4  (r + 1) _ _ _ (by omega) (by omega) G (lv_sub hl [1, 2, 3, 0] rfl)
            · skip
              refine lv_iload_n hx hb dX0_mendingColumn_44 rfl (lv_at hl 3 rfl) ?_
              refine lv_istore_n (lv' := [(2, .int (nI r)), (0, .ref (ad 4)), (1, .int (nI r0)), (3, .int (nI r))]) hx hb dX0_mendingColumn_45 rfl hl (by decide) rfl (fun ls hl => ?_)
              refine lv_iinc (v := (nI (r + 1))) (lv' := [(3, .int (nI (r + 1))), (2, .int (nI r)), (0, .ref (ad 4)), (1, .int (nI r0))]) hx hb dX0_mendingColumn_46 hl (k := 3) rfl (gn_add (X := r) (Y := 1) rfl rfl) (by decide) rfl (fun ls hl => ?_)
              refine lv_goto (tgt := 4) hx hb dX0_mendingColumn_49 (by decide) ?_
              have q2 : nI r = d_mend a b r0 (r + 1) := by first | rfl | (simp only [d_mend, c9, c22, c26, ecl, c41, reduceIte]; done) | (rw [show nc = r by omega]; done) | (rw [show nc = r by omega]; simp only [d_mend, c9, c22, c26, ecl, c41, reduceIte]; done) | (simp [d_mend, c9, c22, c26, ecl, c41, reduceIte]; done)
              rw [q2] at hl
              exact ih4  (r + 1) _ _ _ (by omega) (by omega) G (lv_sub hl [2, 3, 1, 0] rfl)
  have q2 : -1 = d_mend a b r0 0 := by first | rfl | (simp only [d_mend, reduceIte]; done) | (rw [show nc = r by omega]; done) | (rw [show nc = r by omega]; simp only [d_mend, reduceIte]; done) | (simp [d_mend, reduceIte]; done)
  rw [q2] at hl
  have q3 : 0 = nI 0 := by first | rfl | (simp only [d_mend, reduceIte]; done) | (rw [show nc = r by omega]; done) | (rw [show nc = r by omega]; simp only [d_mend, reduceIte]; done) | (simp [d_mend, reduceIte]; done)
  rw [q3] at hl
  exact K4 (nc - 0 + 1) 0 _ _ _ (by omega) (Nat.lt_succ_self _) G (lv_sub hl [2, 3, 1, 0] rfl)

set_option maxHeartbeats 4000000 in
set_option maxRecDepth 100000 in
theorem kX0_fallingColumn (l : Launch) (D : va_G) (ad : Nat → Nat) (cy : Nat → ClassId) (I : gF) (J : gL) (a : gF) (b : gL) (sz : Nat) (nc : Nat) (hnc : I 4 8 = nI nc) (hnc2 : nc ≤ 5) : gMi l yX0_fallingColumn wsX0_fallingColumn ({ frames := 0, cells := 0, slots := 0, locals := 0 }) D ad cy I J a b sz [.ref (ad 4)] (fun r u => r = d_fall a b nc ∧ u = (I, J, a, b)) := by
  refine Met.ofW (cc := cX0_fallingColumn) (maxL := 3) (ret := some .int) (by decide) rfl ?_
  intro p e s m args below meth c s₁ B hml hv
  obtain ⟨hargs, hsz, G⟩ := gx_begin hv
  subst hsz
  have hx := B.exec
  have hb := B.bytes
  have hr := B.returns
  have hts := atoms_spec (ws := wsX0_fallingColumn) B.pre
  have hown : s.vm.findClass RX0 = some m.cls := findClass_of_methodNamed B.named
  have hlocks := B.notSynchronized
  have hinX0 : ∀ w ∈ wsX00, w ∈ wsX0_fallingColumn := by decide +kernel
  have lk24 := hts (.fieldLink RX0 24 "ExactSimplex$Dictionary" "outside" "[I") (by decide +kernel)
  have lk27 := hts (.fieldLink RX0 27 "ExactSimplex$Dictionary" "frozen" "[Z") (by decide +kernel)
  have lk31 := hts (.fieldLink RX0 31 "ExactSimplex$Dictionary" "slopes" "[J") (by decide +kernel)
  have lk44 := hts (.fieldLink RX0 44 "ExactSimplex$Dictionary" "columns" "I") (by decide +kernel)
  have hl := lv_entry ([.ref (ad 4)]) (n := 3) (Nat.le_of_ble_eq_true rfl)
  have hent := lg_entry_eq m ([.ref (ad 4)]) 3
  rw [← hargs] at hent
  rw [hent]
  clear hent
  generalize (lg_sl ([.ref (ad 4)]) ++ List.replicate (3 - (lg_sl ([.ref (ad 4)])).length) Slot.unset).toArray = ls at hl ⊢
  have hl : lv_has ls 3 [(0, .ref (ad 4))] := hl
  generalize hA : gA ad s.heap.size = A at G ⊢
  generalize hH : s.heap = H at G ⊢
  refine gx_q (fun Q hQ => ?_)
  refine lv_iconst (v := -1) hx hb dX0_fallingColumn_0 (by decide) ?_
  refine lv_istore_n (lv' := [(1, .int (-1)), (0, .ref (ad 4))]) hx hb dX0_fallingColumn_1 rfl hl (by decide) rfl (fun ls hl => ?_)
  refine lv_iconst (v := 0) hx hb dX0_fallingColumn_2 (by decide) ?_
  refine lv_istore_n (lv' := [(2, .int 0), (1, .int (-1)), (0, .ref (ad 4))]) hx hb dX0_fallingColumn_3 rfl hl (by decide) rfl (fun ls hl => ?_)
  have K4 : ∀ (nf : Nat) (r : Nat) (H : Heap) (locs : List Loc) (ls : Array Slot), (r ≤ nc) → nc - r < nf → GG D ad cy A s I J a b H locs → lv_has ls 3 [(0, .ref (ad 4)), (1, .int (d_fall a b r)), (2, .int (nI r))] → W p l e ({ frames := 0, cells := 0, slots := 0, locals := 0 }) s m args below meth c H locs 0 0 Q (F0 m 4 ls []) := by
    intro nf
    induction nf with
    | zero => exact fun _ _ _ _ _ hz => absurd hz (Nat.not_lt_zero _)
    | succ nf ih =>
      intro r H locs ls h1 hmeas G hl
      have ih4 := ih
      clear ih
      refine lv_iload_n hx hb dX0_fallingColumn_4 rfl (lv_at hl 2 rfl) ?_
      refine lv_aload_n hx hb dX0_fallingColumn_5 rfl (lv_at hl 0 rfl) ?_
      refine gx_get hx hb hts hinX0 hown G 4 (by decide) rfl rfl 8 (by decide) rfl lk44 rfl (v := .int (I 4 8)) rfl dX0_fallingColumn_6 ?_
      refine lv_icmp_ge (tgt := 59) hx hb dX0_fallingColumn_9 (by decide) (fun c9 => ?_) (fun c9 => ?_)
      · skip
        have n9 := gn_le (X := nc) (Y := r) hnc rfl (by omega) (by omega) c9
        refine lv_iload_n hx hb dX0_fallingColumn_59 rfl (lv_at hl 1 rfl) ?_
        exact gx_ir hx hb hr hlocks G hQ ⟨by first | rfl | (simp only [d_fall, c9, reduceIte]; done) | (rw [show nc = r by omega]; done) | (rw [show nc = r by omega]; simp only [d_fall, c9, reduceIte]; done) | (simp [d_fall, c9, reduceIte]; done), rfl⟩ dX0_fallingColumn_60
      · skip
        have n9 := gn_nle (X := nc) (Y := r) hnc rfl (by omega) (by omega) c9
        refine lv_aload_n hx hb dX0_fallingColumn_12 rfl (lv_at hl 0 rfl) ?_
        refine gx_get hx hb hts hinX0 hown G 4 (by decide) rfl rfl 4 (by decide) rfl lk27 rfl (v := .ref (ad 17)) rfl dX0_fallingColumn_13 ?_
        refine lv_iload_n hx hb dX0_fallingColumn_16 rfl (lv_at hl 2 rfl) ?_
        refine gx_zald hx hb G 17 (by decide) (rfl) (by decide) r rfl (by omega) dX0_fallingColumn_17 ?_
        refine lv_if_ne (tgt := 53) hx hb dX0_fallingColumn_18 (by decide) (fun c18 => ?_) (fun c18 => ?_)
        · skip
          refine lv_iinc (v := (nI (r + 1))) (lv' := [(2, .int (nI (r + 1))), (0, .ref (ad 4)), (1, .int (d_fall a b r))]) hx hb dX0_fallingColumn_53 hl (k := 2) rfl (gn_add (X := r) (Y := 1) rfl rfl) (by decide) rfl (fun ls hl => ?_)
          refine lv_goto (tgt := 4) hx hb dX0_fallingColumn_56 (by decide) ?_
          have q1 : d_fall a b r = d_fall a b (r + 1) := by first | rfl | (simp only [d_fall, c9, c18, reduceIte]; done) | (rw [show nc = r by omega]; done) | (rw [show nc = r by omega]; simp only [d_fall, c9, c18, reduceIte]; done) | (simp [d_fall, c9, c18, reduceIte]; done)
          rw [q1] at hl
          exact ih4  (r + 1) _ _ _ (by omega) (by omega) G (lv_sub hl [1, 2, 0] rfl)
        · skip
          refine lv_aload_n hx hb dX0_fallingColumn_21 rfl (lv_at hl 0 rfl) ?_
          refine gx_get hx hb hts hinX0 hown G 4 (by decide) rfl rfl 5 (by decide) rfl lk31 rfl (v := .ref (ad 18)) rfl dX0_fallingColumn_22 ?_
          refine lv_iload_n hx hb dX0_fallingColumn_25 rfl (lv_at hl 2 rfl) ?_
          refine gx_lald hx hb G 18 (by decide) (rfl) (by decide) r rfl (by omega) dX0_fallingColumn_26 ?_
          refine lv_lconst (v := 0) hx hb dX0_fallingColumn_27 (by decide) ?_
          refine gx_lc_ge (tgt := 53) hx hb dX0_fallingColumn_28 dX0_fallingColumn_29 (by decide) (fun c29 => ?_) (fun c29 => ?_)
          · skip
            refine lv_iinc (v := (nI (r + 1))) (lv' := [(2, .int (nI (r + 1))), (0, .ref (ad 4)), (1, .int (d_fall a b r))]) hx hb dX0_fallingColumn_53 hl (k := 2) rfl (gn_add (X := r) (Y := 1) rfl rfl) (by decide) rfl (fun ls hl => ?_)
            refine lv_goto (tgt := 4) hx hb dX0_fallingColumn_56 (by decide) ?_
            have q1 : d_fall a b r = d_fall a b (r + 1) := by first | rfl | (simp only [d_fall, c9, c18, c29, reduceIte]; done) | (rw [show nc = r by omega]; done) | (rw [show nc = r by omega]; simp only [d_fall, c9, c18, c29, reduceIte]; done) | (simp [d_fall, c9, c18, c29, reduceIte]; done)
            rw [q1] at hl
            exact ih4  (r + 1) _ _ _ (by omega) (by omega) G (lv_sub hl [1, 2, 0] rfl)
          · skip
            refine lv_iload_n hx hb dX0_fallingColumn_32 rfl (lv_at hl 1 rfl) ?_
            refine lv_if_lt (tgt := 51) hx hb dX0_fallingColumn_33 (by decide) (fun c33 => ?_) (fun c33 => ?_)
            · skip
              refine lv_iload_n hx hb dX0_fallingColumn_51 rfl (lv_at hl 2 rfl) ?_
              refine lv_istore_n (lv' := [(1, .int (nI r)), (0, .ref (ad 4)), (2, .int (nI r))]) hx hb dX0_fallingColumn_52 rfl hl (by decide) rfl (fun ls hl => ?_)
              refine lv_iinc (v := (nI (r + 1))) (lv' := [(2, .int (nI (r + 1))), (1, .int (nI r)), (0, .ref (ad 4))]) hx hb dX0_fallingColumn_53 hl (k := 2) rfl (gn_add (X := r) (Y := 1) rfl rfl) (by decide) rfl (fun ls hl => ?_)
              refine lv_goto (tgt := 4) hx hb dX0_fallingColumn_56 (by decide) ?_
              have q1 : nI r = d_fall a b (r + 1) := by first | rfl | (simp only [d_fall, c9, c18, c29, c33, reduceIte]; done) | (rw [show nc = r by omega]; done) | (rw [show nc = r by omega]; simp only [d_fall, c9, c18, c29, c33, reduceIte]; done) | (simp [d_fall, c9, c18, c29, c33, reduceIte]; done)
              rw [q1] at hl
              exact ih4  (r + 1) _ _ _ (by omega) (by omega) G (lv_sub hl [2, 1, 0] rfl)
            · skip
              obtain ⟨jb, hjb, ejb⟩ := (d_fall_ix a b r).resolve_left c33
              have ecl := gx_clamp ejb (by omega)
              refine lv_aload_n hx hb dX0_fallingColumn_36 rfl (lv_at hl 0 rfl) ?_
              refine gx_get hx hb hts hinX0 hown G 4 (by decide) rfl rfl 3 (by decide) rfl lk24 rfl (v := .ref (ad 16)) rfl dX0_fallingColumn_37 ?_
              refine lv_iload_n hx hb dX0_fallingColumn_40 rfl (lv_at hl 2 rfl) ?_
              refine gx_iald hx hb G 16 (by decide) (rfl) (by decide) r rfl (by omega) dX0_fallingColumn_41 ?_
              refine lv_aload_n hx hb dX0_fallingColumn_42 rfl (lv_at hl 0 rfl) ?_
              refine gx_get hx hb hts hinX0 hown G 4 (by decide) rfl rfl 3 (by decide) rfl lk24 rfl (v := .ref (ad 16)) rfl dX0_fallingColumn_43 ?_
              refine lv_iload_n hx hb dX0_fallingColumn_46 rfl (lv_at hl 1 rfl) ?_
              refine gx_iald hx hb G 16 (by decide) (rfl) (by decide) jb ejb (by omega) dX0_fallingColumn_47 ?_
              refine lv_icmp_ge (tgt := 53) hx hb dX0_fallingColumn_48 (by decide) (fun c48 => ?_) (fun c48 => ?_)
              · skip
                refine lv_iinc (v := (nI (r + 1))) (lv' := [(2, .int (nI (r + 1))), (0, .ref (ad 4)), (1, .int (d_fall a b r))]) hx hb dX0_fallingColumn_53 hl (k := 2) rfl (gn_add (X := r) (Y := 1) rfl rfl) (by decide) rfl (fun ls hl => ?_)
                refine lv_goto (tgt := 4) hx hb dX0_fallingColumn_56 (by decide) ?_
                have q1 : d_fall a b r = d_fall a b (r + 1) := by first | rfl | (simp only [d_fall, c9, c18, c29, c33, ecl, c48, reduceIte]; done) | (rw [show nc = r by omega]; done) | (rw [show nc = r by omega]; simp only [d_fall, c9, c18, c29, c33, ecl, c48, reduceIte]; done) | (simp [d_fall, c9, c18, c29, c33, ecl, c48, reduceIte]; done)
                rw [q1] at hl
                exact ih4  (r + 1) _ _ _ (by omega) (by omega) G (lv_sub hl [1, 2, 0] rfl)
              · skip
                refine lv_iload_n hx hb dX0_fallingColumn_51 rfl (lv_at hl 2 rfl) ?_
                refine lv_istore_n (lv' := [(1, .int (nI r)), (0, .ref (ad 4)), (2, .int (nI r))]) hx hb dX0_fallingColumn_52 rfl hl (by decide) rfl (fun ls hl => ?_)
                refine lv_iinc (v := (nI (r + 1))) (lv' := [(2, .int (nI (r + 1))), (1, .int (nI r)), (0, .ref (ad 4))]) hx hb dX0_fallingColumn_53 hl (k := 2) rfl (gn_add (X := r) (Y := 1) rfl rfl) (by decide) rfl (fun ls hl => ?_)
                refine lv_goto (tgt := 4) hx hb dX0_fallingColumn_56 (by decide) ?_
                have q1 : nI r = d_fall a b (r + 1) := by first | rfl | (simp only [d_fall, c9, c18, c29, c33, ecl, c48, reduceIte]; done) | (rw [show nc = r by omega]; done) | (rw [show nc = r by omega]; simp only [d_fall, c9, c18, c29, c33, ecl, c48, reduceIte]; done) | (simp [d_fall, c9, c18, c29, c33, ecl, c48, reduceIte]; done)
                rw [q1] at hl
                exact ih4  (r + 1) _ _ _ (by omega) (by omega) G (lv_sub hl [2, 1, 0] rfl)
  have q1 : -1 = d_fall a b 0 := by first | rfl | (simp only [d_fall, reduceIte]; done) | (rw [show nc = r by omega]; done) | (rw [show nc = r by omega]; simp only [d_fall, reduceIte]; done) | (simp [d_fall, reduceIte]; done)
  rw [q1] at hl
  have q2 : 0 = nI 0 := by first | rfl | (simp only [d_fall, reduceIte]; done) | (rw [show nc = r by omega]; done) | (rw [show nc = r by omega]; simp only [d_fall, reduceIte]; done) | (simp [d_fall, reduceIte]; done)
  rw [q2] at hl
  exact K4 (nc - 0 + 1) 0 _ _ _ (by omega) (Nat.lt_succ_self _) G (lv_sub hl [2, 1, 0] rfl)

set_option maxHeartbeats 4000000 in
set_option maxRecDepth 100000 in
theorem kX0_numerator (l : Launch) (D : va_G) (ad : Nat → Nat) (cy : Nat → ClassId) (I : gF) (J : gL) (a : gF) (b : gL) (sz : Nat) (nl : Nat) (v : Int32) (hnl : I 4 7 = nI nl) (hnl2 : nl ≤ 21) : gMl l yX0_numerator wsX0_numerator ({ frames := 0, cells := 0, slots := 0, locals := 0 }) D ad cy I J a b sz [.ref (ad 4), .int v] (fun r u => r = d_num a b v nl 0 ∧ u = (I, J, a, b)) := by
  refine Met.ofW (cc := cX0_numerator) (maxL := 3) (ret := some .long) (by decide) rfl ?_
  intro p e s m args below meth c s₁ B hml hv
  obtain ⟨hargs, hsz, G⟩ := gx_begin hv
  subst hsz
  have hx := B.exec
  have hb := B.bytes
  have hr := B.returns
  have hts := atoms_spec (ws := wsX0_numerator) B.pre
  have hown : s.vm.findClass RX0 = some m.cls := findClass_of_methodNamed B.named
  have hlocks := B.notSynchronized
  have hinX0 : ∀ w ∈ wsX00, w ∈ wsX0_numerator := by decide +kernel
  have lk16 := hts (.fieldLink RX0 16 "ExactSimplex$Dictionary" "rests" "[J") (by decide +kernel)
  have lk20 := hts (.fieldLink RX0 20 "ExactSimplex$Dictionary" "basic" "[I") (by decide +kernel)
  have lk48 := hts (.fieldLink RX0 48 "ExactSimplex$Dictionary" "lines" "I") (by decide +kernel)
  have hl := lv_entry ([.ref (ad 4), .int v]) (n := 3) (Nat.le_of_ble_eq_true rfl)
  have hent := lg_entry_eq m ([.ref (ad 4), .int v]) 3
  rw [← hargs] at hent
  rw [hent]
  clear hent
  generalize (lg_sl ([.ref (ad 4), .int v]) ++ List.replicate (3 - (lg_sl ([.ref (ad 4), .int v])).length) Slot.unset).toArray = ls at hl ⊢
  have hl : lv_has ls 3 [(0, .ref (ad 4)), (1, .int v)] := hl
  generalize hA : gA ad s.heap.size = A at G ⊢
  generalize hH : s.heap = H at G ⊢
  refine gx_q (fun Q hQ => ?_)
  refine lv_iconst (v := 0) hx hb dX0_numerator_0 (by decide) ?_
  refine lv_istore_n (lv' := [(2, .int 0), (0, .ref (ad 4)), (1, .int v)]) hx hb dX0_numerator_1 rfl hl (by decide) rfl (fun ls hl => ?_)
  have K2 : ∀ (nf : Nat) (r : Nat) (H : Heap) (locs : List Loc) (ls : Array Slot), (r ≤ nl) → (d_num a b v nl 0 = d_num a b v (nl - r) r) → nl - r < nf → GG D ad cy A s I J a b H locs → lv_has ls 3 [(0, .ref (ad 4)), (1, .int v), (2, .int (nI r))] → W p l e ({ frames := 0, cells := 0, slots := 0, locals := 0 }) s m args below meth c H locs 0 0 Q (F0 m 2 ls []) := by
    intro nf
    induction nf with
    | zero => exact fun _ _ _ _ _ _ hz => absurd hz (Nat.not_lt_zero _)
    | succ nf ih =>
      intro r H locs ls h1 h2 hmeas G hl
      have ih2 := ih
      clear ih
      refine lv_iload_n hx hb dX0_numerator_2 rfl (lv_at hl 2 rfl) ?_
      refine lv_aload_n hx hb dX0_numerator_3 rfl (lv_at hl 0 rfl) ?_
      refine gx_get hx hb hts hinX0 hown G 4 (by decide) rfl rfl 7 (by decide) rfl lk48 rfl (v := .int (I 4 7)) rfl dX0_numerator_4 ?_
      refine lv_icmp_ge (tgt := 33) hx hb dX0_numerator_7 (by decide) (fun c7 => ?_) (fun c7 => ?_)
      · skip
        have n7 := gn_le (X := nl) (Y := r) hnl rfl (by omega) (by omega) c7
        refine lv_lconst (v := 0) hx hb dX0_numerator_33 (by decide) ?_
        exact gx_lr hx hb hr hlocks G hQ ⟨by rw [h2, show nl - r = 0 by omega]; rfl, rfl⟩ dX0_numerator_34
      · skip
        have n7 := gn_nle (X := nl) (Y := r) hnl rfl (by omega) (by omega) c7
        refine lv_aload_n hx hb dX0_numerator_10 rfl (lv_at hl 0 rfl) ?_
        refine gx_get hx hb hts hinX0 hown G 4 (by decide) rfl rfl 2 (by decide) rfl lk20 rfl (v := .ref (ad 15)) rfl dX0_numerator_11 ?_
        refine lv_iload_n hx hb dX0_numerator_14 rfl (lv_at hl 2 rfl) ?_
        refine gx_iald hx hb G 15 (by decide) (rfl) (by decide) r rfl (by omega) dX0_numerator_15 ?_
        refine lv_iload_n hx hb dX0_numerator_16 rfl (lv_at hl 1 rfl) ?_
        refine lv_icmp_ne (tgt := 27) hx hb dX0_numerator_17 (by decide) (fun c17 => ?_) (fun c17 => ?_)
        · skip
          refine lv_iinc (v := (nI (r + 1))) (lv' := [(2, .int (nI (r + 1))), (0, .ref (ad 4)), (1, .int v)]) hx hb dX0_numerator_27 hl (k := 2) rfl (gn_add (X := r) (Y := 1) rfl rfl) (by decide) rfl (fun ls hl => ?_)
          refine lv_goto (tgt := 2) hx hb dX0_numerator_30 (by decide) ?_
          exact ih2  (r + 1) _ _ _ (by omega) (by rw [h2, d_num_s a b v n7]; simp only [c7, c17, reduceIte]) (by omega) G (lv_sub hl [1, 2, 0] rfl)
        · skip
          refine lv_aload_n hx hb dX0_numerator_20 rfl (lv_at hl 0 rfl) ?_
          refine gx_get hx hb hts hinX0 hown G 4 (by decide) rfl rfl 1 (by decide) rfl lk16 rfl (v := .ref (ad 14)) rfl dX0_numerator_21 ?_
          refine lv_iload_n hx hb dX0_numerator_24 rfl (lv_at hl 2 rfl) ?_
          refine gx_lald hx hb G 14 (by decide) (rfl) (by decide) r rfl (by omega) dX0_numerator_25 ?_
          exact gx_lr hx hb hr hlocks G hQ ⟨by rw [h2, d_num_s a b v n7]; simp only [c7, c17, reduceIte], rfl⟩ dX0_numerator_26
  have q2 : 0 = nI 0 := by first | rfl | (simp only [d_num, reduceIte]; done) | (simp [d_num, reduceIte]; done)
  rw [q2] at hl
  exact K2 (nl - 0 + 1) 0 _ _ _ (by omega) (rfl) (Nat.lt_succ_self _) G (lv_sub hl [1, 2, 0] rfl)

set_option maxHeartbeats 4000000 in
set_option maxRecDepth 100000 in
theorem kX0_stopsBefore (l : Launch) (D : va_G) (ad : Nat → Nat) (cy : Nat → ClassId) (I : gF) (J : gL) (a : gF) (b : gL) (sz : Nat) (r o s0 : Nat) (hr0 : r < 21) (ho : o < 21) (hs0 : s0 < 5) : gMi l yX0_stopsBefore wsX0_stopsBefore ({ frames := 0, cells := 0, slots := 0, locals := 0 }) D ad cy I J a b sz [.ref (ad 4), .int (nI r), .int (nI o), .int (nI s0)] (fun q u => q = d_stops a b r o s0 ∧ u = (I, J, a, b)) := by
  refine Met.ofW (cc := cX0_stopsBefore) (maxL := 8) (ret := some .boolean) (by decide) rfl ?_
  intro p e s m args below meth c s₁ B hml hv
  obtain ⟨hargs, hsz, G⟩ := gx_begin hv
  subst hsz
  have hx := B.exec
  have hb := B.bytes
  have hr := B.returns
  have hts := atoms_spec (ws := wsX0_stopsBefore) B.pre
  have hown : s.vm.findClass RX0 = some m.cls := findClass_of_methodNamed B.named
  have hlocks := B.notSynchronized
  have hinX0 : ∀ w ∈ wsX00, w ∈ wsX0_stopsBefore := by decide +kernel
  have lk13 := hts (.fieldLink RX0 13 "ExactSimplex$Dictionary" "table" "[[J") (by decide +kernel)
  have lk16 := hts (.fieldLink RX0 16 "ExactSimplex$Dictionary" "rests" "[J") (by decide +kernel)
  have lk20 := hts (.fieldLink RX0 20 "ExactSimplex$Dictionary" "basic" "[I") (by decide +kernel)
  have hl := lv_entry ([.ref (ad 4), .int (nI r), .int (nI o), .int (nI s0)]) (n := 8) (Nat.le_of_ble_eq_true rfl)
  have hent := lg_entry_eq m ([.ref (ad 4), .int (nI r), .int (nI o), .int (nI s0)]) 8
  rw [← hargs] at hent
  rw [hent]
  clear hent
  generalize (lg_sl ([.ref (ad 4), .int (nI r), .int (nI o), .int (nI s0)]) ++ List.replicate (8 - (lg_sl ([.ref (ad 4), .int (nI r), .int (nI o), .int (nI s0)])).length) Slot.unset).toArray = ls at hl ⊢
  have hl : lv_has ls 8 [(0, .ref (ad 4)), (1, .int (nI r)), (2, .int (nI o)), (3, .int (nI s0))] := hl
  generalize hA : gA ad s.heap.size = A at G ⊢
  generalize hH : s.heap = H at G ⊢
  refine gx_q (fun Q hQ => ?_)
  refine lv_aload_n hx hb dX0_stopsBefore_0 rfl (lv_at hl 0 rfl) ?_
  refine gx_get hx hb hts hinX0 hown G 4 (by decide) rfl rfl 1 (by decide) rfl lk16 rfl (v := .ref (ad 14)) rfl dX0_stopsBefore_1 ?_
  refine lv_iload_n hx hb dX0_stopsBefore_4 rfl (lv_at hl 1 rfl) ?_
  refine gx_lald hx hb G 14 (by decide) (rfl) (by decide) r rfl (by omega) dX0_stopsBefore_5 ?_
  refine lv_aload_n hx hb dX0_stopsBefore_6 rfl (lv_at hl 0 rfl) ?_
  refine gx_get hx hb hts hinX0 hown G 4 (by decide) rfl rfl 0 (by decide) rfl lk13 rfl (v := .ref (ad 13)) rfl dX0_stopsBefore_7 ?_
  refine lv_iload_n hx hb dX0_stopsBefore_10 rfl (lv_at hl 2 rfl) ?_
  refine gx_aald hx hb G 13 (by decide) rfl (Or.inr rfl) (by decide) o rfl (by omega) dX0_stopsBefore_11 ?_
  refine lv_iload_n hx hb dX0_stopsBefore_12 rfl (lv_at hl 3 rfl) ?_
  refine gx_lald hx hb G (48 + o) (by omega) (gsh_T _ (by omega)) (by decide) s0 rfl (by omega) dX0_stopsBefore_13 ?_
  refine lv_lmul hx hb dX0_stopsBefore_14 ?_
  refine lv_lstore (lv' := [(4, .long ((b 14 r) * (b (48 + o) s0))), (0, .ref (ad 4)), (1, .int (nI r)), (2, .int (nI o)), (3, .int (nI s0))]) hx hb dX0_stopsBefore_15 hl (by decide) rfl (fun ls hl => ?_)
  refine lv_aload_n hx hb dX0_stopsBefore_17 rfl (lv_at hl 1 rfl) ?_
  refine gx_get hx hb hts hinX0 hown G 4 (by decide) rfl rfl 1 (by decide) rfl lk16 rfl (v := .ref (ad 14)) rfl dX0_stopsBefore_18 ?_
  refine lv_iload_n hx hb dX0_stopsBefore_21 rfl (lv_at hl 3 rfl) ?_
  refine gx_lald hx hb G 14 (by decide) (rfl) (by decide) o rfl (by omega) dX0_stopsBefore_22 ?_
  refine lv_aload_n hx hb dX0_stopsBefore_23 rfl (lv_at hl 1 rfl) ?_
  refine gx_get hx hb hts hinX0 hown G 4 (by decide) rfl rfl 0 (by decide) rfl lk13 rfl (v := .ref (ad 13)) rfl dX0_stopsBefore_24 ?_
  refine lv_iload_n hx hb dX0_stopsBefore_27 rfl (lv_at hl 2 rfl) ?_
  refine gx_aald hx hb G 13 (by decide) rfl (Or.inr rfl) (by decide) r rfl (by omega) dX0_stopsBefore_28 ?_
  refine lv_iload_n hx hb dX0_stopsBefore_29 rfl (lv_at hl 4 rfl) ?_
  refine gx_lald hx hb G (48 + r) (by omega) (gsh_T _ (by omega)) (by decide) s0 rfl (by omega) dX0_stopsBefore_30 ?_
  refine lv_lmul hx hb dX0_stopsBefore_31 ?_
  refine lv_lstore (lv' := [(6, .long ((b 14 o) * (b (48 + r) s0))), (4, .long ((b 14 r) * (b (48 + o) s0))), (0, .ref (ad 4)), (1, .int (nI r)), (2, .int (nI o)), (3, .int (nI s0))]) hx hb dX0_stopsBefore_32 hl (by decide) rfl (fun ls hl => ?_)
  refine lv_lload hx hb dX0_stopsBefore_34 (lv_at hl 1 rfl) ?_
  refine lv_lload hx hb dX0_stopsBefore_36 (lv_at hl 0 rfl) ?_
  refine gx_lc_lt (tgt := 65) hx hb dX0_stopsBefore_38 dX0_stopsBefore_39 (by decide) (fun c39 => ?_) (fun c39 => ?_)
  · skip
    refine lv_iconst (v := 1) hx hb dX0_stopsBefore_65 (by decide) ?_
    refine lv_goto (tgt := 70) hx hb dX0_stopsBefore_66 (by decide) ?_
    exact gx_zr hx hb hr hlocks G hQ (rfl) ⟨by first | rfl | (simp only [d_stops, c39, reduceIte]; done) | (simp [d_stops, c39, reduceIte]; done), rfl⟩ dX0_stopsBefore_70
  · skip
    refine lv_lload hx hb dX0_stopsBefore_42 (lv_at hl 1 rfl) ?_
    refine lv_lload hx hb dX0_stopsBefore_44 (lv_at hl 0 rfl) ?_
    refine gx_lc_ne (tgt := 69) hx hb dX0_stopsBefore_46 dX0_stopsBefore_47 (by decide) (fun c47 => ?_) (fun c47 => ?_)
    · skip
      refine lv_iconst (v := 0) hx hb dX0_stopsBefore_69 (by decide) ?_
      exact gx_zr hx hb hr hlocks G hQ (rfl) ⟨by first | rfl | (simp only [d_stops, c39, c47, reduceIte]; done) | (simp [d_stops, c39, c47, reduceIte]; done), rfl⟩ dX0_stopsBefore_70
    · skip
      refine lv_aload_n hx hb dX0_stopsBefore_50 rfl (lv_at hl 2 rfl) ?_
      refine gx_get hx hb hts hinX0 hown G 4 (by decide) rfl rfl 2 (by decide) rfl lk20 rfl (v := .ref (ad 15)) rfl dX0_stopsBefore_51 ?_
      refine lv_iload_n hx hb dX0_stopsBefore_54 rfl (lv_at hl 3 rfl) ?_
      refine gx_iald hx hb G 15 (by decide) (rfl) (by decide) r rfl (by omega) dX0_stopsBefore_55 ?_
      refine lv_aload_n hx hb dX0_stopsBefore_56 rfl (lv_at hl 2 rfl) ?_
      refine gx_get hx hb hts hinX0 hown G 4 (by decide) rfl rfl 2 (by decide) rfl lk20 rfl (v := .ref (ad 15)) rfl dX0_stopsBefore_57 ?_
      refine lv_iload_n hx hb dX0_stopsBefore_60 rfl (lv_at hl 4 rfl) ?_
      refine gx_iald hx hb G 15 (by decide) (rfl) (by decide) o rfl (by omega) dX0_stopsBefore_61 ?_
      refine lv_icmp_ge (tgt := 69) hx hb dX0_stopsBefore_62 (by decide) (fun c62 => ?_) (fun c62 => ?_)
      · skip
        refine lv_iconst (v := 0) hx hb dX0_stopsBefore_69 (by decide) ?_
        exact gx_zr hx hb hr hlocks G hQ (rfl) ⟨by first | rfl | (simp only [d_stops, c39, c47, c62, reduceIte]; done) | (simp [d_stops, c39, c47, c62, reduceIte]; done), rfl⟩ dX0_stopsBefore_70
      · skip
        refine lv_iconst (v := 1) hx hb dX0_stopsBefore_65 (by decide) ?_
        refine lv_goto (tgt := 70) hx hb dX0_stopsBefore_66 (by decide) ?_
        exact gx_zr hx hb hr hlocks G hQ (rfl) ⟨by first | rfl | (simp only [d_stops, c39, c47, c62, reduceIte]; done) | (simp [d_stops, c39, c47, c62, reduceIte]; done), rfl⟩ dX0_stopsBefore_70

set_option maxHeartbeats 4000000 in
set_option maxRecDepth 100000 in
theorem kX0_turnLine (l : Launch) (D : va_G) (ad : Nat → Nat) (cy : Nat → ClassId) (I : gF) (J : gL) (a : gF) (b : gL) (sz : Nat) (nc r0 : Nat) (hnc : I 4 8 = nI nc) (hnc2 : nc ≤ 5) (hr0 : r0 < 21) : gMv l yX0_turnLine wsX0_turnLine ({ frames := 0, cells := 0, slots := 0, locals := 0 }) D ad cy I J a b sz [.ref (ad 4), .int (nI r0)] (fun u => u = (I, J, a, d_turn b r0 nc)) := by
  refine Met.ofW (cc := cX0_turnLine) (maxL := 3) (ret := none) (by decide) rfl ?_
  intro p e s m args below meth c s₁ B hml hv
  obtain ⟨hargs, hsz, G⟩ := gx_begin hv
  subst hsz
  have hx := B.exec
  have hb := B.bytes
  have hr := B.returns
  have hts := atoms_spec (ws := wsX0_turnLine) B.pre
  have hown : s.vm.findClass RX0 = some m.cls := findClass_of_methodNamed B.named
  have hlocks := B.notSynchronized
  have hinX0 : ∀ w ∈ wsX00, w ∈ wsX0_turnLine := by decide +kernel
  have lk13 := hts (.fieldLink RX0 13 "ExactSimplex$Dictionary" "table" "[[J") (by decide +kernel)
  have lk16 := hts (.fieldLink RX0 16 "ExactSimplex$Dictionary" "rests" "[J") (by decide +kernel)
  have lk44 := hts (.fieldLink RX0 44 "ExactSimplex$Dictionary" "columns" "I") (by decide +kernel)
  have hl := lv_entry ([.ref (ad 4), .int (nI r0)]) (n := 3) (Nat.le_of_ble_eq_true rfl)
  have hent := lg_entry_eq m ([.ref (ad 4), .int (nI r0)]) 3
  rw [← hargs] at hent
  rw [hent]
  clear hent
  generalize (lg_sl ([.ref (ad 4), .int (nI r0)]) ++ List.replicate (3 - (lg_sl ([.ref (ad 4), .int (nI r0)])).length) Slot.unset).toArray = ls at hl ⊢
  have hl : lv_has ls 3 [(0, .ref (ad 4)), (1, .int (nI r0))] := hl
  generalize hA : gA ad s.heap.size = A at G ⊢
  generalize hH : s.heap = H at G ⊢
  refine gx_q (fun Q hQ => ?_)
  refine lv_iconst (v := 0) hx hb dX0_turnLine_0 (by decide) ?_
  refine lv_istore_n (lv' := [(2, .int 0), (0, .ref (ad 4)), (1, .int (nI r0))]) hx hb dX0_turnLine_1 rfl hl (by decide) rfl (fun ls hl => ?_)
  have K2 : ∀ (nf : Nat) (r : Nat) (H : Heap) (locs : List Loc) (ls : Array Slot), (r ≤ nc) → nc - r < nf → GG D ad cy A s I J a (d_turnL b r0 r) H locs → lv_has ls 3 [(0, .ref (ad 4)), (1, .int (nI r0)), (2, .int (nI r))] → W p l e ({ frames := 0, cells := 0, slots := 0, locals := 0 }) s m args below meth c H locs 0 0 Q (F0 m 2 ls []) := by
    intro nf
    induction nf with
    | zero => exact fun _ _ _ _ _ hz => absurd hz (Nat.not_lt_zero _)
    | succ nf ih =>
      intro r H locs ls h1 hmeas G hl
      have ih2 := ih
      clear ih
      refine lv_iload_n hx hb dX0_turnLine_2 rfl (lv_at hl 2 rfl) ?_
      refine lv_aload_n hx hb dX0_turnLine_3 rfl (lv_at hl 0 rfl) ?_
      refine gx_get hx hb hts hinX0 hown G 4 (by decide) rfl rfl 8 (by decide) rfl lk44 rfl (v := .int (I 4 8)) rfl dX0_turnLine_4 ?_
      refine lv_icmp_ge (tgt := 33) hx hb dX0_turnLine_7 (by decide) (fun c7 => ?_) (fun c7 => ?_)
      · skip
        have n7 := gn_le (X := nc) (Y := r) hnc rfl (by omega) (by omega) c7
        refine lv_aload_n hx hb dX0_turnLine_33 rfl (lv_at hl 0 rfl) ?_
        refine gx_get hx hb hts hinX0 hown G 4 (by decide) rfl rfl 1 (by decide) rfl lk16 rfl (v := .ref (ad 14)) rfl dX0_turnLine_34 ?_
        refine lv_iload_n hx hb dX0_turnLine_37 rfl (lv_at hl 1 rfl) ?_
        refine lv_aload_n hx hb dX0_turnLine_38 rfl (lv_at hl 0 rfl) ?_
        refine gx_get hx hb hts hinX0 hown G 4 (by decide) rfl rfl 1 (by decide) rfl lk16 rfl (v := .ref (ad 14)) rfl dX0_turnLine_39 ?_
        refine lv_iload_n hx hb dX0_turnLine_42 rfl (lv_at hl 1 rfl) ?_
        refine gx_lald hx hb G 14 (by decide) (rfl) (by decide) r0 rfl (by omega) dX0_turnLine_43 ?_
        refine lv_lneg hx hb dX0_turnLine_44 ?_
        refine gx_last hx hb G 14 (by decide) (rfl) (by decide) r0 rfl (by omega) dX0_turnLine_45 (fun H locs G => ?_)
        exact gx_vr hx hb hr hlocks G hQ (by rw [show r = nc by omega]; rfl) dX0_turnLine_46
      · skip
        have n7 := gn_nle (X := nc) (Y := r) hnc rfl (by omega) (by omega) c7
        refine lv_aload_n hx hb dX0_turnLine_10 rfl (lv_at hl 0 rfl) ?_
        refine gx_get hx hb hts hinX0 hown G 4 (by decide) rfl rfl 0 (by decide) rfl lk13 rfl (v := .ref (ad 13)) rfl dX0_turnLine_11 ?_
        refine lv_iload_n hx hb dX0_turnLine_14 rfl (lv_at hl 1 rfl) ?_
        refine gx_aald hx hb G 13 (by decide) rfl (Or.inr rfl) (by decide) r0 rfl (by omega) dX0_turnLine_15 ?_
        refine lv_iload_n hx hb dX0_turnLine_16 rfl (lv_at hl 2 rfl) ?_
        refine lv_aload_n hx hb dX0_turnLine_17 rfl (lv_at hl 0 rfl) ?_
        refine gx_get hx hb hts hinX0 hown G 4 (by decide) rfl rfl 0 (by decide) rfl lk13 rfl (v := .ref (ad 13)) rfl dX0_turnLine_18 ?_
        refine lv_iload_n hx hb dX0_turnLine_21 rfl (lv_at hl 1 rfl) ?_
        refine gx_aald hx hb G 13 (by decide) rfl (Or.inr rfl) (by decide) r0 rfl (by omega) dX0_turnLine_22 ?_
        refine lv_iload_n hx hb dX0_turnLine_23 rfl (lv_at hl 2 rfl) ?_
        refine gx_lald hx hb G (48 + r0) (by omega) (gsh_T _ (by omega)) (by decide) r rfl (by omega) dX0_turnLine_24 ?_
        refine lv_lneg hx hb dX0_turnLine_25 ?_
        refine gx_last hx hb G (48 + r0) (by omega) (gsh_T _ (by omega)) (by decide) r rfl (by omega) dX0_turnLine_26 (fun H locs G => ?_)
        refine lv_iinc (v := (nI (r + 1))) (lv' := [(2, .int (nI (r + 1))), (0, .ref (ad 4)), (1, .int (nI r0))]) hx hb dX0_turnLine_27 hl (k := 2) rfl (gn_add (X := r) (Y := 1) rfl rfl) (by decide) rfl (fun ls hl => ?_)
        refine lv_goto (tgt := 2) hx hb dX0_turnLine_30 (by decide) ?_
        exact ih2  (r + 1) _ _ _ (by omega) (by omega) (gg_eq G rfl rfl rfl (by first | rfl | (simp only [d_turnL, c7, reduceIte]; done) | (simp [d_turnL, c7, reduceIte]; done))) (lv_sub hl [1, 2, 0] rfl)
  have q2 : 0 = nI 0 := by first | rfl | (simp only [d_turnL, reduceIte]; done) | (simp [d_turnL, reduceIte]; done)
  rw [q2] at hl
  exact K2 (nc - 0 + 1) 0 _ _ _ (by omega) (Nat.lt_succ_self _) (gg_eq G rfl rfl rfl (by first | rfl | (simp only [d_turnL, reduceIte]; done) | (simp [d_turnL, reduceIte]; done))) (lv_sub hl [1, 2, 0] rfl)

set_option maxHeartbeats 4000000 in
set_option maxRecDepth 100000 in
theorem kX0_sweepLine (l : Launch) (D : va_G) (ad : Nat → Nat) (cy : Nat → ClassId) (I : gF) (J : gL) (a : gF) (b : gL) (sz : Nat) (nc i r0 s0 : Nat) (dv : Int64) (hnc : I 4 8 = nI nc) (hnc2 : nc ≤ 5) (hi0 : i < 21) (hr0 : r0 < 21) (hs0 : s0 < 5) : gMv l yX0_sweepLine wsX0_sweepLine ({ frames := 0, cells := 0, slots := 0, locals := 0 }) D ad cy I J a b sz [.ref (ad 4), .int (nI i), .int (nI r0), .int (nI s0), .long dv] (fun u => u = (I, J, a, d_sweep b nc i r0 s0 dv)) := by
  refine Met.ofW (cc := cX0_sweepLine) (maxL := 11) (ret := none) (by decide) rfl ?_
  intro p e s m args below meth c s₁ B hml hv
  obtain ⟨hargs, hsz, G⟩ := gx_begin hv
  subst hsz
  have hx := B.exec
  have hb := B.bytes
  have hr := B.returns
  have hts := atoms_spec (ws := wsX0_sweepLine) B.pre
  have hown : s.vm.findClass RX0 = some m.cls := findClass_of_methodNamed B.named
  have hlocks := B.notSynchronized
  have hinX0 : ∀ w ∈ wsX00, w ∈ wsX0_sweepLine := by decide +kernel
  have lk13 := hts (.fieldLink RX0 13 "ExactSimplex$Dictionary" "table" "[[J") (by decide +kernel)
  have lk16 := hts (.fieldLink RX0 16 "ExactSimplex$Dictionary" "rests" "[J") (by decide +kernel)
  have lk44 := hts (.fieldLink RX0 44 "ExactSimplex$Dictionary" "columns" "I") (by decide +kernel)
  have hl := lv_entry ([.ref (ad 4), .int (nI i), .int (nI r0), .int (nI s0), .long dv]) (n := 11) (Nat.le_of_ble_eq_true rfl)
  have hent := lg_entry_eq m ([.ref (ad 4), .int (nI i), .int (nI r0), .int (nI s0), .long dv]) 11
  rw [← hargs] at hent
  rw [hent]
  clear hent
  generalize (lg_sl ([.ref (ad 4), .int (nI i), .int (nI r0), .int (nI s0), .long dv]) ++ List.replicate (11 - (lg_sl ([.ref (ad 4), .int (nI i), .int (nI r0), .int (nI s0), .long dv])).length) Slot.unset).toArray = ls at hl ⊢
  have hl : lv_has ls 11 [(0, .ref (ad 4)), (1, .int (nI i)), (2, .int (nI r0)), (3, .int (nI s0)), (4, .long dv)] := hl
  generalize hA : gA ad s.heap.size = A at G ⊢
  generalize hH : s.heap = H at G ⊢
  refine gx_q (fun Q hQ => ?_)
  refine lv_aload_n hx hb dX0_sweepLine_0 rfl (lv_at hl 0 rfl) ?_
  refine gx_get hx hb hts hinX0 hown G 4 (by decide) rfl rfl 0 (by decide) rfl lk13 rfl (v := .ref (ad 13)) rfl dX0_sweepLine_1 ?_
  refine lv_iload_n hx hb dX0_sweepLine_4 rfl (lv_at hl 2 rfl) ?_
  refine gx_aald hx hb G 13 (by decide) rfl (Or.inr rfl) (by decide) r0 rfl (by omega) dX0_sweepLine_5 ?_
  refine lv_iload_n hx hb dX0_sweepLine_6 rfl (lv_at hl 3 rfl) ?_
  refine gx_lald hx hb G (48 + r0) (by omega) (gsh_T _ (by omega)) (by decide) s0 rfl (by omega) dX0_sweepLine_7 ?_
  refine lv_lstore (lv' := [(6, .long (b (48 + r0) s0)), (0, .ref (ad 4)), (1, .int (nI i)), (2, .int (nI r0)), (3, .int (nI s0)), (4, .long dv)]) hx hb dX0_sweepLine_8 hl (by decide) rfl (fun ls hl => ?_)
  refine lv_aload_n hx hb dX0_sweepLine_10 rfl (lv_at hl 1 rfl) ?_
  refine gx_get hx hb hts hinX0 hown G 4 (by decide) rfl rfl 0 (by decide) rfl lk13 rfl (v := .ref (ad 13)) rfl dX0_sweepLine_11 ?_
  refine lv_iload_n hx hb dX0_sweepLine_14 rfl (lv_at hl 2 rfl) ?_
  refine gx_aald hx hb G 13 (by decide) rfl (Or.inr rfl) (by decide) i rfl (by omega) dX0_sweepLine_15 ?_
  refine lv_iload_n hx hb dX0_sweepLine_16 rfl (lv_at hl 4 rfl) ?_
  refine gx_lald hx hb G (48 + i) (by omega) (gsh_T _ (by omega)) (by decide) s0 rfl (by omega) dX0_sweepLine_17 ?_
  refine lv_lstore (lv' := [(8, .long (b (48 + i) s0)), (6, .long (b (48 + r0) s0)), (0, .ref (ad 4)), (1, .int (nI i)), (2, .int (nI r0)), (3, .int (nI s0)), (4, .long dv)]) hx hb dX0_sweepLine_18 hl (by decide) rfl (fun ls hl => ?_)
  refine lv_lload hx hb dX0_sweepLine_20 (lv_at hl 6 rfl) ?_
  refine lv_lconst (v := 0) hx hb dX0_sweepLine_22 (by decide) ?_
  refine gx_lc_eq (tgt := 42) hx hb dX0_sweepLine_23 dX0_sweepLine_24 (by decide) (fun c24 => ?_) (fun c24 => ?_)
  · skip
    exact gx_vr hx hb hr hlocks G hQ (by simp only [d_sweep, c24, reduceIte]) dX0_sweepLine_42
  · skip
    refine lv_lload hx hb dX0_sweepLine_27 (lv_at hl 0 rfl) ?_
    refine lv_lconst (v := 0) hx hb dX0_sweepLine_29 (by decide) ?_
    refine gx_lc_ne (tgt := 43) hx hb dX0_sweepLine_30 dX0_sweepLine_31 (by decide) (fun c31 => ?_) (fun c31 => ?_)
    · skip
      refine lv_iconst (v := 0) hx hb dX0_sweepLine_43 (by decide) ?_
      refine lv_istore (lv' := [(10, .int 0), (8, .long (b (48 + i) s0)), (6, .long (b (48 + r0) s0)), (0, .ref (ad 4)), (1, .int (nI i)), (2, .int (nI r0)), (3, .int (nI s0)), (4, .long dv)]) hx hb dX0_sweepLine_44 hl (by decide) rfl (fun ls hl => ?_)
      have K46 : ∀ (nf : Nat) (r : Nat) (H : Heap) (locs : List Loc) (ls : Array Slot), (r ≤ nc) → nc - r < nf → GG D ad cy A s I J a (d_swL b i r0 s0 (b (48 + r0) s0) (b (48 + i) s0) dv r) H locs → lv_has ls 11 [(0, .ref (ad 4)), (1, .int (nI i)), (2, .int (nI r0)), (3, .int (nI s0)), (4, .long dv), (6, .long (b (48 + r0) s0)), (8, .long (b (48 + i) s0)), (10, .int (nI r))] → W p l e ({ frames := 0, cells := 0, slots := 0, locals := 0 }) s m args below meth c H locs 0 0 Q (F0 m 46 ls []) := by
        intro nf
        induction nf with
        | zero => exact fun _ _ _ _ _ hz => absurd hz (Nat.not_lt_zero _)
        | succ nf ih =>
          intro r H locs ls h1 hmeas G hl
          have ih46 := ih
          clear ih
          refine lv_iload hx hb dX0_sweepLine_46 (lv_at hl 7 rfl) ?_
          refine lv_aload_n hx hb dX0_sweepLine_48 rfl (lv_at hl 0 rfl) ?_
          refine gx_get hx hb hts hinX0 hown G 4 (by decide) rfl rfl 8 (by decide) rfl lk44 rfl (v := .int (I 4 8)) rfl dX0_sweepLine_49 ?_
          refine lv_icmp_ge (tgt := 104) hx hb dX0_sweepLine_52 (by decide) (fun c52 => ?_) (fun c52 => ?_)
          · skip
            have n52 := gn_le (X := nc) (Y := r) hnc rfl (by omega) (by omega) c52
            refine lv_aload_n hx hb dX0_sweepLine_104 rfl (lv_at hl 0 rfl) ?_
            refine gx_get hx hb hts hinX0 hown G 4 (by decide) rfl rfl 1 (by decide) rfl lk16 rfl (v := .ref (ad 14)) rfl dX0_sweepLine_105 ?_
            refine lv_iload_n hx hb dX0_sweepLine_108 rfl (lv_at hl 1 rfl) ?_
            refine lv_lload hx hb dX0_sweepLine_109 (lv_at hl 5 rfl) ?_
            refine lv_aload_n hx hb dX0_sweepLine_111 rfl (lv_at hl 0 rfl) ?_
            refine gx_get hx hb hts hinX0 hown G 4 (by decide) rfl rfl 1 (by decide) rfl lk16 rfl (v := .ref (ad 14)) rfl dX0_sweepLine_112 ?_
            refine lv_iload_n hx hb dX0_sweepLine_115 rfl (lv_at hl 1 rfl) ?_
            refine gx_lald hx hb G 14 (by decide) (rfl) (by decide) i rfl (by omega) dX0_sweepLine_116 ?_
            refine lv_lmul hx hb dX0_sweepLine_117 ?_
            refine lv_lload hx hb dX0_sweepLine_118 (lv_at hl 6 rfl) ?_
            refine lv_aload_n hx hb dX0_sweepLine_120 rfl (lv_at hl 0 rfl) ?_
            refine gx_get hx hb hts hinX0 hown G 4 (by decide) rfl rfl 1 (by decide) rfl lk16 rfl (v := .ref (ad 14)) rfl dX0_sweepLine_121 ?_
            refine lv_iload_n hx hb dX0_sweepLine_124 rfl (lv_at hl 2 rfl) ?_
            refine gx_lald hx hb G 14 (by decide) (rfl) (by decide) r0 rfl (by omega) dX0_sweepLine_125 ?_
            refine lv_lmul hx hb dX0_sweepLine_126 ?_
            refine lv_lsub hx hb dX0_sweepLine_127 ?_
            refine lv_lload hx hb dX0_sweepLine_128 (lv_at hl 4 rfl) ?_
            refine lv_ldiv hx hb dX0_sweepLine_130 (c24) ?_
            refine gx_last hx hb G 14 (by decide) (rfl) (by decide) i rfl (by omega) dX0_sweepLine_131 (fun H locs G => ?_)
            refine lv_aload_n hx hb dX0_sweepLine_132 rfl (lv_at hl 0 rfl) ?_
            refine gx_get hx hb hts hinX0 hown G 4 (by decide) rfl rfl 0 (by decide) rfl lk13 rfl (v := .ref (ad 13)) rfl dX0_sweepLine_133 ?_
            refine lv_iload_n hx hb dX0_sweepLine_136 rfl (lv_at hl 1 rfl) ?_
            refine gx_aald hx hb G 13 (by decide) rfl (Or.inr rfl) (by decide) i rfl (by omega) dX0_sweepLine_137 ?_
            refine lv_iload_n hx hb dX0_sweepLine_138 rfl (lv_at hl 3 rfl) ?_
            refine lv_lload hx hb dX0_sweepLine_139 (lv_at hl 5 rfl) ?_
            refine lv_lconst (v := 0) hx hb dX0_sweepLine_141 (by decide) ?_
            refine gx_lc_ge (tgt := 151) hx hb dX0_sweepLine_142 dX0_sweepLine_143 (by decide) (fun c143 => ?_) (fun c143 => ?_)
            · skip
              refine lv_lload hx hb dX0_sweepLine_151 (lv_at hl 6 rfl) ?_
              refine lv_lneg hx hb dX0_sweepLine_153 ?_
              refine gx_last hx hb G (48 + i) (by omega) (gsh_T _ (by omega)) (by decide) s0 rfl (by omega) dX0_sweepLine_154 (fun H locs G => ?_)
              exact gx_vr hx hb hr hlocks G hQ (by rw [show r = nc by omega]; simp only [d_sweep, d_swF, d_swR, c24, c31, c52, c143, reduceIte]) dX0_sweepLine_155
            · skip
              refine lv_lload hx hb dX0_sweepLine_146 (lv_at hl 6 rfl) ?_
              refine lv_goto (tgt := 154) hx hb dX0_sweepLine_148 (by decide) ?_
              refine gx_last hx hb G (48 + i) (by omega) (gsh_T _ (by omega)) (by decide) s0 rfl (by omega) dX0_sweepLine_154 (fun H locs G => ?_)
              exact gx_vr hx hb hr hlocks G hQ (by rw [show r = nc by omega]; simp only [d_sweep, d_swF, d_swR, c24, c31, c52, c143, reduceIte]) dX0_sweepLine_155
          · skip
            have n52 := gn_nle (X := nc) (Y := r) hnc rfl (by omega) (by omega) c52
            refine lv_iload hx hb dX0_sweepLine_55 (lv_at hl 7 rfl) ?_
            refine lv_iload_n hx hb dX0_sweepLine_57 rfl (lv_at hl 3 rfl) ?_
            refine lv_icmp_eq (tgt := 98) hx hb dX0_sweepLine_58 (by decide) (fun c58 => ?_) (fun c58 => ?_)
            · skip
              have n58 := gn_eq (X := r) (Y := s0) rfl rfl (by omega) (by omega) c58
              refine lv_iinc (v := (nI (r + 1))) (lv' := [(10, .int (nI (r + 1))), (0, .ref (ad 4)), (1, .int (nI i)), (2, .int (nI r0)), (3, .int (nI s0)), (4, .long dv), (6, .long (b (48 + r0) s0)), (8, .long (b (48 + i) s0))]) hx hb dX0_sweepLine_98 hl (k := 7) rfl (gn_add (X := r) (Y := 1) rfl rfl) (by decide) rfl (fun ls hl => ?_)
              refine lv_goto (tgt := 46) hx hb dX0_sweepLine_101 (by decide) ?_
              exact ih46  (r + 1) _ _ _ (by omega) (by omega) (gg_eq G rfl rfl rfl (by first | rfl | (simp only [d_swL, c52, c58, reduceIte]; done) | (simp [d_swL, c52, c58, reduceIte]; done))) (lv_sub hl [1, 2, 3, 4, 5, 6, 7, 0] rfl)
            · skip
              have n58 := gn_neq (X := r) (Y := s0) rfl rfl (by omega) (by omega) c58
              refine lv_aload_n hx hb dX0_sweepLine_61 rfl (lv_at hl 0 rfl) ?_
              refine gx_get hx hb hts hinX0 hown G 4 (by decide) rfl rfl 0 (by decide) rfl lk13 rfl (v := .ref (ad 13)) rfl dX0_sweepLine_62 ?_
              refine lv_iload_n hx hb dX0_sweepLine_65 rfl (lv_at hl 1 rfl) ?_
              refine gx_aald hx hb G 13 (by decide) rfl (Or.inr rfl) (by decide) i rfl (by omega) dX0_sweepLine_66 ?_
              refine lv_iload hx hb dX0_sweepLine_67 (lv_at hl 7 rfl) ?_
              refine lv_lload hx hb dX0_sweepLine_69 (lv_at hl 5 rfl) ?_
              refine lv_aload_n hx hb dX0_sweepLine_71 rfl (lv_at hl 0 rfl) ?_
              refine gx_get hx hb hts hinX0 hown G 4 (by decide) rfl rfl 0 (by decide) rfl lk13 rfl (v := .ref (ad 13)) rfl dX0_sweepLine_72 ?_
              refine lv_iload_n hx hb dX0_sweepLine_75 rfl (lv_at hl 1 rfl) ?_
              refine gx_aald hx hb G 13 (by decide) rfl (Or.inr rfl) (by decide) i rfl (by omega) dX0_sweepLine_76 ?_
              refine lv_iload hx hb dX0_sweepLine_77 (lv_at hl 7 rfl) ?_
              refine gx_lald hx hb G (48 + i) (by omega) (gsh_T _ (by omega)) (by decide) r rfl (by omega) dX0_sweepLine_79 ?_
              refine lv_lmul hx hb dX0_sweepLine_80 ?_
              refine lv_lload hx hb dX0_sweepLine_81 (lv_at hl 6 rfl) ?_
              refine lv_aload_n hx hb dX0_sweepLine_83 rfl (lv_at hl 0 rfl) ?_
              refine gx_get hx hb hts hinX0 hown G 4 (by decide) rfl rfl 0 (by decide) rfl lk13 rfl (v := .ref (ad 13)) rfl dX0_sweepLine_84 ?_
              refine lv_iload_n hx hb dX0_sweepLine_87 rfl (lv_at hl 2 rfl) ?_
              refine gx_aald hx hb G 13 (by decide) rfl (Or.inr rfl) (by decide) r0 rfl (by omega) dX0_sweepLine_88 ?_
              refine lv_iload hx hb dX0_sweepLine_89 (lv_at hl 7 rfl) ?_
              refine gx_lald hx hb G (48 + r0) (by omega) (gsh_T _ (by omega)) (by decide) r rfl (by omega) dX0_sweepLine_91 ?_
              refine lv_lmul hx hb dX0_sweepLine_92 ?_
              refine lv_lsub hx hb dX0_sweepLine_93 ?_
              refine lv_lload hx hb dX0_sweepLine_94 (lv_at hl 4 rfl) ?_
              refine lv_ldiv hx hb dX0_sweepLine_96 (c24) ?_
              refine gx_last hx hb G (48 + i) (by omega) (gsh_T _ (by omega)) (by decide) r rfl (by omega) dX0_sweepLine_97 (fun H locs G => ?_)
              refine lv_iinc (v := (nI (r + 1))) (lv' := [(10, .int (nI (r + 1))), (0, .ref (ad 4)), (1, .int (nI i)), (2, .int (nI r0)), (3, .int (nI s0)), (4, .long dv), (6, .long (b (48 + r0) s0)), (8, .long (b (48 + i) s0))]) hx hb dX0_sweepLine_98 hl (k := 7) rfl (gn_add (X := r) (Y := 1) rfl rfl) (by decide) rfl (fun ls hl => ?_)
              refine lv_goto (tgt := 46) hx hb dX0_sweepLine_101 (by decide) ?_
              exact ih46  (r + 1) _ _ _ (by omega) (by omega) (gg_eq G rfl rfl rfl (by first | rfl | (simp only [d_swL, c52, c58, reduceIte]; done) | (simp [d_swL, c52, c58, reduceIte]; done))) (lv_sub hl [1, 2, 3, 4, 5, 6, 7, 0] rfl)
      have q10 : 0 = nI 0 := by first | rfl | (simp only [d_swL, c24, c31, reduceIte]; done) | (simp [d_swL, c24, c31, reduceIte]; done)
      rw [q10] at hl
      exact K46 (nc - 0 + 1) 0 _ _ _ (by omega) (Nat.lt_succ_self _) (gg_eq G rfl rfl rfl (by first | rfl | (simp only [d_swL, c24, c31, reduceIte]; done) | (simp [d_swL, c24, c31, reduceIte]; done))) (lv_sub hl [3, 4, 5, 6, 7, 2, 1, 0] rfl)
    · skip
      refine lv_lload hx hb dX0_sweepLine_34 (lv_at hl 1 rfl) ?_
      refine lv_lload hx hb dX0_sweepLine_36 (lv_at hl 6 rfl) ?_
      refine gx_lc_ne (tgt := 43) hx hb dX0_sweepLine_38 dX0_sweepLine_39 (by decide) (fun c39 => ?_) (fun c39 => ?_)
      · skip
        refine lv_iconst (v := 0) hx hb dX0_sweepLine_43 (by decide) ?_
        refine lv_istore (lv' := [(10, .int 0), (8, .long (b (48 + i) s0)), (6, .long (b (48 + r0) s0)), (0, .ref (ad 4)), (1, .int (nI i)), (2, .int (nI r0)), (3, .int (nI s0)), (4, .long dv)]) hx hb dX0_sweepLine_44 hl (by decide) rfl (fun ls hl => ?_)
        have K46 : ∀ (nf : Nat) (r : Nat) (H : Heap) (locs : List Loc) (ls : Array Slot), (r ≤ nc) → nc - r < nf → GG D ad cy A s I J a (d_swL b i r0 s0 (b (48 + r0) s0) (b (48 + i) s0) dv r) H locs → lv_has ls 11 [(0, .ref (ad 4)), (1, .int (nI i)), (2, .int (nI r0)), (3, .int (nI s0)), (4, .long dv), (6, .long (b (48 + r0) s0)), (8, .long (b (48 + i) s0)), (10, .int (nI r))] → W p l e ({ frames := 0, cells := 0, slots := 0, locals := 0 }) s m args below meth c H locs 0 0 Q (F0 m 46 ls []) := by
          intro nf
          induction nf with
          | zero => exact fun _ _ _ _ _ hz => absurd hz (Nat.not_lt_zero _)
          | succ nf ih =>
            intro r H locs ls h1 hmeas G hl
            have ih46 := ih
            clear ih
            refine lv_iload hx hb dX0_sweepLine_46 (lv_at hl 7 rfl) ?_
            refine lv_aload_n hx hb dX0_sweepLine_48 rfl (lv_at hl 0 rfl) ?_
            refine gx_get hx hb hts hinX0 hown G 4 (by decide) rfl rfl 8 (by decide) rfl lk44 rfl (v := .int (I 4 8)) rfl dX0_sweepLine_49 ?_
            refine lv_icmp_ge (tgt := 104) hx hb dX0_sweepLine_52 (by decide) (fun c52 => ?_) (fun c52 => ?_)
            · skip
              have n52 := gn_le (X := nc) (Y := r) hnc rfl (by omega) (by omega) c52
              refine lv_aload_n hx hb dX0_sweepLine_104 rfl (lv_at hl 0 rfl) ?_
              refine gx_get hx hb hts hinX0 hown G 4 (by decide) rfl rfl 1 (by decide) rfl lk16 rfl (v := .ref (ad 14)) rfl dX0_sweepLine_105 ?_
              refine lv_iload_n hx hb dX0_sweepLine_108 rfl (lv_at hl 1 rfl) ?_
              refine lv_lload hx hb dX0_sweepLine_109 (lv_at hl 5 rfl) ?_
              refine lv_aload_n hx hb dX0_sweepLine_111 rfl (lv_at hl 0 rfl) ?_
              refine gx_get hx hb hts hinX0 hown G 4 (by decide) rfl rfl 1 (by decide) rfl lk16 rfl (v := .ref (ad 14)) rfl dX0_sweepLine_112 ?_
              refine lv_iload_n hx hb dX0_sweepLine_115 rfl (lv_at hl 1 rfl) ?_
              refine gx_lald hx hb G 14 (by decide) (rfl) (by decide) i rfl (by omega) dX0_sweepLine_116 ?_
              refine lv_lmul hx hb dX0_sweepLine_117 ?_
              refine lv_lload hx hb dX0_sweepLine_118 (lv_at hl 6 rfl) ?_
              refine lv_aload_n hx hb dX0_sweepLine_120 rfl (lv_at hl 0 rfl) ?_
              refine gx_get hx hb hts hinX0 hown G 4 (by decide) rfl rfl 1 (by decide) rfl lk16 rfl (v := .ref (ad 14)) rfl dX0_sweepLine_121 ?_
              refine lv_iload_n hx hb dX0_sweepLine_124 rfl (lv_at hl 2 rfl) ?_
              refine gx_lald hx hb G 14 (by decide) (rfl) (by decide) r0 rfl (by omega) dX0_sweepLine_125 ?_
              refine lv_lmul hx hb dX0_sweepLine_126 ?_
              refine lv_lsub hx hb dX0_sweepLine_127 ?_
              refine lv_lload hx hb dX0_sweepLine_128 (lv_at hl 4 rfl) ?_
              refine lv_ldiv hx hb dX0_sweepLine_130 (c24) ?_
              refine gx_last hx hb G 14 (by decide) (rfl) (by decide) i rfl (by omega) dX0_sweepLine_131 (fun H locs G => ?_)
              refine lv_aload_n hx hb dX0_sweepLine_132 rfl (lv_at hl 0 rfl) ?_
              refine gx_get hx hb hts hinX0 hown G 4 (by decide) rfl rfl 0 (by decide) rfl lk13 rfl (v := .ref (ad 13)) rfl dX0_sweepLine_133 ?_
              refine lv_iload_n hx hb dX0_sweepLine_136 rfl (lv_at hl 1 rfl) ?_
              refine gx_aald hx hb G 13 (by decide) rfl (Or.inr rfl) (by decide) i rfl (by omega) dX0_sweepLine_137 ?_
              refine lv_iload_n hx hb dX0_sweepLine_138 rfl (lv_at hl 3 rfl) ?_
              refine lv_lload hx hb dX0_sweepLine_139 (lv_at hl 5 rfl) ?_
              refine lv_lconst (v := 0) hx hb dX0_sweepLine_141 (by decide) ?_
              refine gx_lc_ge (tgt := 151) hx hb dX0_sweepLine_142 dX0_sweepLine_143 (by decide) (fun c143 => ?_) (fun c143 => ?_)
              · skip
                refine lv_lload hx hb dX0_sweepLine_151 (lv_at hl 6 rfl) ?_
                refine lv_lneg hx hb dX0_sweepLine_153 ?_
                refine gx_last hx hb G (48 + i) (by omega) (gsh_T _ (by omega)) (by decide) s0 rfl (by omega) dX0_sweepLine_154 (fun H locs G => ?_)
                exact gx_vr hx hb hr hlocks G hQ (by rw [show r = nc by omega]; simp only [d_sweep, d_swF, d_swR, c24, c31, c39, c52, c143, reduceIte]) dX0_sweepLine_155
              · skip
                refine lv_lload hx hb dX0_sweepLine_146 (lv_at hl 6 rfl) ?_
                refine lv_goto (tgt := 154) hx hb dX0_sweepLine_148 (by decide) ?_
                refine gx_last hx hb G (48 + i) (by omega) (gsh_T _ (by omega)) (by decide) s0 rfl (by omega) dX0_sweepLine_154 (fun H locs G => ?_)
                exact gx_vr hx hb hr hlocks G hQ (by rw [show r = nc by omega]; simp only [d_sweep, d_swF, d_swR, c24, c31, c39, c52, c143, reduceIte]) dX0_sweepLine_155
            · skip
              have n52 := gn_nle (X := nc) (Y := r) hnc rfl (by omega) (by omega) c52
              refine lv_iload hx hb dX0_sweepLine_55 (lv_at hl 7 rfl) ?_
              refine lv_iload_n hx hb dX0_sweepLine_57 rfl (lv_at hl 3 rfl) ?_
              refine lv_icmp_eq (tgt := 98) hx hb dX0_sweepLine_58 (by decide) (fun c58 => ?_) (fun c58 => ?_)
              · skip
                have n58 := gn_eq (X := r) (Y := s0) rfl rfl (by omega) (by omega) c58
                refine lv_iinc (v := (nI (r + 1))) (lv' := [(10, .int (nI (r + 1))), (0, .ref (ad 4)), (1, .int (nI i)), (2, .int (nI r0)), (3, .int (nI s0)), (4, .long dv), (6, .long (b (48 + r0) s0)), (8, .long (b (48 + i) s0))]) hx hb dX0_sweepLine_98 hl (k := 7) rfl (gn_add (X := r) (Y := 1) rfl rfl) (by decide) rfl (fun ls hl => ?_)
                refine lv_goto (tgt := 46) hx hb dX0_sweepLine_101 (by decide) ?_
                exact ih46  (r + 1) _ _ _ (by omega) (by omega) (gg_eq G rfl rfl rfl (by first | rfl | (simp only [d_swL, c52, c58, reduceIte]; done) | (simp [d_swL, c52, c58, reduceIte]; done))) (lv_sub hl [1, 2, 3, 4, 5, 6, 7, 0] rfl)
              · skip
                have n58 := gn_neq (X := r) (Y := s0) rfl rfl (by omega) (by omega) c58
                refine lv_aload_n hx hb dX0_sweepLine_61 rfl (lv_at hl 0 rfl) ?_
                refine gx_get hx hb hts hinX0 hown G 4 (by decide) rfl rfl 0 (by decide) rfl lk13 rfl (v := .ref (ad 13)) rfl dX0_sweepLine_62 ?_
                refine lv_iload_n hx hb dX0_sweepLine_65 rfl (lv_at hl 1 rfl) ?_
                refine gx_aald hx hb G 13 (by decide) rfl (Or.inr rfl) (by decide) i rfl (by omega) dX0_sweepLine_66 ?_
                refine lv_iload hx hb dX0_sweepLine_67 (lv_at hl 7 rfl) ?_
                refine lv_lload hx hb dX0_sweepLine_69 (lv_at hl 5 rfl) ?_
                refine lv_aload_n hx hb dX0_sweepLine_71 rfl (lv_at hl 0 rfl) ?_
                refine gx_get hx hb hts hinX0 hown G 4 (by decide) rfl rfl 0 (by decide) rfl lk13 rfl (v := .ref (ad 13)) rfl dX0_sweepLine_72 ?_
                refine lv_iload_n hx hb dX0_sweepLine_75 rfl (lv_at hl 1 rfl) ?_
                refine gx_aald hx hb G 13 (by decide) rfl (Or.inr rfl) (by decide) i rfl (by omega) dX0_sweepLine_76 ?_
                refine lv_iload hx hb dX0_sweepLine_77 (lv_at hl 7 rfl) ?_
                refine gx_lald hx hb G (48 + i) (by omega) (gsh_T _ (by omega)) (by decide) r rfl (by omega) dX0_sweepLine_79 ?_
                refine lv_lmul hx hb dX0_sweepLine_80 ?_
                refine lv_lload hx hb dX0_sweepLine_81 (lv_at hl 6 rfl) ?_
                refine lv_aload_n hx hb dX0_sweepLine_83 rfl (lv_at hl 0 rfl) ?_
                refine gx_get hx hb hts hinX0 hown G 4 (by decide) rfl rfl 0 (by decide) rfl lk13 rfl (v := .ref (ad 13)) rfl dX0_sweepLine_84 ?_
                refine lv_iload_n hx hb dX0_sweepLine_87 rfl (lv_at hl 2 rfl) ?_
                refine gx_aald hx hb G 13 (by decide) rfl (Or.inr rfl) (by decide) r0 rfl (by omega) dX0_sweepLine_88 ?_
                refine lv_iload hx hb dX0_sweepLine_89 (lv_at hl 7 rfl) ?_
                refine gx_lald hx hb G (48 + r0) (by omega) (gsh_T _ (by omega)) (by decide) r rfl (by omega) dX0_sweepLine_91 ?_
                refine lv_lmul hx hb dX0_sweepLine_92 ?_
                refine lv_lsub hx hb dX0_sweepLine_93 ?_
                refine lv_lload hx hb dX0_sweepLine_94 (lv_at hl 4 rfl) ?_
                refine lv_ldiv hx hb dX0_sweepLine_96 (c24) ?_
                refine gx_last hx hb G (48 + i) (by omega) (gsh_T _ (by omega)) (by decide) r rfl (by omega) dX0_sweepLine_97 (fun H locs G => ?_)
                refine lv_iinc (v := (nI (r + 1))) (lv' := [(10, .int (nI (r + 1))), (0, .ref (ad 4)), (1, .int (nI i)), (2, .int (nI r0)), (3, .int (nI s0)), (4, .long dv), (6, .long (b (48 + r0) s0)), (8, .long (b (48 + i) s0))]) hx hb dX0_sweepLine_98 hl (k := 7) rfl (gn_add (X := r) (Y := 1) rfl rfl) (by decide) rfl (fun ls hl => ?_)
                refine lv_goto (tgt := 46) hx hb dX0_sweepLine_101 (by decide) ?_
                exact ih46  (r + 1) _ _ _ (by omega) (by omega) (gg_eq G rfl rfl rfl (by first | rfl | (simp only [d_swL, c52, c58, reduceIte]; done) | (simp [d_swL, c52, c58, reduceIte]; done))) (lv_sub hl [1, 2, 3, 4, 5, 6, 7, 0] rfl)
        have q10 : 0 = nI 0 := by first | rfl | (simp only [d_swL, c24, c31, c39, reduceIte]; done) | (simp [d_swL, c24, c31, c39, reduceIte]; done)
        rw [q10] at hl
        exact K46 (nc - 0 + 1) 0 _ _ _ (by omega) (Nat.lt_succ_self _) (gg_eq G rfl rfl rfl (by first | rfl | (simp only [d_swL, c24, c31, c39, reduceIte]; done) | (simp [d_swL, c24, c31, c39, reduceIte]; done))) (lv_sub hl [3, 4, 5, 6, 7, 2, 1, 0] rfl)
      · skip
        exact gx_vr hx hb hr hlocks G hQ (by simp only [d_sweep, c24, c31, c39, reduceIte]) dX0_sweepLine_42

set_option maxHeartbeats 4000000 in
set_option maxRecDepth 100000 in
theorem kX0_firstStop (l : Launch) (D : va_G) (ad : Nat → Nat) (cy : Nat → ClassId) (I : gF) (J : gL) (a : gF) (b : gL) (sz : Nat) (nl s0 : Nat) (hnl : I 4 7 = nI nl) (hnl2 : nl ≤ 21) (hs0 : s0 < 5) : gMi l yX0_firstStop wsX0_firstStop ({ frames := 1, cells := 0, slots := 0, locals := 27 }) D ad cy I J a b sz [.ref (ad 4), .int (nI s0)] (fun r u => r = d_stop a b s0 nl ∧ u = (I, J, a, b)) := by
  refine Met.ofW (cc := cX0_firstStop) (maxL := 4) (ret := some .int) (by decide) rfl ?_
  intro p e s m args below meth c s₁ B hml hv
  obtain ⟨hargs, hsz, G⟩ := gx_begin hv
  subst hsz
  have hx := B.exec
  have hb := B.bytes
  have hr := B.returns
  have hts := atoms_spec (ws := wsX0_firstStop) B.pre
  have hown : s.vm.findClass RX0 = some m.cls := findClass_of_methodNamed B.named
  have hlocks := B.notSynchronized
  have hinX0 : ∀ w ∈ wsX00, w ∈ wsX0_firstStop := by decide +kernel
  have lk13 := hts (.fieldLink RX0 13 "ExactSimplex$Dictionary" "table" "[[J") (by decide +kernel)
  have lk48 := hts (.fieldLink RX0 48 "ExactSimplex$Dictionary" "lines" "I") (by decide +kernel)
  have hl := lv_entry ([.ref (ad 4), .int (nI s0)]) (n := 4) (Nat.le_of_ble_eq_true rfl)
  have hent := lg_entry_eq m ([.ref (ad 4), .int (nI s0)]) 4
  rw [← hargs] at hent
  rw [hent]
  clear hent
  generalize (lg_sl ([.ref (ad 4), .int (nI s0)]) ++ List.replicate (4 - (lg_sl ([.ref (ad 4), .int (nI s0)])).length) Slot.unset).toArray = ls at hl ⊢
  have hl : lv_has ls 4 [(0, .ref (ad 4)), (1, .int (nI s0))] := hl
  generalize hA : gA ad s.heap.size = A at G ⊢
  generalize hH : s.heap = H at G ⊢
  refine gx_q (fun Q hQ => ?_)
  refine lv_iconst (v := -1) hx hb dX0_firstStop_0 (by decide) ?_
  refine lv_istore_n (lv' := [(2, .int (-1)), (0, .ref (ad 4)), (1, .int (nI s0))]) hx hb dX0_firstStop_1 rfl hl (by decide) rfl (fun ls hl => ?_)
  refine lv_iconst (v := 0) hx hb dX0_firstStop_2 (by decide) ?_
  refine lv_istore_n (lv' := [(3, .int 0), (2, .int (-1)), (0, .ref (ad 4)), (1, .int (nI s0))]) hx hb dX0_firstStop_3 rfl hl (by decide) rfl (fun ls hl => ?_)
  have K4 : ∀ (nf : Nat) (r : Nat) (H : Heap) (locs : List Loc) (ls : Array Slot), (r ≤ nl) → nl - r < nf → GG D ad cy A s I J a b H locs → lv_has ls 4 [(0, .ref (ad 4)), (1, .int (nI s0)), (2, .int (d_stop a b s0 r)), (3, .int (nI r))] → W p l e ({ frames := 1, cells := 0, slots := 0, locals := 27 }) s m args below meth c H locs 0 0 Q (F0 m 4 ls []) := by
    intro nf
    induction nf with
    | zero => exact fun _ _ _ _ _ hz => absurd hz (Nat.not_lt_zero _)
    | succ nf ih =>
      intro r H locs ls h1 hmeas G hl
      have ih4 := ih
      clear ih
      refine lv_iload_n hx hb dX0_firstStop_4 rfl (lv_at hl 3 rfl) ?_
      refine lv_aload_n hx hb dX0_firstStop_5 rfl (lv_at hl 0 rfl) ?_
      refine gx_get hx hb hts hinX0 hown G 4 (by decide) rfl rfl 7 (by decide) rfl lk48 rfl (v := .int (I 4 7)) rfl dX0_firstStop_6 ?_
      refine lv_icmp_ge (tgt := 47) hx hb dX0_firstStop_9 (by decide) (fun c9 => ?_) (fun c9 => ?_)
      · skip
        have n9 := gn_le (X := nl) (Y := r) hnl rfl (by omega) (by omega) c9
        refine lv_iload_n hx hb dX0_firstStop_47 rfl (lv_at hl 2 rfl) ?_
        exact gx_ir hx hb hr hlocks G hQ ⟨by first | rfl | (simp only [d_stop, c9, reduceIte]; done) | (rw [show nl = r by omega]; done) | (rw [show nl = r by omega]; simp only [d_stop, c9, reduceIte]; done) | (simp [d_stop, c9, reduceIte]; done), rfl⟩ dX0_firstStop_48
      · skip
        have n9 := gn_nle (X := nl) (Y := r) hnl rfl (by omega) (by omega) c9
        refine lv_aload_n hx hb dX0_firstStop_12 rfl (lv_at hl 0 rfl) ?_
        refine gx_get hx hb hts hinX0 hown G 4 (by decide) rfl rfl 0 (by decide) rfl lk13 rfl (v := .ref (ad 13)) rfl dX0_firstStop_13 ?_
        refine lv_iload_n hx hb dX0_firstStop_16 rfl (lv_at hl 3 rfl) ?_
        refine gx_aald hx hb G 13 (by decide) rfl (Or.inr rfl) (by decide) r rfl (by omega) dX0_firstStop_17 ?_
        refine lv_iload_n hx hb dX0_firstStop_18 rfl (lv_at hl 1 rfl) ?_
        refine gx_lald hx hb G (48 + r) (by omega) (gsh_T _ (by omega)) (by decide) s0 rfl (by omega) dX0_firstStop_19 ?_
        refine lv_lconst (v := 0) hx hb dX0_firstStop_20 (by decide) ?_
        refine gx_lc_le (tgt := 41) hx hb dX0_firstStop_21 dX0_firstStop_22 (by decide) (fun c22 => ?_) (fun c22 => ?_)
        · skip
          refine lv_iinc (v := (nI (r + 1))) (lv' := [(3, .int (nI (r + 1))), (0, .ref (ad 4)), (1, .int (nI s0)), (2, .int (d_stop a b s0 r))]) hx hb dX0_firstStop_41 hl (k := 3) rfl (gn_add (X := r) (Y := 1) rfl rfl) (by decide) rfl (fun ls hl => ?_)
          refine lv_goto (tgt := 4) hx hb dX0_firstStop_44 (by decide) ?_
          have q2 : d_stop a b s0 r = d_stop a b s0 (r + 1) := by first | rfl | (simp only [d_stop, c9, c22, reduceIte]; done) | (rw [show nl = r by omega]; done) | (rw [show nl = r by omega]; simp only [d_stop, c9, c22, reduceIte]; done) | (simp [d_stop, c9, c22, reduceIte]; done)
          rw [q2] at hl
          exact ih4  (r + 1) _ _ _ (by omega) (by omega) G (lv_sub hl [1, 2, 3, 0] rfl)
        · skip
          refine lv_iload_n hx hb dX0_firstStop_25 rfl (lv_at hl 2 rfl) ?_
          refine lv_if_lt (tgt := 39) hx hb dX0_firstStop_26 (by decide) (fun c26 => ?_) (fun c26 => ?_)
          · skip
            refine lv_iload_n hx hb dX0_firstStop_39 rfl (lv_at hl 3 rfl) ?_
            refine lv_istore_n (lv' := [(2, .int (nI r)), (0, .ref (ad 4)), (1, .int (nI s0)), (3, .int (nI r))]) hx hb dX0_firstStop_40 rfl hl (by decide) rfl (fun ls hl => ?_)
            refine lv_iinc (v := (nI (r + 1))) (lv' := [(3, .int (nI (r + 1))), (2, .int (nI r)), (0, .ref (ad 4)), (1, .int (nI s0))]) hx hb dX0_firstStop_41 hl (k := 3) rfl (gn_add (X := r) (Y := 1) rfl rfl) (by decide) rfl (fun ls hl => ?_)
            refine lv_goto (tgt := 4) hx hb dX0_firstStop_44 (by decide) ?_
            have q2 : nI r = d_stop a b s0 (r + 1) := by first | rfl | (simp only [d_stop, c9, c22, c26, reduceIte]; done) | (rw [show nl = r by omega]; done) | (rw [show nl = r by omega]; simp only [d_stop, c9, c22, c26, reduceIte]; done) | (simp [d_stop, c9, c22, c26, reduceIte]; done)
            rw [q2] at hl
            exact ih4  (r + 1) _ _ _ (by omega) (by omega) G (lv_sub hl [2, 3, 1, 0] rfl)
          · skip
            obtain ⟨jb, hjb, ejb⟩ := (d_stop_ix a b s0 r).resolve_left c26
            have ecl := gx_clamp ejb (by omega)
            refine lv_aload_n hx hb dX0_firstStop_29 rfl (lv_at hl 0 rfl) ?_
            refine lv_iload_n hx hb dX0_firstStop_30 rfl (lv_at hl 3 rfl) ?_
            refine lv_iload_n hx hb dX0_firstStop_31 rfl (lv_at hl 2 rfl) ?_
            refine lv_iload_n hx hb dX0_firstStop_32 rfl (lv_at hl 1 rfl) ?_
            rw [ejb]
            refine gx_dVi (v := (d_stops a b r jb s0)) (I1 := I) (J1 := J) (a1 := a) (b1 := b) (As := [.int (nI r), .int (nI jb), .int (nI s0)]) (rest := []) ⟨hx, hb, hml, hown, hts⟩ G 4 (kX0_stopsBefore l D ad cy I J a b H.size r jb s0 (by omega) (by omega) hs0) (cwV 3 hts gX0_firstStop_X0_stopsBefore rfl rfl rfl (by decide +kernel) ⟨Nat.le_of_ble_eq_true rfl, Nat.le_of_ble_eq_true rfl⟩) (by decide) rfl rfl rfl rfl hl.1 rfl (Nat.le_of_ble_eq_true rfl) ⟨Nat.zero_le _, Nat.zero_le _⟩ dX0_firstStop_33 (fun H locs G => ?_)
            refine lv_if_eq (tgt := 41) hx hb dX0_firstStop_36 (by decide) (fun c36 => ?_) (fun c36 => ?_)
            · skip
              refine lv_iinc (v := (nI (r + 1))) (lv' := [(3, .int (nI (r + 1))), (0, .ref (ad 4)), (1, .int (nI s0)), (2, .int (d_stop a b s0 r))]) hx hb dX0_firstStop_41 hl (k := 3) rfl (gn_add (X := r) (Y := 1) rfl rfl) (by decide) rfl (fun ls hl => ?_)
              refine lv_goto (tgt := 4) hx hb dX0_firstStop_44 (by decide) ?_
              have q2 : d_stop a b s0 r = d_stop a b s0 (r + 1) := by first | rfl | (simp only [d_stop, c9, c22, c26, ecl, c36, reduceIte]; done) | (rw [show nl = r by omega]; done) | (rw [show nl = r by omega]; simp only [d_stop, c9, c22, c26, ecl, c36, reduceIte]; done) | (simp [d_stop, c9, c22, c26, ecl, c36, reduceIte]; done)
              rw [q2] at hl
              exact ih4  (r + 1) _ _ _ (by omega) (by omega) G (lv_sub hl [1, 2, 3, 0] rfl)
            · skip
              refine lv_iload_n hx hb dX0_firstStop_39 rfl (lv_at hl 3 rfl) ?_
              refine lv_istore_n (lv' := [(2, .int (nI r)), (0, .ref (ad 4)), (1, .int (nI s0)), (3, .int (nI r))]) hx hb dX0_firstStop_40 rfl hl (by decide) rfl (fun ls hl => ?_)
              refine lv_iinc (v := (nI (r + 1))) (lv' := [(3, .int (nI (r + 1))), (2, .int (nI r)), (0, .ref (ad 4)), (1, .int (nI s0))]) hx hb dX0_firstStop_41 hl (k := 3) rfl (gn_add (X := r) (Y := 1) rfl rfl) (by decide) rfl (fun ls hl => ?_)
              refine lv_goto (tgt := 4) hx hb dX0_firstStop_44 (by decide) ?_
              have q2 : nI r = d_stop a b s0 (r + 1) := by first | rfl | (simp only [d_stop, c9, c22, c26, ecl, c36, reduceIte]; done) | (rw [show nl = r by omega]; done) | (rw [show nl = r by omega]; simp only [d_stop, c9, c22, c26, ecl, c36, reduceIte]; done) | (simp [d_stop, c9, c22, c26, ecl, c36, reduceIte]; done)
              rw [q2] at hl
              exact ih4  (r + 1) _ _ _ (by omega) (by omega) G (lv_sub hl [2, 3, 1, 0] rfl)
  have q2 : -1 = d_stop a b s0 0 := by first | rfl | (simp only [d_stop, reduceIte]; done) | (rw [show nl = r by omega]; done) | (rw [show nl = r by omega]; simp only [d_stop, reduceIte]; done) | (simp [d_stop, reduceIte]; done)
  rw [q2] at hl
  have q3 : 0 = nI 0 := by first | rfl | (simp only [d_stop, reduceIte]; done) | (rw [show nl = r by omega]; done) | (rw [show nl = r by omega]; simp only [d_stop, reduceIte]; done) | (simp [d_stop, reduceIte]; done)
  rw [q3] at hl
  exact K4 (nl - 0 + 1) 0 _ _ _ (by omega) (Nat.lt_succ_self _) G (lv_sub hl [2, 3, 1, 0] rfl)
