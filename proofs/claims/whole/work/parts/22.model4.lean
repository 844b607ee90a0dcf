/-! The reference: take -/
def m_fu (J b : gL) (i k : Nat) : gL := gU (gU b 37 k (b 89 i)) 38 k (J 5 23)
def m_fs (I : gF) (J b : gL) (i s : Nat) : gL := if I 5 24 = 0 then m_fu J b i ((2 * i) + s) else if nI s = 0 then if 0 ≤ m_cmp (b 89 i) (J 5 23) (b 37 ((2 * i) + s)) (b 38 ((2 * i) + s)) then b else m_fu J b i ((2 * i) + s) else if m_cmp (b 89 i) (J 5 23) (b 37 ((2 * i) + s)) (b 38 ((2 * i) + s)) ≤ 0 then b else m_fu J b i ((2 * i) + s)
def m_fr (I : gF) (J b : gL) (i : Nat) : Nat → gL
  | 0 => b
  | s + 1 => m_fs I J (m_fr I J b i s) i s
def m_t1 (I : gF) (J : gL) (a : gF) (b : gL) : Nat → Int64 × gL
  | 0 => (0, b)
  | i + 1 => ((m_t1 I J a b i).1 + (a 29 i).toInt64 * (m_t1 I J a b i).2 89 i, m_fr I J (m_t1 I J a b i).2 i 2)
def m_tc (I : gF) (J : gL) (x : Int64) : Int32 := if I 5 24 = 0 then -1 else m_cmp x (J 5 23) (J 5 11) (J 5 12)
def m_ru (J b : gL) (i k : Nat) : gL := gU (gU b 35 k (b 89 i)) 36 k (J 5 23)
def m_rs (cv : Int32) (J b : gL) (i s : Nat) : gL := if 0 ≤ cv then if nI s = 0 then if 0 ≤ m_cmp (b 89 i) (J 5 23) (b 35 ((2 * i) + s)) (b 36 ((2 * i) + s)) then b else m_ru J b i ((2 * i) + s) else if m_cmp (b 89 i) (J 5 23) (b 35 ((2 * i) + s)) (b 36 ((2 * i) + s)) ≤ 0 then b else m_ru J b i ((2 * i) + s) else m_ru J b i ((2 * i) + s)
def m_rr (cv : Int32) (J b : gL) (i : Nat) : Nat → gL
  | 0 => b
  | s + 1 => m_rs cv J (m_rr cv J b i s) i s
def m_t2 (cv : Int32) (J b : gL) : Nat → gL
  | 0 => b
  | i + 1 => m_rr cv J (m_t2 cv J b i) i 2
def m_fi (J b : gL) : Nat → Nat → Int32 → Int32
  | 0, _, f => f
  | n + 1, i, f => if f = 0 then m_fi J b n (i + 1) (m_cmp (b 89 i) (J 5 23) (b 34 i) (J 5 14)) else f
theorem m_fi_s (J b : gL) {mn i : Nat} (h : i < mn) (f : Int32) : m_fi J b (mn - i) i f = if f = 0 then m_fi J b (mn - (i + 1)) (i + 1) (m_cmp (b 89 i) (J 5 23) (b 34 i) (J 5 14)) else f := by
  rw [show mn - i = (mn - (i + 1)) + 1 by omega]
  rfl
def m_cpb (b : gL) : Nat → gL
  | 0 => b
  | i + 1 => gU (m_cpb b i) 34 i (m_cpb b i 89 i)
def m_f0 (cv : Int32) : Int32 := if 0 ≤ cv then 0 else -1
def m_tI (I : gF) : gF := gU I 5 24 1
def m_tk0 (I : gF) (J : gL) (a : gF) (b : gL) (mn : Nat) : Int32 := m_tc I J (m_t1 I J a b mn).1
def m_tk2 (I : gF) (J : gL) (a : gF) (b : gL) (mn : Nat) : gL := m_t2 (m_tk0 I J a b mn) J (m_t1 I J a b mn).2 mn
def m_tk1 (I : gF) (J : gL) (a : gF) (b : gL) (mn : Nat) : Int32 := m_fi J (m_tk2 I J a b mn) mn 0 (m_f0 (m_tk0 I J a b mn))
def m_tJ (I : gF) (J : gL) (a : gF) (b : gL) (mn : Nat) : gL := if m_tk0 I J a b mn ≤ 0 then if 0 ≤ m_tk1 I J a b mn then gU (gU J 5 11 (m_t1 I J a b mn).1) 5 12 (J 5 23) else gU (gU (gU J 5 14 (J 5 23)) 5 11 (m_t1 I J a b mn).1) 5 12 (J 5 23) else J
def m_tB (I : gF) (J : gL) (a : gF) (b : gL) (mn : Nat) : gL := if m_tk0 I J a b mn ≤ 0 then if 0 ≤ m_tk1 I J a b mn then m_tk2 I J a b mn else m_cpb (m_tk2 I J a b mn) mn else (m_t1 I J a b mn).2
theorem i32_lt_of {x : Int32} (h : ¬ 0 ≤ x) : x < 0 := Classical.byContradiction fun q => h (i32_nlt.mp q)

set_option maxHeartbeats 4000000 in
set_option maxRecDepth 100000 in
theorem kX5_take (l : Launch) (D : va_G) (ad : Nat → Nat) (cy : Nat → ClassId) (I : gF) (J : gL) (a : gF) (b : gL) (sz : Nat) (mn : Nat) (hmn : I 5 0 = nI mn) (hmn2 : mn ≤ 5) : gMv l yX5_take wsX5_take ({ frames := 1, cells := 0, slots := 0, locals := 31 }) D ad cy I J a b sz [.ref (ad 5)] (fun u => u = (m_tI I, m_tJ I J a b mn, a, m_tB I J a b mn)) := by
  refine Met.ofW (cc := cX5_take) (maxL := 8) (ret := none) (by decide) rfl ?_
  intro p e s m args below meth c s₁ B hml hv
  obtain ⟨hargs, hsz, G⟩ := gx_begin hv
  subst hsz
  have hx := B.exec
  have hb := B.bytes
  have hr := B.returns
  have hts := atoms_spec (ws := wsX5_take) B.pre
  have hown : s.vm.findClass RX5 = some m.cls := findClass_of_methodNamed B.named
  have hlocks := B.notSynchronized
  have hinX5 : ∀ w ∈ wsX50, w ∈ wsX5_take := by decide +kernel
  have lk16 := hts (.fieldLink RX5 16 "ExactSimplexModel" "costs" "[I") (by decide +kernel)
  have lk32 := hts (.fieldLink RX5 32 "ExactSimplexModel" "bestOver" "[J") (by decide +kernel)
  have lk36 := hts (.fieldLink RX5 36 "ExactSimplexModel" "reachOver" "[J") (by decide +kernel)
  have lk39 := hts (.fieldLink RX5 39 "ExactSimplexModel" "reachUnder" "[J") (by decide +kernel)
  have lk42 := hts (.fieldLink RX5 42 "ExactSimplexModel" "farOver" "[J") (by decide +kernel)
  have lk45 := hts (.fieldLink RX5 45 "ExactSimplexModel" "farUnder" "[J") (by decide +kernel)
  have lk57 := hts (.fieldLink RX5 57 "ExactSimplexModel" "over" "[J") (by decide +kernel)
  have lk66 := hts (.fieldLink RX5 66 "ExactSimplexModel" "names" "I") (by decide +kernel)
  have lk74 := hts (.fieldLink RX5 74 "ExactSimplexModel" "under" "J") (by decide +kernel)
  have lk100 := hts (.fieldLink RX5 100 "ExactSimplexModel" "any" "Z") (by decide +kernel)
  have lk108 := hts (.fieldLink RX5 108 "ExactSimplexModel" "costOver" "J") (by decide +kernel)
  have lk111 := hts (.fieldLink RX5 111 "ExactSimplexModel" "costUnder" "J") (by decide +kernel)
  have lk114 := hts (.fieldLink RX5 114 "ExactSimplexModel" "bestUnder" "J") (by decide +kernel)
  have hl := lv_entry ([.ref (ad 5)]) (n := 8) (Nat.le_of_ble_eq_true rfl)
  have hent := lg_entry_eq m ([.ref (ad 5)]) 8
  rw [← hargs] at hent
  rw [hent]
  clear hent
  generalize (lg_sl ([.ref (ad 5)]) ++ List.replicate (8 - (lg_sl ([.ref (ad 5)])).length) Slot.unset).toArray = ls at hl ⊢
  have hl : lv_has ls 8 [(0, .ref (ad 5))] := hl
  generalize hA : gA ad s.heap.size = A at G ⊢
  generalize hH : s.heap = H at G ⊢
  refine gx_q (fun Q hQ => ?_)
  refine lv_lconst (v := 0) hx hb dX5_take_0 (by decide) ?_
  refine lv_lstore_n (lv' := [(1, .long 0), (0, .ref (ad 5))]) hx hb dX5_take_1 rfl hl (by decide) rfl (fun ls hl => ?_)
  refine lv_iconst (v := 0) hx hb dX5_take_2 (by decide) ?_
  refine lv_istore_n (lv' := [(3, .int 0), (1, .long 0), (0, .ref (ad 5))]) hx hb dX5_take_3 rfl hl (by decide) rfl (fun ls hl => ?_)
  have K4 : ∀ (nf : Nat) (r : Nat) (H : Heap) (locs : List Loc) (ls : Array Slot), (r ≤ mn) → mn - r < nf → GG D ad cy A s I J a ((m_t1 I J a b r).2) H locs → lv_has ls 8 [(0, .ref (ad 5)), (1, .long ((m_t1 I J a b r).1)), (3, .int (nI r))] → W p l e ({ frames := 1, cells := 0, slots := 0, locals := 31 }) s m args below meth c H locs 0 0 Q (F0 m 4 ls []) := by
    intro nf
    induction nf with
    | zero => exact fun _ _ _ _ _ hz => absurd hz (Nat.not_lt_zero _)
    | succ nf ih =>
      intro r H locs ls h1 hmeas G hl
      have ih4 := ih
      clear ih
      refine lv_iload_n hx hb dX5_take_4 rfl (lv_at hl 2 rfl) ?_
      refine lv_aload_n hx hb dX5_take_5 rfl (lv_at hl 0 rfl) ?_
      refine gx_get hx hb hts hinX5 hown G 5 (by decide) rfl rfl 0 (by decide) rfl lk66 rfl (v := .int (I 5 0)) rfl dX5_take_6 ?_
      refine lv_icmp_ge (tgt := 147) hx hb dX5_take_9 (by decide) (fun c9 => ?_) (fun c9 => ?_)
      · skip
        have n9 := gn_le (X := mn) (Y := r) hmn rfl (by omega) (by omega) c9
        have hex : r = mn := by omega
        rw [hex] at hl
        rw [hex] at G
        refine lv_aload_n hx hb dX5_take_147 rfl (lv_at hl 0 rfl) ?_
        refine gx_get hx hb hts hinX5 hown G 5 (by decide) rfl rfl 24 (by decide) rfl lk100 rfl (v := .int (I 5 24)) rfl dX5_take_148 ?_
        refine lv_if_eq (tgt := 173) hx hb dX5_take_151 (by decide) (fun c151 => ?_) (fun c151 => ?_)
        · skip
          refine lv_iconst (v := -1) hx hb dX5_take_173 (by decide) ?_
          refine lv_istore_n (lv' := [(3, .int (-1)), (0, .ref (ad 5)), (1, .long ((m_t1 I J a b mn).1))]) hx hb dX5_take_174 rfl hl (by decide) rfl (fun ls hl => ?_)
          obtain ⟨cv, ecv⟩ : ∃ z, z = m_tk0 I J a b mn := ⟨_, rfl⟩
          have e3 : (-1) = cv := by rw [ecv]; unfold m_tk0 m_tc; (repeat (first | rw [if_pos c9] | rw [if_pos c151]))
          rw [e3] at hl
          refine lv_aload_n hx hb dX5_take_175 rfl (lv_at hl 1 rfl) ?_
          refine lv_iconst (v := 1) hx hb dX5_take_176 (by decide) ?_
          refine gx_putI hx hb hts hinX5 tyX5 tyX5_ok nmX5 hown G 5 (by decide) rfl rfl 24 (by decide) rfl lk100 rfl rfl (tyX5_ok 24 (by decide)) (rfl) (rfl) dX5_take_177 (fun H locs G => ?_)
          refine lv_iload_n hx hb dX5_take_180 rfl (lv_at hl 0 rfl) ?_
          refine lv_if_le (tgt := 185) hx hb dX5_take_181 (by decide) (fun c181 => ?_) (fun c181 => ?_)
          · skip
            refine lv_iconst (v := 0) hx hb dX5_take_185 (by decide) ?_
            refine lv_istore (lv' := [(4, .int 0), (3, .int cv), (0, .ref (ad 5)), (1, .long ((m_t1 I J a b mn).1))]) hx hb dX5_take_186 hl (by decide) rfl (fun ls hl => ?_)
            have K188 : ∀ (nf : Nat) (i : Nat) (H : Heap) (locs : List Loc) (ls : Array Slot), (i ≤ mn) → mn - i < nf → GG D ad cy A s (gU I 5 24 1) J a (m_t2 cv J (m_t1 I J a b mn).2 i) H locs → lv_has ls 8 [(0, .ref (ad 5)), (1, .long ((m_t1 I J a b mn).1)), (3, .int cv), (4, .int (nI i))] → W p l e ({ frames := 1, cells := 0, slots := 0, locals := 31 }) s m args below meth c H locs 0 0 Q (F0 m 188 ls []) := by
              intro nf
              induction nf with
              | zero => exact fun _ _ _ _ _ hz => absurd hz (Nat.not_lt_zero _)
              | succ nf ih =>
                intro i H locs ls h3 hmeas G hl
                have ih188 := ih
                clear ih
                refine lv_iload hx hb dX5_take_188 (lv_at hl 3 rfl) ?_
                refine lv_aload_n hx hb dX5_take_190 rfl (lv_at hl 0 rfl) ?_
                refine gx_get hx hb hts hinX5 hown G 5 (by decide) rfl rfl 0 (by decide) rfl lk66 rfl (v := .int (I 5 0)) rfl dX5_take_191 ?_
                refine lv_icmp_ge (tgt := 312) hx hb dX5_take_194 (by decide) (fun c194 => ?_) (fun c194 => ?_)
                · skip
                  have n194 := gn_le (X := mn) (Y := i) hmn rfl (by omega) (by omega) c194
                  have hex : i = mn := by omega
                  rw [hex] at hl
                  rw [hex] at G
                  refine lv_iload_n hx hb dX5_take_312 rfl (lv_at hl 2 rfl) ?_
                  refine lv_if_ge (tgt := 320) hx hb dX5_take_313 (by decide) (fun c313 => ?_) (fun c313 => ?_)
                  · skip
                    refine lv_iconst (v := 0) hx hb dX5_take_320 (by decide) ?_
                    refine lv_istore (lv' := [(4, .int 0), (0, .ref (ad 5)), (1, .long ((m_t1 I J a b mn).1)), (3, .int cv)]) hx hb dX5_take_321 hl (by decide) rfl (fun ls hl => ?_)
                    obtain ⟨fv, efv⟩ : ∃ z, z = m_f0 (m_tk0 I J a b mn) := ⟨_, rfl⟩
                    have e4 : 0 = fv := by rw [efv, ← ecv]; unfold m_f0; (repeat (first | rw [if_pos c9] | rw [if_pos c151] | rw [if_pos c181] | rw [if_pos c194] | rw [if_pos c313]))
                    rw [e4] at hl
                    refine lv_iconst (v := 0) hx hb dX5_take_323 (by decide) ?_
                    refine lv_istore (lv' := [(5, .int 0), (4, .int fv), (0, .ref (ad 5)), (1, .long ((m_t1 I J a b mn).1)), (3, .int cv)]) hx hb dX5_take_324 hl (by decide) rfl (fun ls hl => ?_)
                    have K326 : ∀ (nf : Nat) (i : Nat) (f : Int32) (H : Heap) (locs : List Loc) (ls : Array Slot), (i ≤ mn) → (m_tk1 I J a b mn = m_fi J (m_tk2 I J a b mn) (mn - i) i f) → mn - i < nf → GG D ad cy A s (gU I 5 24 1) J a (m_tk2 I J a b mn) H locs → lv_has ls 8 [(0, .ref (ad 5)), (1, .long ((m_t1 I J a b mn).1)), (3, .int cv), (4, .int f), (5, .int (nI i))] → W p l e ({ frames := 1, cells := 0, slots := 0, locals := 31 }) s m args below meth c H locs 0 0 Q (F0 m 326 ls []) := by
                      intro nf
                      induction nf with
                      | zero => exact fun _ _ _ _ _ _ _ hz => absurd hz (Nat.not_lt_zero _)
                      | succ nf ih =>
                        intro i f H locs ls h3 h5 hmeas G hl
                        have ih326 := ih
                        clear ih
                        refine lv_iload hx hb dX5_take_326 (lv_at hl 4 rfl) ?_
                        refine lv_aload_n hx hb dX5_take_328 rfl (lv_at hl 0 rfl) ?_
                        refine gx_get hx hb hts hinX5 hown G 5 (by decide) rfl rfl 0 (by decide) rfl lk66 rfl (v := .int (I 5 0)) rfl dX5_take_329 ?_
                        refine lv_icmp_ge (tgt := 373) hx hb dX5_take_332 (by decide) (fun c332 => ?_) (fun c332 => ?_)
                        · skip
                          have n332 := gn_le (X := mn) (Y := i) hmn rfl (by omega) (by omega) c332
                          have h7 : m_tk1 I J a b mn = f := by
                            rw [h5]
                            first
                              | (rw [m_fi_s J _ n332, if_neg c337]; done)
                              | (rw [show mn - i = 0 by omega]; rfl)
                          refine lv_iload hx hb dX5_take_373 (lv_at hl 3 rfl) ?_
                          refine lv_if_ge (tgt := 418) hx hb dX5_take_375 (by decide) (fun c375 => ?_) (fun c375 => ?_)
                          · skip
                            refine lv_aload_n hx hb dX5_take_418 rfl (lv_at hl 0 rfl) ?_
                            refine lv_lload_n hx hb dX5_take_419 rfl (lv_at hl 1 rfl) ?_
                            refine gx_putJ hx hb hts hinX5 tyX5 tyX5_ok nmX5 hown G 5 (by decide) rfl rfl 11 (by decide) rfl lk108 rfl rfl (tyX5_ok 11 (by decide)) dX5_take_420 (fun H locs G => ?_)
                            refine lv_aload_n hx hb dX5_take_423 rfl (lv_at hl 0 rfl) ?_
                            refine lv_aload_n hx hb dX5_take_424 rfl (lv_at hl 0 rfl) ?_
                            refine gx_get hx hb hts hinX5 hown G 5 (by decide) rfl rfl 23 (by decide) rfl lk74 rfl (v := .long (J 5 23)) rfl dX5_take_425 ?_
                            refine gx_putJ hx hb hts hinX5 tyX5 tyX5_ok nmX5 hown G 5 (by decide) rfl rfl 12 (by decide) rfl lk111 rfl rfl (tyX5_ok 12 (by decide)) dX5_take_428 (fun H locs G => ?_)
                            exact gx_vr hx hb hr hlocks G hQ (by unfold m_tJ m_tB; rw [h7, ← ecv]; (repeat (first | rw [if_pos c9] | rw [if_pos c151] | rw [if_pos c181] | rw [if_pos c194] | rw [if_pos c313] | rw [if_pos c332] | rw [if_pos c375])); (try rfl)) dX5_take_431
                          · skip
                            refine lv_iconst (v := 0) hx hb dX5_take_378 (by decide) ?_
                            refine lv_istore (lv' := [(5, .int 0), (0, .ref (ad 5)), (1, .long ((m_t1 I J a b mn).1)), (3, .int cv), (4, .int f)]) hx hb dX5_take_379 hl (by decide) rfl (fun ls hl => ?_)
                            have K381 : ∀ (nf : Nat) (i : Nat) (H : Heap) (locs : List Loc) (ls : Array Slot), (i ≤ mn) → mn - i < nf → GG D ad cy A s (gU I 5 24 1) J a (m_cpb (m_tk2 I J a b mn) i) H locs → lv_has ls 8 [(0, .ref (ad 5)), (1, .long ((m_t1 I J a b mn).1)), (3, .int cv), (4, .int f), (5, .int (nI i))] → W p l e ({ frames := 1, cells := 0, slots := 0, locals := 31 }) s m args below meth c H locs 0 0 Q (F0 m 381 ls []) := by
                              intro nf
                              induction nf with
                              | zero => exact fun _ _ _ _ _ hz => absurd hz (Nat.not_lt_zero _)
                              | succ nf ih =>
                                intro i H locs ls h6 hmeas G hl
                                have ih381 := ih
                                clear ih
                                refine lv_iload hx hb dX5_take_381 (lv_at hl 4 rfl) ?_
                                refine lv_aload_n hx hb dX5_take_383 rfl (lv_at hl 0 rfl) ?_
                                refine gx_get hx hb hts hinX5 hown G 5 (by decide) rfl rfl 0 (by decide) rfl lk66 rfl (v := .int (I 5 0)) rfl dX5_take_384 ?_
                                refine lv_icmp_ge (tgt := 410) hx hb dX5_take_387 (by decide) (fun c387 => ?_) (fun c387 => ?_)
                                · skip
                                  have n387 := gn_le (X := mn) (Y := i) hmn rfl (by omega) (by omega) c387
                                  have hex : i = mn := by omega
                                  rw [hex] at hl
                                  rw [hex] at G
                                  refine lv_aload_n hx hb dX5_take_410 rfl (lv_at hl 0 rfl) ?_
                                  refine lv_aload_n hx hb dX5_take_411 rfl (lv_at hl 0 rfl) ?_
                                  refine gx_get hx hb hts hinX5 hown G 5 (by decide) rfl rfl 23 (by decide) rfl lk74 rfl (v := .long (J 5 23)) rfl dX5_take_412 ?_
                                  refine gx_putJ hx hb hts hinX5 tyX5 tyX5_ok nmX5 hown G 5 (by decide) rfl rfl 14 (by decide) rfl lk114 rfl rfl (tyX5_ok 14 (by decide)) dX5_take_415 (fun H locs G => ?_)
                                  refine lv_aload_n hx hb dX5_take_418 rfl (lv_at hl 0 rfl) ?_
                                  refine lv_lload_n hx hb dX5_take_419 rfl (lv_at hl 1 rfl) ?_
                                  refine gx_putJ hx hb hts hinX5 tyX5 tyX5_ok nmX5 hown G 5 (by decide) rfl rfl 11 (by decide) rfl lk108 rfl rfl (tyX5_ok 11 (by decide)) dX5_take_420 (fun H locs G => ?_)
                                  refine lv_aload_n hx hb dX5_take_423 rfl (lv_at hl 0 rfl) ?_
                                  refine lv_aload_n hx hb dX5_take_424 rfl (lv_at hl 0 rfl) ?_
                                  refine gx_get hx hb hts hinX5 hown G 5 (by decide) rfl rfl 23 (by decide) rfl lk74 rfl (v := .long (J 5 23)) rfl dX5_take_425 ?_
                                  refine gx_putJ hx hb hts hinX5 tyX5 tyX5_ok nmX5 hown G 5 (by decide) rfl rfl 12 (by decide) rfl lk111 rfl rfl (tyX5_ok 12 (by decide)) dX5_take_428 (fun H locs G => ?_)
                                  exact gx_vr hx hb hr hlocks G hQ (by unfold m_tJ m_tB; rw [h7, ← ecv]; (repeat (first | rw [if_pos c9] | rw [if_pos c151] | rw [if_pos c181] | rw [if_pos c194] | rw [if_pos c313] | rw [if_pos c332] | rw [if_neg c375] | rw [if_pos c387])); (try rfl)) dX5_take_431
                                · skip
                                  have n387 := gn_nle (X := mn) (Y := i) hmn rfl (by omega) (by omega) c387
                                  refine lv_aload_n hx hb dX5_take_390 rfl (lv_at hl 0 rfl) ?_
                                  refine gx_get hx hb hts hinX5 hown G 5 (by decide) rfl rfl 13 (by decide) rfl lk32 rfl (v := .ref (ad 34)) rfl dX5_take_391 ?_
                                  refine lv_iload hx hb dX5_take_394 (lv_at hl 4 rfl) ?_
                                  refine lv_aload_n hx hb dX5_take_396 rfl (lv_at hl 0 rfl) ?_
                                  refine gx_get hx hb hts hinX5 hown G 5 (by decide) rfl rfl 22 (by decide) rfl lk57 rfl (v := .ref (ad 89)) rfl dX5_take_397 ?_
                                  refine lv_iload hx hb dX5_take_400 (lv_at hl 4 rfl) ?_
                                  refine gx_lald hx hb G 89 (by decide) (rfl) (by decide) i rfl (by omega) dX5_take_402 ?_
                                  refine gx_last hx hb G 34 (by decide) (rfl) (by decide) i rfl (by omega) dX5_take_403 (fun H locs G => ?_)
                                  refine lv_iinc (v := (nI (i + 1))) (lv' := [(5, .int (nI (i + 1))), (0, .ref (ad 5)), (1, .long ((m_t1 I J a b mn).1)), (3, .int cv), (4, .int f)]) hx hb dX5_take_404 hl (k := 4) rfl (gn_add (X := i) (Y := 1) rfl rfl) (by decide) rfl (fun ls hl => ?_)
                                  refine lv_goto (tgt := 381) hx hb dX5_take_407 (by decide) ?_
                                  exact ih381  (i + 1) _ _ _ (by omega) (by omega) (gg_eq G rfl rfl rfl (rfl)) (lv_sub hl [1, 2, 3, 4, 0] rfl)
                            exact K381 (mn - 0 + 1) 0 _ _ _ (by omega) (Nat.lt_succ_self _) (gg_eq G rfl rfl rfl (rfl)) (lv_sub hl [1, 2, 3, 4, 0] rfl)
                        · skip
                          have n332 := gn_nle (X := mn) (Y := i) hmn rfl (by omega) (by omega) c332
                          refine lv_iload hx hb dX5_take_335 (lv_at hl 3 rfl) ?_
                          refine lv_if_ne (tgt := 373) hx hb dX5_take_337 (by decide) (fun c337 => ?_) (fun c337 => ?_)
                          · skip
                            have h7 : m_tk1 I J a b mn = f := by
                              rw [h5]
                              first
                                | (rw [m_fi_s J _ n332, if_neg c337]; done)
                                | (rw [show mn - i = 0 by omega]; rfl)
                            refine lv_iload hx hb dX5_take_373 (lv_at hl 3 rfl) ?_
                            refine lv_if_ge (tgt := 418) hx hb dX5_take_375 (by decide) (fun c375 => ?_) (fun c375 => ?_)
                            · skip
                              refine lv_aload_n hx hb dX5_take_418 rfl (lv_at hl 0 rfl) ?_
                              refine lv_lload_n hx hb dX5_take_419 rfl (lv_at hl 1 rfl) ?_
                              refine gx_putJ hx hb hts hinX5 tyX5 tyX5_ok nmX5 hown G 5 (by decide) rfl rfl 11 (by decide) rfl lk108 rfl rfl (tyX5_ok 11 (by decide)) dX5_take_420 (fun H locs G => ?_)
                              refine lv_aload_n hx hb dX5_take_423 rfl (lv_at hl 0 rfl) ?_
                              refine lv_aload_n hx hb dX5_take_424 rfl (lv_at hl 0 rfl) ?_
                              refine gx_get hx hb hts hinX5 hown G 5 (by decide) rfl rfl 23 (by decide) rfl lk74 rfl (v := .long (J 5 23)) rfl dX5_take_425 ?_
                              refine gx_putJ hx hb hts hinX5 tyX5 tyX5_ok nmX5 hown G 5 (by decide) rfl rfl 12 (by decide) rfl lk111 rfl rfl (tyX5_ok 12 (by decide)) dX5_take_428 (fun H locs G => ?_)
                              exact gx_vr hx hb hr hlocks G hQ (by unfold m_tJ m_tB; rw [h7, ← ecv]; (repeat (first | rw [if_pos c9] | rw [if_pos c151] | rw [if_pos c181] | rw [if_pos c194] | rw [if_pos c313] | rw [if_neg c332] | rw [if_neg c337] | rw [if_pos c375])); (try rfl)) dX5_take_431
                            · skip
                              refine lv_iconst (v := 0) hx hb dX5_take_378 (by decide) ?_
                              refine lv_istore (lv' := [(5, .int 0), (0, .ref (ad 5)), (1, .long ((m_t1 I J a b mn).1)), (3, .int cv), (4, .int f)]) hx hb dX5_take_379 hl (by decide) rfl (fun ls hl => ?_)
                              have K381 : ∀ (nf : Nat) (i : Nat) (H : Heap) (locs : List Loc) (ls : Array Slot), (i ≤ mn) → mn - i < nf → GG D ad cy A s (gU I 5 24 1) J a (m_cpb (m_tk2 I J a b mn) i) H locs → lv_has ls 8 [(0, .ref (ad 5)), (1, .long ((m_t1 I J a b mn).1)), (3, .int cv), (4, .int f), (5, .int (nI i))] → W p l e ({ frames := 1, cells := 0, slots := 0, locals := 31 }) s m args below meth c H locs 0 0 Q (F0 m 381 ls []) := by
                                intro nf
                                induction nf with
                                | zero => exact fun _ _ _ _ _ hz => absurd hz (Nat.not_lt_zero _)
                                | succ nf ih =>
                                  intro i H locs ls h6 hmeas G hl
                                  have ih381 := ih
                                  clear ih
                                  refine lv_iload hx hb dX5_take_381 (lv_at hl 4 rfl) ?_
                                  refine lv_aload_n hx hb dX5_take_383 rfl (lv_at hl 0 rfl) ?_
                                  refine gx_get hx hb hts hinX5 hown G 5 (by decide) rfl rfl 0 (by decide) rfl lk66 rfl (v := .int (I 5 0)) rfl dX5_take_384 ?_
                                  refine lv_icmp_ge (tgt := 410) hx hb dX5_take_387 (by decide) (fun c387 => ?_) (fun c387 => ?_)
                                  · skip
                                    have n387 := gn_le (X := mn) (Y := i) hmn rfl (by omega) (by omega) c387
                                    have hex : i = mn := by omega
                                    rw [hex] at hl
                                    rw [hex] at G
                                    refine lv_aload_n hx hb dX5_take_410 rfl (lv_at hl 0 rfl) ?_
                                    refine lv_aload_n hx hb dX5_take_411 rfl (lv_at hl 0 rfl) ?_
                                    refine gx_get hx hb hts hinX5 hown G 5 (by decide) rfl rfl 23 (by decide) rfl lk74 rfl (v := .long (J 5 23)) rfl dX5_take_412 ?_
                                    refine gx_putJ hx hb hts hinX5 tyX5 tyX5_ok nmX5 hown G 5 (by decide) rfl rfl 14 (by decide) rfl lk114 rfl rfl (tyX5_ok 14 (by decide)) dX5_take_415 (fun H locs G => ?_)
                                    refine lv_aload_n hx hb dX5_take_418 rfl (lv_at hl 0 rfl) ?_
                                    refine lv_lload_n hx hb dX5_take_419 rfl (lv_at hl 1 rfl) ?_
                                    refine gx_putJ hx hb hts hinX5 tyX5 tyX5_ok nmX5 hown G 5 (by decide) rfl rfl 11 (by decide) rfl lk108 rfl rfl (tyX5_ok 11 (by decide)) dX5_take_420 (fun H locs G => ?_)
                                    refine lv_aload_n hx hb dX5_take_423 rfl (lv_at hl 0 rfl) ?_
                                    refine lv_aload_n hx hb dX5_take_424 rfl (lv_at hl 0 rfl) ?_
                                    refine gx_get hx hb hts hinX5 hown G 5 (by decide) rfl rfl 23 (by decide) rfl lk74 rfl (v := .long (J 5 23)) rfl dX5_take_425 ?_
                                    refine gx_putJ hx hb hts hinX5 tyX5 tyX5_ok nmX5 hown G 5 (by decide) rfl rfl 12 (by decide) rfl lk111 rfl rfl (tyX5_ok 12 (by decide)) dX5_take_428 (fun H locs G => ?_)
                                    exact gx_vr hx hb hr hlocks G hQ (by unfold m_tJ m_tB; rw [h7, ← ecv]; (repeat (first | rw [if_pos c9] | rw [if_pos c151] | rw [if_pos c181] | rw [if_pos c194] | rw [if_pos c313] | rw [if_neg c332] | rw [if_neg c337] | rw [if_neg c375] | rw [if_pos c387])); (try rfl)) dX5_take_431
                                  · skip
                                    have n387 := gn_nle (X := mn) (Y := i) hmn rfl (by omega) (by omega) c387
                                    refine lv_aload_n hx hb dX5_take_390 rfl (lv_at hl 0 rfl) ?_
                                    refine gx_get hx hb hts hinX5 hown G 5 (by decide) rfl rfl 13 (by decide) rfl lk32 rfl (v := .ref (ad 34)) rfl dX5_take_391 ?_
                                    refine lv_iload hx hb dX5_take_394 (lv_at hl 4 rfl) ?_
                                    refine lv_aload_n hx hb dX5_take_396 rfl (lv_at hl 0 rfl) ?_
                                    refine gx_get hx hb hts hinX5 hown G 5 (by decide) rfl rfl 22 (by decide) rfl lk57 rfl (v := .ref (ad 89)) rfl dX5_take_397 ?_
                                    refine lv_iload hx hb dX5_take_400 (lv_at hl 4 rfl) ?_
                                    refine gx_lald hx hb G 89 (by decide) (rfl) (by decide) i rfl (by omega) dX5_take_402 ?_
                                    refine gx_last hx hb G 34 (by decide) (rfl) (by decide) i rfl (by omega) dX5_take_403 (fun H locs G => ?_)
                                    refine lv_iinc (v := (nI (i + 1))) (lv' := [(5, .int (nI (i + 1))), (0, .ref (ad 5)), (1, .long ((m_t1 I J a b mn).1)), (3, .int cv), (4, .int f)]) hx hb dX5_take_404 hl (k := 4) rfl (gn_add (X := i) (Y := 1) rfl rfl) (by decide) rfl (fun ls hl => ?_)
                                    refine lv_goto (tgt := 381) hx hb dX5_take_407 (by decide) ?_
                                    exact ih381  (i + 1) _ _ _ (by omega) (by omega) (gg_eq G rfl rfl rfl (rfl)) (lv_sub hl [1, 2, 3, 4, 0] rfl)
                              exact K381 (mn - 0 + 1) 0 _ _ _ (by omega) (Nat.lt_succ_self _) (gg_eq G rfl rfl rfl (rfl)) (lv_sub hl [1, 2, 3, 4, 0] rfl)
                          · skip
                            refine lv_aload_n hx hb dX5_take_340 rfl (lv_at hl 0 rfl) ?_
                            refine gx_get hx hb hts hinX5 hown G 5 (by decide) rfl rfl 22 (by decide) rfl lk57 rfl (v := .ref (ad 89)) rfl dX5_take_341 ?_
                            refine lv_iload hx hb dX5_take_344 (lv_at hl 4 rfl) ?_
                            refine gx_lald hx hb G 89 (by decide) (rfl) (by decide) i rfl (by omega) dX5_take_346 ?_
                            refine lv_aload_n hx hb dX5_take_347 rfl (lv_at hl 0 rfl) ?_
                            refine gx_get hx hb hts hinX5 hown G 5 (by decide) rfl rfl 23 (by decide) rfl lk74 rfl (v := .long (J 5 23)) rfl dX5_take_348 ?_
                            refine lv_aload_n hx hb dX5_take_351 rfl (lv_at hl 0 rfl) ?_
                            refine gx_get hx hb hts hinX5 hown G 5 (by decide) rfl rfl 13 (by decide) rfl lk32 rfl (v := .ref (ad 34)) rfl dX5_take_352 ?_
                            refine lv_iload hx hb dX5_take_355 (lv_at hl 4 rfl) ?_
                            refine gx_lald hx hb G 34 (by decide) (rfl) (by decide) i rfl (by omega) dX5_take_357 ?_
                            refine lv_aload_n hx hb dX5_take_358 rfl (lv_at hl 0 rfl) ?_
                            refine gx_get hx hb hts hinX5 hown G 5 (by decide) rfl rfl 14 (by decide) rfl lk114 rfl (v := .long (J 5 14)) rfl dX5_take_359 ?_
                            refine gx_dSi (v := (m_cmp ((m_tk2 I J a b mn) 89 i) (J 5 23) ((m_tk2 I J a b mn) 34 i) (J 5 14))) (I1 := (gU I 5 24 1)) (J1 := J) (a1 := a) (b1 := (m_tk2 I J a b mn)) (As := [.long ((m_tk2 I J a b mn) 89 i), .long (J 5 23), .long ((m_tk2 I J a b mn) 34 i), .long (J 5 14)]) (rest := []) ⟨hx, hb, hml, hown, hts⟩ G (kX5_compare l D ad cy (gU I 5 24 1) J a (m_tk2 I J a b mn) H.size ((m_tk2 I J a b mn) 89 i) (J 5 23) ((m_tk2 I J a b mn) 34 i) (J 5 14)) (va_cwS 4 hts gX5_take_X5_compare rfl rfl rfl (by decide +kernel) ⟨Nat.le_of_ble_eq_true rfl, Nat.le_of_ble_eq_true rfl⟩) rfl hl.1 rfl (Nat.le_of_ble_eq_true rfl) ⟨Nat.zero_le _, Nat.zero_le _⟩ dX5_take_362 (fun H locs G => ?_)
                            refine lv_istore (lv' := [(4, .int (m_cmp ((m_tk2 I J a b mn) 89 i) (J 5 23) ((m_tk2 I J a b mn) 34 i) (J 5 14))), (0, .ref (ad 5)), (1, .long ((m_t1 I J a b mn).1)), (3, .int cv), (5, .int (nI i))]) hx hb dX5_take_365 hl (by decide) rfl (fun ls hl => ?_)
                            refine lv_iinc (v := (nI (i + 1))) (lv' := [(5, .int (nI (i + 1))), (4, .int (m_cmp ((m_tk2 I J a b mn) 89 i) (J 5 23) ((m_tk2 I J a b mn) 34 i) (J 5 14))), (0, .ref (ad 5)), (1, .long ((m_t1 I J a b mn).1)), (3, .int cv)]) hx hb dX5_take_367 hl (k := 4) rfl (gn_add (X := i) (Y := 1) rfl rfl) (by decide) rfl (fun ls hl => ?_)
                            refine lv_goto (tgt := 326) hx hb dX5_take_370 (by decide) ?_
                            exact ih326  (i + 1) (m_cmp (m_tk2 I J a b mn 89 i) (J 5 23) (m_tk2 I J a b mn 34 i) (J 5 14)) _ _ _ (by omega) (by rw [h5, m_fi_s J _ n332, if_pos c337]) (by omega) G (lv_sub hl [2, 3, 4, 1, 0] rfl)
                    exact K326 (mn - 0 + 1) 0 fv _ _ _ (by omega) (by rw [efv]; rfl) (Nat.lt_succ_self _) (gg_eq G rfl rfl rfl (by rw [ecv]; rfl)) (lv_sub hl [2, 3, 4, 1, 0] rfl)
                  · skip
                    refine lv_iconst (v := -1) hx hb dX5_take_316 (by decide) ?_
                    refine lv_goto (tgt := 321) hx hb dX5_take_317 (by decide) ?_
                    refine lv_istore (lv' := [(4, .int (-1)), (0, .ref (ad 5)), (1, .long ((m_t1 I J a b mn).1)), (3, .int cv)]) hx hb dX5_take_321 hl (by decide) rfl (fun ls hl => ?_)
                    obtain ⟨fv, efv⟩ : ∃ z, z = m_f0 (m_tk0 I J a b mn) := ⟨_, rfl⟩
                    have e4 : (-1) = fv := by rw [efv, ← ecv]; unfold m_f0; (repeat (first | rw [if_pos c9] | rw [if_pos c151] | rw [if_pos c181] | rw [if_pos c194] | rw [if_neg c313]))
                    rw [e4] at hl
                    refine lv_iconst (v := 0) hx hb dX5_take_323 (by decide) ?_
                    refine lv_istore (lv' := [(5, .int 0), (4, .int fv), (0, .ref (ad 5)), (1, .long ((m_t1 I J a b mn).1)), (3, .int cv)]) hx hb dX5_take_324 hl (by decide) rfl (fun ls hl => ?_)
                    have K326 : ∀ (nf : Nat) (i : Nat) (f : Int32) (H : Heap) (locs : List Loc) (ls : Array Slot), (i ≤ mn) → (m_tk1 I J a b mn = m_fi J (m_tk2 I J a b mn) (mn - i) i f) → mn - i < nf → GG D ad cy A s (gU I 5 24 1) J a (m_tk2 I J a b mn) H locs → lv_has ls 8 [(0, .ref (ad 5)), (1, .long ((m_t1 I J a b mn).1)), (3, .int cv), (4, .int f), (5, .int (nI i))] → W p l e ({ frames := 1, cells := 0, slots := 0, locals := 31 }) s m args below meth c H locs 0 0 Q (F0 m 326 ls []) := by
                      intro nf
                      induction nf with
                      | zero => exact fun _ _ _ _ _ _ _ hz => absurd hz (Nat.not_lt_zero _)
                      | succ nf ih =>
                        intro i f H locs ls h3 h5 hmeas G hl
                        have ih326 := ih
                        clear ih
                        refine lv_iload hx hb dX5_take_326 (lv_at hl 4 rfl) ?_
                        refine lv_aload_n hx hb dX5_take_328 rfl (lv_at hl 0 rfl) ?_
                        refine gx_get hx hb hts hinX5 hown G 5 (by decide) rfl rfl 0 (by decide) rfl lk66 rfl (v := .int (I 5 0)) rfl dX5_take_329 ?_
                        refine lv_icmp_ge (tgt := 373) hx hb dX5_take_332 (by decide) (fun c332 => ?_) (fun c332 => ?_)
                        · skip
                          have n332 := gn_le (X := mn) (Y := i) hmn rfl (by omega) (by omega) c332
                          have h7 : m_tk1 I J a b mn = f := by
                            rw [h5]
                            first
                              | (rw [m_fi_s J _ n332, if_neg c337]; done)
                              | (rw [show mn - i = 0 by omega]; rfl)
                          refine lv_iload hx hb dX5_take_373 (lv_at hl 3 rfl) ?_
                          refine lv_if_ge (tgt := 418) hx hb dX5_take_375 (by decide) (fun c375 => ?_) (fun c375 => ?_)
                          · skip
                            refine lv_aload_n hx hb dX5_take_418 rfl (lv_at hl 0 rfl) ?_
                            refine lv_lload_n hx hb dX5_take_419 rfl (lv_at hl 1 rfl) ?_
                            refine gx_putJ hx hb hts hinX5 tyX5 tyX5_ok nmX5 hown G 5 (by decide) rfl rfl 11 (by decide) rfl lk108 rfl rfl (tyX5_ok 11 (by decide)) dX5_take_420 (fun H locs G => ?_)
                            refine lv_aload_n hx hb dX5_take_423 rfl (lv_at hl 0 rfl) ?_
                            refine lv_aload_n hx hb dX5_take_424 rfl (lv_at hl 0 rfl) ?_
                            refine gx_get hx hb hts hinX5 hown G 5 (by decide) rfl rfl 23 (by decide) rfl lk74 rfl (v := .long (J 5 23)) rfl dX5_take_425 ?_
                            refine gx_putJ hx hb hts hinX5 tyX5 tyX5_ok nmX5 hown G 5 (by decide) rfl rfl 12 (by decide) rfl lk111 rfl rfl (tyX5_ok 12 (by decide)) dX5_take_428 (fun H locs G => ?_)
                            exact gx_vr hx hb hr hlocks G hQ (by unfold m_tJ m_tB; rw [h7, ← ecv]; (repeat (first | rw [if_pos c9] | rw [if_pos c151] | rw [if_pos c181] | rw [if_pos c194] | rw [if_neg c313] | rw [if_pos c332] | rw [if_pos c375])); (try rfl)) dX5_take_431
                          · skip
                            refine lv_iconst (v := 0) hx hb dX5_take_378 (by decide) ?_
                            refine lv_istore (lv' := [(5, .int 0), (0, .ref (ad 5)), (1, .long ((m_t1 I J a b mn).1)), (3, .int cv), (4, .int f)]) hx hb dX5_take_379 hl (by decide) rfl (fun ls hl => ?_)
                            have K381 : ∀ (nf : Nat) (i : Nat) (H : Heap) (locs : List Loc) (ls : Array Slot), (i ≤ mn) → mn - i < nf → GG D ad cy A s (gU I 5 24 1) J a (m_cpb (m_tk2 I J a b mn) i) H locs → lv_has ls 8 [(0, .ref (ad 5)), (1, .long ((m_t1 I J a b mn).1)), (3, .int cv), (4, .int f), (5, .int (nI i))] → W p l e ({ frames := 1, cells := 0, slots := 0, locals := 31 }) s m args below meth c H locs 0 0 Q (F0 m 381 ls []) := by
                              intro nf
                              induction nf with
                              | zero => exact fun _ _ _ _ _ hz => absurd hz (Nat.not_lt_zero _)
                              | succ nf ih =>
                                intro i H locs ls h6 hmeas G hl
                                have ih381 := ih
                                clear ih
                                refine lv_iload hx hb dX5_take_381 (lv_at hl 4 rfl) ?_
                                refine lv_aload_n hx hb dX5_take_383 rfl (lv_at hl 0 rfl) ?_
                                refine gx_get hx hb hts hinX5 hown G 5 (by decide) rfl rfl 0 (by decide) rfl lk66 rfl (v := .int (I 5 0)) rfl dX5_take_384 ?_
                                refine lv_icmp_ge (tgt := 410) hx hb dX5_take_387 (by decide) (fun c387 => ?_) (fun c387 => ?_)
                                · skip
                                  have n387 := gn_le (X := mn) (Y := i) hmn rfl (by omega) (by omega) c387
                                  have hex : i = mn := by omega
                                  rw [hex] at hl
                                  rw [hex] at G
                                  refine lv_aload_n hx hb dX5_take_410 rfl (lv_at hl 0 rfl) ?_
                                  refine lv_aload_n hx hb dX5_take_411 rfl (lv_at hl 0 rfl) ?_
                                  refine gx_get hx hb hts hinX5 hown G 5 (by decide) rfl rfl 23 (by decide) rfl lk74 rfl (v := .long (J 5 23)) rfl dX5_take_412 ?_
                                  refine gx_putJ hx hb hts hinX5 tyX5 tyX5_ok nmX5 hown G 5 (by decide) rfl rfl 14 (by decide) rfl lk114 rfl rfl (tyX5_ok 14 (by decide)) dX5_take_415 (fun H locs G => ?_)
                                  refine lv_aload_n hx hb dX5_take_418 rfl (lv_at hl 0 rfl) ?_
                                  refine lv_lload_n hx hb dX5_take_419 rfl (lv_at hl 1 rfl) ?_
                                  refine gx_putJ hx hb hts hinX5 tyX5 tyX5_ok nmX5 hown G 5 (by decide) rfl rfl 11 (by decide) rfl lk108 rfl rfl (tyX5_ok 11 (by decide)) dX5_take_420 (fun H locs G => ?_)
                                  refine lv_aload_n hx hb dX5_take_423 rfl (lv_at hl 0 rfl) ?_
                                  refine lv_aload_n hx hb dX5_take_424 rfl (lv_at hl 0 rfl) ?_
                                  refine gx_get hx hb hts hinX5 hown G 5 (by decide) rfl rfl 23 (by decide) rfl lk74 rfl (v := .long (J 5 23)) rfl dX5_take_425 ?_
                                  refine gx_putJ hx hb hts hinX5 tyX5 tyX5_ok nmX5 hown G 5 (by decide) rfl rfl 12 (by decide) rfl lk111 rfl rfl (tyX5_ok 12 (by decide)) dX5_take_428 (fun H locs G => ?_)
                                  exact gx_vr hx hb hr hlocks G hQ (by unfold m_tJ m_tB; rw [h7, ← ecv]; (repeat (first | rw [if_pos c9] | rw [if_pos c151] | rw [if_pos c181] | rw [if_pos c194] | rw [if_neg c313] | rw [if_pos c332] | rw [if_neg c375] | rw [if_pos c387])); (try rfl)) dX5_take_431
                                · skip
                                  have n387 := gn_nle (X := mn) (Y := i) hmn rfl (by omega) (by omega) c387
                                  refine lv_aload_n hx hb dX5_take_390 rfl (lv_at hl 0 rfl) ?_
                                  refine gx_get hx hb hts hinX5 hown G 5 (by decide) rfl rfl 13 (by decide) rfl lk32 rfl (v := .ref (ad 34)) rfl dX5_take_391 ?_
                                  refine lv_iload hx hb dX5_take_394 (lv_at hl 4 rfl) ?_
                                  refine lv_aload_n hx hb dX5_take_396 rfl (lv_at hl 0 rfl) ?_
                                  refine gx_get hx hb hts hinX5 hown G 5 (by decide) rfl rfl 22 (by decide) rfl lk57 rfl (v := .ref (ad 89)) rfl dX5_take_397 ?_
                                  refine lv_iload hx hb dX5_take_400 (lv_at hl 4 rfl) ?_
                                  refine gx_lald hx hb G 89 (by decide) (rfl) (by decide) i rfl (by omega) dX5_take_402 ?_
                                  refine gx_last hx hb G 34 (by decide) (rfl) (by decide) i rfl (by omega) dX5_take_403 (fun H locs G => ?_)
                                  refine lv_iinc (v := (nI (i + 1))) (lv' := [(5, .int (nI (i + 1))), (0, .ref (ad 5)), (1, .long ((m_t1 I J a b mn).1)), (3, .int cv), (4, .int f)]) hx hb dX5_take_404 hl (k := 4) rfl (gn_add (X := i) (Y := 1) rfl rfl) (by decide) rfl (fun ls hl => ?_)
                                  refine lv_goto (tgt := 381) hx hb dX5_take_407 (by decide) ?_
                                  exact ih381  (i + 1) _ _ _ (by omega) (by omega) (gg_eq G rfl rfl rfl (rfl)) (lv_sub hl [1, 2, 3, 4, 0] rfl)
                            exact K381 (mn - 0 + 1) 0 _ _ _ (by omega) (Nat.lt_succ_self _) (gg_eq G rfl rfl rfl (rfl)) (lv_sub hl [1, 2, 3, 4, 0] rfl)
                        · skip
                          have n332 := gn_nle (X := mn) (Y := i) hmn rfl (by omega) (by omega) c332
                          refine lv_iload hx hb dX5_take_335 (lv_at hl 3 rfl) ?_
                          refine lv_if_ne (tgt := 373) hx hb dX5_take_337 (by decide) (fun c337 => ?_) (fun c337 => ?_)
                          · skip
                            have h7 : m_tk1 I J a b mn = f := by
                              rw [h5]
                              first
                                | (rw [m_fi_s J _ n332, if_neg c337]; done)
                                | (rw [show mn - i = 0 by omega]; rfl)
                            refine lv_iload hx hb dX5_take_373 (lv_at hl 3 rfl) ?_
                            refine lv_if_ge (tgt := 418) hx hb dX5_take_375 (by decide) (fun c375 => ?_) (fun c375 => ?_)
                            · skip
                              refine lv_aload_n hx hb dX5_take_418 rfl (lv_at hl 0 rfl) ?_
                              refine lv_lload_n hx hb dX5_take_419 rfl (lv_at hl 1 rfl) ?_
                              refine gx_putJ hx hb hts hinX5 tyX5 tyX5_ok nmX5 hown G 5 (by decide) rfl rfl 11 (by decide) rfl lk108 rfl rfl (tyX5_ok 11 (by decide)) dX5_take_420 (fun H locs G => ?_)
                              refine lv_aload_n hx hb dX5_take_423 rfl (lv_at hl 0 rfl) ?_
                              refine lv_aload_n hx hb dX5_take_424 rfl (lv_at hl 0 rfl) ?_
                              refine gx_get hx hb hts hinX5 hown G 5 (by decide) rfl rfl 23 (by decide) rfl lk74 rfl (v := .long (J 5 23)) rfl dX5_take_425 ?_
                              refine gx_putJ hx hb hts hinX5 tyX5 tyX5_ok nmX5 hown G 5 (by decide) rfl rfl 12 (by decide) rfl lk111 rfl rfl (tyX5_ok 12 (by decide)) dX5_take_428 (fun H locs G => ?_)
                              exact gx_vr hx hb hr hlocks G hQ (by unfold m_tJ m_tB; rw [h7, ← ecv]; (repeat (first | rw [if_pos c9] | rw [if_pos c151] | rw [if_pos c181] | rw [if_pos c194] | rw [if_neg c313] | rw [if_neg c332] | rw [if_neg c337] | rw [if_pos c375])); (try rfl)) dX5_take_431
                            · skip
                              refine lv_iconst (v := 0) hx hb dX5_take_378 (by decide) ?_
                              refine lv_istore (lv' := [(5, .int 0), (0, .ref (ad 5)), (1, .long ((m_t1 I J a b mn).1)), (3, .int cv), (4, .int f)]) hx hb dX5_take_379 hl (by decide) rfl (fun ls hl => ?_)
                              have K381 : ∀ (nf : Nat) (i : Nat) (H : Heap) (locs : List Loc) (ls : Array Slot), (i ≤ mn) → mn - i < nf → GG D ad cy A s (gU I 5 24 1) J a (m_cpb (m_tk2 I J a b mn) i) H locs → lv_has ls 8 [(0, .ref (ad 5)), (1, .long ((m_t1 I J a b mn).1)), (3, .int cv), (4, .int f), (5, .int (nI i))] → W p l e ({ frames := 1, cells := 0, slots := 0, locals := 31 }) s m args below meth c H locs 0 0 Q (F0 m 381 ls []) := by
                                intro nf
                                induction nf with
                                | zero => exact fun _ _ _ _ _ hz => absurd hz (Nat.not_lt_zero _)
                                | succ nf ih =>
                                  intro i H locs ls h6 hmeas G hl
                                  have ih381 := ih
                                  clear ih
                                  refine lv_iload hx hb dX5_take_381 (lv_at hl 4 rfl) ?_
                                  refine lv_aload_n hx hb dX5_take_383 rfl (lv_at hl 0 rfl) ?_
                                  refine gx_get hx hb hts hinX5 hown G 5 (by decide) rfl rfl 0 (by decide) rfl lk66 rfl (v := .int (I 5 0)) rfl dX5_take_384 ?_
                                  refine lv_icmp_ge (tgt := 410) hx hb dX5_take_387 (by decide) (fun c387 => ?_) (fun c387 => ?_)
                                  · skip
                                    have n387 := gn_le (X := mn) (Y := i) hmn rfl (by omega) (by omega) c387
                                    have hex : i = mn := by omega
                                    rw [hex] at hl
                                    rw [hex] at G
                                    refine lv_aload_n hx hb dX5_take_410 rfl (lv_at hl 0 rfl) ?_
                                    refine lv_aload_n hx hb dX5_take_411 rfl (lv_at hl 0 rfl) ?_
                                    refine gx_get hx hb hts hinX5 hown G 5 (by decide) rfl rfl 23 (by decide) rfl lk74 rfl (v := .long (J 5 23)) rfl dX5_take_412 ?_
                                    refine gx_putJ hx hb hts hinX5 tyX5 tyX5_ok nmX5 hown G 5 (by decide) rfl rfl 14 (by decide) rfl lk114 rfl rfl (tyX5_ok 14 (by decide)) dX5_take_415 (fun H locs G => ?_)
                                    refine lv_aload_n hx hb dX5_take_418 rfl (lv_at hl 0 rfl) ?_
                                    refine lv_lload_n hx hb dX5_take_419 rfl (lv_at hl 1 rfl) ?_
                                    refine gx_putJ hx hb hts hinX5 tyX5 tyX5_ok nmX5 hown G 5 (by decide) rfl rfl 11 (by decide) rfl lk108 rfl rfl (tyX5_ok 11 (by decide)) dX5_take_420 (fun H locs G => ?_)
                                    refine lv_aload_n hx hb dX5_take_423 rfl (lv_at hl 0 rfl) ?_
                                    refine lv_aload_n hx hb dX5_take_424 rfl (lv_at hl 0 rfl) ?_
                                    refine gx_get hx hb hts hinX5 hown G 5 (by decide) rfl rfl 23 (by decide) rfl lk74 rfl (v := .long (J 5 23)) rfl dX5_take_425 ?_
                                    refine gx_putJ hx hb hts hinX5 tyX5 tyX5_ok nmX5 hown G 5 (by decide) rfl rfl 12 (by decide) rfl lk111 rfl rfl (tyX5_ok 12 (by decide)) dX5_take_428 (fun H locs G => ?_)
                                    exact gx_vr hx hb hr hlocks G hQ (by unfold m_tJ m_tB; rw [h7, ← ecv]; (repeat (first | rw [if_pos c9] | rw [if_pos c151] | rw [if_pos c181] | rw [if_pos c194] | rw [if_neg c313] | rw [if_neg c332] | rw [if_neg c337] | rw [if_neg c375] | rw [if_pos c387])); (try rfl)) dX5_take_431
                                  · skip
                                    have n387 := gn_nle (X := mn) (Y := i) hmn rfl (by omega) (by omega) c387
                                    refine lv_aload_n hx hb dX5_take_390 rfl (lv_at hl 0 rfl) ?_
                                    refine gx_get hx hb hts hinX5 hown G 5 (by decide) rfl rfl 13 (by decide) rfl lk32 rfl (v := .ref (ad 34)) rfl dX5_take_391 ?_
                                    refine lv_iload hx hb dX5_take_394 (lv_at hl 4 rfl) ?_
                                    refine lv_aload_n hx hb dX5_take_396 rfl (lv_at hl 0 rfl) ?_
                                    refine gx_get hx hb hts hinX5 hown G 5 (by decide) rfl rfl 22 (by decide) rfl lk57 rfl (v := .ref (ad 89)) rfl dX5_take_397 ?_
                                    refine lv_iload hx hb dX5_take_400 (lv_at hl 4 rfl) ?_
                                    refine gx_lald hx hb G 89 (by decide) (rfl) (by decide) i rfl (by omega) dX5_take_402 ?_
                                    refine gx_last hx hb G 34 (by decide) (rfl) (by decide) i rfl (by omega) dX5_take_403 (fun H locs G => ?_)
                                    refine lv_iinc (v := (nI (i + 1))) (lv' := [(5, .int (nI (i + 1))), (0, .ref (ad 5)), (1, .long ((m_t1 I J a b mn).1)), (3, .int cv), (4, .int f)]) hx hb dX5_take_404 hl (k := 4) rfl (gn_add (X := i) (Y := 1) rfl rfl) (by decide) rfl (fun ls hl => ?_)
                                    refine lv_goto (tgt := 381) hx hb dX5_take_407 (by decide) ?_
                                    exact ih381  (i + 1) _ _ _ (by omega) (by omega) (gg_eq G rfl rfl rfl (rfl)) (lv_sub hl [1, 2, 3, 4, 0] rfl)
                              exact K381 (mn - 0 + 1) 0 _ _ _ (by omega) (Nat.lt_succ_self _) (gg_eq G rfl rfl rfl (rfl)) (lv_sub hl [1, 2, 3, 4, 0] rfl)
                          · skip
                            refine lv_aload_n hx hb dX5_take_340 rfl (lv_at hl 0 rfl) ?_
                            refine gx_get hx hb hts hinX5 hown G 5 (by decide) rfl rfl 22 (by decide) rfl lk57 rfl (v := .ref (ad 89)) rfl dX5_take_341 ?_
                            refine lv_iload hx hb dX5_take_344 (lv_at hl 4 rfl) ?_
                            refine gx_lald hx hb G 89 (by decide) (rfl) (by decide) i rfl (by omega) dX5_take_346 ?_
                            refine lv_aload_n hx hb dX5_take_347 rfl (lv_at hl 0 rfl) ?_
                            refine gx_get hx hb hts hinX5 hown G 5 (by decide) rfl rfl 23 (by decide) rfl lk74 rfl (v := .long (J 5 23)) rfl dX5_take_348 ?_
                            refine lv_aload_n hx hb dX5_take_351 rfl (lv_at hl 0 rfl) ?_
                            refine gx_get hx hb hts hinX5 hown G 5 (by decide) rfl rfl 13 (by decide) rfl lk32 rfl (v := .ref (ad 34)) rfl dX5_take_352 ?_
                            refine lv_iload hx hb dX5_take_355 (lv_at hl 4 rfl) ?_
                            refine gx_lald hx hb G 34 (by decide) (rfl) (by decide) i rfl (by omega) dX5_take_357 ?_
                            refine lv_aload_n hx hb dX5_take_358 rfl (lv_at hl 0 rfl) ?_
                            refine gx_get hx hb hts hinX5 hown G 5 (by decide) rfl rfl 14 (by decide) rfl lk114 rfl (v := .long (J 5 14)) rfl dX5_take_359 ?_
                            refine gx_dSi (v := (m_cmp ((m_tk2 I J a b mn) 89 i) (J 5 23) ((m_tk2 I J a b mn) 34 i) (J 5 14))) (I1 := (gU I 5 24 1)) (J1 := J) (a1 := a) (b1 := (m_tk2 I J a b mn)) (As := [.long ((m_tk2 I J a b mn) 89 i), .long (J 5 23), .long ((m_tk2 I J a b mn) 34 i), .long (J 5 14)]) (rest := []) ⟨hx, hb, hml, hown, hts⟩ G (kX5_compare l D ad cy (gU I 5 24 1) J a (m_tk2 I J a b mn) H.size ((m_tk2 I J a b mn) 89 i) (J 5 23) ((m_tk2 I J a b mn) 34 i) (J 5 14)) (va_cwS 4 hts gX5_take_X5_compare rfl rfl rfl (by decide +kernel) ⟨Nat.le_of_ble_eq_true rfl, Nat.le_of_ble_eq_true rfl⟩) rfl hl.1 rfl (Nat.le_of_ble_eq_true rfl) ⟨Nat.zero_le _, Nat.zero_le _⟩ dX5_take_362 (fun H locs G => ?_)
                            refine lv_istore (lv' := [(4, .int (m_cmp ((m_tk2 I J a b mn) 89 i) (J 5 23) ((m_tk2 I J a b mn) 34 i) (J 5 14))), (0, .ref (ad 5)), (1, .long ((m_t1 I J a b mn).1)), (3, .int cv), (5, .int (nI i))]) hx hb dX5_take_365 hl (by decide) rfl (fun ls hl => ?_)
                            refine lv_iinc (v := (nI (i + 1))) (lv' := [(5, .int (nI (i + 1))), (4, .int (m_cmp ((m_tk2 I J a b mn) 89 i) (J 5 23) ((m_tk2 I J a b mn) 34 i) (J 5 14))), (0, .ref (ad 5)), (1, .long ((m_t1 I J a b mn).1)), (3, .int cv)]) hx hb dX5_take_367 hl (k := 4) rfl (gn_add (X := i) (Y := 1) rfl rfl) (by decide) rfl (fun ls hl => ?_)
                            refine lv_goto (tgt := 326) hx hb dX5_take_370 (by decide) ?_
                            exact ih326  (i + 1) (m_cmp (m_tk2 I J a b mn 89 i) (J 5 23) (m_tk2 I J a b mn 34 i) (J 5 14)) _ _ _ (by omega) (by rw [h5, m_fi_s J _ n332, if_pos c337]) (by omega) G (lv_sub hl [2, 3, 4, 1, 0] rfl)
                    exact K326 (mn - 0 + 1) 0 fv _ _ _ (by omega) (by rw [efv]; rfl) (Nat.lt_succ_self _) (gg_eq G rfl rfl rfl (by rw [ecv]; rfl)) (lv_sub hl [2, 3, 4, 1, 0] rfl)
                · skip
                  have n194 := gn_nle (X := mn) (Y := i) hmn rfl (by omega) (by omega) c194
                  refine lv_iconst (v := 0) hx hb dX5_take_197 (by decide) ?_
                  refine lv_istore (lv' := [(5, .int 0), (0, .ref (ad 5)), (1, .long ((m_t1 I J a b mn).1)), (3, .int cv), (4, .int (nI i))]) hx hb dX5_take_198 hl (by decide) rfl (fun ls hl => ?_)
                  have K200 : ∀ (nf : Nat) (t : Nat) (H : Heap) (locs : List Loc) (ls : Array Slot), (t ≤ 2) → 2 - t < nf → GG D ad cy A s (gU I 5 24 1) J a (m_rr cv J (m_t2 cv J (m_t1 I J a b mn).2 i) i t) H locs → lv_has ls 8 [(0, .ref (ad 5)), (1, .long ((m_t1 I J a b mn).1)), (3, .int cv), (4, .int (nI i)), (5, .int (nI t))] → W p l e ({ frames := 1, cells := 0, slots := 0, locals := 31 }) s m args below meth c H locs 0 0 Q (F0 m 200 ls []) := by
                    intro nf
                    induction nf with
                    | zero => exact fun _ _ _ _ _ hz => absurd hz (Nat.not_lt_zero _)
                    | succ nf ih =>
                      intro t H locs ls h4 hmeas G hl
                      have ih200 := ih
                      clear ih
                      refine lv_iload hx hb dX5_take_200 (lv_at hl 4 rfl) ?_
                      refine lv_iconst (v := 2) hx hb dX5_take_202 (by decide) ?_
                      refine lv_icmp_ge (tgt := 306) hx hb dX5_take_203 (by decide) (fun c203 => ?_) (fun c203 => ?_)
                      · skip
                        have n203 := gn_le (X := 2) (Y := t) rfl rfl (by omega) (by omega) c203
                        refine lv_iinc (v := (nI (i + 1))) (lv' := [(4, .int (nI (i + 1))), (0, .ref (ad 5)), (1, .long ((m_t1 I J a b mn).1)), (3, .int cv), (5, .int (nI t))]) hx hb dX5_take_306 hl (k := 3) rfl (gn_add (X := i) (Y := 1) rfl rfl) (by decide) rfl (fun ls hl => ?_)
                        refine lv_goto (tgt := 188) hx hb dX5_take_309 (by decide) ?_
                        exact ih188  (i + 1) _ _ _ (by omega) (by omega) (gg_eq G rfl rfl rfl (by rw [show t = 2 by omega]; rfl)) (lv_sub hl [1, 2, 3, 0] rfl)
                      · skip
                        have n203 := gn_nle (X := 2) (Y := t) rfl rfl (by omega) (by omega) c203
                        refine lv_iconst (v := 2) hx hb dX5_take_206 (by decide) ?_
                        refine lv_iload hx hb dX5_take_207 (lv_at hl 3 rfl) ?_
                        refine lv_imul hx hb dX5_take_209 ?_
                        refine lv_iload hx hb dX5_take_210 (lv_at hl 4 rfl) ?_
                        refine lv_iadd hx hb dX5_take_212 ?_
                        refine lv_istore (lv' := [(6, .int ((2 * (nI i)) + (nI t))), (0, .ref (ad 5)), (1, .long ((m_t1 I J a b mn).1)), (3, .int cv), (4, .int (nI i)), (5, .int (nI t))]) hx hb dX5_take_213 hl (by decide) rfl (fun ls hl => ?_)
                        refine lv_iload_n hx hb dX5_take_215 rfl (lv_at hl 3 rfl) ?_
                        refine lv_if_ge (tgt := 223) hx hb dX5_take_216 (by decide) (fun c216 => ?_) (fun c216 => ?_)
                        · skip
                          refine lv_aload_n hx hb dX5_take_223 rfl (lv_at hl 1 rfl) ?_
                          refine gx_get hx hb hts hinX5 hown G 5 (by decide) rfl rfl 22 (by decide) rfl lk57 rfl (v := .ref (ad 89)) rfl dX5_take_224 ?_
                          refine lv_iload hx hb dX5_take_227 (lv_at hl 4 rfl) ?_
                          refine gx_lald hx hb G 89 (by decide) (rfl) (by decide) i rfl (by omega) dX5_take_229 ?_
                          refine lv_aload_n hx hb dX5_take_230 rfl (lv_at hl 1 rfl) ?_
                          refine gx_get hx hb hts hinX5 hown G 5 (by decide) rfl rfl 23 (by decide) rfl lk74 rfl (v := .long (J 5 23)) rfl dX5_take_231 ?_
                          refine lv_aload_n hx hb dX5_take_234 rfl (lv_at hl 1 rfl) ?_
                          refine gx_get hx hb hts hinX5 hown G 5 (by decide) rfl rfl 15 (by decide) rfl lk36 rfl (v := .ref (ad 35)) rfl dX5_take_235 ?_
                          refine lv_iload hx hb dX5_take_238 (lv_at hl 0 rfl) ?_
                          refine gx_lald hx hb G 35 (by decide) (rfl) (by decide) ((2 * i) + t) (gn_add (gn_mul rfl rfl) rfl) (by omega) dX5_take_240 ?_
                          refine lv_aload_n hx hb dX5_take_241 rfl (lv_at hl 1 rfl) ?_
                          refine gx_get hx hb hts hinX5 hown G 5 (by decide) rfl rfl 16 (by decide) rfl lk39 rfl (v := .ref (ad 36)) rfl dX5_take_242 ?_
                          refine lv_iload hx hb dX5_take_245 (lv_at hl 0 rfl) ?_
                          refine gx_lald hx hb G 36 (by decide) (rfl) (by decide) ((2 * i) + t) (gn_add (gn_mul rfl rfl) rfl) (by omega) dX5_take_247 ?_
                          refine gx_dSi (v := (m_cmp ((m_rr cv J (m_t2 cv J (m_t1 I J a b mn).2 i) i t) 89 i) (J 5 23) ((m_rr cv J (m_t2 cv J (m_t1 I J a b mn).2 i) i t) 35 ((2 * i) + t)) ((m_rr cv J (m_t2 cv J (m_t1 I J a b mn).2 i) i t) 36 ((2 * i) + t)))) (I1 := (gU I 5 24 1)) (J1 := J) (a1 := a) (b1 := (m_rr cv J (m_t2 cv J (m_t1 I J a b mn).2 i) i t)) (As := [.long ((m_rr cv J (m_t2 cv J (m_t1 I J a b mn).2 i) i t) 89 i), .long (J 5 23), .long ((m_rr cv J (m_t2 cv J (m_t1 I J a b mn).2 i) i t) 35 ((2 * i) + t)), .long ((m_rr cv J (m_t2 cv J (m_t1 I J a b mn).2 i) i t) 36 ((2 * i) + t))]) (rest := []) ⟨hx, hb, hml, hown, hts⟩ G (kX5_compare l D ad cy (gU I 5 24 1) J a (m_rr cv J (m_t2 cv J (m_t1 I J a b mn).2 i) i t) H.size ((m_rr cv J (m_t2 cv J (m_t1 I J a b mn).2 i) i t) 89 i) (J 5 23) ((m_rr cv J (m_t2 cv J (m_t1 I J a b mn).2 i) i t) 35 ((2 * i) + t)) ((m_rr cv J (m_t2 cv J (m_t1 I J a b mn).2 i) i t) 36 ((2 * i) + t))) (va_cwS 4 hts gX5_take_X5_compare rfl rfl rfl (by decide +kernel) ⟨Nat.le_of_ble_eq_true rfl, Nat.le_of_ble_eq_true rfl⟩) rfl hl.1 rfl (Nat.le_of_ble_eq_true rfl) ⟨Nat.zero_le _, Nat.zero_le _⟩ dX5_take_248 (fun H locs G => ?_)
                          refine lv_istore (lv' := [(7, .int (m_cmp ((m_rr cv J (m_t2 cv J (m_t1 I J a b mn).2 i) i t) 89 i) (J 5 23) ((m_rr cv J (m_t2 cv J (m_t1 I J a b mn).2 i) i t) 35 ((2 * i) + t)) ((m_rr cv J (m_t2 cv J (m_t1 I J a b mn).2 i) i t) 36 ((2 * i) + t)))), (6, .int ((2 * (nI i)) + (nI t))), (0, .ref (ad 5)), (1, .long ((m_t1 I J a b mn).1)), (3, .int cv), (4, .int (nI i)), (5, .int (nI t))]) hx hb dX5_take_251 hl (by decide) rfl (fun ls hl => ?_)
                          refine lv_iload_n hx hb dX5_take_253 rfl (lv_at hl 4 rfl) ?_
                          refine lv_if_lt (tgt := 275) hx hb dX5_take_254 (by decide) (fun c254 => ?_) (fun c254 => ?_)
                          · skip
                            exact absurd c254 (gx_notneg c216)
                          · skip
                            refine lv_iload hx hb dX5_take_257 (lv_at hl 6 rfl) ?_
                            refine lv_if_ne (tgt := 270) hx hb dX5_take_259 (by decide) (fun c259 => ?_) (fun c259 => ?_)
                            · skip
                              have n259 := gn_neq (X := t) (Y := 0) rfl rfl (by omega) (by omega) c259
                              refine lv_iload hx hb dX5_take_270 (lv_at hl 0 rfl) ?_
                              refine lv_if_le (tgt := 300) hx hb dX5_take_272 (by decide) (fun c272 => ?_) (fun c272 => ?_)
                              · skip
                                refine lv_iinc (v := (nI (t + 1))) (lv' := [(5, .int (nI (t + 1))), (7, .int (m_cmp ((m_rr cv J (m_t2 cv J (m_t1 I J a b mn).2 i) i t) 89 i) (J 5 23) ((m_rr cv J (m_t2 cv J (m_t1 I J a b mn).2 i) i t) 35 ((2 * i) + t)) ((m_rr cv J (m_t2 cv J (m_t1 I J a b mn).2 i) i t) 36 ((2 * i) + t)))), (6, .int ((2 * (nI i)) + (nI t))), (0, .ref (ad 5)), (1, .long ((m_t1 I J a b mn).1)), (3, .int cv), (4, .int (nI i))]) hx hb dX5_take_300 hl (k := 6) rfl (gn_add (X := t) (Y := 1) rfl rfl) (by decide) rfl (fun ls hl => ?_)
                                refine lv_goto (tgt := 200) hx hb dX5_take_303 (by decide) ?_
                                exact ih200  (t + 1) _ _ _ (by omega) (by omega) (gg_eq G rfl rfl rfl (by (try simp only [m_rr]); unfold m_rs; (repeat (first | rw [if_pos c9] | rw [if_pos c151] | rw [if_pos c181] | rw [if_neg c194] | rw [if_neg c203] | rw [if_pos c216] | rw [if_neg c254] | rw [if_neg c259] | rw [if_pos c272])); (try rfl))) (lv_sub hl [3, 4, 5, 6, 0] rfl)
                              · skip
                                refine lv_aload_n hx hb dX5_take_275 rfl (lv_at hl 2 rfl) ?_
                                refine gx_get hx hb hts hinX5 hown G 5 (by decide) rfl rfl 15 (by decide) rfl lk36 rfl (v := .ref (ad 35)) rfl dX5_take_276 ?_
                                refine lv_iload hx hb dX5_take_279 (lv_at hl 1 rfl) ?_
                                refine lv_aload_n hx hb dX5_take_281 rfl (lv_at hl 2 rfl) ?_
                                refine gx_get hx hb hts hinX5 hown G 5 (by decide) rfl rfl 22 (by decide) rfl lk57 rfl (v := .ref (ad 89)) rfl dX5_take_282 ?_
                                refine lv_iload hx hb dX5_take_285 (lv_at hl 5 rfl) ?_
                                refine gx_lald hx hb G 89 (by decide) (rfl) (by decide) i rfl (by omega) dX5_take_287 ?_
                                refine gx_last hx hb G 35 (by decide) (rfl) (by decide) ((2 * i) + t) (gn_add (gn_mul rfl rfl) rfl) (by omega) dX5_take_288 (fun H locs G => ?_)
                                refine lv_aload_n hx hb dX5_take_289 rfl (lv_at hl 2 rfl) ?_
                                refine gx_get hx hb hts hinX5 hown G 5 (by decide) rfl rfl 16 (by decide) rfl lk39 rfl (v := .ref (ad 36)) rfl dX5_take_290 ?_
                                refine lv_iload hx hb dX5_take_293 (lv_at hl 1 rfl) ?_
                                refine lv_aload_n hx hb dX5_take_295 rfl (lv_at hl 2 rfl) ?_
                                refine gx_get hx hb hts hinX5 hown G 5 (by decide) rfl rfl 23 (by decide) rfl lk74 rfl (v := .long (J 5 23)) rfl dX5_take_296 ?_
                                refine gx_last hx hb G 36 (by decide) (rfl) (by decide) ((2 * i) + t) (gn_add (gn_mul rfl rfl) rfl) (by omega) dX5_take_299 (fun H locs G => ?_)
                                refine lv_iinc (v := (nI (t + 1))) (lv' := [(5, .int (nI (t + 1))), (7, .int (m_cmp ((m_rr cv J (m_t2 cv J (m_t1 I J a b mn).2 i) i t) 89 i) (J 5 23) ((m_rr cv J (m_t2 cv J (m_t1 I J a b mn).2 i) i t) 35 ((2 * i) + t)) ((m_rr cv J (m_t2 cv J (m_t1 I J a b mn).2 i) i t) 36 ((2 * i) + t)))), (6, .int ((2 * (nI i)) + (nI t))), (0, .ref (ad 5)), (1, .long ((m_t1 I J a b mn).1)), (3, .int cv), (4, .int (nI i))]) hx hb dX5_take_300 hl (k := 6) rfl (gn_add (X := t) (Y := 1) rfl rfl) (by decide) rfl (fun ls hl => ?_)
                                refine lv_goto (tgt := 200) hx hb dX5_take_303 (by decide) ?_
                                exact ih200  (t + 1) _ _ _ (by omega) (by omega) (gg_eq G rfl rfl rfl (by (try simp only [m_rr]); unfold m_rs; (repeat (first | rw [if_pos c9] | rw [if_pos c151] | rw [if_pos c181] | rw [if_neg c194] | rw [if_neg c203] | rw [if_pos c216] | rw [if_neg c254] | rw [if_neg c259] | rw [if_neg c272])); (try rfl))) (lv_sub hl [3, 4, 5, 6, 0] rfl)
                            · skip
                              have n259 := gn_eq (X := t) (Y := 0) rfl rfl (by omega) (by omega) c259
                              refine lv_iload hx hb dX5_take_262 (lv_at hl 0 rfl) ?_
                              refine lv_if_ge (tgt := 300) hx hb dX5_take_264 (by decide) (fun c264 => ?_) (fun c264 => ?_)
                              · skip
                                refine lv_iinc (v := (nI (t + 1))) (lv' := [(5, .int (nI (t + 1))), (7, .int (m_cmp ((m_rr cv J (m_t2 cv J (m_t1 I J a b mn).2 i) i t) 89 i) (J 5 23) ((m_rr cv J (m_t2 cv J (m_t1 I J a b mn).2 i) i t) 35 ((2 * i) + t)) ((m_rr cv J (m_t2 cv J (m_t1 I J a b mn).2 i) i t) 36 ((2 * i) + t)))), (6, .int ((2 * (nI i)) + (nI t))), (0, .ref (ad 5)), (1, .long ((m_t1 I J a b mn).1)), (3, .int cv), (4, .int (nI i))]) hx hb dX5_take_300 hl (k := 6) rfl (gn_add (X := t) (Y := 1) rfl rfl) (by decide) rfl (fun ls hl => ?_)
                                refine lv_goto (tgt := 200) hx hb dX5_take_303 (by decide) ?_
                                exact ih200  (t + 1) _ _ _ (by omega) (by omega) (gg_eq G rfl rfl rfl (by (try simp only [m_rr]); unfold m_rs; (repeat (first | rw [if_pos c9] | rw [if_pos c151] | rw [if_pos c181] | rw [if_neg c194] | rw [if_neg c203] | rw [if_pos c216] | rw [if_neg c254] | rw [if_pos c259] | rw [if_pos c264])); (try rfl))) (lv_sub hl [3, 4, 5, 6, 0] rfl)
                              · skip
                                refine lv_goto (tgt := 275) hx hb dX5_take_267 (by decide) ?_
                                refine lv_aload_n hx hb dX5_take_275 rfl (lv_at hl 2 rfl) ?_
                                refine gx_get hx hb hts hinX5 hown G 5 (by decide) rfl rfl 15 (by decide) rfl lk36 rfl (v := .ref (ad 35)) rfl dX5_take_276 ?_
                                refine lv_iload hx hb dX5_take_279 (lv_at hl 1 rfl) ?_
                                refine lv_aload_n hx hb dX5_take_281 rfl (lv_at hl 2 rfl) ?_
                                refine gx_get hx hb hts hinX5 hown G 5 (by decide) rfl rfl 22 (by decide) rfl lk57 rfl (v := .ref (ad 89)) rfl dX5_take_282 ?_
                                refine lv_iload hx hb dX5_take_285 (lv_at hl 5 rfl) ?_
                                refine gx_lald hx hb G 89 (by decide) (rfl) (by decide) i rfl (by omega) dX5_take_287 ?_
                                refine gx_last hx hb G 35 (by decide) (rfl) (by decide) ((2 * i) + t) (gn_add (gn_mul rfl rfl) rfl) (by omega) dX5_take_288 (fun H locs G => ?_)
                                refine lv_aload_n hx hb dX5_take_289 rfl (lv_at hl 2 rfl) ?_
                                refine gx_get hx hb hts hinX5 hown G 5 (by decide) rfl rfl 16 (by decide) rfl lk39 rfl (v := .ref (ad 36)) rfl dX5_take_290 ?_
                                refine lv_iload hx hb dX5_take_293 (lv_at hl 1 rfl) ?_
                                refine lv_aload_n hx hb dX5_take_295 rfl (lv_at hl 2 rfl) ?_
                                refine gx_get hx hb hts hinX5 hown G 5 (by decide) rfl rfl 23 (by decide) rfl lk74 rfl (v := .long (J 5 23)) rfl dX5_take_296 ?_
                                refine gx_last hx hb G 36 (by decide) (rfl) (by decide) ((2 * i) + t) (gn_add (gn_mul rfl rfl) rfl) (by omega) dX5_take_299 (fun H locs G => ?_)
                                refine lv_iinc (v := (nI (t + 1))) (lv' := [(5, .int (nI (t + 1))), (7, .int (m_cmp ((m_rr cv J (m_t2 cv J (m_t1 I J a b mn).2 i) i t) 89 i) (J 5 23) ((m_rr cv J (m_t2 cv J (m_t1 I J a b mn).2 i) i t) 35 ((2 * i) + t)) ((m_rr cv J (m_t2 cv J (m_t1 I J a b mn).2 i) i t) 36 ((2 * i) + t)))), (6, .int ((2 * (nI i)) + (nI t))), (0, .ref (ad 5)), (1, .long ((m_t1 I J a b mn).1)), (3, .int cv), (4, .int (nI i))]) hx hb dX5_take_300 hl (k := 6) rfl (gn_add (X := t) (Y := 1) rfl rfl) (by decide) rfl (fun ls hl => ?_)
                                refine lv_goto (tgt := 200) hx hb dX5_take_303 (by decide) ?_
                                exact ih200  (t + 1) _ _ _ (by omega) (by omega) (gg_eq G rfl rfl rfl (by (try simp only [m_rr]); unfold m_rs; (repeat (first | rw [if_pos c9] | rw [if_pos c151] | rw [if_pos c181] | rw [if_neg c194] | rw [if_neg c203] | rw [if_pos c216] | rw [if_neg c254] | rw [if_pos c259] | rw [if_neg c264])); (try rfl))) (lv_sub hl [3, 4, 5, 6, 0] rfl)
                        · skip
                          refine lv_iconst (v := 0) hx hb dX5_take_219 (by decide) ?_
                          refine lv_goto (tgt := 251) hx hb dX5_take_220 (by decide) ?_
                          refine lv_istore (lv' := [(7, .int 0), (6, .int ((2 * (nI i)) + (nI t))), (0, .ref (ad 5)), (1, .long ((m_t1 I J a b mn).1)), (3, .int cv), (4, .int (nI i)), (5, .int (nI t))]) hx hb dX5_take_251 hl (by decide) rfl (fun ls hl => ?_)
                          refine lv_iload_n hx hb dX5_take_253 rfl (lv_at hl 4 rfl) ?_
                          refine lv_if_lt (tgt := 275) hx hb dX5_take_254 (by decide) (fun c254 => ?_) (fun c254 => ?_)
                          · skip
                            refine lv_aload_n hx hb dX5_take_275 rfl (lv_at hl 2 rfl) ?_
                            refine gx_get hx hb hts hinX5 hown G 5 (by decide) rfl rfl 15 (by decide) rfl lk36 rfl (v := .ref (ad 35)) rfl dX5_take_276 ?_
                            refine lv_iload hx hb dX5_take_279 (lv_at hl 1 rfl) ?_
                            refine lv_aload_n hx hb dX5_take_281 rfl (lv_at hl 2 rfl) ?_
                            refine gx_get hx hb hts hinX5 hown G 5 (by decide) rfl rfl 22 (by decide) rfl lk57 rfl (v := .ref (ad 89)) rfl dX5_take_282 ?_
                            refine lv_iload hx hb dX5_take_285 (lv_at hl 5 rfl) ?_
                            refine gx_lald hx hb G 89 (by decide) (rfl) (by decide) i rfl (by omega) dX5_take_287 ?_
                            refine gx_last hx hb G 35 (by decide) (rfl) (by decide) ((2 * i) + t) (gn_add (gn_mul rfl rfl) rfl) (by omega) dX5_take_288 (fun H locs G => ?_)
                            refine lv_aload_n hx hb dX5_take_289 rfl (lv_at hl 2 rfl) ?_
                            refine gx_get hx hb hts hinX5 hown G 5 (by decide) rfl rfl 16 (by decide) rfl lk39 rfl (v := .ref (ad 36)) rfl dX5_take_290 ?_
                            refine lv_iload hx hb dX5_take_293 (lv_at hl 1 rfl) ?_
                            refine lv_aload_n hx hb dX5_take_295 rfl (lv_at hl 2 rfl) ?_
                            refine gx_get hx hb hts hinX5 hown G 5 (by decide) rfl rfl 23 (by decide) rfl lk74 rfl (v := .long (J 5 23)) rfl dX5_take_296 ?_
                            refine gx_last hx hb G 36 (by decide) (rfl) (by decide) ((2 * i) + t) (gn_add (gn_mul rfl rfl) rfl) (by omega) dX5_take_299 (fun H locs G => ?_)
                            refine lv_iinc (v := (nI (t + 1))) (lv' := [(5, .int (nI (t + 1))), (7, .int 0), (6, .int ((2 * (nI i)) + (nI t))), (0, .ref (ad 5)), (1, .long ((m_t1 I J a b mn).1)), (3, .int cv), (4, .int (nI i))]) hx hb dX5_take_300 hl (k := 6) rfl (gn_add (X := t) (Y := 1) rfl rfl) (by decide) rfl (fun ls hl => ?_)
                            refine lv_goto (tgt := 200) hx hb dX5_take_303 (by decide) ?_
                            exact ih200  (t + 1) _ _ _ (by omega) (by omega) (gg_eq G rfl rfl rfl (by (try simp only [m_rr]); unfold m_rs; (repeat (first | rw [if_pos c9] | rw [if_pos c151] | rw [if_pos c181] | rw [if_neg c194] | rw [if_neg c203] | rw [if_neg c216] | rw [if_pos c254])); (try rfl))) (lv_sub hl [3, 4, 5, 6, 0] rfl)
                          · skip
                            exact absurd (i32_lt_of c216) c254
                  exact K200 (2 - 0 + 1) 0 _ _ _ (by omega) (Nat.lt_succ_self _) (gg_eq G rfl rfl rfl (rfl)) (lv_sub hl [1, 2, 3, 4, 0] rfl)
            exact K188 (mn - 0 + 1) 0 _ _ _ (by omega) (Nat.lt_succ_self _) (gg_eq G rfl rfl rfl (rfl)) (lv_sub hl [2, 3, 1, 0] rfl)
          · skip
            exact gx_vr hx hb hr hlocks G hQ (by unfold m_tJ m_tB; rw [← ecv]; (repeat (first | rw [if_pos c9] | rw [if_pos c151] | rw [if_neg c181])); (try rfl)) dX5_take_184
        · skip
          refine lv_lload_n hx hb dX5_take_154 rfl (lv_at hl 1 rfl) ?_
          refine lv_aload_n hx hb dX5_take_155 rfl (lv_at hl 0 rfl) ?_
          refine gx_get hx hb hts hinX5 hown G 5 (by decide) rfl rfl 23 (by decide) rfl lk74 rfl (v := .long (J 5 23)) rfl dX5_take_156 ?_
          refine lv_aload_n hx hb dX5_take_159 rfl (lv_at hl 0 rfl) ?_
          refine gx_get hx hb hts hinX5 hown G 5 (by decide) rfl rfl 11 (by decide) rfl lk108 rfl (v := .long (J 5 11)) rfl dX5_take_160 ?_
          refine lv_aload_n hx hb dX5_take_163 rfl (lv_at hl 0 rfl) ?_
          refine gx_get hx hb hts hinX5 hown G 5 (by decide) rfl rfl 12 (by decide) rfl lk111 rfl (v := .long (J 5 12)) rfl dX5_take_164 ?_
          refine gx_dSi (v := (m_cmp (m_t1 I J a b mn).1 (J 5 23) (J 5 11) (J 5 12))) (I1 := I) (J1 := J) (a1 := a) (b1 := ((m_t1 I J a b mn).2)) (As := [.long ((m_t1 I J a b mn).1), .long (J 5 23), .long (J 5 11), .long (J 5 12)]) (rest := []) ⟨hx, hb, hml, hown, hts⟩ G (kX5_compare l D ad cy I J a ((m_t1 I J a b mn).2) H.size (m_t1 I J a b mn).1 (J 5 23) (J 5 11) (J 5 12)) (va_cwS 4 hts gX5_take_X5_compare rfl rfl rfl (by decide +kernel) ⟨Nat.le_of_ble_eq_true rfl, Nat.le_of_ble_eq_true rfl⟩) rfl hl.1 rfl (Nat.le_of_ble_eq_true rfl) ⟨Nat.zero_le _, Nat.zero_le _⟩ dX5_take_167 (fun H locs G => ?_)
          refine lv_goto (tgt := 174) hx hb dX5_take_170 (by decide) ?_
          refine lv_istore_n (lv' := [(3, .int (m_cmp (m_t1 I J a b mn).1 (J 5 23) (J 5 11) (J 5 12))), (0, .ref (ad 5)), (1, .long ((m_t1 I J a b mn).1))]) hx hb dX5_take_174 rfl hl (by decide) rfl (fun ls hl => ?_)
          obtain ⟨cv, ecv⟩ : ∃ z, z = m_tk0 I J a b mn := ⟨_, rfl⟩
          have e3 : (m_cmp (m_t1 I J a b mn).1 (J 5 23) (J 5 11) (J 5 12)) = cv := by rw [ecv]; unfold m_tk0 m_tc; (repeat (first | rw [if_pos c9] | rw [if_neg c151]))
          rw [e3] at hl
          refine lv_aload_n hx hb dX5_take_175 rfl (lv_at hl 1 rfl) ?_
          refine lv_iconst (v := 1) hx hb dX5_take_176 (by decide) ?_
          refine gx_putI hx hb hts hinX5 tyX5 tyX5_ok nmX5 hown G 5 (by decide) rfl rfl 24 (by decide) rfl lk100 rfl rfl (tyX5_ok 24 (by decide)) (rfl) (rfl) dX5_take_177 (fun H locs G => ?_)
          refine lv_iload_n hx hb dX5_take_180 rfl (lv_at hl 0 rfl) ?_
          refine lv_if_le (tgt := 185) hx hb dX5_take_181 (by decide) (fun c181 => ?_) (fun c181 => ?_)
          · skip
            refine lv_iconst (v := 0) hx hb dX5_take_185 (by decide) ?_
            refine lv_istore (lv' := [(4, .int 0), (3, .int cv), (0, .ref (ad 5)), (1, .long ((m_t1 I J a b mn).1))]) hx hb dX5_take_186 hl (by decide) rfl (fun ls hl => ?_)
            have K188 : ∀ (nf : Nat) (i : Nat) (H : Heap) (locs : List Loc) (ls : Array Slot), (i ≤ mn) → mn - i < nf → GG D ad cy A s (gU I 5 24 1) J a (m_t2 cv J (m_t1 I J a b mn).2 i) H locs → lv_has ls 8 [(0, .ref (ad 5)), (1, .long ((m_t1 I J a b mn).1)), (3, .int cv), (4, .int (nI i))] → W p l e ({ frames := 1, cells := 0, slots := 0, locals := 31 }) s m args below meth c H locs 0 0 Q (F0 m 188 ls []) := by
              intro nf
              induction nf with
              | zero => exact fun _ _ _ _ _ hz => absurd hz (Nat.not_lt_zero _)
              | succ nf ih =>
                intro i H locs ls h3 hmeas G hl
                have ih188 := ih
                clear ih
                refine lv_iload hx hb dX5_take_188 (lv_at hl 3 rfl) ?_
                refine lv_aload_n hx hb dX5_take_190 rfl (lv_at hl 0 rfl) ?_
                refine gx_get hx hb hts hinX5 hown G 5 (by decide) rfl rfl 0 (by decide) rfl lk66 rfl (v := .int (I 5 0)) rfl dX5_take_191 ?_
                refine lv_icmp_ge (tgt := 312) hx hb dX5_take_194 (by decide) (fun c194 => ?_) (fun c194 => ?_)
                · skip
                  have n194 := gn_le (X := mn) (Y := i) hmn rfl (by omega) (by omega) c194
                  have hex : i = mn := by omega
                  rw [hex] at hl
                  rw [hex] at G
                  refine lv_iload_n hx hb dX5_take_312 rfl (lv_at hl 2 rfl) ?_
                  refine lv_if_ge (tgt := 320) hx hb dX5_take_313 (by decide) (fun c313 => ?_) (fun c313 => ?_)
                  · skip
                    refine lv_iconst (v := 0) hx hb dX5_take_320 (by decide) ?_
                    refine lv_istore (lv' := [(4, .int 0), (0, .ref (ad 5)), (1, .long ((m_t1 I J a b mn).1)), (3, .int cv)]) hx hb dX5_take_321 hl (by decide) rfl (fun ls hl => ?_)
                    obtain ⟨fv, efv⟩ : ∃ z, z = m_f0 (m_tk0 I J a b mn) := ⟨_, rfl⟩
                    have e4 : 0 = fv := by rw [efv, ← ecv]; unfold m_f0; (repeat (first | rw [if_pos c9] | rw [if_neg c151] | rw [if_pos c181] | rw [if_pos c194] | rw [if_pos c313]))
                    rw [e4] at hl
                    refine lv_iconst (v := 0) hx hb dX5_take_323 (by decide) ?_
                    refine lv_istore (lv' := [(5, .int 0), (4, .int fv), (0, .ref (ad 5)), (1, .long ((m_t1 I J a b mn).1)), (3, .int cv)]) hx hb dX5_take_324 hl (by decide) rfl (fun ls hl => ?_)
                    have K326 : ∀ (nf : Nat) (i : Nat) (f : Int32) (H : Heap) (locs : List Loc) (ls : Array Slot), (i ≤ mn) → (m_tk1 I J a b mn = m_fi J (m_tk2 I J a b mn) (mn - i) i f) → mn - i < nf → GG D ad cy A s (gU I 5 24 1) J a (m_tk2 I J a b mn) H locs → lv_has ls 8 [(0, .ref (ad 5)), (1, .long ((m_t1 I J a b mn).1)), (3, .int cv), (4, .int f), (5, .int (nI i))] → W p l e ({ frames := 1, cells := 0, slots := 0, locals := 31 }) s m args below meth c H locs 0 0 Q (F0 m 326 ls []) := by
                      intro nf
                      induction nf with
                      | zero => exact fun _ _ _ _ _ _ _ hz => absurd hz (Nat.not_lt_zero _)
                      | succ nf ih =>
                        intro i f H locs ls h3 h5 hmeas G hl
                        have ih326 := ih
                        clear ih
                        refine lv_iload hx hb dX5_take_326 (lv_at hl 4 rfl) ?_
                        refine lv_aload_n hx hb dX5_take_328 rfl (lv_at hl 0 rfl) ?_
                        refine gx_get hx hb hts hinX5 hown G 5 (by decide) rfl rfl 0 (by decide) rfl lk66 rfl (v := .int (I 5 0)) rfl dX5_take_329 ?_
                        refine lv_icmp_ge (tgt := 373) hx hb dX5_take_332 (by decide) (fun c332 => ?_) (fun c332 => ?_)
                        · skip
                          have n332 := gn_le (X := mn) (Y := i) hmn rfl (by omega) (by omega) c332
                          have h7 : m_tk1 I J a b mn = f := by
                            rw [h5]
                            first
                              | (rw [m_fi_s J _ n332, if_neg c337]; done)
                              | (rw [show mn - i = 0 by omega]; rfl)
                          refine lv_iload hx hb dX5_take_373 (lv_at hl 3 rfl) ?_
                          refine lv_if_ge (tgt := 418) hx hb dX5_take_375 (by decide) (fun c375 => ?_) (fun c375 => ?_)
                          · skip
                            refine lv_aload_n hx hb dX5_take_418 rfl (lv_at hl 0 rfl) ?_
                            refine lv_lload_n hx hb dX5_take_419 rfl (lv_at hl 1 rfl) ?_
                            refine gx_putJ hx hb hts hinX5 tyX5 tyX5_ok nmX5 hown G 5 (by decide) rfl rfl 11 (by decide) rfl lk108 rfl rfl (tyX5_ok 11 (by decide)) dX5_take_420 (fun H locs G => ?_)
                            refine lv_aload_n hx hb dX5_take_423 rfl (lv_at hl 0 rfl) ?_
                            refine lv_aload_n hx hb dX5_take_424 rfl (lv_at hl 0 rfl) ?_
                            refine gx_get hx hb hts hinX5 hown G 5 (by decide) rfl rfl 23 (by decide) rfl lk74 rfl (v := .long (J 5 23)) rfl dX5_take_425 ?_
                            refine gx_putJ hx hb hts hinX5 tyX5 tyX5_ok nmX5 hown G 5 (by decide) rfl rfl 12 (by decide) rfl lk111 rfl rfl (tyX5_ok 12 (by decide)) dX5_take_428 (fun H locs G => ?_)
                            exact gx_vr hx hb hr hlocks G hQ (by unfold m_tJ m_tB; rw [h7, ← ecv]; (repeat (first | rw [if_pos c9] | rw [if_neg c151] | rw [if_pos c181] | rw [if_pos c194] | rw [if_pos c313] | rw [if_pos c332] | rw [if_pos c375])); (try rfl)) dX5_take_431
                          · skip
                            refine lv_iconst (v := 0) hx hb dX5_take_378 (by decide) ?_
                            refine lv_istore (lv' := [(5, .int 0), (0, .ref (ad 5)), (1, .long ((m_t1 I J a b mn).1)), (3, .int cv), (4, .int f)]) hx hb dX5_take_379 hl (by decide) rfl (fun ls hl => ?_)
                            have K381 : ∀ (nf : Nat) (i : Nat) (H : Heap) (locs : List Loc) (ls : Array Slot), (i ≤ mn) → mn - i < nf → GG D ad cy A s (gU I 5 24 1) J a (m_cpb (m_tk2 I J a b mn) i) H locs → lv_has ls 8 [(0, .ref (ad 5)), (1, .long ((m_t1 I J a b mn).1)), (3, .int cv), (4, .int f), (5, .int (nI i))] → W p l e ({ frames := 1, cells := 0, slots := 0, locals := 31 }) s m args below meth c H locs 0 0 Q (F0 m 381 ls []) := by
                              intro nf
                              induction nf with
                              | zero => exact fun _ _ _ _ _ hz => absurd hz (Nat.not_lt_zero _)
                              | succ nf ih =>
                                intro i H locs ls h6 hmeas G hl
                                have ih381 := ih
                                clear ih
                                refine lv_iload hx hb dX5_take_381 (lv_at hl 4 rfl) ?_
                                refine lv_aload_n hx hb dX5_take_383 rfl (lv_at hl 0 rfl) ?_
                                refine gx_get hx hb hts hinX5 hown G 5 (by decide) rfl rfl 0 (by decide) rfl lk66 rfl (v := .int (I 5 0)) rfl dX5_take_384 ?_
                                refine lv_icmp_ge (tgt := 410) hx hb dX5_take_387 (by decide) (fun c387 => ?_) (fun c387 => ?_)
                                · skip
                                  have n387 := gn_le (X := mn) (Y := i) hmn rfl (by omega) (by omega) c387
                                  have hex : i = mn := by omega
                                  rw [hex] at hl
                                  rw [hex] at G
                                  refine lv_aload_n hx hb dX5_take_410 rfl (lv_at hl 0 rfl) ?_
                                  refine lv_aload_n hx hb dX5_take_411 rfl (lv_at hl 0 rfl) ?_
                                  refine gx_get hx hb hts hinX5 hown G 5 (by decide) rfl rfl 23 (by decide) rfl lk74 rfl (v := .long (J 5 23)) rfl dX5_take_412 ?_
                                  refine gx_putJ hx hb hts hinX5 tyX5 tyX5_ok nmX5 hown G 5 (by decide) rfl rfl 14 (by decide) rfl lk114 rfl rfl (tyX5_ok 14 (by decide)) dX5_take_415 (fun H locs G => ?_)
                                  refine lv_aload_n hx hb dX5_take_418 rfl (lv_at hl 0 rfl) ?_
                                  refine lv_lload_n hx hb dX5_take_419 rfl (lv_at hl 1 rfl) ?_
                                  refine gx_putJ hx hb hts hinX5 tyX5 tyX5_ok nmX5 hown G 5 (by decide) rfl rfl 11 (by decide) rfl lk108 rfl rfl (tyX5_ok 11 (by decide)) dX5_take_420 (fun H locs G => ?_)
                                  refine lv_aload_n hx hb dX5_take_423 rfl (lv_at hl 0 rfl) ?_
                                  refine lv_aload_n hx hb dX5_take_424 rfl (lv_at hl 0 rfl) ?_
                                  refine gx_get hx hb hts hinX5 hown G 5 (by decide) rfl rfl 23 (by decide) rfl lk74 rfl (v := .long (J 5 23)) rfl dX5_take_425 ?_
                                  refine gx_putJ hx hb hts hinX5 tyX5 tyX5_ok nmX5 hown G 5 (by decide) rfl rfl 12 (by decide) rfl lk111 rfl rfl (tyX5_ok 12 (by decide)) dX5_take_428 (fun H locs G => ?_)
                                  exact gx_vr hx hb hr hlocks G hQ (by unfold m_tJ m_tB; rw [h7, ← ecv]; (repeat (first | rw [if_pos c9] | rw [if_neg c151] | rw [if_pos c181] | rw [if_pos c194] | rw [if_pos c313] | rw [if_pos c332] | rw [if_neg c375] | rw [if_pos c387])); (try rfl)) dX5_take_431
                                · skip
                                  have n387 := gn_nle (X := mn) (Y := i) hmn rfl (by omega) (by omega) c387
                                  refine lv_aload_n hx hb dX5_take_390 rfl (lv_at hl 0 rfl) ?_
                                  refine gx_get hx hb hts hinX5 hown G 5 (by decide) rfl rfl 13 (by decide) rfl lk32 rfl (v := .ref (ad 34)) rfl dX5_take_391 ?_
                                  refine lv_iload hx hb dX5_take_394 (lv_at hl 4 rfl) ?_
                                  refine lv_aload_n hx hb dX5_take_396 rfl (lv_at hl 0 rfl) ?_
                                  refine gx_get hx hb hts hinX5 hown G 5 (by decide) rfl rfl 22 (by decide) rfl lk57 rfl (v := .ref (ad 89)) rfl dX5_take_397 ?_
                                  refine lv_iload hx hb dX5_take_400 (lv_at hl 4 rfl) ?_
                                  refine gx_lald hx hb G 89 (by decide) (rfl) (by decide) i rfl (by omega) dX5_take_402 ?_
                                  refine gx_last hx hb G 34 (by decide) (rfl) (by decide) i rfl (by omega) dX5_take_403 (fun H locs G => ?_)
                                  refine lv_iinc (v := (nI (i + 1))) (lv' := [(5, .int (nI (i + 1))), (0, .ref (ad 5)), (1, .long ((m_t1 I J a b mn).1)), (3, .int cv), (4, .int f)]) hx hb dX5_take_404 hl (k := 4) rfl (gn_add (X := i) (Y := 1) rfl rfl) (by decide) rfl (fun ls hl => ?_)
                                  refine lv_goto (tgt := 381) hx hb dX5_take_407 (by decide) ?_
                                  exact ih381  (i + 1) _ _ _ (by omega) (by omega) (gg_eq G rfl rfl rfl (rfl)) (lv_sub hl [1, 2, 3, 4, 0] rfl)
                            exact K381 (mn - 0 + 1) 0 _ _ _ (by omega) (Nat.lt_succ_self _) (gg_eq G rfl rfl rfl (rfl)) (lv_sub hl [1, 2, 3, 4, 0] rfl)
                        · skip
                          have n332 := gn_nle (X := mn) (Y := i) hmn rfl (by omega) (by omega) c332
                          refine lv_iload hx hb dX5_take_335 (lv_at hl 3 rfl) ?_
                          refine lv_if_ne (tgt := 373) hx hb dX5_take_337 (by decide) (fun c337 => ?_) (fun c337 => ?_)
                          · skip
                            have h7 : m_tk1 I J a b mn = f := by
                              rw [h5]
                              first
                                | (rw [m_fi_s J _ n332, if_neg c337]; done)
                                | (rw [show mn - i = 0 by omega]; rfl)
                            refine lv_iload hx hb dX5_take_373 (lv_at hl 3 rfl) ?_
                            refine lv_if_ge (tgt := 418) hx hb dX5_take_375 (by decide) (fun c375 => ?_) (fun c375 => ?_)
                            · skip
                              refine lv_aload_n hx hb dX5_take_418 rfl (lv_at hl 0 rfl) ?_
                              refine lv_lload_n hx hb dX5_take_419 rfl (lv_at hl 1 rfl) ?_
                              refine gx_putJ hx hb hts hinX5 tyX5 tyX5_ok nmX5 hown G 5 (by decide) rfl rfl 11 (by decide) rfl lk108 rfl rfl (tyX5_ok 11 (by decide)) dX5_take_420 (fun H locs G => ?_)
                              refine lv_aload_n hx hb dX5_take_423 rfl (lv_at hl 0 rfl) ?_
                              refine lv_aload_n hx hb dX5_take_424 rfl (lv_at hl 0 rfl) ?_
                              refine gx_get hx hb hts hinX5 hown G 5 (by decide) rfl rfl 23 (by decide) rfl lk74 rfl (v := .long (J 5 23)) rfl dX5_take_425 ?_
                              refine gx_putJ hx hb hts hinX5 tyX5 tyX5_ok nmX5 hown G 5 (by decide) rfl rfl 12 (by decide) rfl lk111 rfl rfl (tyX5_ok 12 (by decide)) dX5_take_428 (fun H locs G => ?_)
                              exact gx_vr hx hb hr hlocks G hQ (by unfold m_tJ m_tB; rw [h7, ← ecv]; (repeat (first | rw [if_pos c9] | rw [if_neg c151] | rw [if_pos c181] | rw [if_pos c194] | rw [if_pos c313] | rw [if_neg c332] | rw [if_neg c337] | rw [if_pos c375])); (try rfl)) dX5_take_431
                            · skip
                              refine lv_iconst (v := 0) hx hb dX5_take_378 (by decide) ?_
                              refine lv_istore (lv' := [(5, .int 0), (0, .ref (ad 5)), (1, .long ((m_t1 I J a b mn).1)), (3, .int cv), (4, .int f)]) hx hb dX5_take_379 hl (by decide) rfl (fun ls hl => ?_)
                              have K381 : ∀ (nf : Nat) (i : Nat) (H : Heap) (locs : List Loc) (ls : Array Slot), (i ≤ mn) → mn - i < nf → GG D ad cy A s (gU I 5 24 1) J a (m_cpb (m_tk2 I J a b mn) i) H locs → lv_has ls 8 [(0, .ref (ad 5)), (1, .long ((m_t1 I J a b mn).1)), (3, .int cv), (4, .int f), (5, .int (nI i))] → W p l e ({ frames := 1, cells := 0, slots := 0, locals := 31 }) s m args below meth c H locs 0 0 Q (F0 m 381 ls []) := by
                                intro nf
                                induction nf with
                                | zero => exact fun _ _ _ _ _ hz => absurd hz (Nat.not_lt_zero _)
                                | succ nf ih =>
                                  intro i H locs ls h6 hmeas G hl
                                  have ih381 := ih
                                  clear ih
                                  refine lv_iload hx hb dX5_take_381 (lv_at hl 4 rfl) ?_
                                  refine lv_aload_n hx hb dX5_take_383 rfl (lv_at hl 0 rfl) ?_
                                  refine gx_get hx hb hts hinX5 hown G 5 (by decide) rfl rfl 0 (by decide) rfl lk66 rfl (v := .int (I 5 0)) rfl dX5_take_384 ?_
                                  refine lv_icmp_ge (tgt := 410) hx hb dX5_take_387 (by decide) (fun c387 => ?_) (fun c387 => ?_)
                                  · skip
                                    have n387 := gn_le (X := mn) (Y := i) hmn rfl (by omega) (by omega) c387
                                    have hex : i = mn := by omega
                                    rw [hex] at hl
                                    rw [hex] at G
                                    refine lv_aload_n hx hb dX5_take_410 rfl (lv_at hl 0 rfl) ?_
                                    refine lv_aload_n hx hb dX5_take_411 rfl (lv_at hl 0 rfl) ?_
                                    refine gx_get hx hb hts hinX5 hown G 5 (by decide) rfl rfl 23 (by decide) rfl lk74 rfl (v := .long (J 5 23)) rfl dX5_take_412 ?_
                                    refine gx_putJ hx hb hts hinX5 tyX5 tyX5_ok nmX5 hown G 5 (by decide) rfl rfl 14 (by decide) rfl lk114 rfl rfl (tyX5_ok 14 (by decide)) dX5_take_415 (fun H locs G => ?_)
                                    refine lv_aload_n hx hb dX5_take_418 rfl (lv_at hl 0 rfl) ?_
                                    refine lv_lload_n hx hb dX5_take_419 rfl (lv_at hl 1 rfl) ?_
                                    refine gx_putJ hx hb hts hinX5 tyX5 tyX5_ok nmX5 hown G 5 (by decide) rfl rfl 11 (by decide) rfl lk108 rfl rfl (tyX5_ok 11 (by decide)) dX5_take_420 (fun H locs G => ?_)
                                    refine lv_aload_n hx hb dX5_take_423 rfl (lv_at hl 0 rfl) ?_
                                    refine lv_aload_n hx hb dX5_take_424 rfl (lv_at hl 0 rfl) ?_
                                    refine gx_get hx hb hts hinX5 hown G 5 (by decide) rfl rfl 23 (by decide) rfl lk74 rfl (v := .long (J 5 23)) rfl dX5_take_425 ?_
                                    refine gx_putJ hx hb hts hinX5 tyX5 tyX5_ok nmX5 hown G 5 (by decide) rfl rfl 12 (by decide) rfl lk111 rfl rfl (tyX5_ok 12 (by decide)) dX5_take_428 (fun H locs G => ?_)
                                    exact gx_vr hx hb hr hlocks G hQ (by unfold m_tJ m_tB; rw [h7, ← ecv]; (repeat (first | rw [if_pos c9] | rw [if_neg c151] | rw [if_pos c181] | rw [if_pos c194] | rw [if_pos c313] | rw [if_neg c332] | rw [if_neg c337] | rw [if_neg c375] | rw [if_pos c387])); (try rfl)) dX5_take_431
                                  · skip
                                    have n387 := gn_nle (X := mn) (Y := i) hmn rfl (by omega) (by omega) c387
                                    refine lv_aload_n hx hb dX5_take_390 rfl (lv_at hl 0 rfl) ?_
                                    refine gx_get hx hb hts hinX5 hown G 5 (by decide) rfl rfl 13 (by decide) rfl lk32 rfl (v := .ref (ad 34)) rfl dX5_take_391 ?_
                                    refine lv_iload hx hb dX5_take_394 (lv_at hl 4 rfl) ?_
                                    refine lv_aload_n hx hb dX5_take_396 rfl (lv_at hl 0 rfl) ?_
                                    refine gx_get hx hb hts hinX5 hown G 5 (by decide) rfl rfl 22 (by decide) rfl lk57 rfl (v := .ref (ad 89)) rfl dX5_take_397 ?_
                                    refine lv_iload hx hb dX5_take_400 (lv_at hl 4 rfl) ?_
                                    refine gx_lald hx hb G 89 (by decide) (rfl) (by decide) i rfl (by omega) dX5_take_402 ?_
                                    refine gx_last hx hb G 34 (by decide) (rfl) (by decide) i rfl (by omega) dX5_take_403 (fun H locs G => ?_)
                                    refine lv_iinc (v := (nI (i + 1))) (lv' := [(5, .int (nI (i + 1))), (0, .ref (ad 5)), (1, .long ((m_t1 I J a b mn).1)), (3, .int cv), (4, .int f)]) hx hb dX5_take_404 hl (k := 4) rfl (gn_add (X := i) (Y := 1) rfl rfl) (by decide) rfl (fun ls hl => ?_)
                                    refine lv_goto (tgt := 381) hx hb dX5_take_407 (by decide) ?_
                                    exact ih381  (i + 1) _ _ _ (by omega) (by omega) (gg_eq G rfl rfl rfl (rfl)) (lv_sub hl [1, 2, 3, 4, 0] rfl)
                              exact K381 (mn - 0 + 1) 0 _ _ _ (by omega) (Nat.lt_succ_self _) (gg_eq G rfl rfl rfl (rfl)) (lv_sub hl [1, 2, 3, 4, 0] rfl)
                          · skip
                            refine lv_aload_n hx hb dX5_take_340 rfl (lv_at hl 0 rfl) ?_
                            refine gx_get hx hb hts hinX5 hown G 5 (by decide) rfl rfl 22 (by decide) rfl lk57 rfl (v := .ref (ad 89)) rfl dX5_take_341 ?_
                            refine lv_iload hx hb dX5_take_344 (lv_at hl 4 rfl) ?_
                            refine gx_lald hx hb G 89 (by decide) (rfl) (by decide) i rfl (by omega) dX5_take_346 ?_
                            refine lv_aload_n hx hb dX5_take_347 rfl (lv_at hl 0 rfl) ?_
                            refine gx_get hx hb hts hinX5 hown G 5 (by decide) rfl rfl 23 (by decide) rfl lk74 rfl (v := .long (J 5 23)) rfl dX5_take_348 ?_
                            refine lv_aload_n hx hb dX5_take_351 rfl (lv_at hl 0 rfl) ?_
                            refine gx_get hx hb hts hinX5 hown G 5 (by decide) rfl rfl 13 (by decide) rfl lk32 rfl (v := .ref (ad 34)) rfl dX5_take_352 ?_
                            refine lv_iload hx hb dX5_take_355 (lv_at hl 4 rfl) ?_
                            refine gx_lald hx hb G 34 (by decide) (rfl) (by decide) i rfl (by omega) dX5_take_357 ?_
                            refine lv_aload_n hx hb dX5_take_358 rfl (lv_at hl 0 rfl) ?_
                            refine gx_get hx hb hts hinX5 hown G 5 (by decide) rfl rfl 14 (by decide) rfl lk114 rfl (v := .long (J 5 14)) rfl dX5_take_359 ?_
                            refine gx_dSi (v := (m_cmp ((m_tk2 I J a b mn) 89 i) (J 5 23) ((m_tk2 I J a b mn) 34 i) (J 5 14))) (I1 := (gU I 5 24 1)) (J1 := J) (a1 := a) (b1 := (m_tk2 I J a b mn)) (As := [.long ((m_tk2 I J a b mn) 89 i), .long (J 5 23), .long ((m_tk2 I J a b mn) 34 i), .long (J 5 14)]) (rest := []) ⟨hx, hb, hml, hown, hts⟩ G (kX5_compare l D ad cy (gU I 5 24 1) J a (m_tk2 I J a b mn) H.size ((m_tk2 I J a b mn) 89 i) (J 5 23) ((m_tk2 I J a b mn) 34 i) (J 5 14)) (va_cwS 4 hts gX5_take_X5_compare rfl rfl rfl (by decide +kernel) ⟨Nat.le_of_ble_eq_true rfl, Nat.le_of_ble_eq_true rfl⟩) rfl hl.1 rfl (Nat.le_of_ble_eq_true rfl) ⟨Nat.zero_le _, Nat.zero_le _⟩ dX5_take_362 (fun H locs G => ?_)
                            refine lv_istore (lv' := [(4, .int (m_cmp ((m_tk2 I J a b mn) 89 i) (J 5 23) ((m_tk2 I J a b mn) 34 i) (J 5 14))), (0, .ref (ad 5)), (1, .long ((m_t1 I J a b mn).1)), (3, .int cv), (5, .int (nI i))]) hx hb dX5_take_365 hl (by decide) rfl (fun ls hl => ?_)
                            refine lv_iinc (v := (nI (i + 1))) (lv' := [(5, .int (nI (i + 1))), (4, .int (m_cmp ((m_tk2 I J a b mn) 89 i) (J 5 23) ((m_tk2 I J a b mn) 34 i) (J 5 14))), (0, .ref (ad 5)), (1, .long ((m_t1 I J a b mn).1)), (3, .int cv)]) hx hb dX5_take_367 hl (k := 4) rfl (gn_add (X := i) (Y := 1) rfl rfl) (by decide) rfl (fun ls hl => ?_)
                            refine lv_goto (tgt := 326) hx hb dX5_take_370 (by decide) ?_
                            exact ih326  (i + 1) (m_cmp (m_tk2 I J a b mn 89 i) (J 5 23) (m_tk2 I J a b mn 34 i) (J 5 14)) _ _ _ (by omega) (by rw [h5, m_fi_s J _ n332, if_pos c337]) (by omega) G (lv_sub hl [2, 3, 4, 1, 0] rfl)
                    exact K326 (mn - 0 + 1) 0 fv _ _ _ (by omega) (by rw [efv]; rfl) (Nat.lt_succ_self _) (gg_eq G rfl rfl rfl (by rw [ecv]; rfl)) (lv_sub hl [2, 3, 4, 1, 0] rfl)
                  · skip
                    refine lv_iconst (v := -1) hx hb dX5_take_316 (by decide) ?_
                    refine lv_goto (tgt := 321) hx hb dX5_take_317 (by decide) ?_
                    refine lv_istore (lv' := [(4, .int (-1)), (0, .ref (ad 5)), (1, .long ((m_t1 I J a b mn).1)), (3, .int cv)]) hx hb dX5_take_321 hl (by decide) rfl (fun ls hl => ?_)
                    obtain ⟨fv, efv⟩ : ∃ z, z = m_f0 (m_tk0 I J a b mn) := ⟨_, rfl⟩
                    have e4 : (-1) = fv := by rw [efv, ← ecv]; unfold m_f0; (repeat (first | rw [if_pos c9] | rw [if_neg c151] | rw [if_pos c181] | rw [if_pos c194] | rw [if_neg c313]))
                    rw [e4] at hl
                    refine lv_iconst (v := 0) hx hb dX5_take_323 (by decide) ?_
                    refine lv_istore (lv' := [(5, .int 0), (4, .int fv), (0, .ref (ad 5)), (1, .long ((m_t1 I J a b mn).1)), (3, .int cv)]) hx hb dX5_take_324 hl (by decide) rfl (fun ls hl => ?_)
                    have K326 : ∀ (nf : Nat) (i : Nat) (f : Int32) (H : Heap) (locs : List Loc) (ls : Array Slot), (i ≤ mn) → (m_tk1 I J a b mn = m_fi J (m_tk2 I J a b mn) (mn - i) i f) → mn - i < nf → GG D ad cy A s (gU I 5 24 1) J a (m_tk2 I J a b mn) H locs → lv_has ls 8 [(0, .ref (ad 5)), (1, .long ((m_t1 I J a b mn).1)), (3, .int cv), (4, .int f), (5, .int (nI i))] → W p l e ({ frames := 1, cells := 0, slots := 0, locals := 31 }) s m args below meth c H locs 0 0 Q (F0 m 326 ls []) := by
                      intro nf
                      induction nf with
                      | zero => exact fun _ _ _ _ _ _ _ hz => absurd hz (Nat.not_lt_zero _)
                      | succ nf ih =>
                        intro i f H locs ls h3 h5 hmeas G hl
                        have ih326 := ih
                        clear ih
                        refine lv_iload hx hb dX5_take_326 (lv_at hl 4 rfl) ?_
                        refine lv_aload_n hx hb dX5_take_328 rfl (lv_at hl 0 rfl) ?_
                        refine gx_get hx hb hts hinX5 hown G 5 (by decide) rfl rfl 0 (by decide) rfl lk66 rfl (v := .int (I 5 0)) rfl dX5_take_329 ?_
                        refine lv_icmp_ge (tgt := 373) hx hb dX5_take_332 (by decide) (fun c332 => ?_) (fun c332 => ?_)
                        · skip
                          have n332 := gn_le (X := mn) (Y := i) hmn rfl (by omega) (by omega) c332
                          have h7 : m_tk1 I J a b mn = f := by
                            rw [h5]
                            first
                              | (rw [m_fi_s J _ n332, if_neg c337]; done)
                              | (rw [show mn - i = 0 by omega]; rfl)
                          refine lv_iload hx hb dX5_take_373 (lv_at hl 3 rfl) ?_
                          refine lv_if_ge (tgt := 418) hx hb dX5_take_375 (by decide) (fun c375 => ?_) (fun c375 => ?_)
                          · skip
                            refine lv_aload_n hx hb dX5_take_418 rfl (lv_at hl 0 rfl) ?_
                            refine lv_lload_n hx hb dX5_take_419 rfl (lv_at hl 1 rfl) ?_
                            refine gx_putJ hx hb hts hinX5 tyX5 tyX5_ok nmX5 hown G 5 (by decide) rfl rfl 11 (by decide) rfl lk108 rfl rfl (tyX5_ok 11 (by decide)) dX5_take_420 (fun H locs G => ?_)
                            refine lv_aload_n hx hb dX5_take_423 rfl (lv_at hl 0 rfl) ?_
                            refine lv_aload_n hx hb dX5_take_424 rfl (lv_at hl 0 rfl) ?_
                            refine gx_get hx hb hts hinX5 hown G 5 (by decide) rfl rfl 23 (by decide) rfl lk74 rfl (v := .long (J 5 23)) rfl dX5_take_425 ?_
                            refine gx_putJ hx hb hts hinX5 tyX5 tyX5_ok nmX5 hown G 5 (by decide) rfl rfl 12 (by decide) rfl lk111 rfl rfl (tyX5_ok 12 (by decide)) dX5_take_428 (fun H locs G => ?_)
                            exact gx_vr hx hb hr hlocks G hQ (by unfold m_tJ m_tB; rw [h7, ← ecv]; (repeat (first | rw [if_pos c9] | rw [if_neg c151] | rw [if_pos c181] | rw [if_pos c194] | rw [if_neg c313] | rw [if_pos c332] | rw [if_pos c375])); (try rfl)) dX5_take_431
                          · skip
                            refine lv_iconst (v := 0) hx hb dX5_take_378 (by decide) ?_
                            refine lv_istore (lv' := [(5, .int 0), (0, .ref (ad 5)), (1, .long ((m_t1 I J a b mn).1)), (3, .int cv), (4, .int f)]) hx hb dX5_take_379 hl (by decide) rfl (fun ls hl => ?_)
                            have K381 : ∀ (nf : Nat) (i : Nat) (H : Heap) (locs : List Loc) (ls : Array Slot), (i ≤ mn) → mn - i < nf → GG D ad cy A s (gU I 5 24 1) J a (m_cpb (m_tk2 I J a b mn) i) H locs → lv_has ls 8 [(0, .ref (ad 5)), (1, .long ((m_t1 I J a b mn).1)), (3, .int cv), (4, .int f), (5, .int (nI i))] → W p l e ({ frames := 1, cells := 0, slots := 0, locals := 31 }) s m args below meth c H locs 0 0 Q (F0 m 381 ls []) := by
                              intro nf
                              induction nf with
                              | zero => exact fun _ _ _ _ _ hz => absurd hz (Nat.not_lt_zero _)
                              | succ nf ih =>
                                intro i H locs ls h6 hmeas G hl
                                have ih381 := ih
                                clear ih
                                refine lv_iload hx hb dX5_take_381 (lv_at hl 4 rfl) ?_
                                refine lv_aload_n hx hb dX5_take_383 rfl (lv_at hl 0 rfl) ?_
                                refine gx_get hx hb hts hinX5 hown G 5 (by decide) rfl rfl 0 (by decide) rfl lk66 rfl (v := .int (I 5 0)) rfl dX5_take_384 ?_
                                refine lv_icmp_ge (tgt := 410) hx hb dX5_take_387 (by decide) (fun c387 => ?_) (fun c387 => ?_)
                                · skip
                                  have n387 := gn_le (X := mn) (Y := i) hmn rfl (by omega) (by omega) c387
                                  have hex : i = mn := by omega
                                  rw [hex] at hl
                                  rw [hex] at G
                                  refine lv_aload_n hx hb dX5_take_410 rfl (lv_at hl 0 rfl) ?_
                                  refine lv_aload_n hx hb dX5_take_411 rfl (lv_at hl 0 rfl) ?_
                                  refine gx_get hx hb hts hinX5 hown G 5 (by decide) rfl rfl 23 (by decide) rfl lk74 rfl (v := .long (J 5 23)) rfl dX5_take_412 ?_
                                  refine gx_putJ hx hb hts hinX5 tyX5 tyX5_ok nmX5 hown G 5 (by decide) rfl rfl 14 (by decide) rfl lk114 rfl rfl (tyX5_ok 14 (by decide)) dX5_take_415 (fun H locs G => ?_)
                                  refine lv_aload_n hx hb dX5_take_418 rfl (lv_at hl 0 rfl) ?_
                                  refine lv_lload_n hx hb dX5_take_419 rfl (lv_at hl 1 rfl) ?_
                                  refine gx_putJ hx hb hts hinX5 tyX5 tyX5_ok nmX5 hown G 5 (by decide) rfl rfl 11 (by decide) rfl lk108 rfl rfl (tyX5_ok 11 (by decide)) dX5_take_420 (fun H locs G => ?_)
                                  refine lv_aload_n hx hb dX5_take_423 rfl (lv_at hl 0 rfl) ?_
                                  refine lv_aload_n hx hb dX5_take_424 rfl (lv_at hl 0 rfl) ?_
                                  refine gx_get hx hb hts hinX5 hown G 5 (by decide) rfl rfl 23 (by decide) rfl lk74 rfl (v := .long (J 5 23)) rfl dX5_take_425 ?_
                                  refine gx_putJ hx hb hts hinX5 tyX5 tyX5_ok nmX5 hown G 5 (by decide) rfl rfl 12 (by decide) rfl lk111 rfl rfl (tyX5_ok 12 (by decide)) dX5_take_428 (fun H locs G => ?_)
                                  exact gx_vr hx hb hr hlocks G hQ (by unfold m_tJ m_tB; rw [h7, ← ecv]; (repeat (first | rw [if_pos c9] | rw [if_neg c151] | rw [if_pos c181] | rw [if_pos c194] | rw [if_neg c313] | rw [if_pos c332] | rw [if_neg c375] | rw [if_pos c387])); (try rfl)) dX5_take_431
                                · skip
                                  have n387 := gn_nle (X := mn) (Y := i) hmn rfl (by omega) (by omega) c387
                                  refine lv_aload_n hx hb dX5_take_390 rfl (lv_at hl 0 rfl) ?_
                                  refine gx_get hx hb hts hinX5 hown G 5 (by decide) rfl rfl 13 (by decide) rfl lk32 rfl (v := .ref (ad 34)) rfl dX5_take_391 ?_
                                  refine lv_iload hx hb dX5_take_394 (lv_at hl 4 rfl) ?_
                                  refine lv_aload_n hx hb dX5_take_396 rfl (lv_at hl 0 rfl) ?_
                                  refine gx_get hx hb hts hinX5 hown G 5 (by decide) rfl rfl 22 (by decide) rfl lk57 rfl (v := .ref (ad 89)) rfl dX5_take_397 ?_
                                  refine lv_iload hx hb dX5_take_400 (lv_at hl 4 rfl) ?_
                                  refine gx_lald hx hb G 89 (by decide) (rfl) (by decide) i rfl (by omega) dX5_take_402 ?_
                                  refine gx_last hx hb G 34 (by decide) (rfl) (by decide) i rfl (by omega) dX5_take_403 (fun H locs G => ?_)
                                  refine lv_iinc (v := (nI (i + 1))) (lv' := [(5, .int (nI (i + 1))), (0, .ref (ad 5)), (1, .long ((m_t1 I J a b mn).1)), (3, .int cv), (4, .int f)]) hx hb dX5_take_404 hl (k := 4) rfl (gn_add (X := i) (Y := 1) rfl rfl) (by decide) rfl (fun ls hl => ?_)
                                  refine lv_goto (tgt := 381) hx hb dX5_take_407 (by decide) ?_
                                  exact ih381  (i + 1) _ _ _ (by omega) (by omega) (gg_eq G rfl rfl rfl (rfl)) (lv_sub hl [1, 2, 3, 4, 0] rfl)
                            exact K381 (mn - 0 + 1) 0 _ _ _ (by omega) (Nat.lt_succ_self _) (gg_eq G rfl rfl rfl (rfl)) (lv_sub hl [1, 2, 3, 4, 0] rfl)
                        · skip
                          have n332 := gn_nle (X := mn) (Y := i) hmn rfl (by omega) (by omega) c332
                          refine lv_iload hx hb dX5_take_335 (lv_at hl 3 rfl) ?_
                          refine lv_if_ne (tgt := 373) hx hb dX5_take_337 (by decide) (fun c337 => ?_) (fun c337 => ?_)
                          · skip
                            have h7 : m_tk1 I J a b mn = f := by
                              rw [h5]
                              first
                                | (rw [m_fi_s J _ n332, if_neg c337]; done)
                                | (rw [show mn - i = 0 by omega]; rfl)
                            refine lv_iload hx hb dX5_take_373 (lv_at hl 3 rfl) ?_
                            refine lv_if_ge (tgt := 418) hx hb dX5_take_375 (by decide) (fun c375 => ?_) (fun c375 => ?_)
                            · skip
                              refine lv_aload_n hx hb dX5_take_418 rfl (lv_at hl 0 rfl) ?_
                              refine lv_lload_n hx hb dX5_take_419 rfl (lv_at hl 1 rfl) ?_
                              refine gx_putJ hx hb hts hinX5 tyX5 tyX5_ok nmX5 hown G 5 (by decide) rfl rfl 11 (by decide) rfl lk108 rfl rfl (tyX5_ok 11 (by decide)) dX5_take_420 (fun H locs G => ?_)
                              refine lv_aload_n hx hb dX5_take_423 rfl (lv_at hl 0 rfl) ?_
                              refine lv_aload_n hx hb dX5_take_424 rfl (lv_at hl 0 rfl) ?_
                              refine gx_get hx hb hts hinX5 hown G 5 (by decide) rfl rfl 23 (by decide) rfl lk74 rfl (v := .long (J 5 23)) rfl dX5_take_425 ?_
                              refine gx_putJ hx hb hts hinX5 tyX5 tyX5_ok nmX5 hown G 5 (by decide) rfl rfl 12 (by decide) rfl lk111 rfl rfl (tyX5_ok 12 (by decide)) dX5_take_428 (fun H locs G => ?_)
                              exact gx_vr hx hb hr hlocks G hQ (by unfold m_tJ m_tB; rw [h7, ← ecv]; (repeat (first | rw [if_pos c9] | rw [if_neg c151] | rw [if_pos c181] | rw [if_pos c194] | rw [if_neg c313] | rw [if_neg c332] | rw [if_neg c337] | rw [if_pos c375])); (try rfl)) dX5_take_431
                            · skip
                              refine lv_iconst (v := 0) hx hb dX5_take_378 (by decide) ?_
                              refine lv_istore (lv' := [(5, .int 0), (0, .ref (ad 5)), (1, .long ((m_t1 I J a b mn).1)), (3, .int cv), (4, .int f)]) hx hb dX5_take_379 hl (by decide) rfl (fun ls hl => ?_)
                              have K381 : ∀ (nf : Nat) (i : Nat) (H : Heap) (locs : List Loc) (ls : Array Slot), (i ≤ mn) → mn - i < nf → GG D ad cy A s (gU I 5 24 1) J a (m_cpb (m_tk2 I J a b mn) i) H locs → lv_has ls 8 [(0, .ref (ad 5)), (1, .long ((m_t1 I J a b mn).1)), (3, .int cv), (4, .int f), (5, .int (nI i))] → W p l e ({ frames := 1, cells := 0, slots := 0, locals := 31 }) s m args below meth c H locs 0 0 Q (F0 m 381 ls []) := by
                                intro nf
                                induction nf with
                                | zero => exact fun _ _ _ _ _ hz => absurd hz (Nat.not_lt_zero _)
                                | succ nf ih =>
                                  intro i H locs ls h6 hmeas G hl
                                  have ih381 := ih
                                  clear ih
                                  refine lv_iload hx hb dX5_take_381 (lv_at hl 4 rfl) ?_
                                  refine lv_aload_n hx hb dX5_take_383 rfl (lv_at hl 0 rfl) ?_
                                  refine gx_get hx hb hts hinX5 hown G 5 (by decide) rfl rfl 0 (by decide) rfl lk66 rfl (v := .int (I 5 0)) rfl dX5_take_384 ?_
                                  refine lv_icmp_ge (tgt := 410) hx hb dX5_take_387 (by decide) (fun c387 => ?_) (fun c387 => ?_)
                                  · skip
                                    have n387 := gn_le (X := mn) (Y := i) hmn rfl (by omega) (by omega) c387
                                    have hex : i = mn := by omega
                                    rw [hex] at hl
                                    rw [hex] at G
                                    refine lv_aload_n hx hb dX5_take_410 rfl (lv_at hl 0 rfl) ?_
                                    refine lv_aload_n hx hb dX5_take_411 rfl (lv_at hl 0 rfl) ?_
                                    refine gx_get hx hb hts hinX5 hown G 5 (by decide) rfl rfl 23 (by decide) rfl lk74 rfl (v := .long (J 5 23)) rfl dX5_take_412 ?_
                                    refine gx_putJ hx hb hts hinX5 tyX5 tyX5_ok nmX5 hown G 5 (by decide) rfl rfl 14 (by decide) rfl lk114 rfl rfl (tyX5_ok 14 (by decide)) dX5_take_415 (fun H locs G => ?_)
                                    refine lv_aload_n hx hb dX5_take_418 rfl (lv_at hl 0 rfl) ?_
                                    refine lv_lload_n hx hb dX5_take_419 rfl (lv_at hl 1 rfl) ?_
                                    refine gx_putJ hx hb hts hinX5 tyX5 tyX5_ok nmX5 hown G 5 (by decide) rfl rfl 11 (by decide) rfl lk108 rfl rfl (tyX5_ok 11 (by decide)) dX5_take_420 (fun H locs G => ?_)
                                    refine lv_aload_n hx hb dX5_take_423 rfl (lv_at hl 0 rfl) ?_
                                    refine lv_aload_n hx hb dX5_take_424 rfl (lv_at hl 0 rfl) ?_
                                    refine gx_get hx hb hts hinX5 hown G 5 (by decide) rfl rfl 23 (by decide) rfl lk74 rfl (v := .long (J 5 23)) rfl dX5_take_425 ?_
                                    refine gx_putJ hx hb hts hinX5 tyX5 tyX5_ok nmX5 hown G 5 (by decide) rfl rfl 12 (by decide) rfl lk111 rfl rfl (tyX5_ok 12 (by decide)) dX5_take_428 (fun H locs G => ?_)
                                    exact gx_vr hx hb hr hlocks G hQ (by unfold m_tJ m_tB; rw [h7, ← ecv]; (repeat (first | rw [if_pos c9] | rw [if_neg c151] | rw [if_pos c181] | rw [if_pos c194] | rw [if_neg c313] | rw [if_neg c332] | rw [if_neg c337] | rw [if_neg c375] | rw [if_pos c387])); (try rfl)) dX5_take_431
                                  · skip
                                    have n387 := gn_nle (X := mn) (Y := i) hmn rfl (by omega) (by omega) c387
                                    refine lv_aload_n hx hb dX5_take_390 rfl (lv_at hl 0 rfl) ?_
                                    refine gx_get hx hb hts hinX5 hown G 5 (by decide) rfl rfl 13 (by decide) rfl lk32 rfl (v := .ref (ad 34)) rfl dX5_take_391 ?_
                                    refine lv_iload hx hb dX5_take_394 (lv_at hl 4 rfl) ?_
                                    refine lv_aload_n hx hb dX5_take_396 rfl (lv_at hl 0 rfl) ?_
                                    refine gx_get hx hb hts hinX5 hown G 5 (by decide) rfl rfl 22 (by decide) rfl lk57 rfl (v := .ref (ad 89)) rfl dX5_take_397 ?_
                                    refine lv_iload hx hb dX5_take_400 (lv_at hl 4 rfl) ?_
                                    refine gx_lald hx hb G 89 (by decide) (rfl) (by decide) i rfl (by omega) dX5_take_402 ?_
                                    refine gx_last hx hb G 34 (by decide) (rfl) (by decide) i rfl (by omega) dX5_take_403 (fun H locs G => ?_)
                                    refine lv_iinc (v := (nI (i + 1))) (lv' := [(5, .int (nI (i + 1))), (0, .ref (ad 5)), (1, .long ((m_t1 I J a b mn).1)), (3, .int cv), (4, .int f)]) hx hb dX5_take_404 hl (k := 4) rfl (gn_add (X := i) (Y := 1) rfl rfl) (by decide) rfl (fun ls hl => ?_)
                                    refine lv_goto (tgt := 381) hx hb dX5_take_407 (by decide) ?_
                                    exact ih381  (i + 1) _ _ _ (by omega) (by omega) (gg_eq G rfl rfl rfl (rfl)) (lv_sub hl [1, 2, 3, 4, 0] rfl)
                              exact K381 (mn - 0 + 1) 0 _ _ _ (by omega) (Nat.lt_succ_self _) (gg_eq G rfl rfl rfl (rfl)) (lv_sub hl [1, 2, 3, 4, 0] rfl)
                          · skip
                            refine lv_aload_n hx hb dX5_take_340 rfl (lv_at hl 0 rfl) ?_
                            refine gx_get hx hb hts hinX5 hown G 5 (by decide) rfl rfl 22 (by decide) rfl lk57 rfl (v := .ref (ad 89)) rfl dX5_take_341 ?_
                            refine lv_iload hx hb dX5_take_344 (lv_at hl 4 rfl) ?_
                            refine gx_lald hx hb G 89 (by decide) (rfl) (by decide) i rfl (by omega) dX5_take_346 ?_
                            refine lv_aload_n hx hb dX5_take_347 rfl (lv_at hl 0 rfl) ?_
                            refine gx_get hx hb hts hinX5 hown G 5 (by decide) rfl rfl 23 (by decide) rfl lk74 rfl (v := .long (J 5 23)) rfl dX5_take_348 ?_
                            refine lv_aload_n hx hb dX5_take_351 rfl (lv_at hl 0 rfl) ?_
                            refine gx_get hx hb hts hinX5 hown G 5 (by decide) rfl rfl 13 (by decide) rfl lk32 rfl (v := .ref (ad 34)) rfl dX5_take_352 ?_
                            refine lv_iload hx hb dX5_take_355 (lv_at hl 4 rfl) ?_
                            refine gx_lald hx hb G 34 (by decide) (rfl) (by decide) i rfl (by omega) dX5_take_357 ?_
                            refine lv_aload_n hx hb dX5_take_358 rfl (lv_at hl 0 rfl) ?_
                            refine gx_get hx hb hts hinX5 hown G 5 (by decide) rfl rfl 14 (by decide) rfl lk114 rfl (v := .long (J 5 14)) rfl dX5_take_359 ?_
                            refine gx_dSi (v := (m_cmp ((m_tk2 I J a b mn) 89 i) (J 5 23) ((m_tk2 I J a b mn) 34 i) (J 5 14))) (I1 := (gU I 5 24 1)) (J1 := J) (a1 := a) (b1 := (m_tk2 I J a b mn)) (As := [.long ((m_tk2 I J a b mn) 89 i), .long (J 5 23), .long ((m_tk2 I J a b mn) 34 i), .long (J 5 14)]) (rest := []) ⟨hx, hb, hml, hown, hts⟩ G (kX5_compare l D ad cy (gU I 5 24 1) J a (m_tk2 I J a b mn) H.size ((m_tk2 I J a b mn) 89 i) (J 5 23) ((m_tk2 I J a b mn) 34 i) (J 5 14)) (va_cwS 4 hts gX5_take_X5_compare rfl rfl rfl (by decide +kernel) ⟨Nat.le_of_ble_eq_true rfl, Nat.le_of_ble_eq_true rfl⟩) rfl hl.1 rfl (Nat.le_of_ble_eq_true rfl) ⟨Nat.zero_le _, Nat.zero_le _⟩ dX5_take_362 (fun H locs G => ?_)
                            refine lv_istore (lv' := [(4, .int (m_cmp ((m_tk2 I J a b mn) 89 i) (J 5 23) ((m_tk2 I J a b mn) 34 i) (J 5 14))), (0, .ref (ad 5)), (1, .long ((m_t1 I J a b mn).1)), (3, .int cv), (5, .int (nI i))]) hx hb dX5_take_365 hl (by decide) rfl (fun ls hl => ?_)
                            refine lv_iinc (v := (nI (i + 1))) (lv' := [(5, .int (nI (i + 1))), (4, .int (m_cmp ((m_tk2 I J a b mn) 89 i) (J 5 23) ((m_tk2 I J a b mn) 34 i) (J 5 14))), (0, .ref (ad 5)), (1, .long ((m_t1 I J a b mn).1)), (3, .int cv)]) hx hb dX5_take_367 hl (k := 4) rfl (gn_add (X := i) (Y := 1) rfl rfl) (by decide) rfl (fun ls hl => ?_)
                            refine lv_goto (tgt := 326) hx hb dX5_take_370 (by decide) ?_
                            exact ih326  (i + 1) (m_cmp (m_tk2 I J a b mn 89 i) (J 5 23) (m_tk2 I J a b mn 34 i) (J 5 14)) _ _ _ (by omega) (by rw [h5, m_fi_s J _ n332, if_pos c337]) (by omega) G (lv_sub hl [2, 3, 4, 1, 0] rfl)
                    exact K326 (mn - 0 + 1) 0 fv _ _ _ (by omega) (by rw [efv]; rfl) (Nat.lt_succ_self _) (gg_eq G rfl rfl rfl (by rw [ecv]; rfl)) (lv_sub hl [2, 3, 4, 1, 0] rfl)
                · skip
                  have n194 := gn_nle (X := mn) (Y := i) hmn rfl (by omega) (by omega) c194
                  refine lv_iconst (v := 0) hx hb dX5_take_197 (by decide) ?_
                  refine lv_istore (lv' := [(5, .int 0), (0, .ref (ad 5)), (1, .long ((m_t1 I J a b mn).1)), (3, .int cv), (4, .int (nI i))]) hx hb dX5_take_198 hl (by decide) rfl (fun ls hl => ?_)
                  have K200 : ∀ (nf : Nat) (t : Nat) (H : Heap) (locs : List Loc) (ls : Array Slot), (t ≤ 2) → 2 - t < nf → GG D ad cy A s (gU I 5 24 1) J a (m_rr cv J (m_t2 cv J (m_t1 I J a b mn).2 i) i t) H locs → lv_has ls 8 [(0, .ref (ad 5)), (1, .long ((m_t1 I J a b mn).1)), (3, .int cv), (4, .int (nI i)), (5, .int (nI t))] → W p l e ({ frames := 1, cells := 0, slots := 0, locals := 31 }) s m args below meth c H locs 0 0 Q (F0 m 200 ls []) := by
                    intro nf
                    induction nf with
                    | zero => exact fun _ _ _ _ _ hz => absurd hz (Nat.not_lt_zero _)
                    | succ nf ih =>
                      intro t H locs ls h4 hmeas G hl
                      have ih200 := ih
                      clear ih
                      refine lv_iload hx hb dX5_take_200 (lv_at hl 4 rfl) ?_
                      refine lv_iconst (v := 2) hx hb dX5_take_202 (by decide) ?_
                      refine lv_icmp_ge (tgt := 306) hx hb dX5_take_203 (by decide) (fun c203 => ?_) (fun c203 => ?_)
                      · skip
                        have n203 := gn_le (X := 2) (Y := t) rfl rfl (by omega) (by omega) c203
                        refine lv_iinc (v := (nI (i + 1))) (lv' := [(4, .int (nI (i + 1))), (0, .ref (ad 5)), (1, .long ((m_t1 I J a b mn).1)), (3, .int cv), (5, .int (nI t))]) hx hb dX5_take_306 hl (k := 3) rfl (gn_add (X := i) (Y := 1) rfl rfl) (by decide) rfl (fun ls hl => ?_)
                        refine lv_goto (tgt := 188) hx hb dX5_take_309 (by decide) ?_
                        exact ih188  (i + 1) _ _ _ (by omega) (by omega) (gg_eq G rfl rfl rfl (by rw [show t = 2 by omega]; rfl)) (lv_sub hl [1, 2, 3, 0] rfl)
                      · skip
                        have n203 := gn_nle (X := 2) (Y := t) rfl rfl (by omega) (by omega) c203
                        refine lv_iconst (v := 2) hx hb dX5_take_206 (by decide) ?_
                        refine lv_iload hx hb dX5_take_207 (lv_at hl 3 rfl) ?_
                        refine lv_imul hx hb dX5_take_209 ?_
                        refine lv_iload hx hb dX5_take_210 (lv_at hl 4 rfl) ?_
                        refine lv_iadd hx hb dX5_take_212 ?_
                        refine lv_istore (lv' := [(6, .int ((2 * (nI i)) + (nI t))), (0, .ref (ad 5)), (1, .long ((m_t1 I J a b mn).1)), (3, .int cv), (4, .int (nI i)), (5, .int (nI t))]) hx hb dX5_take_213 hl (by decide) rfl (fun ls hl => ?_)
                        refine lv_iload_n hx hb dX5_take_215 rfl (lv_at hl 3 rfl) ?_
                        refine lv_if_ge (tgt := 223) hx hb dX5_take_216 (by decide) (fun c216 => ?_) (fun c216 => ?_)
                        · skip
                          refine lv_aload_n hx hb dX5_take_223 rfl (lv_at hl 1 rfl) ?_
                          refine gx_get hx hb hts hinX5 hown G 5 (by decide) rfl rfl 22 (by decide) rfl lk57 rfl (v := .ref (ad 89)) rfl dX5_take_224 ?_
                          refine lv_iload hx hb dX5_take_227 (lv_at hl 4 rfl) ?_
                          refine gx_lald hx hb G 89 (by decide) (rfl) (by decide) i rfl (by omega) dX5_take_229 ?_
                          refine lv_aload_n hx hb dX5_take_230 rfl (lv_at hl 1 rfl) ?_
                          refine gx_get hx hb hts hinX5 hown G 5 (by decide) rfl rfl 23 (by decide) rfl lk74 rfl (v := .long (J 5 23)) rfl dX5_take_231 ?_
                          refine lv_aload_n hx hb dX5_take_234 rfl (lv_at hl 1 rfl) ?_
                          refine gx_get hx hb hts hinX5 hown G 5 (by decide) rfl rfl 15 (by decide) rfl lk36 rfl (v := .ref (ad 35)) rfl dX5_take_235 ?_
                          refine lv_iload hx hb dX5_take_238 (lv_at hl 0 rfl) ?_
                          refine gx_lald hx hb G 35 (by decide) (rfl) (by decide) ((2 * i) + t) (gn_add (gn_mul rfl rfl) rfl) (by omega) dX5_take_240 ?_
                          refine lv_aload_n hx hb dX5_take_241 rfl (lv_at hl 1 rfl) ?_
                          refine gx_get hx hb hts hinX5 hown G 5 (by decide) rfl rfl 16 (by decide) rfl lk39 rfl (v := .ref (ad 36)) rfl dX5_take_242 ?_
                          refine lv_iload hx hb dX5_take_245 (lv_at hl 0 rfl) ?_
                          refine gx_lald hx hb G 36 (by decide) (rfl) (by decide) ((2 * i) + t) (gn_add (gn_mul rfl rfl) rfl) (by omega) dX5_take_247 ?_
                          refine gx_dSi (v := (m_cmp ((m_rr cv J (m_t2 cv J (m_t1 I J a b mn).2 i) i t) 89 i) (J 5 23) ((m_rr cv J (m_t2 cv J (m_t1 I J a b mn).2 i) i t) 35 ((2 * i) + t)) ((m_rr cv J (m_t2 cv J (m_t1 I J a b mn).2 i) i t) 36 ((2 * i) + t)))) (I1 := (gU I 5 24 1)) (J1 := J) (a1 := a) (b1 := (m_rr cv J (m_t2 cv J (m_t1 I J a b mn).2 i) i t)) (As := [.long ((m_rr cv J (m_t2 cv J (m_t1 I J a b mn).2 i) i t) 89 i), .long (J 5 23), .long ((m_rr cv J (m_t2 cv J (m_t1 I J a b mn).2 i) i t) 35 ((2 * i) + t)), .long ((m_rr cv J (m_t2 cv J (m_t1 I J a b mn).2 i) i t) 36 ((2 * i) + t))]) (rest := []) ⟨hx, hb, hml, hown, hts⟩ G (kX5_compare l D ad cy (gU I 5 24 1) J a (m_rr cv J (m_t2 cv J (m_t1 I J a b mn).2 i) i t) H.size ((m_rr cv J (m_t2 cv J (m_t1 I J a b mn).2 i) i t) 89 i) (J 5 23) ((m_rr cv J (m_t2 cv J (m_t1 I J a b mn).2 i) i t) 35 ((2 * i) + t)) ((m_rr cv J (m_t2 cv J (m_t1 I J a b mn).2 i) i t) 36 ((2 * i) + t))) (va_cwS 4 hts gX5_take_X5_compare rfl rfl rfl (by decide +kernel) ⟨Nat.le_of_ble_eq_true rfl, Nat.le_of_ble_eq_true rfl⟩) rfl hl.1 rfl (Nat.le_of_ble_eq_true rfl) ⟨Nat.zero_le _, Nat.zero_le _⟩ dX5_take_248 (fun H locs G => ?_)
                          refine lv_istore (lv' := [(7, .int (m_cmp ((m_rr cv J (m_t2 cv J (m_t1 I J a b mn).2 i) i t) 89 i) (J 5 23) ((m_rr cv J (m_t2 cv J (m_t1 I J a b mn).2 i) i t) 35 ((2 * i) + t)) ((m_rr cv J (m_t2 cv J (m_t1 I J a b mn).2 i) i t) 36 ((2 * i) + t)))), (6, .int ((2 * (nI i)) + (nI t))), (0, .ref (ad 5)), (1, .long ((m_t1 I J a b mn).1)), (3, .int cv), (4, .int (nI i)), (5, .int (nI t))]) hx hb dX5_take_251 hl (by decide) rfl (fun ls hl => ?_)
                          refine lv_iload_n hx hb dX5_take_253 rfl (lv_at hl 4 rfl) ?_
                          refine lv_if_lt (tgt := 275) hx hb dX5_take_254 (by decide) (fun c254 => ?_) (fun c254 => ?_)
                          · skip
                            exact absurd c254 (gx_notneg c216)
                          · skip
                            refine lv_iload hx hb dX5_take_257 (lv_at hl 6 rfl) ?_
                            refine lv_if_ne (tgt := 270) hx hb dX5_take_259 (by decide) (fun c259 => ?_) (fun c259 => ?_)
                            · skip
                              have n259 := gn_neq (X := t) (Y := 0) rfl rfl (by omega) (by omega) c259
                              refine lv_iload hx hb dX5_take_270 (lv_at hl 0 rfl) ?_
                              refine lv_if_le (tgt := 300) hx hb dX5_take_272 (by decide) (fun c272 => ?_) (fun c272 => ?_)
                              · skip
                                refine lv_iinc (v := (nI (t + 1))) (lv' := [(5, .int (nI (t + 1))), (7, .int (m_cmp ((m_rr cv J (m_t2 cv J (m_t1 I J a b mn).2 i) i t) 89 i) (J 5 23) ((m_rr cv J (m_t2 cv J (m_t1 I J a b mn).2 i) i t) 35 ((2 * i) + t)) ((m_rr cv J (m_t2 cv J (m_t1 I J a b mn).2 i) i t) 36 ((2 * i) + t)))), (6, .int ((2 * (nI i)) + (nI t))), (0, .ref (ad 5)), (1, .long ((m_t1 I J a b mn).1)), (3, .int cv), (4, .int (nI i))]) hx hb dX5_take_300 hl (k := 6) rfl (gn_add (X := t) (Y := 1) rfl rfl) (by decide) rfl (fun ls hl => ?_)
                                refine lv_goto (tgt := 200) hx hb dX5_take_303 (by decide) ?_
                                exact ih200  (t + 1) _ _ _ (by omega) (by omega) (gg_eq G rfl rfl rfl (by (try simp only [m_rr]); unfold m_rs; (repeat (first | rw [if_pos c9] | rw [if_neg c151] | rw [if_pos c181] | rw [if_neg c194] | rw [if_neg c203] | rw [if_pos c216] | rw [if_neg c254] | rw [if_neg c259] | rw [if_pos c272])); (try rfl))) (lv_sub hl [3, 4, 5, 6, 0] rfl)
                              · skip
                                refine lv_aload_n hx hb dX5_take_275 rfl (lv_at hl 2 rfl) ?_
                                refine gx_get hx hb hts hinX5 hown G 5 (by decide) rfl rfl 15 (by decide) rfl lk36 rfl (v := .ref (ad 35)) rfl dX5_take_276 ?_
                                refine lv_iload hx hb dX5_take_279 (lv_at hl 1 rfl) ?_
                                refine lv_aload_n hx hb dX5_take_281 rfl (lv_at hl 2 rfl) ?_
                                refine gx_get hx hb hts hinX5 hown G 5 (by decide) rfl rfl 22 (by decide) rfl lk57 rfl (v := .ref (ad 89)) rfl dX5_take_282 ?_
                                refine lv_iload hx hb dX5_take_285 (lv_at hl 5 rfl) ?_
                                refine gx_lald hx hb G 89 (by decide) (rfl) (by decide) i rfl (by omega) dX5_take_287 ?_
                                refine gx_last hx hb G 35 (by decide) (rfl) (by decide) ((2 * i) + t) (gn_add (gn_mul rfl rfl) rfl) (by omega) dX5_take_288 (fun H locs G => ?_)
                                refine lv_aload_n hx hb dX5_take_289 rfl (lv_at hl 2 rfl) ?_
                                refine gx_get hx hb hts hinX5 hown G 5 (by decide) rfl rfl 16 (by decide) rfl lk39 rfl (v := .ref (ad 36)) rfl dX5_take_290 ?_
                                refine lv_iload hx hb dX5_take_293 (lv_at hl 1 rfl) ?_
                                refine lv_aload_n hx hb dX5_take_295 rfl (lv_at hl 2 rfl) ?_
                                refine gx_get hx hb hts hinX5 hown G 5 (by decide) rfl rfl 23 (by decide) rfl lk74 rfl (v := .long (J 5 23)) rfl dX5_take_296 ?_
                                refine gx_last hx hb G 36 (by decide) (rfl) (by decide) ((2 * i) + t) (gn_add (gn_mul rfl rfl) rfl) (by omega) dX5_take_299 (fun H locs G => ?_)
                                refine lv_iinc (v := (nI (t + 1))) (lv' := [(5, .int (nI (t + 1))), (7, .int (m_cmp ((m_rr cv J (m_t2 cv J (m_t1 I J a b mn).2 i) i t) 89 i) (J 5 23) ((m_rr cv J (m_t2 cv J (m_t1 I J a b mn).2 i) i t) 35 ((2 * i) + t)) ((m_rr cv J (m_t2 cv J (m_t1 I J a b mn).2 i) i t) 36 ((2 * i) + t)))), (6, .int ((2 * (nI i)) + (nI t))), (0, .ref (ad 5)), (1, .long ((m_t1 I J a b mn).1)), (3, .int cv), (4, .int (nI i))]) hx hb dX5_take_300 hl (k := 6) rfl (gn_add (X := t) (Y := 1) rfl rfl) (by decide) rfl (fun ls hl => ?_)
                                refine lv_goto (tgt := 200) hx hb dX5_take_303 (by decide) ?_
                                exact ih200  (t + 1) _ _ _ (by omega) (by omega) (gg_eq G rfl rfl rfl (by (try simp only [m_rr]); unfold m_rs; (repeat (first | rw [if_pos c9] | rw [if_neg c151] | rw [if_pos c181] | rw [if_neg c194] | rw [if_neg c203] | rw [if_pos c216] | rw [if_neg c254] | rw [if_neg c259] | rw [if_neg c272])); (try rfl))) (lv_sub hl [3, 4, 5, 6, 0] rfl)
                            · skip
                              have n259 := gn_eq (X := t) (Y := 0) rfl rfl (by omega) (by omega) c259
                              refine lv_iload hx hb dX5_take_262 (lv_at hl 0 rfl) ?_
                              refine lv_if_ge (tgt := 300) hx hb dX5_take_264 (by decide) (fun c264 => ?_) (fun c264 => ?_)
                              · skip
                                refine lv_iinc (v := (nI (t + 1))) (lv' := [(5, .int (nI (t + 1))), (7, .int (m_cmp ((m_rr cv J (m_t2 cv J (m_t1 I J a b mn).2 i) i t) 89 i) (J 5 23) ((m_rr cv J (m_t2 cv J (m_t1 I J a b mn).2 i) i t) 35 ((2 * i) + t)) ((m_rr cv J (m_t2 cv J (m_t1 I J a b mn).2 i) i t) 36 ((2 * i) + t)))), (6, .int ((2 * (nI i)) + (nI t))), (0, .ref (ad 5)), (1, .long ((m_t1 I J a b mn).1)), (3, .int cv), (4, .int (nI i))]) hx hb dX5_take_300 hl (k := 6) rfl (gn_add (X := t) (Y := 1) rfl rfl) (by decide) rfl (fun ls hl => ?_)
                                refine lv_goto (tgt := 200) hx hb dX5_take_303 (by decide) ?_
                                exact ih200  (t + 1) _ _ _ (by omega) (by omega) (gg_eq G rfl rfl rfl (by (try simp only [m_rr]); unfold m_rs; (repeat (first | rw [if_pos c9] | rw [if_neg c151] | rw [if_pos c181] | rw [if_neg c194] | rw [if_neg c203] | rw [if_pos c216] | rw [if_neg c254] | rw [if_pos c259] | rw [if_pos c264])); (try rfl))) (lv_sub hl [3, 4, 5, 6, 0] rfl)
                              · skip
                                refine lv_goto (tgt := 275) hx hb dX5_take_267 (by decide) ?_
                                refine lv_aload_n hx hb dX5_take_275 rfl (lv_at hl 2 rfl) ?_
                                refine gx_get hx hb hts hinX5 hown G 5 (by decide) rfl rfl 15 (by decide) rfl lk36 rfl (v := .ref (ad 35)) rfl dX5_take_276 ?_
                                refine lv_iload hx hb dX5_take_279 (lv_at hl 1 rfl) ?_
                                refine lv_aload_n hx hb dX5_take_281 rfl (lv_at hl 2 rfl) ?_
                                refine gx_get hx hb hts hinX5 hown G 5 (by decide) rfl rfl 22 (by decide) rfl lk57 rfl (v := .ref (ad 89)) rfl dX5_take_282 ?_
                                refine lv_iload hx hb dX5_take_285 (lv_at hl 5 rfl) ?_
                                refine gx_lald hx hb G 89 (by decide) (rfl) (by decide) i rfl (by omega) dX5_take_287 ?_
                                refine gx_last hx hb G 35 (by decide) (rfl) (by decide) ((2 * i) + t) (gn_add (gn_mul rfl rfl) rfl) (by omega) dX5_take_288 (fun H locs G => ?_)
                                refine lv_aload_n hx hb dX5_take_289 rfl (lv_at hl 2 rfl) ?_
                                refine gx_get hx hb hts hinX5 hown G 5 (by decide) rfl rfl 16 (by decide) rfl lk39 rfl (v := .ref (ad 36)) rfl dX5_take_290 ?_
                                refine lv_iload hx hb dX5_take_293 (lv_at hl 1 rfl) ?_
                                refine lv_aload_n hx hb dX5_take_295 rfl (lv_at hl 2 rfl) ?_
                                refine gx_get hx hb hts hinX5 hown G 5 (by decide) rfl rfl 23 (by decide) rfl lk74 rfl (v := .long (J 5 23)) rfl dX5_take_296 ?_
                                refine gx_last hx hb G 36 (by decide) (rfl) (by decide) ((2 * i) + t) (gn_add (gn_mul rfl rfl) rfl) (by omega) dX5_take_299 (fun H locs G => ?_)
                                refine lv_iinc (v := (nI (t + 1))) (lv' := [(5, .int (nI (t + 1))), (7, .int (m_cmp ((m_rr cv J (m_t2 cv J (m_t1 I J a b mn).2 i) i t) 89 i) (J 5 23) ((m_rr cv J (m_t2 cv J (m_t1 I J a b mn).2 i) i t) 35 ((2 * i) + t)) ((m_rr cv J (m_t2 cv J (m_t1 I J a b mn).2 i) i t) 36 ((2 * i) + t)))), (6, .int ((2 * (nI i)) + (nI t))), (0, .ref (ad 5)), (1, .long ((m_t1 I J a b mn).1)), (3, .int cv), (4, .int (nI i))]) hx hb dX5_take_300 hl (k := 6) rfl (gn_add (X := t) (Y := 1) rfl rfl) (by decide) rfl (fun ls hl => ?_)
                                refine lv_goto (tgt := 200) hx hb dX5_take_303 (by decide) ?_
                                exact ih200  (t + 1) _ _ _ (by omega) (by omega) (gg_eq G rfl rfl rfl (by (try simp only [m_rr]); unfold m_rs; (repeat (first | rw [if_pos c9] | rw [if_neg c151] | rw [if_pos c181] | rw [if_neg c194] | rw [if_neg c203] | rw [if_pos c216] | rw [if_neg c254] | rw [if_pos c259] | rw [if_neg c264])); (try rfl))) (lv_sub hl [3, 4, 5, 6, 0] rfl)
                        · skip
                          refine lv_iconst (v := 0) hx hb dX5_take_219 (by decide) ?_
                          refine lv_goto (tgt := 251) hx hb dX5_take_220 (by decide) ?_
                          refine lv_istore (lv' := [(7, .int 0), (6, .int ((2 * (nI i)) + (nI t))), (0, .ref (ad 5)), (1, .long ((m_t1 I J a b mn).1)), (3, .int cv), (4, .int (nI i)), (5, .int (nI t))]) hx hb dX5_take_251 hl (by decide) rfl (fun ls hl => ?_)
                          refine lv_iload_n hx hb dX5_take_253 rfl (lv_at hl 4 rfl) ?_
                          refine lv_if_lt (tgt := 275) hx hb dX5_take_254 (by decide) (fun c254 => ?_) (fun c254 => ?_)
                          · skip
                            refine lv_aload_n hx hb dX5_take_275 rfl (lv_at hl 2 rfl) ?_
                            refine gx_get hx hb hts hinX5 hown G 5 (by decide) rfl rfl 15 (by decide) rfl lk36 rfl (v := .ref (ad 35)) rfl dX5_take_276 ?_
                            refine lv_iload hx hb dX5_take_279 (lv_at hl 1 rfl) ?_
                            refine lv_aload_n hx hb dX5_take_281 rfl (lv_at hl 2 rfl) ?_
                            refine gx_get hx hb hts hinX5 hown G 5 (by decide) rfl rfl 22 (by decide) rfl lk57 rfl (v := .ref (ad 89)) rfl dX5_take_282 ?_
                            refine lv_iload hx hb dX5_take_285 (lv_at hl 5 rfl) ?_
                            refine gx_lald hx hb G 89 (by decide) (rfl) (by decide) i rfl (by omega) dX5_take_287 ?_
                            refine gx_last hx hb G 35 (by decide) (rfl) (by decide) ((2 * i) + t) (gn_add (gn_mul rfl rfl) rfl) (by omega) dX5_take_288 (fun H locs G => ?_)
                            refine lv_aload_n hx hb dX5_take_289 rfl (lv_at hl 2 rfl) ?_
                            refine gx_get hx hb hts hinX5 hown G 5 (by decide) rfl rfl 16 (by decide) rfl lk39 rfl (v := .ref (ad 36)) rfl dX5_take_290 ?_
                            refine lv_iload hx hb dX5_take_293 (lv_at hl 1 rfl) ?_
                            refine lv_aload_n hx hb dX5_take_295 rfl (lv_at hl 2 rfl) ?_
                            refine gx_get hx hb hts hinX5 hown G 5 (by decide) rfl rfl 23 (by decide) rfl lk74 rfl (v := .long (J 5 23)) rfl dX5_take_296 ?_
                            refine gx_last hx hb G 36 (by decide) (rfl) (by decide) ((2 * i) + t) (gn_add (gn_mul rfl rfl) rfl) (by omega) dX5_take_299 (fun H locs G => ?_)
                            refine lv_iinc (v := (nI (t + 1))) (lv' := [(5, .int (nI (t + 1))), (7, .int 0), (6, .int ((2 * (nI i)) + (nI t))), (0, .ref (ad 5)), (1, .long ((m_t1 I J a b mn).1)), (3, .int cv), (4, .int (nI i))]) hx hb dX5_take_300 hl (k := 6) rfl (gn_add (X := t) (Y := 1) rfl rfl) (by decide) rfl (fun ls hl => ?_)
                            refine lv_goto (tgt := 200) hx hb dX5_take_303 (by decide) ?_
                            exact ih200  (t + 1) _ _ _ (by omega) (by omega) (gg_eq G rfl rfl rfl (by (try simp only [m_rr]); unfold m_rs; (repeat (first | rw [if_pos c9] | rw [if_neg c151] | rw [if_pos c181] | rw [if_neg c194] | rw [if_neg c203] | rw [if_neg c216] | rw [if_pos c254])); (try rfl))) (lv_sub hl [3, 4, 5, 6, 0] rfl)
                          · skip
                            exact absurd (i32_lt_of c216) c254
                  exact K200 (2 - 0 + 1) 0 _ _ _ (by omega) (Nat.lt_succ_self _) (gg_eq G rfl rfl rfl (rfl)) (lv_sub hl [1, 2, 3, 4, 0] rfl)
            exact K188 (mn - 0 + 1) 0 _ _ _ (by omega) (Nat.lt_succ_self _) (gg_eq G rfl rfl rfl (rfl)) (lv_sub hl [2, 3, 1, 0] rfl)
          · skip
            exact gx_vr hx hb hr hlocks G hQ (by unfold m_tJ m_tB; rw [← ecv]; (repeat (first | rw [if_pos c9] | rw [if_neg c151] | rw [if_neg c181])); (try rfl)) dX5_take_184
      · skip
        have n9 := gn_nle (X := mn) (Y := r) hmn rfl (by omega) (by omega) c9
        refine lv_lload_n hx hb dX5_take_12 rfl (lv_at hl 1 rfl) ?_
        refine lv_aload_n hx hb dX5_take_13 rfl (lv_at hl 0 rfl) ?_
        refine gx_get hx hb hts hinX5 hown G 5 (by decide) rfl rfl 4 (by decide) rfl lk16 rfl (v := .ref (ad 29)) rfl dX5_take_14 ?_
        refine lv_iload_n hx hb dX5_take_17 rfl (lv_at hl 2 rfl) ?_
        refine gx_iald hx hb G 29 (by decide) (rfl) (by decide) r rfl (by omega) dX5_take_18 ?_
        refine lv_i2l (v := (a 29 r).toInt64) hx hb dX5_take_19 rfl ?_
        refine lv_aload_n hx hb dX5_take_20 rfl (lv_at hl 0 rfl) ?_
        refine gx_get hx hb hts hinX5 hown G 5 (by decide) rfl rfl 22 (by decide) rfl lk57 rfl (v := .ref (ad 89)) rfl dX5_take_21 ?_
        refine lv_iload_n hx hb dX5_take_24 rfl (lv_at hl 2 rfl) ?_
        refine gx_lald hx hb G 89 (by decide) (rfl) (by decide) r rfl (by omega) dX5_take_25 ?_
        refine lv_lmul hx hb dX5_take_26 ?_
        refine lv_ladd hx hb dX5_take_27 ?_
        refine lv_lstore_n (lv' := [(1, .long (((m_t1 I J a b r).1) + (((a 29 r).toInt64) * (((m_t1 I J a b r).2) 89 r)))), (0, .ref (ad 5)), (3, .int (nI r))]) hx hb dX5_take_28 rfl hl (by decide) rfl (fun ls hl => ?_)
        refine lv_iconst (v := 0) hx hb dX5_take_29 (by decide) ?_
        refine lv_istore (lv' := [(4, .int 0), (1, .long (((m_t1 I J a b r).1) + (((a 29 r).toInt64) * (((m_t1 I J a b r).2) 89 r)))), (0, .ref (ad 5)), (3, .int (nI r))]) hx hb dX5_take_30 hl (by decide) rfl (fun ls hl => ?_)
        have K32 : ∀ (nf : Nat) (q : Nat) (H : Heap) (locs : List Loc) (ls : Array Slot), (q ≤ 2) → 2 - q < nf → GG D ad cy A s I J a (m_fr I J ((m_t1 I J a b r).2) r q) H locs → lv_has ls 8 [(0, .ref (ad 5)), (1, .long (((m_t1 I J a b r).1) + (((a 29 r).toInt64) * (((m_t1 I J a b r).2) 89 r)))), (3, .int (nI r)), (4, .int (nI q))] → W p l e ({ frames := 1, cells := 0, slots := 0, locals := 31 }) s m args below meth c H locs 0 0 Q (F0 m 32 ls []) := by
          intro nf
          induction nf with
          | zero => exact fun _ _ _ _ _ hz => absurd hz (Nat.not_lt_zero _)
          | succ nf ih =>
            intro q H locs ls h2 hmeas G hl
            have ih32 := ih
            clear ih
            refine lv_iload hx hb dX5_take_32 (lv_at hl 3 rfl) ?_
            refine lv_iconst (v := 2) hx hb dX5_take_34 (by decide) ?_
            refine lv_icmp_ge (tgt := 141) hx hb dX5_take_35 (by decide) (fun c35 => ?_) (fun c35 => ?_)
            · skip
              have n35 := gn_le (X := 2) (Y := q) rfl rfl (by omega) (by omega) c35
              refine lv_iinc (v := (nI (r + 1))) (lv' := [(3, .int (nI (r + 1))), (0, .ref (ad 5)), (1, .long (((m_t1 I J a b r).1) + (((a 29 r).toInt64) * (((m_t1 I J a b r).2) 89 r)))), (4, .int (nI q))]) hx hb dX5_take_141 hl (k := 2) rfl (gn_add (X := r) (Y := 1) rfl rfl) (by decide) rfl (fun ls hl => ?_)
              refine lv_goto (tgt := 4) hx hb dX5_take_144 (by decide) ?_
              have q1 : ((m_t1 I J a b r).1) + (((a 29 r).toInt64) * (((m_t1 I J a b r).2) 89 r)) = (m_t1 I J a b (r + 1)).1 := rfl
              rw [q1] at hl
              exact ih4  (r + 1) _ _ _ (by omega) (by omega) (gg_eq G rfl rfl rfl (by rw [show q = 2 by omega]; rfl)) (lv_sub hl [1, 2, 0] rfl)
            · skip
              have n35 := gn_nle (X := 2) (Y := q) rfl rfl (by omega) (by omega) c35
              refine lv_iconst (v := 2) hx hb dX5_take_38 (by decide) ?_
              refine lv_iload_n hx hb dX5_take_39 rfl (lv_at hl 2 rfl) ?_
              refine lv_imul hx hb dX5_take_40 ?_
              refine lv_iload hx hb dX5_take_41 (lv_at hl 3 rfl) ?_
              refine lv_iadd hx hb dX5_take_43 ?_
              refine lv_istore (lv' := [(5, .int ((2 * (nI r)) + (nI q))), (0, .ref (ad 5)), (1, .long (((m_t1 I J a b r).1) + (((a 29 r).toInt64) * (((m_t1 I J a b r).2) 89 r)))), (3, .int (nI r)), (4, .int (nI q))]) hx hb dX5_take_44 hl (by decide) rfl (fun ls hl => ?_)
              refine lv_aload_n hx hb dX5_take_46 rfl (lv_at hl 1 rfl) ?_
              refine gx_get hx hb hts hinX5 hown G 5 (by decide) rfl rfl 24 (by decide) rfl lk100 rfl (v := .int (I 5 24)) rfl dX5_take_47 ?_
              refine lv_if_eq (tgt := 83) hx hb dX5_take_50 (by decide) (fun c50 => ?_) (fun c50 => ?_)
              · skip
                refine lv_iconst (v := 0) hx hb dX5_take_83 (by decide) ?_
                refine lv_istore (lv' := [(6, .int 0), (5, .int ((2 * (nI r)) + (nI q))), (0, .ref (ad 5)), (1, .long (((m_t1 I J a b r).1) + (((a 29 r).toInt64) * (((m_t1 I J a b r).2) 89 r)))), (3, .int (nI r)), (4, .int (nI q))]) hx hb dX5_take_84 hl (by decide) rfl (fun ls hl => ?_)
                refine lv_aload_n hx hb dX5_take_86 rfl (lv_at hl 2 rfl) ?_
                refine gx_get hx hb hts hinX5 hown G 5 (by decide) rfl rfl 24 (by decide) rfl lk100 rfl (v := .int (I 5 24)) rfl dX5_take_87 ?_
                refine lv_if_eq (tgt := 111) hx hb dX5_take_90 (by decide) (fun c90 => ?_) (fun c90 => ?_)
                · skip
                  refine lv_aload_n hx hb dX5_take_111 rfl (lv_at hl 2 rfl) ?_
                  refine gx_get hx hb hts hinX5 hown G 5 (by decide) rfl rfl 17 (by decide) rfl lk42 rfl (v := .ref (ad 37)) rfl dX5_take_112 ?_
                  refine lv_iload hx hb dX5_take_115 (lv_at hl 1 rfl) ?_
                  refine lv_aload_n hx hb dX5_take_117 rfl (lv_at hl 2 rfl) ?_
                  refine gx_get hx hb hts hinX5 hown G 5 (by decide) rfl rfl 22 (by decide) rfl lk57 rfl (v := .ref (ad 89)) rfl dX5_take_118 ?_
                  refine lv_iload_n hx hb dX5_take_121 rfl (lv_at hl 4 rfl) ?_
                  refine gx_lald hx hb G 89 (by decide) (rfl) (by decide) r rfl (by omega) dX5_take_122 ?_
                  refine gx_last hx hb G 37 (by decide) (rfl) (by decide) ((2 * r) + q) (gn_add (gn_mul rfl rfl) rfl) (by omega) dX5_take_123 (fun H locs G => ?_)
                  refine lv_aload_n hx hb dX5_take_124 rfl (lv_at hl 2 rfl) ?_
                  refine gx_get hx hb hts hinX5 hown G 5 (by decide) rfl rfl 18 (by decide) rfl lk45 rfl (v := .ref (ad 38)) rfl dX5_take_125 ?_
                  refine lv_iload hx hb dX5_take_128 (lv_at hl 1 rfl) ?_
                  refine lv_aload_n hx hb dX5_take_130 rfl (lv_at hl 2 rfl) ?_
                  refine gx_get hx hb hts hinX5 hown G 5 (by decide) rfl rfl 23 (by decide) rfl lk74 rfl (v := .long (J 5 23)) rfl dX5_take_131 ?_
                  refine gx_last hx hb G 38 (by decide) (rfl) (by decide) ((2 * r) + q) (gn_add (gn_mul rfl rfl) rfl) (by omega) dX5_take_134 (fun H locs G => ?_)
                  refine lv_iinc (v := (nI (q + 1))) (lv' := [(4, .int (nI (q + 1))), (6, .int 0), (5, .int ((2 * (nI r)) + (nI q))), (0, .ref (ad 5)), (1, .long (((m_t1 I J a b r).1) + (((a 29 r).toInt64) * (((m_t1 I J a b r).2) 89 r)))), (3, .int (nI r))]) hx hb dX5_take_135 hl (k := 5) rfl (gn_add (X := q) (Y := 1) rfl rfl) (by decide) rfl (fun ls hl => ?_)
                  refine lv_goto (tgt := 32) hx hb dX5_take_138 (by decide) ?_
                  exact ih32  (q + 1) _ _ _ (by omega) (by omega) (gg_eq G rfl rfl rfl (by (try simp only [m_fr]); unfold m_fs; (repeat (first | rw [if_neg c9] | rw [if_neg c35] | rw [if_pos c50] | rw [if_pos c90])); (try rfl))) (lv_sub hl [3, 4, 5, 0] rfl)
                · skip
                  exact absurd c50 c90
              · skip
                refine lv_aload_n hx hb dX5_take_53 rfl (lv_at hl 1 rfl) ?_
                refine gx_get hx hb hts hinX5 hown G 5 (by decide) rfl rfl 22 (by decide) rfl lk57 rfl (v := .ref (ad 89)) rfl dX5_take_54 ?_
                refine lv_iload_n hx hb dX5_take_57 rfl (lv_at hl 3 rfl) ?_
                refine gx_lald hx hb G 89 (by decide) (rfl) (by decide) r rfl (by omega) dX5_take_58 ?_
                refine lv_aload_n hx hb dX5_take_59 rfl (lv_at hl 1 rfl) ?_
                refine gx_get hx hb hts hinX5 hown G 5 (by decide) rfl rfl 23 (by decide) rfl lk74 rfl (v := .long (J 5 23)) rfl dX5_take_60 ?_
                refine lv_aload_n hx hb dX5_take_63 rfl (lv_at hl 1 rfl) ?_
                refine gx_get hx hb hts hinX5 hown G 5 (by decide) rfl rfl 17 (by decide) rfl lk42 rfl (v := .ref (ad 37)) rfl dX5_take_64 ?_
                refine lv_iload hx hb dX5_take_67 (lv_at hl 0 rfl) ?_
                refine gx_lald hx hb G 37 (by decide) (rfl) (by decide) ((2 * r) + q) (gn_add (gn_mul rfl rfl) rfl) (by omega) dX5_take_69 ?_
                refine lv_aload_n hx hb dX5_take_70 rfl (lv_at hl 1 rfl) ?_
                refine gx_get hx hb hts hinX5 hown G 5 (by decide) rfl rfl 18 (by decide) rfl lk45 rfl (v := .ref (ad 38)) rfl dX5_take_71 ?_
                refine lv_iload hx hb dX5_take_74 (lv_at hl 0 rfl) ?_
                refine gx_lald hx hb G 38 (by decide) (rfl) (by decide) ((2 * r) + q) (gn_add (gn_mul rfl rfl) rfl) (by omega) dX5_take_76 ?_
                refine gx_dSi (v := (m_cmp ((m_fr I J ((m_t1 I J a b r).2) r q) 89 r) (J 5 23) ((m_fr I J ((m_t1 I J a b r).2) r q) 37 ((2 * r) + q)) ((m_fr I J ((m_t1 I J a b r).2) r q) 38 ((2 * r) + q)))) (I1 := I) (J1 := J) (a1 := a) (b1 := (m_fr I J ((m_t1 I J a b r).2) r q)) (As := [.long ((m_fr I J ((m_t1 I J a b r).2) r q) 89 r), .long (J 5 23), .long ((m_fr I J ((m_t1 I J a b r).2) r q) 37 ((2 * r) + q)), .long ((m_fr I J ((m_t1 I J a b r).2) r q) 38 ((2 * r) + q))]) (rest := []) ⟨hx, hb, hml, hown, hts⟩ G (kX5_compare l D ad cy I J a (m_fr I J ((m_t1 I J a b r).2) r q) H.size ((m_fr I J ((m_t1 I J a b r).2) r q) 89 r) (J 5 23) ((m_fr I J ((m_t1 I J a b r).2) r q) 37 ((2 * r) + q)) ((m_fr I J ((m_t1 I J a b r).2) r q) 38 ((2 * r) + q))) (va_cwS 4 hts gX5_take_X5_compare rfl rfl rfl (by decide +kernel) ⟨Nat.le_of_ble_eq_true rfl, Nat.le_of_ble_eq_true rfl⟩) rfl hl.1 rfl (Nat.le_of_ble_eq_true rfl) ⟨Nat.zero_le _, Nat.zero_le _⟩ dX5_take_77 (fun H locs G => ?_)
                refine lv_goto (tgt := 84) hx hb dX5_take_80 (by decide) ?_
                refine lv_istore (lv' := [(6, .int (m_cmp ((m_fr I J ((m_t1 I J a b r).2) r q) 89 r) (J 5 23) ((m_fr I J ((m_t1 I J a b r).2) r q) 37 ((2 * r) + q)) ((m_fr I J ((m_t1 I J a b r).2) r q) 38 ((2 * r) + q)))), (5, .int ((2 * (nI r)) + (nI q))), (0, .ref (ad 5)), (1, .long (((m_t1 I J a b r).1) + (((a 29 r).toInt64) * (((m_t1 I J a b r).2) 89 r)))), (3, .int (nI r)), (4, .int (nI q))]) hx hb dX5_take_84 hl (by decide) rfl (fun ls hl => ?_)
                refine lv_aload_n hx hb dX5_take_86 rfl (lv_at hl 2 rfl) ?_
                refine gx_get hx hb hts hinX5 hown G 5 (by decide) rfl rfl 24 (by decide) rfl lk100 rfl (v := .int (I 5 24)) rfl dX5_take_87 ?_
                refine lv_if_eq (tgt := 111) hx hb dX5_take_90 (by decide) (fun c90 => ?_) (fun c90 => ?_)
                · skip
                  exact absurd c90 c50
                · skip
                  refine lv_iload hx hb dX5_take_93 (lv_at hl 5 rfl) ?_
                  refine lv_if_ne (tgt := 106) hx hb dX5_take_95 (by decide) (fun c95 => ?_) (fun c95 => ?_)
                  · skip
                    have n95 := gn_neq (X := q) (Y := 0) rfl rfl (by omega) (by omega) c95
                    refine lv_iload hx hb dX5_take_106 (lv_at hl 0 rfl) ?_
                    refine lv_if_le (tgt := 135) hx hb dX5_take_108 (by decide) (fun c108 => ?_) (fun c108 => ?_)
                    · skip
                      refine lv_iinc (v := (nI (q + 1))) (lv' := [(4, .int (nI (q + 1))), (6, .int (m_cmp ((m_fr I J ((m_t1 I J a b r).2) r q) 89 r) (J 5 23) ((m_fr I J ((m_t1 I J a b r).2) r q) 37 ((2 * r) + q)) ((m_fr I J ((m_t1 I J a b r).2) r q) 38 ((2 * r) + q)))), (5, .int ((2 * (nI r)) + (nI q))), (0, .ref (ad 5)), (1, .long (((m_t1 I J a b r).1) + (((a 29 r).toInt64) * (((m_t1 I J a b r).2) 89 r)))), (3, .int (nI r))]) hx hb dX5_take_135 hl (k := 5) rfl (gn_add (X := q) (Y := 1) rfl rfl) (by decide) rfl (fun ls hl => ?_)
                      refine lv_goto (tgt := 32) hx hb dX5_take_138 (by decide) ?_
                      exact ih32  (q + 1) _ _ _ (by omega) (by omega) (gg_eq G rfl rfl rfl (by (try simp only [m_fr]); unfold m_fs; (repeat (first | rw [if_neg c9] | rw [if_neg c35] | rw [if_neg c50] | rw [if_neg c90] | rw [if_neg c95] | rw [if_pos c108])); (try rfl))) (lv_sub hl [3, 4, 5, 0] rfl)
                    · skip
                      refine lv_aload_n hx hb dX5_take_111 rfl (lv_at hl 2 rfl) ?_
                      refine gx_get hx hb hts hinX5 hown G 5 (by decide) rfl rfl 17 (by decide) rfl lk42 rfl (v := .ref (ad 37)) rfl dX5_take_112 ?_
                      refine lv_iload hx hb dX5_take_115 (lv_at hl 1 rfl) ?_
                      refine lv_aload_n hx hb dX5_take_117 rfl (lv_at hl 2 rfl) ?_
                      refine gx_get hx hb hts hinX5 hown G 5 (by decide) rfl rfl 22 (by decide) rfl lk57 rfl (v := .ref (ad 89)) rfl dX5_take_118 ?_
                      refine lv_iload_n hx hb dX5_take_121 rfl (lv_at hl 4 rfl) ?_
                      refine gx_lald hx hb G 89 (by decide) (rfl) (by decide) r rfl (by omega) dX5_take_122 ?_
                      refine gx_last hx hb G 37 (by decide) (rfl) (by decide) ((2 * r) + q) (gn_add (gn_mul rfl rfl) rfl) (by omega) dX5_take_123 (fun H locs G => ?_)
                      refine lv_aload_n hx hb dX5_take_124 rfl (lv_at hl 2 rfl) ?_
                      refine gx_get hx hb hts hinX5 hown G 5 (by decide) rfl rfl 18 (by decide) rfl lk45 rfl (v := .ref (ad 38)) rfl dX5_take_125 ?_
                      refine lv_iload hx hb dX5_take_128 (lv_at hl 1 rfl) ?_
                      refine lv_aload_n hx hb dX5_take_130 rfl (lv_at hl 2 rfl) ?_
                      refine gx_get hx hb hts hinX5 hown G 5 (by decide) rfl rfl 23 (by decide) rfl lk74 rfl (v := .long (J 5 23)) rfl dX5_take_131 ?_
                      refine gx_last hx hb G 38 (by decide) (rfl) (by decide) ((2 * r) + q) (gn_add (gn_mul rfl rfl) rfl) (by omega) dX5_take_134 (fun H locs G => ?_)
                      refine lv_iinc (v := (nI (q + 1))) (lv' := [(4, .int (nI (q + 1))), (6, .int (m_cmp ((m_fr I J ((m_t1 I J a b r).2) r q) 89 r) (J 5 23) ((m_fr I J ((m_t1 I J a b r).2) r q) 37 ((2 * r) + q)) ((m_fr I J ((m_t1 I J a b r).2) r q) 38 ((2 * r) + q)))), (5, .int ((2 * (nI r)) + (nI q))), (0, .ref (ad 5)), (1, .long (((m_t1 I J a b r).1) + (((a 29 r).toInt64) * (((m_t1 I J a b r).2) 89 r)))), (3, .int (nI r))]) hx hb dX5_take_135 hl (k := 5) rfl (gn_add (X := q) (Y := 1) rfl rfl) (by decide) rfl (fun ls hl => ?_)
                      refine lv_goto (tgt := 32) hx hb dX5_take_138 (by decide) ?_
                      exact ih32  (q + 1) _ _ _ (by omega) (by omega) (gg_eq G rfl rfl rfl (by (try simp only [m_fr]); unfold m_fs; (repeat (first | rw [if_neg c9] | rw [if_neg c35] | rw [if_neg c50] | rw [if_neg c90] | rw [if_neg c95] | rw [if_neg c108])); (try rfl))) (lv_sub hl [3, 4, 5, 0] rfl)
                  · skip
                    have n95 := gn_eq (X := q) (Y := 0) rfl rfl (by omega) (by omega) c95
                    refine lv_iload hx hb dX5_take_98 (lv_at hl 0 rfl) ?_
                    refine lv_if_ge (tgt := 135) hx hb dX5_take_100 (by decide) (fun c100 => ?_) (fun c100 => ?_)
                    · skip
                      refine lv_iinc (v := (nI (q + 1))) (lv' := [(4, .int (nI (q + 1))), (6, .int (m_cmp ((m_fr I J ((m_t1 I J a b r).2) r q) 89 r) (J 5 23) ((m_fr I J ((m_t1 I J a b r).2) r q) 37 ((2 * r) + q)) ((m_fr I J ((m_t1 I J a b r).2) r q) 38 ((2 * r) + q)))), (5, .int ((2 * (nI r)) + (nI q))), (0, .ref (ad 5)), (1, .long (((m_t1 I J a b r).1) + (((a 29 r).toInt64) * (((m_t1 I J a b r).2) 89 r)))), (3, .int (nI r))]) hx hb dX5_take_135 hl (k := 5) rfl (gn_add (X := q) (Y := 1) rfl rfl) (by decide) rfl (fun ls hl => ?_)
                      refine lv_goto (tgt := 32) hx hb dX5_take_138 (by decide) ?_
                      exact ih32  (q + 1) _ _ _ (by omega) (by omega) (gg_eq G rfl rfl rfl (by (try simp only [m_fr]); unfold m_fs; (repeat (first | rw [if_neg c9] | rw [if_neg c35] | rw [if_neg c50] | rw [if_neg c90] | rw [if_pos c95] | rw [if_pos c100])); (try rfl))) (lv_sub hl [3, 4, 5, 0] rfl)
                    · skip
                      refine lv_goto (tgt := 111) hx hb dX5_take_103 (by decide) ?_
                      refine lv_aload_n hx hb dX5_take_111 rfl (lv_at hl 2 rfl) ?_
                      refine gx_get hx hb hts hinX5 hown G 5 (by decide) rfl rfl 17 (by decide) rfl lk42 rfl (v := .ref (ad 37)) rfl dX5_take_112 ?_
                      refine lv_iload hx hb dX5_take_115 (lv_at hl 1 rfl) ?_
                      refine lv_aload_n hx hb dX5_take_117 rfl (lv_at hl 2 rfl) ?_
                      refine gx_get hx hb hts hinX5 hown G 5 (by decide) rfl rfl 22 (by decide) rfl lk57 rfl (v := .ref (ad 89)) rfl dX5_take_118 ?_
                      refine lv_iload_n hx hb dX5_take_121 rfl (lv_at hl 4 rfl) ?_
                      refine gx_lald hx hb G 89 (by decide) (rfl) (by decide) r rfl (by omega) dX5_take_122 ?_
                      refine gx_last hx hb G 37 (by decide) (rfl) (by decide) ((2 * r) + q) (gn_add (gn_mul rfl rfl) rfl) (by omega) dX5_take_123 (fun H locs G => ?_)
                      refine lv_aload_n hx hb dX5_take_124 rfl (lv_at hl 2 rfl) ?_
                      refine gx_get hx hb hts hinX5 hown G 5 (by decide) rfl rfl 18 (by decide) rfl lk45 rfl (v := .ref (ad 38)) rfl dX5_take_125 ?_
                      refine lv_iload hx hb dX5_take_128 (lv_at hl 1 rfl) ?_
                      refine lv_aload_n hx hb dX5_take_130 rfl (lv_at hl 2 rfl) ?_
                      refine gx_get hx hb hts hinX5 hown G 5 (by decide) rfl rfl 23 (by decide) rfl lk74 rfl (v := .long (J 5 23)) rfl dX5_take_131 ?_
                      refine gx_last hx hb G 38 (by decide) (rfl) (by decide) ((2 * r) + q) (gn_add (gn_mul rfl rfl) rfl) (by omega) dX5_take_134 (fun H locs G => ?_)
                      refine lv_iinc (v := (nI (q + 1))) (lv' := [(4, .int (nI (q + 1))), (6, .int (m_cmp ((m_fr I J ((m_t1 I J a b r).2) r q) 89 r) (J 5 23) ((m_fr I J ((m_t1 I J a b r).2) r q) 37 ((2 * r) + q)) ((m_fr I J ((m_t1 I J a b r).2) r q) 38 ((2 * r) + q)))), (5, .int ((2 * (nI r)) + (nI q))), (0, .ref (ad 5)), (1, .long (((m_t1 I J a b r).1) + (((a 29 r).toInt64) * (((m_t1 I J a b r).2) 89 r)))), (3, .int (nI r))]) hx hb dX5_take_135 hl (k := 5) rfl (gn_add (X := q) (Y := 1) rfl rfl) (by decide) rfl (fun ls hl => ?_)
                      refine lv_goto (tgt := 32) hx hb dX5_take_138 (by decide) ?_
                      exact ih32  (q + 1) _ _ _ (by omega) (by omega) (gg_eq G rfl rfl rfl (by (try simp only [m_fr]); unfold m_fs; (repeat (first | rw [if_neg c9] | rw [if_neg c35] | rw [if_neg c50] | rw [if_neg c90] | rw [if_pos c95] | rw [if_neg c100])); (try rfl))) (lv_sub hl [3, 4, 5, 0] rfl)
        exact K32 (2 - 0 + 1) 0 _ _ _ (by omega) (Nat.lt_succ_self _) (gg_eq G rfl rfl rfl (rfl)) (lv_sub hl [2, 1, 3, 0] rfl)
  have q1 : 0 = (m_t1 I J a b 0).1 := rfl
  rw [q1] at hl
  exact K4 (mn - 0 + 1) 0 _ _ _ (by omega) (Nat.lt_succ_self _) (gg_eq G rfl rfl rfl (rfl)) (lv_sub hl [2, 1, 0] rfl)
