/-! The reference: solve -/
def m_pick (a : gF) (mn : Nat) : Prop := ∀ i, i < mn → ∃ k, a 88 i = nI k ∧ k < 18
def m_mx1 (a : gF) (b : gL) (i : Nat) : Nat → gL
  | 0 => b
  | j + 1 => gU (m_mx1 a b i j) 87 ((6 * i) + j) (m_part a (cN (a 88 i)) j)
def m_mx (a : gF) (b : gL) (mn : Nat) : Nat → gL
  | 0 => b
  | i + 1 => gU (m_mx1 a (m_mx a b mn i) i mn) 87 ((6 * i) + mn) (m_part a (cN (a 88 i)) 5)
def m_pv (b : gL) (k : Nat) : Nat → Nat → Nat
  | 0, p => p
  | n + 1, p => if b 87 ((6 * p) + k) = 0 then m_pv b k n (p + 1) else p
theorem m_pv_s (b : gL) (k : Nat) {mn p : Nat} (h : p < mn) : m_pv b k (mn - p) p = if b 87 ((6 * p) + k) = 0 then m_pv b k (mn - (p + 1)) (p + 1) else p := by
  rw [show mn - p = (mn - (p + 1)) + 1 by omega]
  rfl
def m_sw (b : gL) (k p : Nat) : Nat → gL
  | 0 => b
  | j + 1 => gU (gU (m_sw b k p j) 87 ((6 * k) + j) (m_sw b k p j 87 ((6 * p) + j))) 87 ((6 * p) + j) (m_sw b k p j 87 ((6 * k) + j))
theorem m_sw_get (b : gL) {k p : Nat} : ∀ n, n ≤ 6 → ∀ j, j < 6 → m_sw b k p n 87 ((6 * k) + j) = (if j < n then b 87 ((6 * p) + j) else b 87 ((6 * k) + j)) ∧ m_sw b k p n 87 ((6 * p) + j) = (if j < n then b 87 ((6 * k) + j) else b 87 ((6 * p) + j))
  | 0, _, j, _ => ⟨rfl, rfl⟩
  | n + 1, hn, j, hj => by
    obtain ⟨h1, h2⟩ := m_sw_get b (k := k) (p := p) n (by omega) j hj
    obtain ⟨g1, g2⟩ := m_sw_get b (k := k) (p := p) n (by omega) n (by omega)
    rw [if_neg (by omega)] at g1 g2
    unfold m_sw
    rw [g1, g2]
    by_cases e : j = n
    · subst e
      rw [if_pos (by omega), if_pos (by omega)]
      refine ⟨?_, gU_s⟩
      by_cases ek : k = p
      · subst ek
        exact gU_s
      · rw [gU_n (Or.inr (by omega)), gU_s]
    · rw [gU_n (Or.inr (by omega)), gU_n (Or.inr (by omega)), gU_n (Or.inr (by omega)), gU_n (Or.inr (by omega)), h1, h2]
      by_cases hl : j < n
      · rw [if_pos hl, if_pos hl, if_pos (by omega), if_pos (by omega)]
        exact ⟨rfl, rfl⟩
      · rw [if_neg hl, if_neg hl, if_neg (by omega), if_neg (by omega)]
        exact ⟨rfl, rfl⟩
def m_el1 (b : gL) (i k : Nat) (pv q bf : Int64) : Nat → gL
  | 0 => b
  | j + 1 => gU (m_el1 b i k pv q bf j) 87 ((6 * i) + j) ((pv * m_el1 b i k pv q bf j 87 ((6 * i) + j) - q * m_el1 b i k pv q bf j 87 ((6 * k) + j)) / bf)
def m_elI (b : gL) (i k : Nat) (pv q bf : Int64) (n : Nat) : gL := if nI i = nI k then b else m_el1 b i k pv q bf n
def m_el (b : gL) (k : Nat) (pv bf : Int64) (mn : Nat) : Nat → gL
  | 0 => b
  | i + 1 => m_elI (m_el b k pv bf mn i) i k pv (m_el b k pv bf mn i 87 ((6 * i) + k)) bf (mn + 1)
def m_sol (mn : Nat) : Nat → Nat → Int64 → gL → Int32 × Int64 × gL
  | 0, _, bf, b => (1, bf, b)
  | n + 1, k, bf, b => if m_pv b k (mn - k) k = mn then (0, bf, b) else m_sol mn n (k + 1) (m_sw b k (m_pv b k (mn - k) k) (mn + 1) 87 ((6 * k) + k)) (m_el (m_sw b k (m_pv b k (mn - k) k) (mn + 1)) k (m_sw b k (m_pv b k (mn - k) k) (mn + 1) 87 ((6 * k) + k)) bf mn mn)
theorem m_sol_s (mn : Nat) {k p : Nat} {bf : Int64} {b : gL} (h : k < mn) (hp : m_pv b k (mn - k) k = p) : m_sol mn (mn - k) k bf b = if p = mn then (0, bf, b) else m_sol mn (mn - (k + 1)) (k + 1) (m_sw b k p (mn + 1) 87 ((6 * k) + k)) (m_el (m_sw b k p (mn + 1)) k (m_sw b k p (mn + 1) 87 ((6 * k) + k)) bf mn mn) := by
  subst hp
  rw [show mn - k = (mn - (k + 1)) + 1 by omega]
  conv => lhs; unfold m_sol
  rw [show mn - (k + 1) + 1 = mn - k by omega]
def m_ov (b : gL) (mn : Nat) : Nat → gL
  | 0 => b
  | i + 1 => gU (m_ov b mn i) 89 i (m_ov b mn i 87 ((6 * i) + mn))
def m_ng (b : gL) : Nat → gL
  | 0 => b
  | i + 1 => gU (m_ng b i) 89 i (-m_ng b i 89 i)
def m_s0 (a : gF) (b : gL) (mn : Nat) : Int32 × Int64 × gL := m_sol mn mn 0 1 (m_mx a b mn mn)
def m_sJ (J : gL) (a : gF) (b : gL) (mn : Nat) : gL := if (m_s0 a b mn).1 = 0 then J else if 0 ≤ (m_s0 a b mn).2.1 then gU J 5 23 (m_s0 a b mn).2.1 else gU (gU J 5 23 (m_s0 a b mn).2.1) 5 23 (-(m_s0 a b mn).2.1)
def m_sB (a : gF) (b : gL) (mn : Nat) : gL := if (m_s0 a b mn).1 = 0 then (m_s0 a b mn).2.2 else if 0 ≤ (m_s0 a b mn).2.1 then m_ov (m_s0 a b mn).2.2 mn mn else m_ng (m_ov (m_s0 a b mn).2.2 mn mn) mn

set_option maxHeartbeats 4000000 in
set_option maxRecDepth 100000 in
theorem kX5_solve (l : Launch) (D : va_G) (ad : Nat → Nat) (cy : Nat → ClassId) (I : gF) (J : gL) (a : gF) (b : gL) (sz : Nat) (mn : Nat) (hmn : I 5 0 = nI mn) (hmn2 : mn ≤ 5) (hpk : m_pick a mn) : gMi l yX5_solve wsX5_solve ({ frames := 1, cells := 0, slots := 0, locals := 23 }) D ad cy I J a b sz [.ref (ad 5)] (fun res u => res = (m_s0 a b mn).1 ∧ u = (I, m_sJ J a b mn, a, m_sB a b mn)) := by
  refine Met.ofW (cc := cX5_solve) (maxL := 12) (ret := some .boolean) (by decide) rfl ?_
  intro p e s m args below meth c s₁ B hml hv
  obtain ⟨hargs, hsz, G⟩ := gx_begin hv
  subst hsz
  have hx := B.exec
  have hb := B.bytes
  have hr := B.returns
  have hts := atoms_spec (ws := wsX5_solve) B.pre
  have hown : s.vm.findClass RX5 = some m.cls := findClass_of_methodNamed B.named
  have hlocks := B.notSynchronized
  have hinX5 : ∀ w ∈ wsX50, w ∈ wsX5_solve := by decide +kernel
  have lk51 := hts (.fieldLink RX5 51 "ExactSimplexModel" "matrix" "[J") (by decide +kernel)
  have lk54 := hts (.fieldLink RX5 54 "ExactSimplexModel" "pick" "[I") (by decide +kernel)
  have lk57 := hts (.fieldLink RX5 57 "ExactSimplexModel" "over" "[J") (by decide +kernel)
  have lk66 := hts (.fieldLink RX5 66 "ExactSimplexModel" "names" "I") (by decide +kernel)
  have lk74 := hts (.fieldLink RX5 74 "ExactSimplexModel" "under" "J") (by decide +kernel)
  have hl := lv_entry ([.ref (ad 5)]) (n := 12) (Nat.le_of_ble_eq_true rfl)
  have hent := lg_entry_eq m ([.ref (ad 5)]) 12
  rw [← hargs] at hent
  rw [hent]
  clear hent
  generalize (lg_sl ([.ref (ad 5)]) ++ List.replicate (12 - (lg_sl ([.ref (ad 5)])).length) Slot.unset).toArray = ls at hl ⊢
  have hl : lv_has ls 12 [(0, .ref (ad 5))] := hl
  generalize hA : gA ad s.heap.size = A at G ⊢
  generalize hH : s.heap = H at G ⊢
  refine gx_q (fun Q hQ => ?_)
  refine lv_aload_n hx hb dX5_solve_0 rfl (lv_at hl 0 rfl) ?_
  refine gx_get hx hb hts hinX5 hown G 5 (by decide) rfl rfl 0 (by decide) rfl lk66 rfl (v := .int (I 5 0)) rfl dX5_solve_1 ?_
  refine lv_istore_n (lv' := [(1, .int (I 5 0)), (0, .ref (ad 5))]) hx hb dX5_solve_4 rfl hl (by decide) rfl (fun ls hl => ?_)
  refine lv_iconst (v := 0) hx hb dX5_solve_5 (by decide) ?_
  refine lv_istore_n (lv' := [(2, .int 0), (1, .int (I 5 0)), (0, .ref (ad 5))]) hx hb dX5_solve_6 rfl hl (by decide) rfl (fun ls hl => ?_)
  have K7 : ∀ (nf : Nat) (r : Nat) (H : Heap) (locs : List Loc) (ls : Array Slot), (r ≤ mn) → mn - r < nf → GG D ad cy A s I J a (m_mx a b mn r) H locs → lv_has ls 12 [(0, .ref (ad 5)), (1, .int (I 5 0)), (2, .int (nI r))] → W p l e ({ frames := 1, cells := 0, slots := 0, locals := 23 }) s m args below meth c H locs 0 0 Q (F0 m 7 ls []) := by
    intro nf
    induction nf with
    | zero => exact fun _ _ _ _ _ hz => absurd hz (Nat.not_lt_zero _)
    | succ nf ih =>
      intro r H locs ls h1 hmeas G hl
      have ih7 := ih
      clear ih
      refine lv_iload_n hx hb dX5_solve_7 rfl (lv_at hl 2 rfl) ?_
      refine lv_iload_n hx hb dX5_solve_8 rfl (lv_at hl 1 rfl) ?_
      refine lv_icmp_ge (tgt := 75) hx hb dX5_solve_9 (by decide) (fun c9 => ?_) (fun c9 => ?_)
      · skip
        have n9 := gn_le (X := mn) (Y := r) hmn rfl (by omega) (by omega) c9
        have hex : r = mn := by omega
        rw [hex] at hl
        rw [hex] at G
        refine lv_lconst (v := 1) hx hb dX5_solve_75 (by decide) ?_
        refine lv_lstore_n (lv' := [(2, .long 1), (0, .ref (ad 5)), (1, .int (I 5 0))]) hx hb dX5_solve_76 rfl hl (by decide) rfl (fun ls hl => ?_)
        refine lv_iconst (v := 0) hx hb dX5_solve_77 (by decide) ?_
        refine lv_istore (lv' := [(4, .int 0), (2, .long 1), (0, .ref (ad 5)), (1, .int (I 5 0))]) hx hb dX5_solve_78 hl (by decide) rfl (fun ls hl => ?_)
        have K80 : ∀ (nf : Nat) (k : Nat) (bf : Int64) (b2 : gL) (H : Heap) (locs : List Loc) (ls : Array Slot), (k ≤ mn) → (m_s0 a b mn = m_sol mn (mn - k) k bf b2) → (¬ bf = 0) → mn - k < nf → GG D ad cy A s I J a b2 H locs → lv_has ls 12 [(0, .ref (ad 5)), (1, .int (I 5 0)), (2, .long bf), (4, .int (nI k))] → W p l e ({ frames := 1, cells := 0, slots := 0, locals := 23 }) s m args below meth c H locs 0 0 Q (F0 m 80 ls []) := by
          intro nf
          induction nf with
          | zero => exact fun _ _ _ _ _ _ _ _ _ hz => absurd hz (Nat.not_lt_zero _)
          | succ nf ih =>
            intro k bf b2 H locs ls hk h3 hbf hmeas G hl
            have ih80 := ih
            clear ih
            refine lv_iload hx hb dX5_solve_80 (lv_at hl 3 rfl) ?_
            refine lv_iload_n hx hb dX5_solve_82 rfl (lv_at hl 1 rfl) ?_
            refine lv_icmp_ge (tgt := 323) hx hb dX5_solve_83 (by decide) (fun c83 => ?_) (fun c83 => ?_)
            · skip
              have n83 := gn_le (X := mn) (Y := k) hmn rfl (by omega) (by omega) c83
              have hres : m_s0 a b mn = (1, bf, b2) := by rw [h3, show mn - k = 0 by omega]; rfl
              refine lv_aload_n hx hb dX5_solve_323 rfl (lv_at hl 0 rfl) ?_
              refine lv_lload_n hx hb dX5_solve_324 rfl (lv_at hl 2 rfl) ?_
              refine gx_putJ hx hb hts hinX5 tyX5 tyX5_ok nmX5 hown G 5 (by decide) rfl rfl 23 (by decide) rfl lk74 rfl rfl (tyX5_ok 23 (by decide)) dX5_solve_325 (fun H locs G => ?_)
              refine lv_iconst (v := 0) hx hb dX5_solve_328 (by decide) ?_
              refine lv_istore (lv' := [(4, .int 0), (0, .ref (ad 5)), (1, .int (I 5 0)), (2, .long bf)]) hx hb dX5_solve_329 hl (by decide) rfl (fun ls hl => ?_)
              have K331 : ∀ (nf : Nat) (i : Nat) (H : Heap) (locs : List Loc) (ls : Array Slot), (i ≤ mn) → mn - i < nf → GG D ad cy A s I (gU J 5 23 bf) a (m_ov b2 mn i) H locs → lv_has ls 12 [(0, .ref (ad 5)), (1, .int (I 5 0)), (2, .long bf), (4, .int (nI i))] → W p l e ({ frames := 1, cells := 0, slots := 0, locals := 23 }) s m args below meth c H locs 0 0 Q (F0 m 331 ls []) := by
                intro nf
                induction nf with
                | zero => exact fun _ _ _ _ _ hz => absurd hz (Nat.not_lt_zero _)
                | succ nf ih =>
                  intro i H locs ls hi hmeas G hl
                  have ih331 := ih
                  clear ih
                  refine lv_iload hx hb dX5_solve_331 (lv_at hl 3 rfl) ?_
                  refine lv_iload_n hx hb dX5_solve_333 rfl (lv_at hl 1 rfl) ?_
                  refine lv_icmp_ge (tgt := 362) hx hb dX5_solve_334 (by decide) (fun c334 => ?_) (fun c334 => ?_)
                  · skip
                    have n334 := gn_le (X := mn) (Y := i) hmn rfl (by omega) (by omega) c334
                    have hex : i = mn := by omega
                    rw [hex] at hl
                    rw [hex] at G
                    refine lv_aload_n hx hb dX5_solve_362 rfl (lv_at hl 0 rfl) ?_
                    refine gx_get hx hb hts hinX5 hown G 5 (by decide) rfl rfl 23 (by decide) rfl lk74 rfl (v := .long bf) rfl dX5_solve_363 ?_
                    refine lv_lconst (v := 0) hx hb dX5_solve_366 (by decide) ?_
                    refine gx_lc_ge (tgt := 410) hx hb dX5_solve_367 dX5_solve_368 (by decide) (fun c368 => ?_) (fun c368 => ?_)
                    · skip
                      refine lv_iconst (v := 1) hx hb dX5_solve_410 (by decide) ?_
                      exact gx_zr hx hb hr hlocks G hQ (rfl) ⟨by rw [hres], by first | (unfold m_sJ m_sB; rw [hres]; simp only [c368, reduceIte]; rfl) | (rw [show i = mn by omega]; unfold m_sJ m_sB; rw [hres]; simp only [c368, reduceIte]; rfl)⟩ dX5_solve_411
                    · skip
                      refine lv_aload_n hx hb dX5_solve_371 rfl (lv_at hl 0 rfl) ?_
                      refine lv_aload_n hx hb dX5_solve_372 rfl (lv_at hl 0 rfl) ?_
                      refine gx_get hx hb hts hinX5 hown G 5 (by decide) rfl rfl 23 (by decide) rfl lk74 rfl (v := .long bf) rfl dX5_solve_373 ?_
                      refine lv_lneg hx hb dX5_solve_376 ?_
                      refine gx_putJ hx hb hts hinX5 tyX5 tyX5_ok nmX5 hown G 5 (by decide) rfl rfl 23 (by decide) rfl lk74 rfl rfl (tyX5_ok 23 (by decide)) dX5_solve_377 (fun H locs G => ?_)
                      refine lv_iconst (v := 0) hx hb dX5_solve_380 (by decide) ?_
                      refine lv_istore (lv' := [(4, .int 0), (0, .ref (ad 5)), (1, .int (I 5 0)), (2, .long bf)]) hx hb dX5_solve_381 hl (by decide) rfl (fun ls hl => ?_)
                      have K383 : ∀ (nf : Nat) (i : Nat) (H : Heap) (locs : List Loc) (ls : Array Slot), (i ≤ mn) → mn - i < nf → GG D ad cy A s I (gU (gU J 5 23 bf) 5 23 (-bf)) a (m_ng (m_ov b2 mn mn) i) H locs → lv_has ls 12 [(0, .ref (ad 5)), (1, .int (I 5 0)), (2, .long bf), (4, .int (nI i))] → W p l e ({ frames := 1, cells := 0, slots := 0, locals := 23 }) s m args below meth c H locs 0 0 Q (F0 m 383 ls []) := by
                        intro nf
                        induction nf with
                        | zero => exact fun _ _ _ _ _ hz => absurd hz (Nat.not_lt_zero _)
                        | succ nf ih =>
                          intro i H locs ls hi hmeas G hl
                          have ih383 := ih
                          clear ih
                          refine lv_iload hx hb dX5_solve_383 (lv_at hl 3 rfl) ?_
                          refine lv_iload_n hx hb dX5_solve_385 rfl (lv_at hl 1 rfl) ?_
                          refine lv_icmp_ge (tgt := 410) hx hb dX5_solve_386 (by decide) (fun c386 => ?_) (fun c386 => ?_)
                          · skip
                            have n386 := gn_le (X := mn) (Y := i) hmn rfl (by omega) (by omega) c386
                            refine lv_iconst (v := 1) hx hb dX5_solve_410 (by decide) ?_
                            exact gx_zr hx hb hr hlocks G hQ (rfl) ⟨by rw [hres], by first | (unfold m_sJ m_sB; rw [hres]; simp only [c368, reduceIte]; rfl) | (rw [show i = mn by omega]; unfold m_sJ m_sB; rw [hres]; simp only [c368, reduceIte]; rfl)⟩ dX5_solve_411
                          · skip
                            have n386 := gn_nle (X := mn) (Y := i) hmn rfl (by omega) (by omega) c386
                            refine lv_aload_n hx hb dX5_solve_389 rfl (lv_at hl 0 rfl) ?_
                            refine gx_get hx hb hts hinX5 hown G 5 (by decide) rfl rfl 22 (by decide) rfl lk57 rfl (v := .ref (ad 89)) rfl dX5_solve_390 ?_
                            refine lv_iload hx hb dX5_solve_393 (lv_at hl 3 rfl) ?_
                            refine lv_aload_n hx hb dX5_solve_395 rfl (lv_at hl 0 rfl) ?_
                            refine gx_get hx hb hts hinX5 hown G 5 (by decide) rfl rfl 22 (by decide) rfl lk57 rfl (v := .ref (ad 89)) rfl dX5_solve_396 ?_
                            refine lv_iload hx hb dX5_solve_399 (lv_at hl 3 rfl) ?_
                            refine gx_lald hx hb G 89 (by decide) (rfl) (by decide) i rfl (by omega) dX5_solve_401 ?_
                            refine lv_lneg hx hb dX5_solve_402 ?_
                            refine gx_last hx hb G 89 (by decide) (rfl) (by decide) i rfl (by omega) dX5_solve_403 (fun H locs G => ?_)
                            refine lv_iinc (v := (nI (i + 1))) (lv' := [(4, .int (nI (i + 1))), (0, .ref (ad 5)), (1, .int (I 5 0)), (2, .long bf)]) hx hb dX5_solve_404 hl (k := 3) rfl (gn_add (X := i) (Y := 1) rfl rfl) (by decide) rfl (fun ls hl => ?_)
                            refine lv_goto (tgt := 383) hx hb dX5_solve_407 (by decide) ?_
                            exact ih383  (i + 1) _ _ _ (by omega) (by omega) (gg_eq G rfl rfl rfl (rfl)) (lv_sub hl [1, 2, 3, 0] rfl)
                      exact K383 (mn - 0 + 1) 0 _ _ _ (by omega) (Nat.lt_succ_self _) (gg_eq G rfl rfl rfl (rfl)) (lv_sub hl [1, 2, 3, 0] rfl)
                  · skip
                    have n334 := gn_nle (X := mn) (Y := i) hmn rfl (by omega) (by omega) c334
                    refine lv_aload_n hx hb dX5_solve_337 rfl (lv_at hl 0 rfl) ?_
                    refine gx_get hx hb hts hinX5 hown G 5 (by decide) rfl rfl 22 (by decide) rfl lk57 rfl (v := .ref (ad 89)) rfl dX5_solve_338 ?_
                    refine lv_iload hx hb dX5_solve_341 (lv_at hl 3 rfl) ?_
                    refine lv_aload_n hx hb dX5_solve_343 rfl (lv_at hl 0 rfl) ?_
                    refine gx_get hx hb hts hinX5 hown G 5 (by decide) rfl rfl 20 (by decide) rfl lk51 rfl (v := .ref (ad 87)) rfl dX5_solve_344 ?_
                    refine lv_bipush (v := 6) hx hb dX5_solve_347 (by decide) ?_
                    refine lv_iload hx hb dX5_solve_349 (lv_at hl 3 rfl) ?_
                    refine lv_imul hx hb dX5_solve_351 ?_
                    refine lv_iload_n hx hb dX5_solve_352 rfl (lv_at hl 1 rfl) ?_
                    refine lv_iadd hx hb dX5_solve_353 ?_
                    refine gx_lald hx hb G 87 (by decide) (rfl) (by decide) ((6 * i) + mn) (gn_add (gn_mul rfl rfl) hmn) (by omega) dX5_solve_354 ?_
                    refine gx_last hx hb G 89 (by decide) (rfl) (by decide) i rfl (by omega) dX5_solve_355 (fun H locs G => ?_)
                    refine lv_iinc (v := (nI (i + 1))) (lv' := [(4, .int (nI (i + 1))), (0, .ref (ad 5)), (1, .int (I 5 0)), (2, .long bf)]) hx hb dX5_solve_356 hl (k := 3) rfl (gn_add (X := i) (Y := 1) rfl rfl) (by decide) rfl (fun ls hl => ?_)
                    refine lv_goto (tgt := 331) hx hb dX5_solve_359 (by decide) ?_
                    exact ih331  (i + 1) _ _ _ (by omega) (by omega) (gg_eq G rfl rfl rfl (rfl)) (lv_sub hl [1, 2, 3, 0] rfl)
              exact K331 (mn - 0 + 1) 0 _ _ _ (by omega) (Nat.lt_succ_self _) (gg_eq G rfl rfl rfl (rfl)) (lv_sub hl [1, 2, 3, 0] rfl)
            · skip
              have n83 := gn_nle (X := mn) (Y := k) hmn rfl (by omega) (by omega) c83
              refine lv_iload hx hb dX5_solve_86 (lv_at hl 3 rfl) ?_
              refine lv_istore (lv' := [(5, .int (nI k)), (0, .ref (ad 5)), (1, .int (I 5 0)), (2, .long bf), (4, .int (nI k))]) hx hb dX5_solve_88 hl (by decide) rfl (fun ls hl => ?_)
              have K90 : ∀ (nf : Nat) (pp : Nat) (H : Heap) (locs : List Loc) (ls : Array Slot), (k ≤ pp) → (pp ≤ mn) → (m_pv b2 k (mn - k) k = m_pv b2 k (mn - pp) pp) → mn - pp < nf → GG D ad cy A s I J a b2 H locs → lv_has ls 12 [(0, .ref (ad 5)), (1, .int (I 5 0)), (2, .long bf), (4, .int (nI k)), (5, .int (nI pp))] → W p l e ({ frames := 1, cells := 0, slots := 0, locals := 23 }) s m args below meth c H locs 0 0 Q (F0 m 90 ls []) := by
                intro nf
                induction nf with
                | zero => exact fun _ _ _ _ _ _ _ hz => absurd hz (Nat.not_lt_zero _)
                | succ nf ih =>
                  intro pp H locs ls hkp hp h4 hmeas G hl
                  have ih90 := ih
                  clear ih
                  refine lv_iload hx hb dX5_solve_90 (lv_at hl 4 rfl) ?_
                  refine lv_iload_n hx hb dX5_solve_92 rfl (lv_at hl 1 rfl) ?_
                  refine lv_icmp_ge (tgt := 120) hx hb dX5_solve_93 (by decide) (fun c93 => ?_) (fun c93 => ?_)
                  · skip
                    have n93 := gn_le (X := mn) (Y := pp) hmn rfl (by omega) (by omega) c93
                    refine lv_iload hx hb dX5_solve_120 (lv_at hl 4 rfl) ?_
                    refine lv_iload_n hx hb dX5_solve_122 rfl (lv_at hl 1 rfl) ?_
                    refine lv_icmp_ne (tgt := 128) hx hb dX5_solve_123 (by decide) (fun c123 => ?_) (fun c123 => ?_)
                    · skip
                      have n123 := gn_neq (X := pp) (Y := mn) rfl hmn (by omega) (by omega) c123
                      exact absurd (show pp = mn by omega) n123
                    · skip
                      have n123 := gn_eq (X := pp) (Y := mn) rfl hmn (by omega) (by omega) c123
                      refine lv_iconst (v := 0) hx hb dX5_solve_126 (by decide) ?_
                      have hep : m_pv b2 k (mn - k) k = pp := h4.trans (by rw [show mn - pp = 0 by omega]; first | done | rfl)
                      exact gx_zr hx hb hr hlocks G hQ (rfl) ⟨by rw [h3, m_sol_s mn n83 hep, if_pos n123], by unfold m_sJ m_sB; rw [h3, m_sol_s mn n83 hep, if_pos n123]; rfl⟩ dX5_solve_127
                  · skip
                    have n93 := gn_nle (X := mn) (Y := pp) hmn rfl (by omega) (by omega) c93
                    refine lv_aload_n hx hb dX5_solve_96 rfl (lv_at hl 0 rfl) ?_
                    refine gx_get hx hb hts hinX5 hown G 5 (by decide) rfl rfl 20 (by decide) rfl lk51 rfl (v := .ref (ad 87)) rfl dX5_solve_97 ?_
                    refine lv_bipush (v := 6) hx hb dX5_solve_100 (by decide) ?_
                    refine lv_iload hx hb dX5_solve_102 (lv_at hl 4 rfl) ?_
                    refine lv_imul hx hb dX5_solve_104 ?_
                    refine lv_iload hx hb dX5_solve_105 (lv_at hl 3 rfl) ?_
                    refine lv_iadd hx hb dX5_solve_107 ?_
                    refine gx_lald hx hb G 87 (by decide) (rfl) (by decide) ((6 * pp) + k) (gn_add (gn_mul rfl rfl) rfl) (by omega) dX5_solve_108 ?_
                    refine lv_lconst (v := 0) hx hb dX5_solve_109 (by decide) ?_
                    refine gx_lc_ne (tgt := 120) hx hb dX5_solve_110 dX5_solve_111 (by decide) (fun c111 => ?_) (fun c111 => ?_)
                    · skip
                      refine lv_iload hx hb dX5_solve_120 (lv_at hl 4 rfl) ?_
                      refine lv_iload_n hx hb dX5_solve_122 rfl (lv_at hl 1 rfl) ?_
                      refine lv_icmp_ne (tgt := 128) hx hb dX5_solve_123 (by decide) (fun c123 => ?_) (fun c123 => ?_)
                      · skip
                        have n123 := gn_neq (X := pp) (Y := mn) rfl hmn (by omega) (by omega) c123
                        have epv : m_pv b2 k (mn - k) k = pp := by rw [h4, m_pv_s b2 k n93, if_neg c111]
                        refine lv_iconst (v := 0) hx hb dX5_solve_128 (by decide) ?_
                        refine lv_istore (lv' := [(6, .int 0), (0, .ref (ad 5)), (1, .int (I 5 0)), (2, .long bf), (4, .int (nI k)), (5, .int (nI pp))]) hx hb dX5_solve_129 hl (by decide) rfl (fun ls hl => ?_)
                        have K131 : ∀ (nf : Nat) (j : Nat) (H : Heap) (locs : List Loc) (ls : Array Slot), (j ≤ mn + 1) → mn + 1 - j < nf → GG D ad cy A s I J a (m_sw b2 k pp j) H locs → lv_has ls 12 [(0, .ref (ad 5)), (1, .int (I 5 0)), (2, .long bf), (4, .int (nI k)), (5, .int (nI pp)), (6, .int (nI j))] → W p l e ({ frames := 1, cells := 0, slots := 0, locals := 23 }) s m args below meth c H locs 0 0 Q (F0 m 131 ls []) := by
                          intro nf
                          induction nf with
                          | zero => exact fun _ _ _ _ _ hz => absurd hz (Nat.not_lt_zero _)
                          | succ nf ih =>
                            intro j H locs ls hj hmeas G hl
                            have ih131 := ih
                            clear ih
                            refine lv_iload hx hb dX5_solve_131 (lv_at hl 5 rfl) ?_
                            refine lv_iload_n hx hb dX5_solve_133 rfl (lv_at hl 1 rfl) ?_
                            refine lv_icmp_gt (tgt := 199) hx hb dX5_solve_134 (by decide) (fun c134 => ?_) (fun c134 => ?_)
                            · skip
                              have n134 := gn_lt (X := mn) (Y := j) hmn rfl (by omega) (by omega) c134
                              have hex : j = (mn + 1) := by omega
                              rw [hex] at hl
                              rw [hex] at G
                              refine lv_aload_n hx hb dX5_solve_199 rfl (lv_at hl 0 rfl) ?_
                              refine gx_get hx hb hts hinX5 hown G 5 (by decide) rfl rfl 20 (by decide) rfl lk51 rfl (v := .ref (ad 87)) rfl dX5_solve_200 ?_
                              refine lv_bipush (v := 6) hx hb dX5_solve_203 (by decide) ?_
                              refine lv_iload hx hb dX5_solve_205 (lv_at hl 3 rfl) ?_
                              refine lv_imul hx hb dX5_solve_207 ?_
                              refine lv_iload hx hb dX5_solve_208 (lv_at hl 3 rfl) ?_
                              refine lv_iadd hx hb dX5_solve_210 ?_
                              refine gx_lald hx hb G 87 (by decide) (rfl) (by decide) ((6 * k) + k) (gn_add (gn_mul rfl rfl) rfl) (by omega) dX5_solve_211 ?_
                              refine lv_lstore (lv' := [(6, .long ((m_sw b2 k pp (mn + 1)) 87 ((6 * k) + k))), (0, .ref (ad 5)), (1, .int (I 5 0)), (2, .long bf), (4, .int (nI k)), (5, .int (nI pp))]) hx hb dX5_solve_212 hl (by decide) rfl (fun ls hl => ?_)
                              refine lv_iconst (v := 0) hx hb dX5_solve_214 (by decide) ?_
                              refine lv_istore (lv' := [(8, .int 0), (6, .long ((m_sw b2 k pp (mn + 1)) 87 ((6 * k) + k))), (0, .ref (ad 5)), (1, .int (I 5 0)), (2, .long bf), (4, .int (nI k)), (5, .int (nI pp))]) hx hb dX5_solve_215 hl (by decide) rfl (fun ls hl => ?_)
                              have K217 : ∀ (nf : Nat) (i : Nat) (H : Heap) (locs : List Loc) (ls : Array Slot), (i ≤ mn) → mn - i < nf → GG D ad cy A s I J a (m_el (m_sw b2 k pp (mn + 1)) k (m_sw b2 k pp (mn + 1) 87 ((6 * k) + k)) bf mn i) H locs → lv_has ls 12 [(0, .ref (ad 5)), (1, .int (I 5 0)), (2, .long bf), (4, .int (nI k)), (5, .int (nI pp)), (6, .long ((m_sw b2 k pp (mn + 1)) 87 ((6 * k) + k))), (8, .int (nI i))] → W p l e ({ frames := 1, cells := 0, slots := 0, locals := 23 }) s m args below meth c H locs 0 0 Q (F0 m 217 ls []) := by
                                intro nf
                                induction nf with
                                | zero => exact fun _ _ _ _ _ hz => absurd hz (Nat.not_lt_zero _)
                                | succ nf ih =>
                                  intro i H locs ls hi hmeas G hl
                                  have ih217 := ih
                                  clear ih
                                  refine lv_iload hx hb dX5_solve_217 (lv_at hl 6 rfl) ?_
                                  refine lv_iload_n hx hb dX5_solve_219 rfl (lv_at hl 1 rfl) ?_
                                  refine lv_icmp_ge (tgt := 314) hx hb dX5_solve_220 (by decide) (fun c220 => ?_) (fun c220 => ?_)
                                  · skip
                                    have n220 := gn_le (X := mn) (Y := i) hmn rfl (by omega) (by omega) c220
                                    refine lv_lload hx hb dX5_solve_314 (lv_at hl 5 rfl) ?_
                                    refine lv_lstore_n (lv' := [(2, .long ((m_sw b2 k pp (mn + 1)) 87 ((6 * k) + k))), (0, .ref (ad 5)), (1, .int (I 5 0)), (4, .int (nI k)), (5, .int (nI pp)), (6, .long ((m_sw b2 k pp (mn + 1)) 87 ((6 * k) + k))), (8, .int (nI i))]) hx hb dX5_solve_316 rfl hl (by decide) rfl (fun ls hl => ?_)
                                    refine lv_iinc (v := (nI (k + 1))) (lv' := [(4, .int (nI (k + 1))), (2, .long ((m_sw b2 k pp (mn + 1)) 87 ((6 * k) + k))), (0, .ref (ad 5)), (1, .int (I 5 0)), (5, .int (nI pp)), (6, .long ((m_sw b2 k pp (mn + 1)) 87 ((6 * k) + k))), (8, .int (nI i))]) hx hb dX5_solve_317 hl (k := 3) rfl (gn_add (X := k) (Y := 1) rfl rfl) (by decide) rfl (fun ls hl => ?_)
                                    refine lv_goto (tgt := 80) hx hb dX5_solve_320 (by decide) ?_
                                    exact ih80  (k + 1) (m_sw b2 k pp (mn + 1) 87 ((6 * k) + k)) (m_el (m_sw b2 k pp (mn + 1)) k (m_sw b2 k pp (mn + 1) 87 ((6 * k) + k)) bf mn mn) _ _ _ (by omega) (by rw [h3, m_sol_s mn n83 epv, if_neg n123]) (by rw [(m_sw_get b2 (mn + 1) (by omega) k (by omega)).1, if_pos (by omega)]; exact c111) (by omega) (gg_eq G rfl rfl rfl (by rw [show i = mn by omega])) (lv_sub hl [2, 3, 1, 0] rfl)
                                  · skip
                                    have n220 := gn_nle (X := mn) (Y := i) hmn rfl (by omega) (by omega) c220
                                    refine lv_aload_n hx hb dX5_solve_223 rfl (lv_at hl 0 rfl) ?_
                                    refine gx_get hx hb hts hinX5 hown G 5 (by decide) rfl rfl 20 (by decide) rfl lk51 rfl (v := .ref (ad 87)) rfl dX5_solve_224 ?_
                                    refine lv_bipush (v := 6) hx hb dX5_solve_227 (by decide) ?_
                                    refine lv_iload hx hb dX5_solve_229 (lv_at hl 6 rfl) ?_
                                    refine lv_imul hx hb dX5_solve_231 ?_
                                    refine lv_iload hx hb dX5_solve_232 (lv_at hl 3 rfl) ?_
                                    refine lv_iadd hx hb dX5_solve_234 ?_
                                    refine gx_lald hx hb G 87 (by decide) (rfl) (by decide) ((6 * i) + k) (gn_add (gn_mul rfl rfl) rfl) (by omega) dX5_solve_235 ?_
                                    refine lv_lstore (lv' := [(9, .long ((m_el (m_sw b2 k pp (mn + 1)) k (m_sw b2 k pp (mn + 1) 87 ((6 * k) + k)) bf mn i) 87 ((6 * i) + k))), (0, .ref (ad 5)), (1, .int (I 5 0)), (2, .long bf), (4, .int (nI k)), (5, .int (nI pp)), (6, .long ((m_sw b2 k pp (mn + 1)) 87 ((6 * k) + k))), (8, .int (nI i))]) hx hb dX5_solve_236 hl (by decide) rfl (fun ls hl => ?_)
                                    refine lv_iconst (v := 0) hx hb dX5_solve_238 (by decide) ?_
                                    refine lv_istore (lv' := [(11, .int 0), (9, .long ((m_el (m_sw b2 k pp (mn + 1)) k (m_sw b2 k pp (mn + 1) 87 ((6 * k) + k)) bf mn i) 87 ((6 * i) + k))), (0, .ref (ad 5)), (1, .int (I 5 0)), (2, .long bf), (4, .int (nI k)), (5, .int (nI pp)), (6, .long ((m_sw b2 k pp (mn + 1)) 87 ((6 * k) + k))), (8, .int (nI i))]) hx hb dX5_solve_239 hl (by decide) rfl (fun ls hl => ?_)
                                    have K241 : ∀ (nf : Nat) (t : Nat) (H : Heap) (locs : List Loc) (ls : Array Slot), (t ≤ mn + 1) → mn + 1 - t < nf → GG D ad cy A s I J a (m_elI (m_el (m_sw b2 k pp (mn + 1)) k (m_sw b2 k pp (mn + 1) 87 ((6 * k) + k)) bf mn i) i k (m_sw b2 k pp (mn + 1) 87 ((6 * k) + k)) ((m_el (m_sw b2 k pp (mn + 1)) k (m_sw b2 k pp (mn + 1) 87 ((6 * k) + k)) bf mn i) 87 ((6 * i) + k)) bf t) H locs → lv_has ls 12 [(0, .ref (ad 5)), (1, .int (I 5 0)), (2, .long bf), (4, .int (nI k)), (5, .int (nI pp)), (6, .long ((m_sw b2 k pp (mn + 1)) 87 ((6 * k) + k))), (8, .int (nI i)), (9, .long ((m_el (m_sw b2 k pp (mn + 1)) k (m_sw b2 k pp (mn + 1) 87 ((6 * k) + k)) bf mn i) 87 ((6 * i) + k))), (11, .int (nI t))] → W p l e ({ frames := 1, cells := 0, slots := 0, locals := 23 }) s m args below meth c H locs 0 0 Q (F0 m 241 ls []) := by
                                      intro nf
                                      induction nf with
                                      | zero => exact fun _ _ _ _ _ hz => absurd hz (Nat.not_lt_zero _)
                                      | succ nf ih =>
                                        intro t H locs ls ht hmeas G hl
                                        have ih241 := ih
                                        clear ih
                                        refine lv_iload hx hb dX5_solve_241 (lv_at hl 8 rfl) ?_
                                        refine lv_iload_n hx hb dX5_solve_243 rfl (lv_at hl 1 rfl) ?_
                                        refine lv_icmp_gt (tgt := 308) hx hb dX5_solve_244 (by decide) (fun c244 => ?_) (fun c244 => ?_)
                                        · skip
                                          have n244 := gn_lt (X := mn) (Y := t) hmn rfl (by omega) (by omega) c244
                                          refine lv_iinc (v := (nI (i + 1))) (lv' := [(8, .int (nI (i + 1))), (0, .ref (ad 5)), (1, .int (I 5 0)), (2, .long bf), (4, .int (nI k)), (5, .int (nI pp)), (6, .long ((m_sw b2 k pp (mn + 1)) 87 ((6 * k) + k))), (9, .long ((m_el (m_sw b2 k pp (mn + 1)) k (m_sw b2 k pp (mn + 1) 87 ((6 * k) + k)) bf mn i) 87 ((6 * i) + k))), (11, .int (nI t))]) hx hb dX5_solve_308 hl (k := 6) rfl (gn_add (X := i) (Y := 1) rfl rfl) (by decide) rfl (fun ls hl => ?_)
                                          refine lv_goto (tgt := 217) hx hb dX5_solve_311 (by decide) ?_
                                          exact ih217  (i + 1) _ _ _ (by omega) (by omega) (gg_eq G rfl rfl rfl (by first | (rw [show t = mn + 1 by omega]; rfl) | (simp only [m_el, m_elI, c251, if_true]; done))) (lv_sub hl [1, 2, 3, 4, 5, 6, 0] rfl)
                                        · skip
                                          have n244 := gn_nlt (X := mn) (Y := t) hmn rfl (by omega) (by omega) c244
                                          refine lv_iload hx hb dX5_solve_247 (lv_at hl 6 rfl) ?_
                                          refine lv_iload hx hb dX5_solve_249 (lv_at hl 3 rfl) ?_
                                          refine lv_icmp_eq (tgt := 308) hx hb dX5_solve_251 (by decide) (fun c251 => ?_) (fun c251 => ?_)
                                          · skip
                                            have n251 := gn_eq (X := i) (Y := k) rfl rfl (by omega) (by omega) c251
                                            refine lv_iinc (v := (nI (i + 1))) (lv' := [(8, .int (nI (i + 1))), (0, .ref (ad 5)), (1, .int (I 5 0)), (2, .long bf), (4, .int (nI k)), (5, .int (nI pp)), (6, .long ((m_sw b2 k pp (mn + 1)) 87 ((6 * k) + k))), (9, .long ((m_el (m_sw b2 k pp (mn + 1)) k (m_sw b2 k pp (mn + 1) 87 ((6 * k) + k)) bf mn i) 87 ((6 * i) + k))), (11, .int (nI t))]) hx hb dX5_solve_308 hl (k := 6) rfl (gn_add (X := i) (Y := 1) rfl rfl) (by decide) rfl (fun ls hl => ?_)
                                            refine lv_goto (tgt := 217) hx hb dX5_solve_311 (by decide) ?_
                                            exact ih217  (i + 1) _ _ _ (by omega) (by omega) (gg_eq G rfl rfl rfl (by first | (rw [show t = mn + 1 by omega]; rfl) | (simp only [m_el, m_elI, c251, if_true]; done))) (lv_sub hl [1, 2, 3, 4, 5, 6, 0] rfl)
                                          · skip
                                            have n251 := gn_neq (X := i) (Y := k) rfl rfl (by omega) (by omega) c251
                                            refine lv_aload_n hx hb dX5_solve_254 rfl (lv_at hl 0 rfl) ?_
                                            refine gx_get hx hb hts hinX5 hown G 5 (by decide) rfl rfl 20 (by decide) rfl lk51 rfl (v := .ref (ad 87)) rfl dX5_solve_255 ?_
                                            refine lv_bipush (v := 6) hx hb dX5_solve_258 (by decide) ?_
                                            refine lv_iload hx hb dX5_solve_260 (lv_at hl 6 rfl) ?_
                                            refine lv_imul hx hb dX5_solve_262 ?_
                                            refine lv_iload hx hb dX5_solve_263 (lv_at hl 8 rfl) ?_
                                            refine lv_iadd hx hb dX5_solve_265 ?_
                                            refine lv_lload hx hb dX5_solve_266 (lv_at hl 5 rfl) ?_
                                            refine lv_aload_n hx hb dX5_solve_268 rfl (lv_at hl 0 rfl) ?_
                                            refine gx_get hx hb hts hinX5 hown G 5 (by decide) rfl rfl 20 (by decide) rfl lk51 rfl (v := .ref (ad 87)) rfl dX5_solve_269 ?_
                                            refine lv_bipush (v := 6) hx hb dX5_solve_272 (by decide) ?_
                                            refine lv_iload hx hb dX5_solve_274 (lv_at hl 6 rfl) ?_
                                            refine lv_imul hx hb dX5_solve_276 ?_
                                            refine lv_iload hx hb dX5_solve_277 (lv_at hl 8 rfl) ?_
                                            refine lv_iadd hx hb dX5_solve_279 ?_
                                            refine gx_lald hx hb G 87 (by decide) (rfl) (by decide) ((6 * i) + t) (gn_add (gn_mul rfl rfl) rfl) (by omega) dX5_solve_280 ?_
                                            refine lv_lmul hx hb dX5_solve_281 ?_
                                            refine lv_lload hx hb dX5_solve_282 (lv_at hl 7 rfl) ?_
                                            refine lv_aload_n hx hb dX5_solve_284 rfl (lv_at hl 0 rfl) ?_
                                            refine gx_get hx hb hts hinX5 hown G 5 (by decide) rfl rfl 20 (by decide) rfl lk51 rfl (v := .ref (ad 87)) rfl dX5_solve_285 ?_
                                            refine lv_bipush (v := 6) hx hb dX5_solve_288 (by decide) ?_
                                            refine lv_iload hx hb dX5_solve_290 (lv_at hl 3 rfl) ?_
                                            refine lv_imul hx hb dX5_solve_292 ?_
                                            refine lv_iload hx hb dX5_solve_293 (lv_at hl 8 rfl) ?_
                                            refine lv_iadd hx hb dX5_solve_295 ?_
                                            refine gx_lald hx hb G 87 (by decide) (rfl) (by decide) ((6 * k) + t) (gn_add (gn_mul rfl rfl) rfl) (by omega) dX5_solve_296 ?_
                                            refine lv_lmul hx hb dX5_solve_297 ?_
                                            refine lv_lsub hx hb dX5_solve_298 ?_
                                            refine lv_lload_n hx hb dX5_solve_299 rfl (lv_at hl 2 rfl) ?_
                                            refine lv_ldiv hx hb dX5_solve_300 (hbf) ?_
                                            refine gx_last hx hb G 87 (by decide) (rfl) (by decide) ((6 * i) + t) (gn_add (gn_mul rfl rfl) rfl) (by omega) dX5_solve_301 (fun H locs G => ?_)
                                            refine lv_iinc (v := (nI (t + 1))) (lv' := [(11, .int (nI (t + 1))), (0, .ref (ad 5)), (1, .int (I 5 0)), (2, .long bf), (4, .int (nI k)), (5, .int (nI pp)), (6, .long ((m_sw b2 k pp (mn + 1)) 87 ((6 * k) + k))), (8, .int (nI i)), (9, .long ((m_el (m_sw b2 k pp (mn + 1)) k (m_sw b2 k pp (mn + 1) 87 ((6 * k) + k)) bf mn i) 87 ((6 * i) + k)))]) hx hb dX5_solve_302 hl (k := 8) rfl (gn_add (X := t) (Y := 1) rfl rfl) (by decide) rfl (fun ls hl => ?_)
                                            refine lv_goto (tgt := 241) hx hb dX5_solve_305 (by decide) ?_
                                            exact ih241  (t + 1) _ _ _ (by omega) (by omega) (gg_eq G rfl rfl rfl (by simp only [m_elI, m_el1, c251, if_false])) (lv_sub hl [1, 2, 3, 4, 5, 6, 7, 8, 0] rfl)
                                    exact K241 (mn + 1 - 0 + 1) 0 _ _ _ (by omega) (Nat.lt_succ_self _) (gg_eq G rfl rfl rfl (by unfold m_elI; split <;> rfl)) (lv_sub hl [2, 3, 4, 5, 6, 7, 8, 1, 0] rfl)
                              exact K217 (mn - 0 + 1) 0 _ _ _ (by omega) (Nat.lt_succ_self _) (gg_eq G rfl rfl rfl (rfl)) (lv_sub hl [2, 3, 4, 5, 6, 1, 0] rfl)
                            · skip
                              have n134 := gn_nlt (X := mn) (Y := j) hmn rfl (by omega) (by omega) c134
                              refine lv_aload_n hx hb dX5_solve_137 rfl (lv_at hl 0 rfl) ?_
                              refine gx_get hx hb hts hinX5 hown G 5 (by decide) rfl rfl 20 (by decide) rfl lk51 rfl (v := .ref (ad 87)) rfl dX5_solve_138 ?_
                              refine lv_bipush (v := 6) hx hb dX5_solve_141 (by decide) ?_
                              refine lv_iload hx hb dX5_solve_143 (lv_at hl 3 rfl) ?_
                              refine lv_imul hx hb dX5_solve_145 ?_
                              refine lv_iload hx hb dX5_solve_146 (lv_at hl 5 rfl) ?_
                              refine lv_iadd hx hb dX5_solve_148 ?_
                              refine gx_lald hx hb G 87 (by decide) (rfl) (by decide) ((6 * k) + j) (gn_add (gn_mul rfl rfl) rfl) (by omega) dX5_solve_149 ?_
                              refine lv_lstore (lv' := [(7, .long ((m_sw b2 k pp j) 87 ((6 * k) + j))), (0, .ref (ad 5)), (1, .int (I 5 0)), (2, .long bf), (4, .int (nI k)), (5, .int (nI pp)), (6, .int (nI j))]) hx hb dX5_solve_150 hl (by decide) rfl (fun ls hl => ?_)
                              refine lv_aload_n hx hb dX5_solve_152 rfl (lv_at hl 1 rfl) ?_
                              refine gx_get hx hb hts hinX5 hown G 5 (by decide) rfl rfl 20 (by decide) rfl lk51 rfl (v := .ref (ad 87)) rfl dX5_solve_153 ?_
                              refine lv_bipush (v := 6) hx hb dX5_solve_156 (by decide) ?_
                              refine lv_iload hx hb dX5_solve_158 (lv_at hl 4 rfl) ?_
                              refine lv_imul hx hb dX5_solve_160 ?_
                              refine lv_iload hx hb dX5_solve_161 (lv_at hl 6 rfl) ?_
                              refine lv_iadd hx hb dX5_solve_163 ?_
                              refine lv_aload_n hx hb dX5_solve_164 rfl (lv_at hl 1 rfl) ?_
                              refine gx_get hx hb hts hinX5 hown G 5 (by decide) rfl rfl 20 (by decide) rfl lk51 rfl (v := .ref (ad 87)) rfl dX5_solve_165 ?_
                              refine lv_bipush (v := 6) hx hb dX5_solve_168 (by decide) ?_
                              refine lv_iload hx hb dX5_solve_170 (lv_at hl 5 rfl) ?_
                              refine lv_imul hx hb dX5_solve_172 ?_
                              refine lv_iload hx hb dX5_solve_173 (lv_at hl 6 rfl) ?_
                              refine lv_iadd hx hb dX5_solve_175 ?_
                              refine gx_lald hx hb G 87 (by decide) (rfl) (by decide) ((6 * pp) + j) (gn_add (gn_mul rfl rfl) rfl) (by omega) dX5_solve_176 ?_
                              refine gx_last hx hb G 87 (by decide) (rfl) (by decide) ((6 * k) + j) (gn_add (gn_mul rfl rfl) rfl) (by omega) dX5_solve_177 (fun H locs G => ?_)
                              refine lv_aload_n hx hb dX5_solve_178 rfl (lv_at hl 1 rfl) ?_
                              refine gx_get hx hb hts hinX5 hown G 5 (by decide) rfl rfl 20 (by decide) rfl lk51 rfl (v := .ref (ad 87)) rfl dX5_solve_179 ?_
                              refine lv_bipush (v := 6) hx hb dX5_solve_182 (by decide) ?_
                              refine lv_iload hx hb dX5_solve_184 (lv_at hl 5 rfl) ?_
                              refine lv_imul hx hb dX5_solve_186 ?_
                              refine lv_iload hx hb dX5_solve_187 (lv_at hl 6 rfl) ?_
                              refine lv_iadd hx hb dX5_solve_189 ?_
                              refine lv_lload hx hb dX5_solve_190 (lv_at hl 0 rfl) ?_
                              refine gx_last hx hb G 87 (by decide) (rfl) (by decide) ((6 * pp) + j) (gn_add (gn_mul rfl rfl) rfl) (by omega) dX5_solve_192 (fun H locs G => ?_)
                              refine lv_iinc (v := (nI (j + 1))) (lv' := [(6, .int (nI (j + 1))), (7, .long ((m_sw b2 k pp j) 87 ((6 * k) + j))), (0, .ref (ad 5)), (1, .int (I 5 0)), (2, .long bf), (4, .int (nI k)), (5, .int (nI pp))]) hx hb dX5_solve_193 hl (k := 6) rfl (gn_add (X := j) (Y := 1) rfl rfl) (by decide) rfl (fun ls hl => ?_)
                              refine lv_goto (tgt := 131) hx hb dX5_solve_196 (by decide) ?_
                              exact ih131  (j + 1) _ _ _ (by omega) (by omega) (gg_eq G rfl rfl rfl (rfl)) (lv_sub hl [2, 3, 4, 5, 6, 0] rfl)
                        exact K131 (mn + 1 - 0 + 1) 0 _ _ _ (by omega) (Nat.lt_succ_self _) (gg_eq G rfl rfl rfl (rfl)) (lv_sub hl [1, 2, 3, 4, 5, 0] rfl)
                      · skip
                        have n123 := gn_eq (X := pp) (Y := mn) rfl hmn (by omega) (by omega) c123
                        exact absurd n123 (by omega)
                    · skip
                      refine lv_iinc (v := (nI (pp + 1))) (lv' := [(5, .int (nI (pp + 1))), (0, .ref (ad 5)), (1, .int (I 5 0)), (2, .long bf), (4, .int (nI k))]) hx hb dX5_solve_114 hl (k := 4) rfl (gn_add (X := pp) (Y := 1) rfl rfl) (by decide) rfl (fun ls hl => ?_)
                      refine lv_goto (tgt := 90) hx hb dX5_solve_117 (by decide) ?_
                      exact ih90  (pp + 1) _ _ _ (by omega) (by omega) (by rw [h4, m_pv_s b2 k n93, if_pos c111]) (by omega) G (lv_sub hl [1, 2, 3, 4, 0] rfl)
              exact K90 (mn - k + 1) k _ _ _ (by omega) (by omega) (rfl) (Nat.lt_succ_self _) G (lv_sub hl [1, 2, 3, 4, 0] rfl)
        exact K80 (mn - 0 + 1) 0 1 (m_mx a b mn mn) _ _ _ (by omega) (rfl) (by decide) (Nat.lt_succ_self _) G (lv_sub hl [2, 3, 1, 0] rfl)
      · skip
        have n9 := gn_nle (X := mn) (Y := r) hmn rfl (by omega) (by omega) c9
        refine lv_iconst (v := 0) hx hb dX5_solve_12 (by decide) ?_
        refine lv_istore_n (lv' := [(3, .int 0), (0, .ref (ad 5)), (1, .int (I 5 0)), (2, .int (nI r))]) hx hb dX5_solve_13 rfl hl (by decide) rfl (fun ls hl => ?_)
        have K14 : ∀ (nf : Nat) (q : Nat) (H : Heap) (locs : List Loc) (ls : Array Slot), (q ≤ mn) → mn - q < nf → GG D ad cy A s I J a (m_mx1 a (m_mx a b mn r) r q) H locs → lv_has ls 12 [(0, .ref (ad 5)), (1, .int (I 5 0)), (2, .int (nI r)), (3, .int (nI q))] → W p l e ({ frames := 1, cells := 0, slots := 0, locals := 23 }) s m args below meth c H locs 0 0 Q (F0 m 14 ls []) := by
          intro nf
          induction nf with
          | zero => exact fun _ _ _ _ _ hz => absurd hz (Nat.not_lt_zero _)
          | succ nf ih =>
            intro q H locs ls h2 hmeas G hl
            have ih14 := ih
            clear ih
            refine lv_iload_n hx hb dX5_solve_14 rfl (lv_at hl 3 rfl) ?_
            refine lv_iload_n hx hb dX5_solve_15 rfl (lv_at hl 1 rfl) ?_
            refine lv_icmp_ge (tgt := 47) hx hb dX5_solve_16 (by decide) (fun c16 => ?_) (fun c16 => ?_)
            · skip
              have n16 := gn_le (X := mn) (Y := q) hmn rfl (by omega) (by omega) c16
              refine lv_aload_n hx hb dX5_solve_47 rfl (lv_at hl 0 rfl) ?_
              refine gx_get hx hb hts hinX5 hown G 5 (by decide) rfl rfl 20 (by decide) rfl lk51 rfl (v := .ref (ad 87)) rfl dX5_solve_48 ?_
              refine lv_bipush (v := 6) hx hb dX5_solve_51 (by decide) ?_
              refine lv_iload_n hx hb dX5_solve_53 rfl (lv_at hl 2 rfl) ?_
              refine lv_imul hx hb dX5_solve_54 ?_
              refine lv_iload_n hx hb dX5_solve_55 rfl (lv_at hl 1 rfl) ?_
              refine lv_iadd hx hb dX5_solve_56 ?_
              refine lv_aload_n hx hb dX5_solve_57 rfl (lv_at hl 0 rfl) ?_
              refine lv_aload_n hx hb dX5_solve_58 rfl (lv_at hl 0 rfl) ?_
              refine gx_get hx hb hts hinX5 hown G 5 (by decide) rfl rfl 21 (by decide) rfl lk54 rfl (v := .ref (ad 88)) rfl dX5_solve_59 ?_
              refine lv_iload_n hx hb dX5_solve_62 rfl (lv_at hl 2 rfl) ?_
              refine gx_iald hx hb G 88 (by decide) (rfl) (by decide) r rfl (by omega) dX5_solve_63 ?_
              refine lv_iconst (v := 5) hx hb dX5_solve_64 (by decide) ?_
              obtain ⟨pk, epk, hpk2⟩ := hpk r (by omega)
              have eccl : cN (a 88 r) = pk := cN_of epk (by omega)
              rw [epk]
              refine gx_dVl (v := (m_part a pk 5)) (I1 := I) (J1 := J) (a1 := a) (b1 := (m_mx1 a (m_mx a b mn r) r q)) (As := [.int (nI pk), .int 5]) (rest := [.int ((6 * (nI r)) + (I 5 0)), .ref (ad 87)]) ⟨hx, hb, hml, hown, hts⟩ G 5 (kX5_part l D ad cy I J a (m_mx1 a (m_mx a b mn r) r q) H.size pk 5 hpk2 (by omega)) (cwV 2 hts gX5_solve_X5_part rfl rfl rfl (by decide +kernel) ⟨Nat.le_of_ble_eq_true rfl, Nat.le_of_ble_eq_true rfl⟩) (by decide) rfl rfl rfl rfl hl.1 rfl (Nat.le_of_ble_eq_true rfl) ⟨Nat.zero_le _, Nat.zero_le _⟩ dX5_solve_65 (fun H locs G => ?_)
              refine gx_last hx hb G 87 (by decide) (rfl) (by decide) ((6 * r) + mn) (gn_add (gn_mul rfl rfl) hmn) (by omega) dX5_solve_68 (fun H locs G => ?_)
              refine lv_iinc (v := (nI (r + 1))) (lv' := [(2, .int (nI (r + 1))), (0, .ref (ad 5)), (1, .int (I 5 0)), (3, .int (nI q))]) hx hb dX5_solve_69 hl (k := 2) rfl (gn_add (X := r) (Y := 1) rfl rfl) (by decide) rfl (fun ls hl => ?_)
              refine lv_goto (tgt := 7) hx hb dX5_solve_72 (by decide) ?_
              exact ih7  (r + 1) _ _ _ (by omega) (by omega) (gg_eq G rfl rfl rfl (by rw [← eccl]; simp only [m_mx]; rw [show q = mn by omega])) (lv_sub hl [1, 2, 0] rfl)
            · skip
              have n16 := gn_nle (X := mn) (Y := q) hmn rfl (by omega) (by omega) c16
              refine lv_aload_n hx hb dX5_solve_19 rfl (lv_at hl 0 rfl) ?_
              refine gx_get hx hb hts hinX5 hown G 5 (by decide) rfl rfl 20 (by decide) rfl lk51 rfl (v := .ref (ad 87)) rfl dX5_solve_20 ?_
              refine lv_bipush (v := 6) hx hb dX5_solve_23 (by decide) ?_
              refine lv_iload_n hx hb dX5_solve_25 rfl (lv_at hl 2 rfl) ?_
              refine lv_imul hx hb dX5_solve_26 ?_
              refine lv_iload_n hx hb dX5_solve_27 rfl (lv_at hl 3 rfl) ?_
              refine lv_iadd hx hb dX5_solve_28 ?_
              refine lv_aload_n hx hb dX5_solve_29 rfl (lv_at hl 0 rfl) ?_
              refine lv_aload_n hx hb dX5_solve_30 rfl (lv_at hl 0 rfl) ?_
              refine gx_get hx hb hts hinX5 hown G 5 (by decide) rfl rfl 21 (by decide) rfl lk54 rfl (v := .ref (ad 88)) rfl dX5_solve_31 ?_
              refine lv_iload_n hx hb dX5_solve_34 rfl (lv_at hl 2 rfl) ?_
              refine gx_iald hx hb G 88 (by decide) (rfl) (by decide) r rfl (by omega) dX5_solve_35 ?_
              refine lv_iload_n hx hb dX5_solve_36 rfl (lv_at hl 3 rfl) ?_
              obtain ⟨pk, epk, hpk2⟩ := hpk r (by omega)
              have eccl : cN (a 88 r) = pk := cN_of epk (by omega)
              rw [epk]
              refine gx_dVl (v := (m_part a pk q)) (I1 := I) (J1 := J) (a1 := a) (b1 := (m_mx1 a (m_mx a b mn r) r q)) (As := [.int (nI pk), .int (nI q)]) (rest := [.int ((6 * (nI r)) + (nI q)), .ref (ad 87)]) ⟨hx, hb, hml, hown, hts⟩ G 5 (kX5_part l D ad cy I J a (m_mx1 a (m_mx a b mn r) r q) H.size pk q hpk2 (by omega)) (cwV 2 hts gX5_solve_X5_part rfl rfl rfl (by decide +kernel) ⟨Nat.le_of_ble_eq_true rfl, Nat.le_of_ble_eq_true rfl⟩) (by decide) rfl rfl rfl rfl hl.1 rfl (Nat.le_of_ble_eq_true rfl) ⟨Nat.zero_le _, Nat.zero_le _⟩ dX5_solve_37 (fun H locs G => ?_)
              refine gx_last hx hb G 87 (by decide) (rfl) (by decide) ((6 * r) + q) (gn_add (gn_mul rfl rfl) rfl) (by omega) dX5_solve_40 (fun H locs G => ?_)
              refine lv_iinc (v := (nI (q + 1))) (lv' := [(3, .int (nI (q + 1))), (0, .ref (ad 5)), (1, .int (I 5 0)), (2, .int (nI r))]) hx hb dX5_solve_41 hl (k := 3) rfl (gn_add (X := q) (Y := 1) rfl rfl) (by decide) rfl (fun ls hl => ?_)
              refine lv_goto (tgt := 14) hx hb dX5_solve_44 (by decide) ?_
              exact ih14  (q + 1) _ _ _ (by omega) (by omega) (gg_eq G rfl rfl rfl (by rw [← eccl]; rfl)) (lv_sub hl [1, 2, 3, 0] rfl)
        exact K14 (mn - 0 + 1) 0 _ _ _ (by omega) (Nat.lt_succ_self _) (gg_eq G rfl rfl rfl (rfl)) (lv_sub hl [1, 2, 3, 0] rfl)
  exact K7 (mn - 0 + 1) 0 _ _ _ (by omega) (Nat.lt_succ_self _) (gg_eq G rfl rfl rfl (rfl)) (lv_sub hl [2, 1, 0] rfl)
