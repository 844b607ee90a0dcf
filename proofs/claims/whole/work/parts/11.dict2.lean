/-! Dictionary: slopes, pivot, begin, addAtMost, findPoint, minimise -/
def d_sl1 (I : gF) (J : gL) (a : gF) (b : gL) (kg : Nat) : Nat → gL
  | 0 => b
  | n + 1 => if I 4 8 ≤ a 16 n then gU (d_sl1 I J a b kg n) 18 n 0 else gU (d_sl1 I J a b kg n) 18 n ((a kg (a 16 n).toNatClampNeg).toInt64 * J 4 6)
def d_sl2 (b : gL) (r : Nat) (w : Int32) : Nat → gL
  | 0 => b
  | n + 1 => gU (d_sl2 b r w n) 18 n (d_sl2 b r w n 18 n - w.toInt64 * d_sl2 b r w n (48 + r) n)
def d_slI (b : gL) (r : Nat) (w : Int32) (n : Nat) : gL := if w = 0 then b else d_sl2 b r w n
def d_sl4 (I : gF) (a : gF) (b : gL) (kg nc : Nat) : Nat → gL
  | 0 => b
  | n + 1 => if I 4 8 ≤ a 15 n then d_slI (d_sl4 I a b kg nc n) n 0 nc else d_slI (d_sl4 I a b kg nc n) n (a kg (a 15 n).toNatClampNeg) nc
def d_slopes (I : gF) (J : gL) (a : gF) (b : gL) (kg nl nc : Nat) : gL := d_sl4 I a (d_sl1 I J a b kg nc) kg nc nl
def d_dv (J : gL) (b : gL) (r s : Nat) : Int64 := if 0 ≤ b (48 + r) s then J 4 6 else -J 4 6
def d_pJ (J : gL) (b : gL) (r s : Nat) : gL := if b (48 + r) s = 0 then J else if d_dv J b r s = 0 then J else gU J 4 6 (if 0 < b (48 + r) s then b (48 + r) s else -b (48 + r) s)
def d_pA (J : gL) (a : gF) (b : gL) (r s : Nat) : gF := if b (48 + r) s = 0 then a else if d_dv J b r s = 0 then a else gU (gU a 15 r (a 16 s)) 16 s (a 15 r)
def d_pB (J : gL) (b : gL) (nl nc r s : Nat) : gL := if b (48 + r) s = 0 then b else if d_dv J b r s = 0 then b else gU (if 0 ≤ b (48 + r) s then d_sweeps b nc r s (d_dv J b r s) nl else d_turn (d_sweeps b nc r s (d_dv J b r s) nl) r nc) (48 + r) s (d_dv J b r s)
def d_ids (a : gF) : Nat → gF
  | 0 => a
  | n + 1 => gU (d_ids a n) 16 n (nI n)
theorem d_min5 {n : Nat} (h : n ≤ 5) : (if (5 : Int32) < nI n then 5 else nI n) = nI n := if_neg (fun q => by
  have := gn_lt (X := 5) (Y := n) rfl rfl (by omega) (by omega) q
  omega)
def d_addL (a : gF) (b : gL) (kf nl : Nat) (sg : Int32) : Nat → gL
  | 0 => b
  | n + 1 => gU (d_addL a b kf nl sg n) (48 + nl) n (sg * a kf n).toInt64
def d_addB (a : gF) (b : gL) (kf nl nc : Nat) (sg ri : Int32) : gL := gU (d_addL a b kf nl sg nc) 14 nl ri.toInt64
def mPV : Nat := 100000
/-- the search for a point: n pivots at most: the answer and the state behind it -/
def d_find (nl nc : Nat) : Nat → gL × gF × gL → Int32 × gL × gF × gL
  | 0, x => (0, x)
  | n + 1, x => if 0 ≤ d_broken x.2.1 x.2.2 nl then if 0 ≤ d_mend x.2.1 x.2.2 (d_broken x.2.1 x.2.2 nl).toNatClampNeg nc then d_find nl nc n (d_pJ x.1 x.2.2 (d_broken x.2.1 x.2.2 nl).toNatClampNeg (d_mend x.2.1 x.2.2 (d_broken x.2.1 x.2.2 nl).toNatClampNeg nc).toNatClampNeg, d_pA x.1 x.2.1 x.2.2 (d_broken x.2.1 x.2.2 nl).toNatClampNeg (d_mend x.2.1 x.2.2 (d_broken x.2.1 x.2.2 nl).toNatClampNeg nc).toNatClampNeg, d_pB x.1 x.2.2 nl nc (d_broken x.2.1 x.2.2 nl).toNatClampNeg (d_mend x.2.1 x.2.2 (d_broken x.2.1 x.2.2 nl).toNatClampNeg nc).toNatClampNeg) else (0, x) else (1, x)
theorem d_find_s (nl nc : Nat) (x : gL × gF × gL) {i : Nat} (h : i < mPV) : d_find nl nc (mPV - i) x = if 0 ≤ d_broken x.2.1 x.2.2 nl then if 0 ≤ d_mend x.2.1 x.2.2 (d_broken x.2.1 x.2.2 nl).toNatClampNeg nc then d_find nl nc (mPV - (i + 1)) (d_pJ x.1 x.2.2 (d_broken x.2.1 x.2.2 nl).toNatClampNeg (d_mend x.2.1 x.2.2 (d_broken x.2.1 x.2.2 nl).toNatClampNeg nc).toNatClampNeg, d_pA x.1 x.2.1 x.2.2 (d_broken x.2.1 x.2.2 nl).toNatClampNeg (d_mend x.2.1 x.2.2 (d_broken x.2.1 x.2.2 nl).toNatClampNeg nc).toNatClampNeg, d_pB x.1 x.2.2 nl nc (d_broken x.2.1 x.2.2 nl).toNatClampNeg (d_mend x.2.1 x.2.2 (d_broken x.2.1 x.2.2 nl).toNatClampNeg nc).toNatClampNeg) else (0, x) else (1, x) := by
  rw [show mPV - i = (mPV - (i + 1)) + 1 by omega]
  rfl
theorem gx_notneg {x : Int32} (h : 0 ≤ x) : ¬ x < 0 := fun q => absurd h (by rw [← i32_nlt]; exact fun r => r q)
/-- all of a row's places hold natural numbers below 100 -/
def d_nat (f : Nat → Int32) (n : Nat) : Prop := ∀ r, r < n → ∃ v, f r = nI v ∧ v < 100
theorem d_pA_15 {J : gL} {a : gF} {b : gL} {r s nl nc : Nat} (hs : s < nc) (h1 : d_nat (a 15) nl) (h2 : d_nat (a 16) nc) : d_nat (d_pA J a b r s 15) nl := by
  unfold d_pA
  split
  · exact h1
  · split
    · exact h1
    · intro i hi
      unfold gU
      simp only [show ¬ (15 = 16) by decide, false_and, if_false, true_and]
      by_cases e : i = r
      · simp only [e, if_true]
        exact h2 s hs
      · simp only [e, if_false]
        exact h1 i hi
theorem d_pA_16 {J : gL} {a : gF} {b : gL} {r s nl nc : Nat} (hr : r < nl) (h1 : d_nat (a 15) nl) (h2 : d_nat (a 16) nc) : d_nat (d_pA J a b r s 16) nc := by
  unfold d_pA
  split
  · exact h2
  · split
    · exact h2
    · intro i hi
      unfold gU
      simp only [show ¬ (16 = 15) by decide, false_and, if_false, true_and]
      by_cases e : i = s
      · simp only [e, if_true]
        exact h1 r hr
      · simp only [e, if_false]
        exact h2 i hi
theorem d_pA_k {J : gL} {a : gF} {b : gL} {r s k : Nat} (h1 : k ≠ 15) (h2 : k ≠ 16) : d_pA J a b r s k = a k := by
  unfold d_pA
  split
  · rfl
  · split
    · rfl
    · rw [gU_k h2, gU_k h1]
/-- the way down: n pivots at most: the state behind it -/
def d_min (I : gF) (kg nl nc : Nat) : Nat → gL × gF × gL → gL × gF × gL
  | 0, x => x
  | n + 1, x => if 0 ≤ d_fall x.2.1 (d_slopes I x.1 x.2.1 x.2.2 kg nl nc) nc then if 0 ≤ d_stop x.2.1 (d_slopes I x.1 x.2.1 x.2.2 kg nl nc) (d_fall x.2.1 (d_slopes I x.1 x.2.1 x.2.2 kg nl nc) nc).toNatClampNeg nl then d_min I kg nl nc n (d_pJ x.1 (d_slopes I x.1 x.2.1 x.2.2 kg nl nc) (d_stop x.2.1 (d_slopes I x.1 x.2.1 x.2.2 kg nl nc) (d_fall x.2.1 (d_slopes I x.1 x.2.1 x.2.2 kg nl nc) nc).toNatClampNeg nl).toNatClampNeg (d_fall x.2.1 (d_slopes I x.1 x.2.1 x.2.2 kg nl nc) nc).toNatClampNeg, d_pA x.1 x.2.1 (d_slopes I x.1 x.2.1 x.2.2 kg nl nc) (d_stop x.2.1 (d_slopes I x.1 x.2.1 x.2.2 kg nl nc) (d_fall x.2.1 (d_slopes I x.1 x.2.1 x.2.2 kg nl nc) nc).toNatClampNeg nl).toNatClampNeg (d_fall x.2.1 (d_slopes I x.1 x.2.1 x.2.2 kg nl nc) nc).toNatClampNeg, d_pB x.1 (d_slopes I x.1 x.2.1 x.2.2 kg nl nc) nl nc (d_stop x.2.1 (d_slopes I x.1 x.2.1 x.2.2 kg nl nc) (d_fall x.2.1 (d_slopes I x.1 x.2.1 x.2.2 kg nl nc) nc).toNatClampNeg nl).toNatClampNeg (d_fall x.2.1 (d_slopes I x.1 x.2.1 x.2.2 kg nl nc) nc).toNatClampNeg) else (x.1, x.2.1, d_slopes I x.1 x.2.1 x.2.2 kg nl nc) else (x.1, x.2.1, d_slopes I x.1 x.2.1 x.2.2 kg nl nc)
theorem d_min_s (I : gF) (kg nl nc : Nat) (J2 : gL) (a2 : gF) (b2 b3 : gL) (hb3 : d_slopes I J2 a2 b2 kg nl nc = b3) {i : Nat} (h : i < mPV) : d_min I kg nl nc (mPV - i) (J2, a2, b2) = if 0 ≤ d_fall a2 b3 nc then if 0 ≤ d_stop a2 b3 (d_fall a2 b3 nc).toNatClampNeg nl then d_min I kg nl nc (mPV - (i + 1)) (d_pJ J2 b3 (d_stop a2 b3 (d_fall a2 b3 nc).toNatClampNeg nl).toNatClampNeg (d_fall a2 b3 nc).toNatClampNeg, d_pA J2 a2 b3 (d_stop a2 b3 (d_fall a2 b3 nc).toNatClampNeg nl).toNatClampNeg (d_fall a2 b3 nc).toNatClampNeg, d_pB J2 b3 nl nc (d_stop a2 b3 (d_fall a2 b3 nc).toNatClampNeg nl).toNatClampNeg (d_fall a2 b3 nc).toNatClampNeg) else (J2, a2, b3) else (J2, a2, b3) := by
  subst hb3
  rw [show mPV - i = (mPV - (i + 1)) + 1 by omega]
  rfl

set_option maxHeartbeats 4000000 in
set_option maxRecDepth 100000 in
theorem kX0_findSlopes (l : Launch) (D : va_G) (ad : Nat → Nat) (cy : Nat → ClassId) (I : gF) (J : gL) (a : gF) (b : gL) (sz : Nat) (nl nc kg : Nat) (hnl : I 4 7 = nI nl) (hnl2 : nl ≤ 21) (hnc : I 4 8 = nI nc) (hnc2 : nc ≤ 5) (hkg : kg < 92) (hgs : gsh kg = .inr (0, 5, 0)) (hbas : d_nat (a 15) nl) (hout : d_nat (a 16) nc) : gMv l yX0_findSlopes wsX0_findSlopes ({ frames := 0, cells := 0, slots := 0, locals := 0 }) D ad cy I J a b sz [.ref (ad 4), .ref (ad kg)] (fun u => u = (I, J, a, d_slopes I J a b kg nl nc)) := by
  refine Met.ofW (cc := cX0_findSlopes) (maxL := 5) (ret := none) (by decide) rfl ?_
  intro p e s m args below meth c s₁ B hml hv
  obtain ⟨hargs, hsz, G⟩ := gx_begin hv
  subst hsz
  have hx := B.exec
  have hb := B.bytes
  have hr := B.returns
  have hts := atoms_spec (ws := wsX0_findSlopes) B.pre
  have hown : s.vm.findClass RX0 = some m.cls := findClass_of_methodNamed B.named
  have hlocks := B.notSynchronized
  have hinX0 : ∀ w ∈ wsX00, w ∈ wsX0_findSlopes := by decide +kernel
  have lk13 := hts (.fieldLink RX0 13 "ExactSimplex$Dictionary" "table" "[[J") (by decide +kernel)
  have lk20 := hts (.fieldLink RX0 20 "ExactSimplex$Dictionary" "basic" "[I") (by decide +kernel)
  have lk24 := hts (.fieldLink RX0 24 "ExactSimplex$Dictionary" "outside" "[I") (by decide +kernel)
  have lk31 := hts (.fieldLink RX0 31 "ExactSimplex$Dictionary" "slopes" "[J") (by decide +kernel)
  have lk34 := hts (.fieldLink RX0 34 "ExactSimplex$Dictionary" "under" "J") (by decide +kernel)
  have lk44 := hts (.fieldLink RX0 44 "ExactSimplex$Dictionary" "columns" "I") (by decide +kernel)
  have lk48 := hts (.fieldLink RX0 48 "ExactSimplex$Dictionary" "lines" "I") (by decide +kernel)
  have hl := lv_entry ([.ref (ad 4), .ref (ad kg)]) (n := 5) (Nat.le_of_ble_eq_true rfl)
  have hent := lg_entry_eq m ([.ref (ad 4), .ref (ad kg)]) 5
  rw [← hargs] at hent
  rw [hent]
  clear hent
  generalize (lg_sl ([.ref (ad 4), .ref (ad kg)]) ++ List.replicate (5 - (lg_sl ([.ref (ad 4), .ref (ad kg)])).length) Slot.unset).toArray = ls at hl ⊢
  have hl : lv_has ls 5 [(0, .ref (ad 4)), (1, .ref (ad kg))] := hl
  generalize hA : gA ad s.heap.size = A at G ⊢
  generalize hH : s.heap = H at G ⊢
  refine gx_q (fun Q hQ => ?_)
  refine lv_iconst (v := 0) hx hb dX0_findSlopes_0 (by decide) ?_
  refine lv_istore_n (lv' := [(2, .int 0), (0, .ref (ad 4)), (1, .ref (ad kg))]) hx hb dX0_findSlopes_1 rfl hl (by decide) rfl (fun ls hl => ?_)
  have K2 : ∀ (nf : Nat) (r : Nat) (H : Heap) (locs : List Loc) (ls : Array Slot), (r ≤ nc) → nc - r < nf → GG D ad cy A s I J a (d_sl1 I J a b kg r) H locs → lv_has ls 5 [(0, .ref (ad 4)), (1, .ref (ad kg)), (2, .int (nI r))] → W p l e ({ frames := 0, cells := 0, slots := 0, locals := 0 }) s m args below meth c H locs 0 0 Q (F0 m 2 ls []) := by
    intro nf
    induction nf with
    | zero => exact fun _ _ _ _ _ hz => absurd hz (Nat.not_lt_zero _)
    | succ nf ih =>
      intro r H locs ls h1 hmeas G hl
      have ih2 := ih
      clear ih
      refine lv_iload_n hx hb dX0_findSlopes_2 rfl (lv_at hl 2 rfl) ?_
      refine lv_aload_n hx hb dX0_findSlopes_3 rfl (lv_at hl 0 rfl) ?_
      refine gx_get hx hb hts hinX0 hown G 4 (by decide) rfl rfl 8 (by decide) rfl lk44 rfl (v := .int (I 4 8)) rfl dX0_findSlopes_4 ?_
      refine lv_icmp_ge (tgt := 53) hx hb dX0_findSlopes_7 (by decide) (fun c7 => ?_) (fun c7 => ?_)
      · skip
        have n7 := gn_le (X := nc) (Y := r) hnc rfl (by omega) (by omega) c7
        refine lv_iconst (v := 0) hx hb dX0_findSlopes_53 (by decide) ?_
        refine lv_istore_n (lv' := [(2, .int 0), (0, .ref (ad 4)), (1, .ref (ad kg))]) hx hb dX0_findSlopes_54 rfl hl (by decide) rfl (fun ls hl => ?_)
        have K55 : ∀ (nf : Nat) (r : Nat) (H : Heap) (locs : List Loc) (ls : Array Slot), (r ≤ nl) → nl - r < nf → GG D ad cy A s I J a (d_sl4 I a (d_sl1 I J a b kg nc) kg nc r) H locs → lv_has ls 5 [(0, .ref (ad 4)), (1, .ref (ad kg)), (2, .int (nI r))] → W p l e ({ frames := 0, cells := 0, slots := 0, locals := 0 }) s m args below meth c H locs 0 0 Q (F0 m 55 ls []) := by
          intro nf
          induction nf with
          | zero => exact fun _ _ _ _ _ hz => absurd hz (Nat.not_lt_zero _)
          | succ nf ih =>
            intro r H locs ls h1 hmeas G hl
            have ih55 := ih
            clear ih
            refine lv_iload_n hx hb dX0_findSlopes_55 rfl (lv_at hl 2 rfl) ?_
            refine lv_aload_n hx hb dX0_findSlopes_56 rfl (lv_at hl 0 rfl) ?_
            refine gx_get hx hb hts hinX0 hown G 4 (by decide) rfl rfl 7 (by decide) rfl lk48 rfl (v := .int (I 4 7)) rfl dX0_findSlopes_57 ?_
            refine lv_icmp_ge (tgt := 139) hx hb dX0_findSlopes_60 (by decide) (fun c60 => ?_) (fun c60 => ?_)
            · skip
              have n60 := gn_le (X := nl) (Y := r) hnl rfl (by omega) (by omega) c60
              exact gx_vr hx hb hr hlocks G hQ (by rw [show r = nl by omega]; rfl) dX0_findSlopes_139
            · skip
              have n60 := gn_nle (X := nl) (Y := r) hnl rfl (by omega) (by omega) c60
              refine lv_aload_n hx hb dX0_findSlopes_63 rfl (lv_at hl 0 rfl) ?_
              refine gx_get hx hb hts hinX0 hown G 4 (by decide) rfl rfl 2 (by decide) rfl lk20 rfl (v := .ref (ad 15)) rfl dX0_findSlopes_64 ?_
              refine lv_iload_n hx hb dX0_findSlopes_67 rfl (lv_at hl 2 rfl) ?_
              refine gx_iald hx hb G 15 (by decide) (rfl) (by decide) r rfl (by omega) dX0_findSlopes_68 ?_
              refine lv_aload_n hx hb dX0_findSlopes_69 rfl (lv_at hl 0 rfl) ?_
              refine gx_get hx hb hts hinX0 hown G 4 (by decide) rfl rfl 8 (by decide) rfl lk44 rfl (v := .int (I 4 8)) rfl dX0_findSlopes_70 ?_
              refine lv_icmp_ge (tgt := 87) hx hb dX0_findSlopes_73 (by decide) (fun c73 => ?_) (fun c73 => ?_)
              · skip
                refine lv_iconst (v := 0) hx hb dX0_findSlopes_87 (by decide) ?_
                refine lv_istore_n (lv' := [(3, .int 0), (0, .ref (ad 4)), (1, .ref (ad kg)), (2, .int (nI r))]) hx hb dX0_findSlopes_88 rfl hl (by decide) rfl (fun ls hl => ?_)
                refine lv_iconst (v := 0) hx hb dX0_findSlopes_89 (by decide) ?_
                refine lv_istore (lv' := [(4, .int 0), (3, .int 0), (0, .ref (ad 4)), (1, .ref (ad kg)), (2, .int (nI r))]) hx hb dX0_findSlopes_90 hl (by decide) rfl (fun ls hl => ?_)
                have K92 : ∀ (nf : Nat) (q : Nat) (H : Heap) (locs : List Loc) (ls : Array Slot), (q ≤ nc) → nc - q < nf → GG D ad cy A s I J a (d_slI (d_sl4 I a (d_sl1 I J a b kg nc) kg nc r) r 0 q) H locs → lv_has ls 5 [(0, .ref (ad 4)), (1, .ref (ad kg)), (2, .int (nI r)), (3, .int 0), (4, .int (nI q))] → W p l e ({ frames := 0, cells := 0, slots := 0, locals := 0 }) s m args below meth c H locs 0 0 Q (F0 m 92 ls []) := by
                  intro nf
                  induction nf with
                  | zero => exact fun _ _ _ _ _ hz => absurd hz (Nat.not_lt_zero _)
                  | succ nf ih =>
                    intro q H locs ls h2 hmeas G hl
                    have ih92 := ih
                    clear ih
                    refine lv_iload hx hb dX0_findSlopes_92 (lv_at hl 4 rfl) ?_
                    refine lv_aload_n hx hb dX0_findSlopes_94 rfl (lv_at hl 0 rfl) ?_
                    refine gx_get hx hb hts hinX0 hown G 4 (by decide) rfl rfl 8 (by decide) rfl lk44 rfl (v := .int (I 4 8)) rfl dX0_findSlopes_95 ?_
                    refine lv_icmp_ge (tgt := 133) hx hb dX0_findSlopes_98 (by decide) (fun c98 => ?_) (fun c98 => ?_)
                    · skip
                      have n98 := gn_le (X := nc) (Y := q) hnc rfl (by omega) (by omega) c98
                      refine lv_iinc (v := (nI (r + 1))) (lv' := [(2, .int (nI (r + 1))), (0, .ref (ad 4)), (1, .ref (ad kg)), (3, .int 0), (4, .int (nI q))]) hx hb dX0_findSlopes_133 hl (k := 2) rfl (gn_add (X := r) (Y := 1) rfl rfl) (by decide) rfl (fun ls hl => ?_)
                      refine lv_goto (tgt := 55) hx hb dX0_findSlopes_136 (by decide) ?_
                      exact ih55  (r + 1) _ _ _ (by omega) (by omega) (gg_eq G rfl rfl rfl (by first | (rw [show q = nc by omega]; simp only [d_sl4, c7, c60, c73, c98, reduceIte]; done) | (simp only [d_sl4, d_slI, c7, c60, c73, c98, reduceIte]; done))) (lv_sub hl [1, 2, 0] rfl)
                    · skip
                      have n98 := gn_nle (X := nc) (Y := q) hnc rfl (by omega) (by omega) c98
                      refine lv_iload_n hx hb dX0_findSlopes_101 rfl (lv_at hl 3 rfl) ?_
                      refine lv_if_eq (tgt := 133) hx hb dX0_findSlopes_102 (by decide) (fun c102 => ?_) (fun c102 => ?_)
                      · skip
                        have n102 := gn_eq (X := 0) (Y := 0) rfl rfl (by omega) (by omega) c102
                        refine lv_iinc (v := (nI (r + 1))) (lv' := [(2, .int (nI (r + 1))), (0, .ref (ad 4)), (1, .ref (ad kg)), (3, .int 0), (4, .int (nI q))]) hx hb dX0_findSlopes_133 hl (k := 2) rfl (gn_add (X := r) (Y := 1) rfl rfl) (by decide) rfl (fun ls hl => ?_)
                        refine lv_goto (tgt := 55) hx hb dX0_findSlopes_136 (by decide) ?_
                        exact ih55  (r + 1) _ _ _ (by omega) (by omega) (gg_eq G rfl rfl rfl (by first | (rw [show q = nc by omega]; simp only [d_sl4, c7, c60, c73, c98, c102, reduceIte]; done) | (simp only [d_sl4, d_slI, c7, c60, c73, c98, c102, reduceIte]; done))) (lv_sub hl [1, 2, 0] rfl)
                      · skip
                        have n102 := gn_neq (X := 0) (Y := 0) rfl rfl (by omega) (by omega) c102
                        exact absurd rfl c102
                have q4 : 0 = nI 0 := by first | rfl | (simp only [d_sl1, c60, c73, reduceIte]; done) | (simp [d_sl1, c60, c73, reduceIte]; done)
                rw [q4] at hl
                exact K92 (nc - 0 + 1) 0 _ _ _ (by omega) (Nat.lt_succ_self _) (gg_eq G rfl rfl rfl (by unfold d_slI; split <;> rfl)) (lv_sub hl [2, 3, 4, 1, 0] rfl)
              · skip
                obtain ⟨v, ev, hv2⟩ := hbas r (by omega)
                have hvn := gn_nle (X := nc) (Y := v) hnc ev (by omega) (by omega) c73
                have ecl := gx_clamp ev (by omega)
                refine lv_aload_n hx hb dX0_findSlopes_76 rfl (lv_at hl 1 rfl) ?_
                refine lv_aload_n hx hb dX0_findSlopes_77 rfl (lv_at hl 0 rfl) ?_
                refine gx_get hx hb hts hinX0 hown G 4 (by decide) rfl rfl 2 (by decide) rfl lk20 rfl (v := .ref (ad 15)) rfl dX0_findSlopes_78 ?_
                refine lv_iload_n hx hb dX0_findSlopes_81 rfl (lv_at hl 2 rfl) ?_
                refine gx_iald hx hb G 15 (by decide) (rfl) (by decide) r rfl (by omega) dX0_findSlopes_82 ?_
                refine gx_iald hx hb G kg (hkg) (hgs) (by decide) v ev (by omega) dX0_findSlopes_83 ?_
                refine lv_goto (tgt := 88) hx hb dX0_findSlopes_84 (by decide) ?_
                refine lv_istore_n (lv' := [(3, .int (a kg v)), (0, .ref (ad 4)), (1, .ref (ad kg)), (2, .int (nI r))]) hx hb dX0_findSlopes_88 rfl hl (by decide) rfl (fun ls hl => ?_)
                refine lv_iconst (v := 0) hx hb dX0_findSlopes_89 (by decide) ?_
                refine lv_istore (lv' := [(4, .int 0), (3, .int (a kg v)), (0, .ref (ad 4)), (1, .ref (ad kg)), (2, .int (nI r))]) hx hb dX0_findSlopes_90 hl (by decide) rfl (fun ls hl => ?_)
                have K92 : ∀ (nf : Nat) (q : Nat) (H : Heap) (locs : List Loc) (ls : Array Slot), (q ≤ nc) → nc - q < nf → GG D ad cy A s I J a (d_slI (d_sl4 I a (d_sl1 I J a b kg nc) kg nc r) r (a kg v) q) H locs → lv_has ls 5 [(0, .ref (ad 4)), (1, .ref (ad kg)), (2, .int (nI r)), (3, .int (a kg v)), (4, .int (nI q))] → W p l e ({ frames := 0, cells := 0, slots := 0, locals := 0 }) s m args below meth c H locs 0 0 Q (F0 m 92 ls []) := by
                  intro nf
                  induction nf with
                  | zero => exact fun _ _ _ _ _ hz => absurd hz (Nat.not_lt_zero _)
                  | succ nf ih =>
                    intro q H locs ls h2 hmeas G hl
                    have ih92 := ih
                    clear ih
                    refine lv_iload hx hb dX0_findSlopes_92 (lv_at hl 4 rfl) ?_
                    refine lv_aload_n hx hb dX0_findSlopes_94 rfl (lv_at hl 0 rfl) ?_
                    refine gx_get hx hb hts hinX0 hown G 4 (by decide) rfl rfl 8 (by decide) rfl lk44 rfl (v := .int (I 4 8)) rfl dX0_findSlopes_95 ?_
                    refine lv_icmp_ge (tgt := 133) hx hb dX0_findSlopes_98 (by decide) (fun c98 => ?_) (fun c98 => ?_)
                    · skip
                      have n98 := gn_le (X := nc) (Y := q) hnc rfl (by omega) (by omega) c98
                      refine lv_iinc (v := (nI (r + 1))) (lv' := [(2, .int (nI (r + 1))), (0, .ref (ad 4)), (1, .ref (ad kg)), (3, .int (a kg v)), (4, .int (nI q))]) hx hb dX0_findSlopes_133 hl (k := 2) rfl (gn_add (X := r) (Y := 1) rfl rfl) (by decide) rfl (fun ls hl => ?_)
                      refine lv_goto (tgt := 55) hx hb dX0_findSlopes_136 (by decide) ?_
                      exact ih55  (r + 1) _ _ _ (by omega) (by omega) (gg_eq G rfl rfl rfl (by first | (rw [show q = nc by omega]; simp only [d_sl4, c7, c60, c73, ecl, c98, reduceIte]; done) | (simp only [d_sl4, d_slI, c7, c60, c73, ecl, c98, reduceIte]; done))) (lv_sub hl [1, 2, 0] rfl)
                    · skip
                      have n98 := gn_nle (X := nc) (Y := q) hnc rfl (by omega) (by omega) c98
                      refine lv_iload_n hx hb dX0_findSlopes_101 rfl (lv_at hl 3 rfl) ?_
                      refine lv_if_eq (tgt := 133) hx hb dX0_findSlopes_102 (by decide) (fun c102 => ?_) (fun c102 => ?_)
                      · skip
                        refine lv_iinc (v := (nI (r + 1))) (lv' := [(2, .int (nI (r + 1))), (0, .ref (ad 4)), (1, .ref (ad kg)), (3, .int (a kg v)), (4, .int (nI q))]) hx hb dX0_findSlopes_133 hl (k := 2) rfl (gn_add (X := r) (Y := 1) rfl rfl) (by decide) rfl (fun ls hl => ?_)
                        refine lv_goto (tgt := 55) hx hb dX0_findSlopes_136 (by decide) ?_
                        exact ih55  (r + 1) _ _ _ (by omega) (by omega) (gg_eq G rfl rfl rfl (by first | (rw [show q = nc by omega]; simp only [d_sl4, c7, c60, c73, ecl, c98, c102, reduceIte]; done) | (simp only [d_sl4, d_slI, c7, c60, c73, ecl, c98, c102, reduceIte]; done))) (lv_sub hl [1, 2, 0] rfl)
                      · skip
                        refine lv_aload_n hx hb dX0_findSlopes_105 rfl (lv_at hl 0 rfl) ?_
                        refine gx_get hx hb hts hinX0 hown G 4 (by decide) rfl rfl 5 (by decide) rfl lk31 rfl (v := .ref (ad 18)) rfl dX0_findSlopes_106 ?_
                        refine lv_iload hx hb dX0_findSlopes_109 (lv_at hl 4 rfl) ?_
                        refine lv_dup2_11 hx hb dX0_findSlopes_111 rfl rfl ?_
                        refine gx_lald hx hb G 18 (by decide) (rfl) (by decide) q rfl (by omega) dX0_findSlopes_112 ?_
                        refine lv_iload_n hx hb dX0_findSlopes_113 rfl (lv_at hl 3 rfl) ?_
                        refine lv_i2l (v := (a kg v).toInt64) hx hb dX0_findSlopes_114 rfl ?_
                        refine lv_aload_n hx hb dX0_findSlopes_115 rfl (lv_at hl 0 rfl) ?_
                        refine gx_get hx hb hts hinX0 hown G 4 (by decide) rfl rfl 0 (by decide) rfl lk13 rfl (v := .ref (ad 13)) rfl dX0_findSlopes_116 ?_
                        refine lv_iload_n hx hb dX0_findSlopes_119 rfl (lv_at hl 2 rfl) ?_
                        refine gx_aald hx hb G 13 (by decide) rfl (Or.inr rfl) (by decide) r rfl (by omega) dX0_findSlopes_120 ?_
                        refine lv_iload hx hb dX0_findSlopes_121 (lv_at hl 4 rfl) ?_
                        refine gx_lald hx hb G (48 + r) (by omega) (gsh_T _ (by omega)) (by decide) q rfl (by omega) dX0_findSlopes_123 ?_
                        refine lv_lmul hx hb dX0_findSlopes_124 ?_
                        refine lv_lsub hx hb dX0_findSlopes_125 ?_
                        refine gx_last hx hb G 18 (by decide) (rfl) (by decide) q rfl (by omega) dX0_findSlopes_126 (fun H locs G => ?_)
                        refine lv_iinc (v := (nI (q + 1))) (lv' := [(4, .int (nI (q + 1))), (0, .ref (ad 4)), (1, .ref (ad kg)), (2, .int (nI r)), (3, .int (a kg v))]) hx hb dX0_findSlopes_127 hl (k := 4) rfl (gn_add (X := q) (Y := 1) rfl rfl) (by decide) rfl (fun ls hl => ?_)
                        refine lv_goto (tgt := 92) hx hb dX0_findSlopes_130 (by decide) ?_
                        exact ih92  (q + 1) _ _ _ (by omega) (by omega) (gg_eq G rfl rfl rfl (by simp only [d_slI, d_sl2, c98, c102, reduceIte])) (lv_sub hl [1, 2, 3, 4, 0] rfl)
                have q4 : 0 = nI 0 := by first | rfl | (simp only [d_sl1, c60, c73, ecl, reduceIte]; done) | (simp [d_sl1, c60, c73, ecl, reduceIte]; done)
                rw [q4] at hl
                exact K92 (nc - 0 + 1) 0 _ _ _ (by omega) (Nat.lt_succ_self _) (gg_eq G rfl rfl rfl (by unfold d_slI; split <;> rfl)) (lv_sub hl [2, 3, 4, 1, 0] rfl)
        have q2 : 0 = nI 0 := by first | rfl | (simp only [d_sl1, c7, reduceIte]; done) | (simp [d_sl1, c7, reduceIte]; done)
        rw [q2] at hl
        exact K55 (nl - 0 + 1) 0 _ _ _ (by omega) (Nat.lt_succ_self _) (gg_eq G rfl rfl rfl (by rw [show r = nc by omega]; rfl)) (lv_sub hl [1, 2, 0] rfl)
      · skip
        have n7 := gn_nle (X := nc) (Y := r) hnc rfl (by omega) (by omega) c7
        refine lv_aload_n hx hb dX0_findSlopes_10 rfl (lv_at hl 0 rfl) ?_
        refine gx_get hx hb hts hinX0 hown G 4 (by decide) rfl rfl 5 (by decide) rfl lk31 rfl (v := .ref (ad 18)) rfl dX0_findSlopes_11 ?_
        refine lv_iload_n hx hb dX0_findSlopes_14 rfl (lv_at hl 2 rfl) ?_
        refine lv_aload_n hx hb dX0_findSlopes_15 rfl (lv_at hl 0 rfl) ?_
        refine gx_get hx hb hts hinX0 hown G 4 (by decide) rfl rfl 3 (by decide) rfl lk24 rfl (v := .ref (ad 16)) rfl dX0_findSlopes_16 ?_
        refine lv_iload_n hx hb dX0_findSlopes_19 rfl (lv_at hl 2 rfl) ?_
        refine gx_iald hx hb G 16 (by decide) (rfl) (by decide) r rfl (by omega) dX0_findSlopes_20 ?_
        refine lv_aload_n hx hb dX0_findSlopes_21 rfl (lv_at hl 0 rfl) ?_
        refine gx_get hx hb hts hinX0 hown G 4 (by decide) rfl rfl 8 (by decide) rfl lk44 rfl (v := .int (I 4 8)) rfl dX0_findSlopes_22 ?_
        refine lv_icmp_ge (tgt := 45) hx hb dX0_findSlopes_25 (by decide) (fun c25 => ?_) (fun c25 => ?_)
        · skip
          refine lv_lconst (v := 0) hx hb dX0_findSlopes_45 (by decide) ?_
          refine gx_last hx hb G 18 (by decide) (rfl) (by decide) r rfl (by omega) dX0_findSlopes_46 (fun H locs G => ?_)
          refine lv_iinc (v := (nI (r + 1))) (lv' := [(2, .int (nI (r + 1))), (0, .ref (ad 4)), (1, .ref (ad kg))]) hx hb dX0_findSlopes_47 hl (k := 2) rfl (gn_add (X := r) (Y := 1) rfl rfl) (by decide) rfl (fun ls hl => ?_)
          refine lv_goto (tgt := 2) hx hb dX0_findSlopes_50 (by decide) ?_
          exact ih2  (r + 1) _ _ _ (by omega) (by omega) (gg_eq G rfl rfl rfl (by first | rfl | (simp only [d_sl1, c7, c25, reduceIte]; done) | (simp [d_sl1, c7, c25, reduceIte]; done))) (lv_sub hl [1, 2, 0] rfl)
        · skip
          obtain ⟨v, ev, hv2⟩ := hout r (by omega)
          have hvn := gn_nle (X := nc) (Y := v) hnc ev (by omega) (by omega) c25
          have ecl := gx_clamp ev (by omega)
          refine lv_aload_n hx hb dX0_findSlopes_28 rfl (lv_at hl 1 rfl) ?_
          refine lv_aload_n hx hb dX0_findSlopes_29 rfl (lv_at hl 0 rfl) ?_
          refine gx_get hx hb hts hinX0 hown G 4 (by decide) rfl rfl 3 (by decide) rfl lk24 rfl (v := .ref (ad 16)) rfl dX0_findSlopes_30 ?_
          refine lv_iload_n hx hb dX0_findSlopes_33 rfl (lv_at hl 2 rfl) ?_
          refine gx_iald hx hb G 16 (by decide) (rfl) (by decide) r rfl (by omega) dX0_findSlopes_34 ?_
          refine gx_iald hx hb G kg (hkg) (hgs) (by decide) v ev (by omega) dX0_findSlopes_35 ?_
          refine lv_i2l (v := (a kg v).toInt64) hx hb dX0_findSlopes_36 rfl ?_
          refine lv_aload_n hx hb dX0_findSlopes_37 rfl (lv_at hl 0 rfl) ?_
          refine gx_get hx hb hts hinX0 hown G 4 (by decide) rfl rfl 6 (by decide) rfl lk34 rfl (v := .long (J 4 6)) rfl dX0_findSlopes_38 ?_
          refine lv_lmul hx hb dX0_findSlopes_41 ?_
          refine lv_goto (tgt := 46) hx hb dX0_findSlopes_42 (by decide) ?_
          refine gx_last hx hb G 18 (by decide) (rfl) (by decide) r rfl (by omega) dX0_findSlopes_46 (fun H locs G => ?_)
          refine lv_iinc (v := (nI (r + 1))) (lv' := [(2, .int (nI (r + 1))), (0, .ref (ad 4)), (1, .ref (ad kg))]) hx hb dX0_findSlopes_47 hl (k := 2) rfl (gn_add (X := r) (Y := 1) rfl rfl) (by decide) rfl (fun ls hl => ?_)
          refine lv_goto (tgt := 2) hx hb dX0_findSlopes_50 (by decide) ?_
          exact ih2  (r + 1) _ _ _ (by omega) (by omega) (gg_eq G rfl rfl rfl (by first | rfl | (simp only [d_sl1, c7, c25, ecl, reduceIte]; done) | (simp [d_sl1, c7, c25, ecl, reduceIte]; done))) (lv_sub hl [1, 2, 0] rfl)
  have q2 : 0 = nI 0 := by first | rfl | (simp only [d_sl1, reduceIte]; done) | (simp [d_sl1, reduceIte]; done)
  rw [q2] at hl
  exact K2 (nc - 0 + 1) 0 _ _ _ (by omega) (Nat.lt_succ_self _) (gg_eq G rfl rfl rfl (by first | rfl | (simp only [d_sl1, reduceIte]; done) | (simp [d_sl1, reduceIte]; done))) (lv_sub hl [1, 2, 0] rfl)

set_option maxHeartbeats 4000000 in
set_option maxRecDepth 100000 in
theorem kX0_pivot (l : Launch) (D : va_G) (ad : Nat → Nat) (cy : Nat → ClassId) (I : gF) (J : gL) (a : gF) (b : gL) (sz : Nat) (nl nc r0 s0 : Nat) (hnl : I 4 7 = nI nl) (hnl2 : nl ≤ 21) (hnc : I 4 8 = nI nc) (hnc2 : nc ≤ 5) (hr0 : r0 < 21) (hs0 : s0 < 5) : gMv l yX0_pivot wsX0_pivot ({ frames := 1, cells := 0, slots := 0, locals := 40 }) D ad cy I J a b sz [.ref (ad 4), .int (nI r0), .int (nI s0)] (fun u => u = (I, d_pJ J b r0 s0, d_pA J a b r0 s0, d_pB J b nl nc r0 s0)) := by
  refine Met.ofW (cc := cX0_pivot) (maxL := 8) (ret := none) (by decide) rfl ?_
  intro p e s m args below meth c s₁ B hml hv
  obtain ⟨hargs, hsz, G⟩ := gx_begin hv
  subst hsz
  have hx := B.exec
  have hb := B.bytes
  have hr := B.returns
  have hts := atoms_spec (ws := wsX0_pivot) B.pre
  have hown : s.vm.findClass RX0 = some m.cls := findClass_of_methodNamed B.named
  have hlocks := B.notSynchronized
  have hinX0 : ∀ w ∈ wsX00, w ∈ wsX0_pivot := by decide +kernel
  have lk13 := hts (.fieldLink RX0 13 "ExactSimplex$Dictionary" "table" "[[J") (by decide +kernel)
  have lk20 := hts (.fieldLink RX0 20 "ExactSimplex$Dictionary" "basic" "[I") (by decide +kernel)
  have lk24 := hts (.fieldLink RX0 24 "ExactSimplex$Dictionary" "outside" "[I") (by decide +kernel)
  have lk34 := hts (.fieldLink RX0 34 "ExactSimplex$Dictionary" "under" "J") (by decide +kernel)
  have lk48 := hts (.fieldLink RX0 48 "ExactSimplex$Dictionary" "lines" "I") (by decide +kernel)
  have hl := lv_entry ([.ref (ad 4), .int (nI r0), .int (nI s0)]) (n := 8) (Nat.le_of_ble_eq_true rfl)
  have hent := lg_entry_eq m ([.ref (ad 4), .int (nI r0), .int (nI s0)]) 8
  rw [← hargs] at hent
  rw [hent]
  clear hent
  generalize (lg_sl ([.ref (ad 4), .int (nI r0), .int (nI s0)]) ++ List.replicate (8 - (lg_sl ([.ref (ad 4), .int (nI r0), .int (nI s0)])).length) Slot.unset).toArray = ls at hl ⊢
  have hl : lv_has ls 8 [(0, .ref (ad 4)), (1, .int (nI r0)), (2, .int (nI s0))] := hl
  generalize hA : gA ad s.heap.size = A at G ⊢
  generalize hH : s.heap = H at G ⊢
  refine gx_q (fun Q hQ => ?_)
  refine lv_aload_n hx hb dX0_pivot_0 rfl (lv_at hl 0 rfl) ?_
  refine gx_get hx hb hts hinX0 hown G 4 (by decide) rfl rfl 0 (by decide) rfl lk13 rfl (v := .ref (ad 13)) rfl dX0_pivot_1 ?_
  refine lv_iload_n hx hb dX0_pivot_4 rfl (lv_at hl 1 rfl) ?_
  refine gx_aald hx hb G 13 (by decide) rfl (Or.inr rfl) (by decide) r0 rfl (by omega) dX0_pivot_5 ?_
  refine lv_iload_n hx hb dX0_pivot_6 rfl (lv_at hl 2 rfl) ?_
  refine gx_lald hx hb G (48 + r0) (by omega) (gsh_T _ (by omega)) (by decide) s0 rfl (by omega) dX0_pivot_7 ?_
  refine lv_lstore_n (lv' := [(3, .long (b (48 + r0) s0)), (0, .ref (ad 4)), (1, .int (nI r0)), (2, .int (nI s0))]) hx hb dX0_pivot_8 rfl hl (by decide) rfl (fun ls hl => ?_)
  refine lv_lload_n hx hb dX0_pivot_9 rfl (lv_at hl 0 rfl) ?_
  refine lv_lconst (v := 0) hx hb dX0_pivot_10 (by decide) ?_
  refine gx_lc_ge (tgt := 23) hx hb dX0_pivot_11 dX0_pivot_12 (by decide) (fun c12 => ?_) (fun c12 => ?_)
  · skip
    refine lv_aload_n hx hb dX0_pivot_23 rfl (lv_at hl 1 rfl) ?_
    refine gx_get hx hb hts hinX0 hown G 4 (by decide) rfl rfl 6 (by decide) rfl lk34 rfl (v := .long (J 4 6)) rfl dX0_pivot_24 ?_
    refine lv_lstore (lv' := [(5, .long (J 4 6)), (3, .long (b (48 + r0) s0)), (0, .ref (ad 4)), (1, .int (nI r0)), (2, .int (nI s0))]) hx hb dX0_pivot_27 hl (by decide) rfl (fun ls hl => ?_)
    refine lv_lload_n hx hb dX0_pivot_29 rfl (lv_at hl 1 rfl) ?_
    refine lv_lconst (v := 0) hx hb dX0_pivot_30 (by decide) ?_
    refine gx_lc_eq (tgt := 42) hx hb dX0_pivot_31 dX0_pivot_32 (by decide) (fun c32 => ?_) (fun c32 => ?_)
    · skip
      exact gx_vr hx hb hr hlocks G hQ (by simp only [d_pJ, d_pA, d_pB, d_dv, c12, c32, reduceIte]) dX0_pivot_42
    · skip
      refine lv_lload hx hb dX0_pivot_35 (lv_at hl 0 rfl) ?_
      refine lv_lconst (v := 0) hx hb dX0_pivot_37 (by decide) ?_
      refine gx_lc_ne (tgt := 43) hx hb dX0_pivot_38 dX0_pivot_39 (by decide) (fun c39 => ?_) (fun c39 => ?_)
      · skip
        refine lv_iconst (v := 0) hx hb dX0_pivot_43 (by decide) ?_
        refine lv_istore (lv' := [(7, .int 0), (5, .long (J 4 6)), (3, .long (b (48 + r0) s0)), (0, .ref (ad 4)), (1, .int (nI r0)), (2, .int (nI s0))]) hx hb dX0_pivot_44 hl (by decide) rfl (fun ls hl => ?_)
        have K46 : ∀ (nf : Nat) (i : Nat) (H : Heap) (locs : List Loc) (ls : Array Slot), (i ≤ nl) → nl - i < nf → GG D ad cy A s I J a (d_sweeps b nc r0 s0 (J 4 6) i) H locs → lv_has ls 8 [(0, .ref (ad 4)), (1, .int (nI r0)), (2, .int (nI s0)), (3, .long (b (48 + r0) s0)), (5, .long (J 4 6)), (7, .int (nI i))] → W p l e ({ frames := 1, cells := 0, slots := 0, locals := 40 }) s m args below meth c H locs 0 0 Q (F0 m 46 ls []) := by
          intro nf
          induction nf with
          | zero => exact fun _ _ _ _ _ hz => absurd hz (Nat.not_lt_zero _)
          | succ nf ih =>
            intro i H locs ls h1 hmeas G hl
            have ih46 := ih
            clear ih
            refine lv_iload hx hb dX0_pivot_46 (lv_at hl 5 rfl) ?_
            refine lv_aload_n hx hb dX0_pivot_48 rfl (lv_at hl 0 rfl) ?_
            refine gx_get hx hb hts hinX0 hown G 4 (by decide) rfl rfl 7 (by decide) rfl lk48 rfl (v := .int (I 4 7)) rfl dX0_pivot_49 ?_
            refine lv_icmp_ge (tgt := 77) hx hb dX0_pivot_52 (by decide) (fun c52 => ?_) (fun c52 => ?_)
            · skip
              have n52 := gn_le (X := nl) (Y := i) hnl rfl (by omega) (by omega) c52
              refine lv_lload_n hx hb dX0_pivot_77 rfl (lv_at hl 3 rfl) ?_
              refine lv_lconst (v := 0) hx hb dX0_pivot_78 (by decide) ?_
              refine gx_lc_ge (tgt := 88) hx hb dX0_pivot_79 dX0_pivot_80 (by decide) (fun c80 => ?_) (fun c80 => ?_)
              · skip
                refine lv_aload_n hx hb dX0_pivot_88 rfl (lv_at hl 0 rfl) ?_
                refine gx_get hx hb hts hinX0 hown G 4 (by decide) rfl rfl 0 (by decide) rfl lk13 rfl (v := .ref (ad 13)) rfl dX0_pivot_89 ?_
                refine lv_iload_n hx hb dX0_pivot_92 rfl (lv_at hl 1 rfl) ?_
                refine gx_aald hx hb G 13 (by decide) rfl (Or.inr rfl) (by decide) r0 rfl (by omega) dX0_pivot_93 ?_
                refine lv_iload_n hx hb dX0_pivot_94 rfl (lv_at hl 2 rfl) ?_
                refine lv_lload hx hb dX0_pivot_95 (lv_at hl 4 rfl) ?_
                refine gx_last hx hb G (48 + r0) (by omega) (gsh_T _ (by omega)) (by decide) s0 rfl (by omega) dX0_pivot_97 (fun H locs G => ?_)
                refine lv_aload_n hx hb dX0_pivot_98 rfl (lv_at hl 0 rfl) ?_
                refine lv_lload_n hx hb dX0_pivot_99 rfl (lv_at hl 3 rfl) ?_
                refine va_mabs_long hx hb (hml.trans hl.1.symm) hown (hts (.methodLink RX0 89 Lib.MathLoose.abs_long.x) (by decide +kernel)) (hts (.static Lib.MathLoose.abs_long.x) (by decide +kernel)) (hts (.initialized "java/lang/Math") (by decide +kernel)) (hts (.code Lib.MathLoose.abs_long.x Lib.MathLoose.abs_long.code 2 (some .long)) (by decide +kernel)) (Nat.le_of_ble_eq_true rfl) (Nat.le_of_ble_eq_true rfl) (Nat.zero_le _) (Nat.zero_le _) dX0_pivot_100 ?_
                refine gx_putJ hx hb hts hinX0 tyX0 tyX0_ok nmX0 hown G 4 (by decide) rfl rfl 6 (by decide) rfl lk34 rfl rfl (tyX0_ok 6 (by decide)) dX0_pivot_103 (fun H locs G => ?_)
                refine lv_aload_n hx hb dX0_pivot_106 rfl (lv_at hl 0 rfl) ?_
                refine gx_get hx hb hts hinX0 hown G 4 (by decide) rfl rfl 2 (by decide) rfl lk20 rfl (v := .ref (ad 15)) rfl dX0_pivot_107 ?_
                refine lv_iload_n hx hb dX0_pivot_110 rfl (lv_at hl 1 rfl) ?_
                refine gx_iald hx hb G 15 (by decide) (rfl) (by decide) r0 rfl (by omega) dX0_pivot_111 ?_
                refine lv_istore (lv' := [(7, .int (a 15 r0)), (0, .ref (ad 4)), (1, .int (nI r0)), (2, .int (nI s0)), (3, .long (b (48 + r0) s0)), (5, .long (J 4 6))]) hx hb dX0_pivot_112 hl (by decide) rfl (fun ls hl => ?_)
                refine lv_aload_n hx hb dX0_pivot_114 rfl (lv_at hl 1 rfl) ?_
                refine gx_get hx hb hts hinX0 hown G 4 (by decide) rfl rfl 2 (by decide) rfl lk20 rfl (v := .ref (ad 15)) rfl dX0_pivot_115 ?_
                refine lv_iload_n hx hb dX0_pivot_118 rfl (lv_at hl 2 rfl) ?_
                refine lv_aload_n hx hb dX0_pivot_119 rfl (lv_at hl 1 rfl) ?_
                refine gx_get hx hb hts hinX0 hown G 4 (by decide) rfl rfl 3 (by decide) rfl lk24 rfl (v := .ref (ad 16)) rfl dX0_pivot_120 ?_
                refine lv_iload_n hx hb dX0_pivot_123 rfl (lv_at hl 3 rfl) ?_
                refine gx_iald hx hb G 16 (by decide) (rfl) (by decide) s0 rfl (by omega) dX0_pivot_124 ?_
                refine gx_iast hx hb G 15 (by decide) (rfl) (by decide) r0 rfl (by omega) dX0_pivot_125 (fun H locs G => ?_)
                refine lv_aload_n hx hb dX0_pivot_126 rfl (lv_at hl 1 rfl) ?_
                refine gx_get hx hb hts hinX0 hown G 4 (by decide) rfl rfl 3 (by decide) rfl lk24 rfl (v := .ref (ad 16)) rfl dX0_pivot_127 ?_
                refine lv_iload_n hx hb dX0_pivot_130 rfl (lv_at hl 3 rfl) ?_
                refine lv_iload hx hb dX0_pivot_131 (lv_at hl 0 rfl) ?_
                refine gx_iast hx hb G 16 (by decide) (rfl) (by decide) s0 rfl (by omega) dX0_pivot_133 (fun H locs G => ?_)
                exact gx_vr hx hb hr hlocks G hQ (by rw [show i = nl by omega]; simp only [d_pJ, d_pA, d_pB, d_dv, c12, c32, c39, c52, c80, reduceIte]) dX0_pivot_134
              · skip
                exact absurd c12 c80
            · skip
              have n52 := gn_nle (X := nl) (Y := i) hnl rfl (by omega) (by omega) c52
              refine lv_iload hx hb dX0_pivot_55 (lv_at hl 5 rfl) ?_
              refine lv_iload_n hx hb dX0_pivot_57 rfl (lv_at hl 1 rfl) ?_
              refine lv_icmp_eq (tgt := 71) hx hb dX0_pivot_58 (by decide) (fun c58 => ?_) (fun c58 => ?_)
              · skip
                have n58 := gn_eq (X := i) (Y := r0) rfl rfl (by omega) (by omega) c58
                refine lv_iinc (v := (nI (i + 1))) (lv' := [(7, .int (nI (i + 1))), (0, .ref (ad 4)), (1, .int (nI r0)), (2, .int (nI s0)), (3, .long (b (48 + r0) s0)), (5, .long (J 4 6))]) hx hb dX0_pivot_71 hl (k := 5) rfl (gn_add (X := i) (Y := 1) rfl rfl) (by decide) rfl (fun ls hl => ?_)
                refine lv_goto (tgt := 46) hx hb dX0_pivot_74 (by decide) ?_
                exact ih46  (i + 1) _ _ _ (by omega) (by omega) (gg_eq G rfl rfl rfl (by first | rfl | (simp only [d_sweeps, c52, c58, reduceIte]; done) | (simp [d_sweeps, c52, c58, reduceIte]; done))) (lv_sub hl [1, 2, 3, 4, 5, 0] rfl)
              · skip
                have n58 := gn_neq (X := i) (Y := r0) rfl rfl (by omega) (by omega) c58
                refine lv_aload_n hx hb dX0_pivot_61 rfl (lv_at hl 0 rfl) ?_
                refine lv_iload hx hb dX0_pivot_62 (lv_at hl 5 rfl) ?_
                refine lv_iload_n hx hb dX0_pivot_64 rfl (lv_at hl 1 rfl) ?_
                refine lv_iload_n hx hb dX0_pivot_65 rfl (lv_at hl 2 rfl) ?_
                refine lv_lload hx hb dX0_pivot_66 (lv_at hl 4 rfl) ?_
                refine gx_dVv (I1 := I) (J1 := J) (a1 := a) (b1 := (d_sweep (d_sweeps b nc r0 s0 (J 4 6) i) nc i r0 s0 (J 4 6))) (As := [.int (nI i), .int (nI r0), .int (nI s0), .long (J 4 6)]) (rest := []) ⟨hx, hb, hml, hown, hts⟩ G 4 (kX0_sweepLine l D ad cy I J a (d_sweeps b nc r0 s0 (J 4 6) i) H.size nc i r0 s0 (J 4 6) hnc hnc2 (by omega) hr0 hs0) (cwV 4 hts gX0_pivot_X0_sweepLine rfl rfl rfl (by decide +kernel) ⟨Nat.le_of_ble_eq_true rfl, Nat.le_of_ble_eq_true rfl⟩) (by decide) rfl rfl rfl rfl hl.1 rfl (Nat.le_of_ble_eq_true rfl) ⟨Nat.zero_le _, Nat.zero_le _⟩ dX0_pivot_68 (fun H locs G => ?_)
                refine lv_iinc (v := (nI (i + 1))) (lv' := [(7, .int (nI (i + 1))), (0, .ref (ad 4)), (1, .int (nI r0)), (2, .int (nI s0)), (3, .long (b (48 + r0) s0)), (5, .long (J 4 6))]) hx hb dX0_pivot_71 hl (k := 5) rfl (gn_add (X := i) (Y := 1) rfl rfl) (by decide) rfl (fun ls hl => ?_)
                refine lv_goto (tgt := 46) hx hb dX0_pivot_74 (by decide) ?_
                exact ih46  (i + 1) _ _ _ (by omega) (by omega) (gg_eq G rfl rfl rfl (by first | rfl | (simp only [d_sweeps, c52, c58, reduceIte]; done) | (simp [d_sweeps, c52, c58, reduceIte]; done))) (lv_sub hl [1, 2, 3, 4, 5, 0] rfl)
        have q7 : 0 = nI 0 := by first | rfl | (simp only [d_sweeps, c12, c32, c39, reduceIte]; done) | (simp [d_sweeps, c12, c32, c39, reduceIte]; done)
        rw [q7] at hl
        exact K46 (nl - 0 + 1) 0 _ _ _ (by omega) (Nat.lt_succ_self _) (gg_eq G rfl rfl rfl (by first | rfl | (simp only [d_sweeps, c12, c32, c39, reduceIte]; done) | (simp [d_sweeps, c12, c32, c39, reduceIte]; done))) (lv_sub hl [3, 4, 5, 2, 1, 0] rfl)
      · skip
        exact gx_vr hx hb hr hlocks G hQ (by simp only [d_pJ, d_pA, d_pB, d_dv, c12, c32, c39, reduceIte]) dX0_pivot_42
  · skip
    refine lv_aload_n hx hb dX0_pivot_15 rfl (lv_at hl 1 rfl) ?_
    refine gx_get hx hb hts hinX0 hown G 4 (by decide) rfl rfl 6 (by decide) rfl lk34 rfl (v := .long (J 4 6)) rfl dX0_pivot_16 ?_
    refine lv_lneg hx hb dX0_pivot_19 ?_
    refine lv_goto (tgt := 27) hx hb dX0_pivot_20 (by decide) ?_
    refine lv_lstore (lv' := [(5, .long (-(J 4 6))), (3, .long (b (48 + r0) s0)), (0, .ref (ad 4)), (1, .int (nI r0)), (2, .int (nI s0))]) hx hb dX0_pivot_27 hl (by decide) rfl (fun ls hl => ?_)
    refine lv_lload_n hx hb dX0_pivot_29 rfl (lv_at hl 1 rfl) ?_
    refine lv_lconst (v := 0) hx hb dX0_pivot_30 (by decide) ?_
    refine gx_lc_eq (tgt := 42) hx hb dX0_pivot_31 dX0_pivot_32 (by decide) (fun c32 => ?_) (fun c32 => ?_)
    · skip
      exact gx_vr hx hb hr hlocks G hQ (by simp only [d_pJ, d_pA, d_pB, d_dv, c12, c32, reduceIte]) dX0_pivot_42
    · skip
      refine lv_lload hx hb dX0_pivot_35 (lv_at hl 0 rfl) ?_
      refine lv_lconst (v := 0) hx hb dX0_pivot_37 (by decide) ?_
      refine gx_lc_ne (tgt := 43) hx hb dX0_pivot_38 dX0_pivot_39 (by decide) (fun c39 => ?_) (fun c39 => ?_)
      · skip
        refine lv_iconst (v := 0) hx hb dX0_pivot_43 (by decide) ?_
        refine lv_istore (lv' := [(7, .int 0), (5, .long (-(J 4 6))), (3, .long (b (48 + r0) s0)), (0, .ref (ad 4)), (1, .int (nI r0)), (2, .int (nI s0))]) hx hb dX0_pivot_44 hl (by decide) rfl (fun ls hl => ?_)
        have K46 : ∀ (nf : Nat) (i : Nat) (H : Heap) (locs : List Loc) (ls : Array Slot), (i ≤ nl) → nl - i < nf → GG D ad cy A s I J a (d_sweeps b nc r0 s0 (-(J 4 6)) i) H locs → lv_has ls 8 [(0, .ref (ad 4)), (1, .int (nI r0)), (2, .int (nI s0)), (3, .long (b (48 + r0) s0)), (5, .long (-(J 4 6))), (7, .int (nI i))] → W p l e ({ frames := 1, cells := 0, slots := 0, locals := 40 }) s m args below meth c H locs 0 0 Q (F0 m 46 ls []) := by
          intro nf
          induction nf with
          | zero => exact fun _ _ _ _ _ hz => absurd hz (Nat.not_lt_zero _)
          | succ nf ih =>
            intro i H locs ls h1 hmeas G hl
            have ih46 := ih
            clear ih
            refine lv_iload hx hb dX0_pivot_46 (lv_at hl 5 rfl) ?_
            refine lv_aload_n hx hb dX0_pivot_48 rfl (lv_at hl 0 rfl) ?_
            refine gx_get hx hb hts hinX0 hown G 4 (by decide) rfl rfl 7 (by decide) rfl lk48 rfl (v := .int (I 4 7)) rfl dX0_pivot_49 ?_
            refine lv_icmp_ge (tgt := 77) hx hb dX0_pivot_52 (by decide) (fun c52 => ?_) (fun c52 => ?_)
            · skip
              have n52 := gn_le (X := nl) (Y := i) hnl rfl (by omega) (by omega) c52
              refine lv_lload_n hx hb dX0_pivot_77 rfl (lv_at hl 3 rfl) ?_
              refine lv_lconst (v := 0) hx hb dX0_pivot_78 (by decide) ?_
              refine gx_lc_ge (tgt := 88) hx hb dX0_pivot_79 dX0_pivot_80 (by decide) (fun c80 => ?_) (fun c80 => ?_)
              · skip
                exact absurd c80 c12
              · skip
                refine lv_aload_n hx hb dX0_pivot_83 rfl (lv_at hl 0 rfl) ?_
                refine lv_iload_n hx hb dX0_pivot_84 rfl (lv_at hl 1 rfl) ?_
                refine gx_dVv (I1 := I) (J1 := J) (a1 := a) (b1 := (d_turn (d_sweeps b nc r0 s0 (-(J 4 6)) i) r0 nc)) (As := [.int (nI r0)]) (rest := []) ⟨hx, hb, hml, hown, hts⟩ G 4 (kX0_turnLine l D ad cy I J a (d_sweeps b nc r0 s0 (-(J 4 6)) i) H.size nc r0 hnc hnc2 hr0) (cwV 1 hts gX0_pivot_X0_turnLine rfl rfl rfl (by decide +kernel) ⟨Nat.le_of_ble_eq_true rfl, Nat.le_of_ble_eq_true rfl⟩) (by decide) rfl rfl rfl rfl hl.1 rfl (Nat.le_of_ble_eq_true rfl) ⟨Nat.zero_le _, Nat.zero_le _⟩ dX0_pivot_85 (fun H locs G => ?_)
                refine lv_aload_n hx hb dX0_pivot_88 rfl (lv_at hl 0 rfl) ?_
                refine gx_get hx hb hts hinX0 hown G 4 (by decide) rfl rfl 0 (by decide) rfl lk13 rfl (v := .ref (ad 13)) rfl dX0_pivot_89 ?_
                refine lv_iload_n hx hb dX0_pivot_92 rfl (lv_at hl 1 rfl) ?_
                refine gx_aald hx hb G 13 (by decide) rfl (Or.inr rfl) (by decide) r0 rfl (by omega) dX0_pivot_93 ?_
                refine lv_iload_n hx hb dX0_pivot_94 rfl (lv_at hl 2 rfl) ?_
                refine lv_lload hx hb dX0_pivot_95 (lv_at hl 4 rfl) ?_
                refine gx_last hx hb G (48 + r0) (by omega) (gsh_T _ (by omega)) (by decide) s0 rfl (by omega) dX0_pivot_97 (fun H locs G => ?_)
                refine lv_aload_n hx hb dX0_pivot_98 rfl (lv_at hl 0 rfl) ?_
                refine lv_lload_n hx hb dX0_pivot_99 rfl (lv_at hl 3 rfl) ?_
                refine va_mabs_long hx hb (hml.trans hl.1.symm) hown (hts (.methodLink RX0 89 Lib.MathLoose.abs_long.x) (by decide +kernel)) (hts (.static Lib.MathLoose.abs_long.x) (by decide +kernel)) (hts (.initialized "java/lang/Math") (by decide +kernel)) (hts (.code Lib.MathLoose.abs_long.x Lib.MathLoose.abs_long.code 2 (some .long)) (by decide +kernel)) (Nat.le_of_ble_eq_true rfl) (Nat.le_of_ble_eq_true rfl) (Nat.zero_le _) (Nat.zero_le _) dX0_pivot_100 ?_
                refine gx_putJ hx hb hts hinX0 tyX0 tyX0_ok nmX0 hown G 4 (by decide) rfl rfl 6 (by decide) rfl lk34 rfl rfl (tyX0_ok 6 (by decide)) dX0_pivot_103 (fun H locs G => ?_)
                refine lv_aload_n hx hb dX0_pivot_106 rfl (lv_at hl 0 rfl) ?_
                refine gx_get hx hb hts hinX0 hown G 4 (by decide) rfl rfl 2 (by decide) rfl lk20 rfl (v := .ref (ad 15)) rfl dX0_pivot_107 ?_
                refine lv_iload_n hx hb dX0_pivot_110 rfl (lv_at hl 1 rfl) ?_
                refine gx_iald hx hb G 15 (by decide) (rfl) (by decide) r0 rfl (by omega) dX0_pivot_111 ?_
                refine lv_istore (lv' := [(7, .int (a 15 r0)), (0, .ref (ad 4)), (1, .int (nI r0)), (2, .int (nI s0)), (3, .long (b (48 + r0) s0)), (5, .long (-(J 4 6)))]) hx hb dX0_pivot_112 hl (by decide) rfl (fun ls hl => ?_)
                refine lv_aload_n hx hb dX0_pivot_114 rfl (lv_at hl 1 rfl) ?_
                refine gx_get hx hb hts hinX0 hown G 4 (by decide) rfl rfl 2 (by decide) rfl lk20 rfl (v := .ref (ad 15)) rfl dX0_pivot_115 ?_
                refine lv_iload_n hx hb dX0_pivot_118 rfl (lv_at hl 2 rfl) ?_
                refine lv_aload_n hx hb dX0_pivot_119 rfl (lv_at hl 1 rfl) ?_
                refine gx_get hx hb hts hinX0 hown G 4 (by decide) rfl rfl 3 (by decide) rfl lk24 rfl (v := .ref (ad 16)) rfl dX0_pivot_120 ?_
                refine lv_iload_n hx hb dX0_pivot_123 rfl (lv_at hl 3 rfl) ?_
                refine gx_iald hx hb G 16 (by decide) (rfl) (by decide) s0 rfl (by omega) dX0_pivot_124 ?_
                refine gx_iast hx hb G 15 (by decide) (rfl) (by decide) r0 rfl (by omega) dX0_pivot_125 (fun H locs G => ?_)
                refine lv_aload_n hx hb dX0_pivot_126 rfl (lv_at hl 1 rfl) ?_
                refine gx_get hx hb hts hinX0 hown G 4 (by decide) rfl rfl 3 (by decide) rfl lk24 rfl (v := .ref (ad 16)) rfl dX0_pivot_127 ?_
                refine lv_iload_n hx hb dX0_pivot_130 rfl (lv_at hl 3 rfl) ?_
                refine lv_iload hx hb dX0_pivot_131 (lv_at hl 0 rfl) ?_
                refine gx_iast hx hb G 16 (by decide) (rfl) (by decide) s0 rfl (by omega) dX0_pivot_133 (fun H locs G => ?_)
                exact gx_vr hx hb hr hlocks G hQ (by rw [show i = nl by omega]; simp only [d_pJ, d_pA, d_pB, d_dv, c12, c32, c39, c52, c80, reduceIte]) dX0_pivot_134
            · skip
              have n52 := gn_nle (X := nl) (Y := i) hnl rfl (by omega) (by omega) c52
              refine lv_iload hx hb dX0_pivot_55 (lv_at hl 5 rfl) ?_
              refine lv_iload_n hx hb dX0_pivot_57 rfl (lv_at hl 1 rfl) ?_
              refine lv_icmp_eq (tgt := 71) hx hb dX0_pivot_58 (by decide) (fun c58 => ?_) (fun c58 => ?_)
              · skip
                have n58 := gn_eq (X := i) (Y := r0) rfl rfl (by omega) (by omega) c58
                refine lv_iinc (v := (nI (i + 1))) (lv' := [(7, .int (nI (i + 1))), (0, .ref (ad 4)), (1, .int (nI r0)), (2, .int (nI s0)), (3, .long (b (48 + r0) s0)), (5, .long (-(J 4 6)))]) hx hb dX0_pivot_71 hl (k := 5) rfl (gn_add (X := i) (Y := 1) rfl rfl) (by decide) rfl (fun ls hl => ?_)
                refine lv_goto (tgt := 46) hx hb dX0_pivot_74 (by decide) ?_
                exact ih46  (i + 1) _ _ _ (by omega) (by omega) (gg_eq G rfl rfl rfl (by first | rfl | (simp only [d_sweeps, c52, c58, reduceIte]; done) | (simp [d_sweeps, c52, c58, reduceIte]; done))) (lv_sub hl [1, 2, 3, 4, 5, 0] rfl)
              · skip
                have n58 := gn_neq (X := i) (Y := r0) rfl rfl (by omega) (by omega) c58
                refine lv_aload_n hx hb dX0_pivot_61 rfl (lv_at hl 0 rfl) ?_
                refine lv_iload hx hb dX0_pivot_62 (lv_at hl 5 rfl) ?_
                refine lv_iload_n hx hb dX0_pivot_64 rfl (lv_at hl 1 rfl) ?_
                refine lv_iload_n hx hb dX0_pivot_65 rfl (lv_at hl 2 rfl) ?_
                refine lv_lload hx hb dX0_pivot_66 (lv_at hl 4 rfl) ?_
                refine gx_dVv (I1 := I) (J1 := J) (a1 := a) (b1 := (d_sweep (d_sweeps b nc r0 s0 (-(J 4 6)) i) nc i r0 s0 (-(J 4 6)))) (As := [.int (nI i), .int (nI r0), .int (nI s0), .long (-(J 4 6))]) (rest := []) ⟨hx, hb, hml, hown, hts⟩ G 4 (kX0_sweepLine l D ad cy I J a (d_sweeps b nc r0 s0 (-(J 4 6)) i) H.size nc i r0 s0 (-(J 4 6)) hnc hnc2 (by omega) hr0 hs0) (cwV 4 hts gX0_pivot_X0_sweepLine rfl rfl rfl (by decide +kernel) ⟨Nat.le_of_ble_eq_true rfl, Nat.le_of_ble_eq_true rfl⟩) (by decide) rfl rfl rfl rfl hl.1 rfl (Nat.le_of_ble_eq_true rfl) ⟨Nat.zero_le _, Nat.zero_le _⟩ dX0_pivot_68 (fun H locs G => ?_)
                refine lv_iinc (v := (nI (i + 1))) (lv' := [(7, .int (nI (i + 1))), (0, .ref (ad 4)), (1, .int (nI r0)), (2, .int (nI s0)), (3, .long (b (48 + r0) s0)), (5, .long (-(J 4 6)))]) hx hb dX0_pivot_71 hl (k := 5) rfl (gn_add (X := i) (Y := 1) rfl rfl) (by decide) rfl (fun ls hl => ?_)
                refine lv_goto (tgt := 46) hx hb dX0_pivot_74 (by decide) ?_
                exact ih46  (i + 1) _ _ _ (by omega) (by omega) (gg_eq G rfl rfl rfl (by first | rfl | (simp only [d_sweeps, c52, c58, reduceIte]; done) | (simp [d_sweeps, c52, c58, reduceIte]; done))) (lv_sub hl [1, 2, 3, 4, 5, 0] rfl)
        have q7 : 0 = nI 0 := by first | rfl | (simp only [d_sweeps, c12, c32, c39, reduceIte]; done) | (simp [d_sweeps, c12, c32, c39, reduceIte]; done)
        rw [q7] at hl
        exact K46 (nl - 0 + 1) 0 _ _ _ (by omega) (Nat.lt_succ_self _) (gg_eq G rfl rfl rfl (by first | rfl | (simp only [d_sweeps, c12, c32, c39, reduceIte]; done) | (simp [d_sweeps, c12, c32, c39, reduceIte]; done))) (lv_sub hl [3, 4, 5, 2, 1, 0] rfl)
      · skip
        exact gx_vr hx hb hr hlocks G hQ (by simp only [d_pJ, d_pA, d_pB, d_dv, c12, c32, c39, reduceIte]) dX0_pivot_42

set_option maxHeartbeats 4000000 in
set_option maxRecDepth 100000 in
theorem kX0_begin (l : Launch) (D : va_G) (ad : Nat → Nat) (cy : Nat → ClassId) (I : gF) (J : gL) (a : gF) (b : gL) (sz : Nat) (n0 : Nat) (hn0 : n0 ≤ 5) : gMv l yX0_begin wsX0_begin ({ frames := 1, cells := 0, slots := 0, locals := 40 }) D ad cy I J a b sz [.ref (ad 4), .int (nI n0)] (fun u => u = (gU (gU I 4 8 (nI n0)) 4 7 0, gU J 4 6 1, d_thaw (d_ids a n0) n0, b)) := by
  refine Met.ofW (cc := cX0_begin) (maxL := 3) (ret := none) (by decide) rfl ?_
  intro p e s m args below meth c s₁ B hml hv
  obtain ⟨hargs, hsz, G⟩ := gx_begin hv
  subst hsz
  have hx := B.exec
  have hb := B.bytes
  have hr := B.returns
  have hts := atoms_spec (ws := wsX0_begin) B.pre
  have hown : s.vm.findClass RX0 = some m.cls := findClass_of_methodNamed B.named
  have hlocks := B.notSynchronized
  have hinX0 : ∀ w ∈ wsX00, w ∈ wsX0_begin := by decide +kernel
  have lk24 := hts (.fieldLink RX0 24 "ExactSimplex$Dictionary" "outside" "[I") (by decide +kernel)
  have lk34 := hts (.fieldLink RX0 34 "ExactSimplex$Dictionary" "under" "J") (by decide +kernel)
  have lk44 := hts (.fieldLink RX0 44 "ExactSimplex$Dictionary" "columns" "I") (by decide +kernel)
  have lk48 := hts (.fieldLink RX0 48 "ExactSimplex$Dictionary" "lines" "I") (by decide +kernel)
  have hl := lv_entry ([.ref (ad 4), .int (nI n0)]) (n := 3) (Nat.le_of_ble_eq_true rfl)
  have hent := lg_entry_eq m ([.ref (ad 4), .int (nI n0)]) 3
  rw [← hargs] at hent
  rw [hent]
  clear hent
  generalize (lg_sl ([.ref (ad 4), .int (nI n0)]) ++ List.replicate (3 - (lg_sl ([.ref (ad 4), .int (nI n0)])).length) Slot.unset).toArray = ls at hl ⊢
  have hl : lv_has ls 3 [(0, .ref (ad 4)), (1, .int (nI n0))] := hl
  generalize hA : gA ad s.heap.size = A at G ⊢
  generalize hH : s.heap = H at G ⊢
  refine gx_q (fun Q hQ => ?_)
  refine lv_aload_n hx hb dX0_begin_0 rfl (lv_at hl 0 rfl) ?_
  refine lv_iload_n hx hb dX0_begin_1 rfl (lv_at hl 1 rfl) ?_
  refine lv_iconst (v := 5) hx hb dX0_begin_2 (by decide) ?_
  refine va_mmin hx hb (hml.trans hl.1.symm) hown (hts (.methodLink RX0 38 Lib.Math.min.name) (by decide +kernel)) (hts (.static Lib.Math.min.name) (by decide +kernel)) (hts (.initialized "java/lang/Math") (by decide +kernel)) (hts (.code Lib.Math.min.name Lib.Math.min.code 2 (some .int)) (by decide +kernel)) (Nat.le_of_ble_eq_true rfl) (Nat.le_of_ble_eq_true rfl) (Nat.zero_le _) (Nat.zero_le _) dX0_begin_3 ?_
  rw [d_min5 hn0]
  refine gx_putI hx hb hts hinX0 tyX0 tyX0_ok nmX0 hown G 4 (by decide) rfl rfl 8 (by decide) rfl lk44 rfl rfl (tyX0_ok 8 (by decide)) (rfl) (rfl) dX0_begin_6 (fun H locs G => ?_)
  refine lv_aload_n hx hb dX0_begin_9 rfl (lv_at hl 0 rfl) ?_
  refine lv_iconst (v := 0) hx hb dX0_begin_10 (by decide) ?_
  refine gx_putI hx hb hts hinX0 tyX0 tyX0_ok nmX0 hown G 4 (by decide) rfl rfl 7 (by decide) rfl lk48 rfl rfl (tyX0_ok 7 (by decide)) (rfl) (rfl) dX0_begin_11 (fun H locs G => ?_)
  refine lv_aload_n hx hb dX0_begin_14 rfl (lv_at hl 0 rfl) ?_
  refine lv_lconst (v := 1) hx hb dX0_begin_15 (by decide) ?_
  refine gx_putJ hx hb hts hinX0 tyX0 tyX0_ok nmX0 hown G 4 (by decide) rfl rfl 6 (by decide) rfl lk34 rfl rfl (tyX0_ok 6 (by decide)) dX0_begin_16 (fun H locs G => ?_)
  refine lv_iconst (v := 0) hx hb dX0_begin_19 (by decide) ?_
  refine lv_istore_n (lv' := [(2, .int 0), (0, .ref (ad 4)), (1, .int (nI n0))]) hx hb dX0_begin_20 rfl hl (by decide) rfl (fun ls hl => ?_)
  have K21 : ∀ (nf : Nat) (r : Nat) (H : Heap) (locs : List Loc) (ls : Array Slot), (r ≤ n0) → n0 - r < nf → GG D ad cy A s (gU (gU I 4 8 (nI n0)) 4 7 0) (gU J 4 6 1) (d_ids a r) b H locs → lv_has ls 3 [(0, .ref (ad 4)), (1, .int (nI n0)), (2, .int (nI r))] → W p l e ({ frames := 1, cells := 0, slots := 0, locals := 40 }) s m args below meth c H locs 0 0 Q (F0 m 21 ls []) := by
    intro nf
    induction nf with
    | zero => exact fun _ _ _ _ _ hz => absurd hz (Nat.not_lt_zero _)
    | succ nf ih =>
      intro r H locs ls h1 hmeas G hl
      have ih21 := ih
      clear ih
      refine lv_iload_n hx hb dX0_begin_21 rfl (lv_at hl 2 rfl) ?_
      refine lv_aload_n hx hb dX0_begin_22 rfl (lv_at hl 0 rfl) ?_
      refine gx_get hx hb hts hinX0 hown G 4 (by decide) rfl rfl 8 (by decide) rfl lk44 rfl (v := .int (nI n0)) rfl dX0_begin_23 ?_
      refine lv_icmp_ge (tgt := 42) hx hb dX0_begin_26 (by decide) (fun c26 => ?_) (fun c26 => ?_)
      · skip
        have n26 := gn_le (X := n0) (Y := r) rfl rfl (by omega) (by omega) c26
        refine lv_aload_n hx hb dX0_begin_42 rfl (lv_at hl 0 rfl) ?_
        refine gx_dVv (I1 := (gU (gU I 4 8 (nI n0)) 4 7 0)) (J1 := (gU J 4 6 1)) (a1 := (d_thaw (d_ids a r) n0)) (b1 := b) (As := []) (rest := []) ⟨hx, hb, hml, hown, hts⟩ G 4 (kX0_thawAll l D ad cy (gU (gU I 4 8 (nI n0)) 4 7 0) (gU J 4 6 1) (d_ids a r) b H.size n0 rfl hn0) (cwV 0 hts gX0_begin_X0_thawAll rfl rfl rfl (by decide +kernel) ⟨Nat.le_of_ble_eq_true rfl, Nat.le_of_ble_eq_true rfl⟩) (by decide) rfl rfl rfl rfl hl.1 rfl (Nat.le_of_ble_eq_true rfl) ⟨Nat.zero_le _, Nat.zero_le _⟩ dX0_begin_43 (fun H locs G => ?_)
        exact gx_vr hx hb hr hlocks G hQ (by rw [show r = n0 by omega]) dX0_begin_46
      · skip
        have n26 := gn_nle (X := n0) (Y := r) rfl rfl (by omega) (by omega) c26
        refine lv_aload_n hx hb dX0_begin_29 rfl (lv_at hl 0 rfl) ?_
        refine gx_get hx hb hts hinX0 hown G 4 (by decide) rfl rfl 3 (by decide) rfl lk24 rfl (v := .ref (ad 16)) rfl dX0_begin_30 ?_
        refine lv_iload_n hx hb dX0_begin_33 rfl (lv_at hl 2 rfl) ?_
        refine lv_iload_n hx hb dX0_begin_34 rfl (lv_at hl 2 rfl) ?_
        refine gx_iast hx hb G 16 (by decide) (rfl) (by decide) r rfl (by omega) dX0_begin_35 (fun H locs G => ?_)
        refine lv_iinc (v := (nI (r + 1))) (lv' := [(2, .int (nI (r + 1))), (0, .ref (ad 4)), (1, .int (nI n0))]) hx hb dX0_begin_36 hl (k := 2) rfl (gn_add (X := r) (Y := 1) rfl rfl) (by decide) rfl (fun ls hl => ?_)
        refine lv_goto (tgt := 21) hx hb dX0_begin_39 (by decide) ?_
        exact ih21  (r + 1) _ _ _ (by omega) (by omega) (gg_eq G rfl rfl (by first | rfl | (simp only [d_ids, c26, reduceIte]; done) | (simp [d_ids, c26, reduceIte]; done)) rfl) (lv_sub hl [1, 2, 0] rfl)
  have q2 : 0 = nI 0 := by first | rfl | (simp only [d_ids, reduceIte]; done) | (simp [d_ids, reduceIte]; done)
  rw [q2] at hl
  exact K21 (n0 - 0 + 1) 0 _ _ _ (by omega) (Nat.lt_succ_self _) (gg_eq G rfl rfl (by first | rfl | (simp only [d_ids, reduceIte]; done) | (simp [d_ids, reduceIte]; done)) rfl) (lv_sub hl [1, 2, 0] rfl)

set_option maxHeartbeats 4000000 in
set_option maxRecDepth 100000 in
theorem kX0_addAtMost (l : Launch) (D : va_G) (ad : Nat → Nat) (cy : Nat → ClassId) (I : gF) (J : gL) (a : gF) (b : gL) (sz : Nat) (nl nc kg : Nat) (sg ri : Int32) (hnl : I 4 7 = nI nl) (hnl2 : nl < 21) (hnc : I 4 8 = nI nc) (hnc2 : nc ≤ 5) (hkg : kg < 92) (hgs : gsh kg = .inr (0, 5, 0)) : gMv l yX0_addAtMost wsX0_addAtMost ({ frames := 0, cells := 0, slots := 0, locals := 0 }) D ad cy I J a b sz [.ref (ad 4), .ref (ad kg), .int sg, .int ri] (fun u => u = (gU I 4 7 (I 4 7 + 1), J, gU a 15 nl (I 4 8 + I 4 7), d_addB a b kg nl nc sg ri)) := by
  refine Met.ofW (cc := cX0_addAtMost) (maxL := 5) (ret := none) (by decide) rfl ?_
  intro p e s m args below meth c s₁ B hml hv
  obtain ⟨hargs, hsz, G⟩ := gx_begin hv
  subst hsz
  have hx := B.exec
  have hb := B.bytes
  have hr := B.returns
  have hts := atoms_spec (ws := wsX0_addAtMost) B.pre
  have hown : s.vm.findClass RX0 = some m.cls := findClass_of_methodNamed B.named
  have hlocks := B.notSynchronized
  have hinX0 : ∀ w ∈ wsX00, w ∈ wsX0_addAtMost := by decide +kernel
  have lk13 := hts (.fieldLink RX0 13 "ExactSimplex$Dictionary" "table" "[[J") (by decide +kernel)
  have lk16 := hts (.fieldLink RX0 16 "ExactSimplex$Dictionary" "rests" "[J") (by decide +kernel)
  have lk20 := hts (.fieldLink RX0 20 "ExactSimplex$Dictionary" "basic" "[I") (by decide +kernel)
  have lk44 := hts (.fieldLink RX0 44 "ExactSimplex$Dictionary" "columns" "I") (by decide +kernel)
  have lk48 := hts (.fieldLink RX0 48 "ExactSimplex$Dictionary" "lines" "I") (by decide +kernel)
  have hl := lv_entry ([.ref (ad 4), .ref (ad kg), .int sg, .int ri]) (n := 5) (Nat.le_of_ble_eq_true rfl)
  have hent := lg_entry_eq m ([.ref (ad 4), .ref (ad kg), .int sg, .int ri]) 5
  rw [← hargs] at hent
  rw [hent]
  clear hent
  generalize (lg_sl ([.ref (ad 4), .ref (ad kg), .int sg, .int ri]) ++ List.replicate (5 - (lg_sl ([.ref (ad 4), .ref (ad kg), .int sg, .int ri])).length) Slot.unset).toArray = ls at hl ⊢
  have hl : lv_has ls 5 [(0, .ref (ad 4)), (1, .ref (ad kg)), (2, .int sg), (3, .int ri)] := hl
  generalize hA : gA ad s.heap.size = A at G ⊢
  generalize hH : s.heap = H at G ⊢
  refine gx_q (fun Q hQ => ?_)
  refine lv_aload_n hx hb dX0_addAtMost_0 rfl (lv_at hl 0 rfl) ?_
  refine gx_get hx hb hts hinX0 hown G 4 (by decide) rfl rfl 7 (by decide) rfl lk48 rfl (v := .int (I 4 7)) rfl dX0_addAtMost_1 ?_
  refine lv_bipush (v := 21) hx hb dX0_addAtMost_4 (by decide) ?_
  refine lv_icmp_ge (tgt := 18) hx hb dX0_addAtMost_6 (by decide) (fun c6 => ?_) (fun c6 => ?_)
  · skip
    have n6 := gn_le (X := 21) (Y := nl) rfl hnl (by omega) (by omega) c6
    exact absurd n6 (by omega)
  · skip
    have n6 := gn_nle (X := 21) (Y := nl) rfl hnl (by omega) (by omega) c6
    refine lv_aload_n hx hb dX0_addAtMost_9 rfl (lv_at hl 1 rfl) ?_
    refine gx_alen hx hb G kg (hkg) (hgs) (v := 5) rfl dX0_addAtMost_10 ?_
    refine lv_aload_n hx hb dX0_addAtMost_11 rfl (lv_at hl 0 rfl) ?_
    refine gx_get hx hb hts hinX0 hown G 4 (by decide) rfl rfl 8 (by decide) rfl lk44 rfl (v := .int (I 4 8)) rfl dX0_addAtMost_12 ?_
    refine lv_icmp_ge (tgt := 19) hx hb dX0_addAtMost_15 (by decide) (fun c15 => ?_) (fun c15 => ?_)
    · skip
      have n15 := gn_le (X := nc) (Y := 5) hnc rfl (by omega) (by omega) c15
      refine lv_iconst (v := 0) hx hb dX0_addAtMost_19 (by decide) ?_
      refine lv_istore (lv' := [(4, .int 0), (0, .ref (ad 4)), (1, .ref (ad kg)), (2, .int sg), (3, .int ri)]) hx hb dX0_addAtMost_20 hl (by decide) rfl (fun ls hl => ?_)
      have K22 : ∀ (nf : Nat) (r : Nat) (H : Heap) (locs : List Loc) (ls : Array Slot), (r ≤ nc) → nc - r < nf → GG D ad cy A s I J a (d_addL a b kg nl sg r) H locs → lv_has ls 5 [(0, .ref (ad 4)), (1, .ref (ad kg)), (2, .int sg), (3, .int ri), (4, .int (nI r))] → W p l e ({ frames := 0, cells := 0, slots := 0, locals := 0 }) s m args below meth c H locs 0 0 Q (F0 m 22 ls []) := by
        intro nf
        induction nf with
        | zero => exact fun _ _ _ _ _ hz => absurd hz (Nat.not_lt_zero _)
        | succ nf ih =>
          intro r H locs ls h1 hmeas G hl
          have ih22 := ih
          clear ih
          refine lv_iload hx hb dX0_addAtMost_22 (lv_at hl 4 rfl) ?_
          refine lv_aload_n hx hb dX0_addAtMost_24 rfl (lv_at hl 0 rfl) ?_
          refine gx_get hx hb hts hinX0 hown G 4 (by decide) rfl rfl 8 (by decide) rfl lk44 rfl (v := .int (I 4 8)) rfl dX0_addAtMost_25 ?_
          refine lv_icmp_ge (tgt := 56) hx hb dX0_addAtMost_28 (by decide) (fun c28 => ?_) (fun c28 => ?_)
          · skip
            have n28 := gn_le (X := nc) (Y := r) hnc rfl (by omega) (by omega) c28
            refine lv_aload_n hx hb dX0_addAtMost_56 rfl (lv_at hl 0 rfl) ?_
            refine gx_get hx hb hts hinX0 hown G 4 (by decide) rfl rfl 1 (by decide) rfl lk16 rfl (v := .ref (ad 14)) rfl dX0_addAtMost_57 ?_
            refine lv_aload_n hx hb dX0_addAtMost_60 rfl (lv_at hl 0 rfl) ?_
            refine gx_get hx hb hts hinX0 hown G 4 (by decide) rfl rfl 7 (by decide) rfl lk48 rfl (v := .int (I 4 7)) rfl dX0_addAtMost_61 ?_
            refine lv_iload_n hx hb dX0_addAtMost_64 rfl (lv_at hl 3 rfl) ?_
            refine lv_i2l (v := ri.toInt64) hx hb dX0_addAtMost_65 rfl ?_
            refine gx_last hx hb G 14 (by decide) (rfl) (by decide) nl hnl (by omega) dX0_addAtMost_66 (fun H locs G => ?_)
            refine lv_aload_n hx hb dX0_addAtMost_67 rfl (lv_at hl 0 rfl) ?_
            refine gx_get hx hb hts hinX0 hown G 4 (by decide) rfl rfl 2 (by decide) rfl lk20 rfl (v := .ref (ad 15)) rfl dX0_addAtMost_68 ?_
            refine lv_aload_n hx hb dX0_addAtMost_71 rfl (lv_at hl 0 rfl) ?_
            refine gx_get hx hb hts hinX0 hown G 4 (by decide) rfl rfl 7 (by decide) rfl lk48 rfl (v := .int (I 4 7)) rfl dX0_addAtMost_72 ?_
            refine lv_aload_n hx hb dX0_addAtMost_75 rfl (lv_at hl 0 rfl) ?_
            refine gx_get hx hb hts hinX0 hown G 4 (by decide) rfl rfl 8 (by decide) rfl lk44 rfl (v := .int (I 4 8)) rfl dX0_addAtMost_76 ?_
            refine lv_aload_n hx hb dX0_addAtMost_79 rfl (lv_at hl 0 rfl) ?_
            refine gx_get hx hb hts hinX0 hown G 4 (by decide) rfl rfl 7 (by decide) rfl lk48 rfl (v := .int (I 4 7)) rfl dX0_addAtMost_80 ?_
            refine lv_iadd hx hb dX0_addAtMost_83 ?_
            refine gx_iast hx hb G 15 (by decide) (rfl) (by decide) nl hnl (by omega) dX0_addAtMost_84 (fun H locs G => ?_)
            refine lv_aload_n hx hb dX0_addAtMost_85 rfl (lv_at hl 0 rfl) ?_
            refine lv_dup hx hb dX0_addAtMost_86 rfl ?_
            refine gx_get hx hb hts hinX0 hown G 4 (by decide) rfl rfl 7 (by decide) rfl lk48 rfl (v := .int (I 4 7)) rfl dX0_addAtMost_87 ?_
            refine lv_iconst (v := 1) hx hb dX0_addAtMost_90 (by decide) ?_
            refine lv_iadd hx hb dX0_addAtMost_91 ?_
            refine gx_putI hx hb hts hinX0 tyX0 tyX0_ok nmX0 hown G 4 (by decide) rfl rfl 7 (by decide) rfl lk48 rfl rfl (tyX0_ok 7 (by decide)) (rfl) (rfl) dX0_addAtMost_92 (fun H locs G => ?_)
            exact gx_vr hx hb hr hlocks G hQ (by rw [show r = nc by omega]; rfl) dX0_addAtMost_95
          · skip
            have n28 := gn_nle (X := nc) (Y := r) hnc rfl (by omega) (by omega) c28
            refine lv_aload_n hx hb dX0_addAtMost_31 rfl (lv_at hl 0 rfl) ?_
            refine gx_get hx hb hts hinX0 hown G 4 (by decide) rfl rfl 0 (by decide) rfl lk13 rfl (v := .ref (ad 13)) rfl dX0_addAtMost_32 ?_
            refine lv_aload_n hx hb dX0_addAtMost_35 rfl (lv_at hl 0 rfl) ?_
            refine gx_get hx hb hts hinX0 hown G 4 (by decide) rfl rfl 7 (by decide) rfl lk48 rfl (v := .int (I 4 7)) rfl dX0_addAtMost_36 ?_
            refine gx_aald hx hb G 13 (by decide) rfl (Or.inr rfl) (by decide) nl hnl (by omega) dX0_addAtMost_39 ?_
            refine lv_iload hx hb dX0_addAtMost_40 (lv_at hl 4 rfl) ?_
            refine lv_iload_n hx hb dX0_addAtMost_42 rfl (lv_at hl 2 rfl) ?_
            refine lv_aload_n hx hb dX0_addAtMost_43 rfl (lv_at hl 1 rfl) ?_
            refine lv_iload hx hb dX0_addAtMost_44 (lv_at hl 4 rfl) ?_
            refine gx_iald hx hb G kg (hkg) (hgs) (by decide) r rfl (by omega) dX0_addAtMost_46 ?_
            refine lv_imul hx hb dX0_addAtMost_47 ?_
            refine lv_i2l (v := (sg * (a kg r)).toInt64) hx hb dX0_addAtMost_48 rfl ?_
            refine gx_last hx hb G (48 + nl) (by omega) (gsh_T _ (by omega)) (by decide) r rfl (by omega) dX0_addAtMost_49 (fun H locs G => ?_)
            refine lv_iinc (v := (nI (r + 1))) (lv' := [(4, .int (nI (r + 1))), (0, .ref (ad 4)), (1, .ref (ad kg)), (2, .int sg), (3, .int ri)]) hx hb dX0_addAtMost_50 hl (k := 4) rfl (gn_add (X := r) (Y := 1) rfl rfl) (by decide) rfl (fun ls hl => ?_)
            refine lv_goto (tgt := 22) hx hb dX0_addAtMost_53 (by decide) ?_
            exact ih22  (r + 1) _ _ _ (by omega) (by omega) (gg_eq G rfl rfl rfl (by first | rfl | (simp only [d_addL, c28, reduceIte]; done) | (simp [d_addL, c28, reduceIte]; done))) (lv_sub hl [1, 2, 3, 4, 0] rfl)
      have q4 : 0 = nI 0 := by first | rfl | (simp only [d_addL, c6, c15, reduceIte]; done) | (simp [d_addL, c6, c15, reduceIte]; done)
      rw [q4] at hl
      exact K22 (nc - 0 + 1) 0 _ _ _ (by omega) (Nat.lt_succ_self _) (gg_eq G rfl rfl rfl (by first | rfl | (simp only [d_addL, c6, c15, reduceIte]; done) | (simp [d_addL, c6, c15, reduceIte]; done))) (lv_sub hl [1, 2, 3, 4, 0] rfl)
    · skip
      have n15 := gn_nle (X := nc) (Y := 5) hnc rfl (by omega) (by omega) c15
      exact absurd n15 (by omega)

set_option maxHeartbeats 4000000 in
set_option maxRecDepth 100000 in
theorem kX0_findPoint (l : Launch) (D : va_G) (ad : Nat → Nat) (cy : Nat → ClassId) (I : gF) (J : gL) (a : gF) (b : gL) (sz : Nat) (nl nc : Nat) (hnl : I 4 7 = nI nl) (hnl2 : nl ≤ 21) (hnc : I 4 8 = nI nc) (hnc2 : nc ≤ 5) : gMi l yX0_findPoint wsX0_findPoint ({ frames := 2, cells := 0, slots := 0, locals := 67 }) D ad cy I J a b sz [.ref (ad 4)] (fun r u => r = (d_find nl nc mPV (J, a, b)).1 ∧ u = (I, (d_find nl nc mPV (J, a, b)).2.1, (d_find nl nc mPV (J, a, b)).2.2.1, (d_find nl nc mPV (J, a, b)).2.2.2)) := by
  refine Met.ofW (cc := cX0_findPoint) (maxL := 4) (ret := some .boolean) (by decide) rfl ?_
  intro p e s m args below meth c s₁ B hml hv
  obtain ⟨hargs, hsz, G⟩ := gx_begin hv
  subst hsz
  have hx := B.exec
  have hb := B.bytes
  have hr := B.returns
  have hts := atoms_spec (ws := wsX0_findPoint) B.pre
  have hown : s.vm.findClass RX0 = some m.cls := findClass_of_methodNamed B.named
  have hlocks := B.notSynchronized
  have hl := lv_entry ([.ref (ad 4)]) (n := 4) (Nat.le_of_ble_eq_true rfl)
  have hent := lg_entry_eq m ([.ref (ad 4)]) 4
  rw [← hargs] at hent
  rw [hent]
  clear hent
  generalize (lg_sl ([.ref (ad 4)]) ++ List.replicate (4 - (lg_sl ([.ref (ad 4)])).length) Slot.unset).toArray = ls at hl ⊢
  have hl : lv_has ls 4 [(0, .ref (ad 4))] := hl
  generalize hA : gA ad s.heap.size = A at G ⊢
  generalize hH : s.heap = H at G ⊢
  refine gx_q (fun Q hQ => ?_)
  have hPV : mPV = 100000 := rfl
  refine lv_iconst (v := 0) hx hb dX0_findPoint_0 (by decide) ?_
  refine lv_istore_n (lv' := [(1, .int 0), (0, .ref (ad 4))]) hx hb dX0_findPoint_1 rfl hl (by decide) rfl (fun ls hl => ?_)
  have K2 : ∀ (nf : Nat) (i : Nat) (J2 : gL) (a2 : gF) (b2 : gL) (H : Heap) (locs : List Loc) (ls : Array Slot), (i ≤ mPV) → (d_find nl nc mPV (J, a, b) = d_find nl nc (mPV - i) (J2, a2, b2)) → mPV - i < nf → GG D ad cy A s I J2 a2 b2 H locs → lv_has ls 4 [(0, .ref (ad 4)), (1, .int (nI i))] → W p l e ({ frames := 2, cells := 0, slots := 0, locals := 67 }) s m args below meth c H locs 0 0 Q (F0 m 2 ls []) := by
    intro nf
    induction nf with
    | zero => exact fun _ _ _ _ _ _ _ _ _ hz => absurd hz (Nat.not_lt_zero _)
    | succ nf ih =>
      intro i J2 a2 b2 H locs ls h1 h2 hmeas G hl
      have ih2 := ih
      clear ih
      refine lv_iload_n hx hb dX0_findPoint_2 rfl (lv_at hl 1 rfl) ?_
      refine lv_ldc hx hb hown (hts (.constant RX0 54 100000) (by decide +kernel)) dX0_findPoint_3 ?_
      refine lv_icmp_ge (tgt := 43) hx hb dX0_findPoint_5 (by decide) (fun c5 => ?_) (fun c5 => ?_)
      · skip
        have n5 := gn_le (X := 100000) (Y := i) rfl rfl (by omega) (by omega) c5
        refine lv_iconst (v := 0) hx hb dX0_findPoint_43 (by decide) ?_
        exact gx_zr hx hb hr hlocks G hQ (rfl) ⟨by rw [h2, show mPV - i = 0 by omega]; rfl, by rw [h2, show mPV - i = 0 by omega]; rfl⟩ dX0_findPoint_44
      · skip
        have n5 := gn_nle (X := 100000) (Y := i) rfl rfl (by omega) (by omega) c5
        refine lv_aload_n hx hb dX0_findPoint_8 rfl (lv_at hl 0 rfl) ?_
        refine gx_dVi (v := (d_broken a2 b2 nl)) (I1 := I) (J1 := J2) (a1 := a2) (b1 := b2) (As := []) (rest := []) ⟨hx, hb, hml, hown, hts⟩ G 4 (kX0_brokenLine l D ad cy I J2 a2 b2 H.size nl hnl hnl2) (cwV 0 hts gX0_findPoint_X0_brokenLine rfl rfl rfl (by decide +kernel) ⟨Nat.le_of_ble_eq_true rfl, Nat.le_of_ble_eq_true rfl⟩) (by decide) rfl rfl rfl rfl hl.1 rfl (Nat.le_of_ble_eq_true rfl) ⟨Nat.zero_le _, Nat.zero_le _⟩ dX0_findPoint_9 (fun H locs G => ?_)
        refine lv_istore_n (lv' := [(2, .int (d_broken a2 b2 nl)), (0, .ref (ad 4)), (1, .int (nI i))]) hx hb dX0_findPoint_12 rfl hl (by decide) rfl (fun ls hl => ?_)
        refine lv_iload_n hx hb dX0_findPoint_13 rfl (lv_at hl 0 rfl) ?_
        refine lv_if_ge (tgt := 19) hx hb dX0_findPoint_14 (by decide) (fun c14 => ?_) (fun c14 => ?_)
        · skip
          obtain ⟨jr, hjr, ejr⟩ := (d_broken_ix a2 b2 nl).resolve_left (gx_notneg c14)
          have er := gx_clamp ejr (by omega)
          refine lv_aload_n hx hb dX0_findPoint_19 rfl (lv_at hl 1 rfl) ?_
          refine lv_iload_n hx hb dX0_findPoint_20 rfl (lv_at hl 0 rfl) ?_
          rw [ejr]
          refine gx_dVi (v := (d_mend a2 b2 jr nc)) (I1 := I) (J1 := J2) (a1 := a2) (b1 := b2) (As := [.int (nI jr)]) (rest := []) ⟨hx, hb, hml, hown, hts⟩ G 4 (kX0_mendingColumn l D ad cy I J2 a2 b2 H.size nc jr hnc hnc2 (by omega)) (cwV 1 hts gX0_findPoint_X0_mendingColumn rfl rfl rfl (by decide +kernel) ⟨Nat.le_of_ble_eq_true rfl, Nat.le_of_ble_eq_true rfl⟩) (by decide) rfl rfl rfl rfl hl.1 rfl (Nat.le_of_ble_eq_true rfl) ⟨Nat.zero_le _, Nat.zero_le _⟩ dX0_findPoint_21 (fun H locs G => ?_)
          refine lv_istore_n (lv' := [(3, .int (d_mend a2 b2 jr nc)), (2, .int (d_broken a2 b2 nl)), (0, .ref (ad 4)), (1, .int (nI i))]) hx hb dX0_findPoint_24 rfl hl (by decide) rfl (fun ls hl => ?_)
          refine lv_iload_n hx hb dX0_findPoint_25 rfl (lv_at hl 0 rfl) ?_
          refine lv_if_ge (tgt := 31) hx hb dX0_findPoint_26 (by decide) (fun c26 => ?_) (fun c26 => ?_)
          · skip
            obtain ⟨js, hjs, ejs⟩ := (d_mend_ix a2 b2 jr nc).resolve_left (gx_notneg c26)
            have es := gx_clamp ejs (by omega)
            refine lv_aload_n hx hb dX0_findPoint_31 rfl (lv_at hl 2 rfl) ?_
            refine lv_iload_n hx hb dX0_findPoint_32 rfl (lv_at hl 1 rfl) ?_
            refine lv_iload_n hx hb dX0_findPoint_33 rfl (lv_at hl 0 rfl) ?_
            rw [ejr, ejs]
            refine gx_dVv (I1 := I) (J1 := (d_pJ J2 b2 jr js)) (a1 := (d_pA J2 a2 b2 jr js)) (b1 := (d_pB J2 b2 nl nc jr js)) (As := [.int (nI jr), .int (nI js)]) (rest := []) ⟨hx, hb, hml, hown, hts⟩ G 4 (kX0_pivot l D ad cy I J2 a2 b2 H.size nl nc jr js hnl hnl2 hnc hnc2 (by omega) (by omega)) (cwV 2 hts gX0_findPoint_X0_pivot rfl rfl rfl (by decide +kernel) ⟨Nat.le_of_ble_eq_true rfl, Nat.le_of_ble_eq_true rfl⟩) (by decide) rfl rfl rfl rfl hl.1 rfl (Nat.le_of_ble_eq_true rfl) ⟨Nat.zero_le _, Nat.zero_le _⟩ dX0_findPoint_34 (fun H locs G => ?_)
            refine lv_iinc (v := (nI (i + 1))) (lv' := [(1, .int (nI (i + 1))), (3, .int (d_mend a2 b2 jr nc)), (2, .int (d_broken a2 b2 nl)), (0, .ref (ad 4))]) hx hb dX0_findPoint_37 hl (k := 3) rfl (gn_add (X := i) (Y := 1) rfl rfl) (by decide) rfl (fun ls hl => ?_)
            refine lv_goto (tgt := 2) hx hb dX0_findPoint_40 (by decide) ?_
            exact ih2  (i + 1) (d_pJ J2 b2 jr js) (d_pA J2 a2 b2 jr js) (d_pB J2 b2 nl nc jr js) _ _ _ (by omega) (by rw [h2, d_find_s nl nc _ n5]; simp only [c5, c14, er, c26, es, reduceIte]) (by omega) (gg_eq G rfl (by first | rfl | (simp only [c5, c14, er, c26, es, reduceIte]; done) | (simp [c5, c14, er, c26, es, reduceIte]; done)) (by first | rfl | (simp only [c5, c14, er, c26, es, reduceIte]; done) | (simp [c5, c14, er, c26, es, reduceIte]; done)) rfl) (lv_sub hl [3, 0] rfl)
          · skip
            refine lv_iconst (v := 0) hx hb dX0_findPoint_29 (by decide) ?_
            exact gx_zr hx hb hr hlocks G hQ (rfl) ⟨by rw [h2, d_find_s nl nc _ n5]; simp only [c5, c14, er, c26, reduceIte], by rw [h2, d_find_s nl nc _ n5]; simp only [c5, c14, er, c26, reduceIte]⟩ dX0_findPoint_30
        · skip
          refine lv_iconst (v := 1) hx hb dX0_findPoint_17 (by decide) ?_
          exact gx_zr hx hb hr hlocks G hQ (rfl) ⟨by rw [h2, d_find_s nl nc _ n5]; simp only [c5, c14, reduceIte], by rw [h2, d_find_s nl nc _ n5]; simp only [c5, c14, reduceIte]⟩ dX0_findPoint_18
  have q1 : 0 = nI 0 := by first | rfl | (simp only [reduceIte]; done) | (simp [reduceIte]; done)
  rw [q1] at hl
  exact K2 (mPV - 0 + 1) 0 J a b _ _ _ (by omega) (rfl) (Nat.lt_succ_self _) G (lv_sub hl [1, 0] rfl)

set_option maxHeartbeats 4000000 in
set_option maxRecDepth 100000 in
theorem kX0_minimise (l : Launch) (D : va_G) (ad : Nat → Nat) (cy : Nat → ClassId) (I : gF) (J : gL) (a : gF) (b : gL) (sz : Nat) (nl nc kg : Nat) (hnl : I 4 7 = nI nl) (hnl2 : nl ≤ 21) (hnc : I 4 8 = nI nc) (hnc2 : nc ≤ 5) (hkg : kg < 92) (hgs : gsh kg = .inr (0, 5, 0)) (hk15 : kg ≠ 15) (hk16 : kg ≠ 16) (hbas : d_nat (a 15) nl) (hout : d_nat (a 16) nc) : gMv l yX0_minimise wsX0_minimise ({ frames := 2, cells := 0, slots := 0, locals := 67 }) D ad cy I J a b sz [.ref (ad 4), .ref (ad kg)] (fun u => u = (I, (d_min I kg nl nc mPV (J, a, b)).1, (d_min I kg nl nc mPV (J, a, b)).2.1, (d_min I kg nl nc mPV (J, a, b)).2.2)) := by
  refine Met.ofW (cc := cX0_minimise) (maxL := 5) (ret := none) (by decide) rfl ?_
  intro p e s m args below meth c s₁ B hml hv
  obtain ⟨hargs, hsz, G⟩ := gx_begin hv
  subst hsz
  have hx := B.exec
  have hb := B.bytes
  have hr := B.returns
  have hts := atoms_spec (ws := wsX0_minimise) B.pre
  have hown : s.vm.findClass RX0 = some m.cls := findClass_of_methodNamed B.named
  have hlocks := B.notSynchronized
  have hinX0 : ∀ w ∈ wsX00, w ∈ wsX0_minimise := by decide +kernel
  have lk44 := hts (.fieldLink RX0 44 "ExactSimplex$Dictionary" "columns" "I") (by decide +kernel)
  have hl := lv_entry ([.ref (ad 4), .ref (ad kg)]) (n := 5) (Nat.le_of_ble_eq_true rfl)
  have hent := lg_entry_eq m ([.ref (ad 4), .ref (ad kg)]) 5
  rw [← hargs] at hent
  rw [hent]
  clear hent
  generalize (lg_sl ([.ref (ad 4), .ref (ad kg)]) ++ List.replicate (5 - (lg_sl ([.ref (ad 4), .ref (ad kg)])).length) Slot.unset).toArray = ls at hl ⊢
  have hl : lv_has ls 5 [(0, .ref (ad 4)), (1, .ref (ad kg))] := hl
  generalize hA : gA ad s.heap.size = A at G ⊢
  generalize hH : s.heap = H at G ⊢
  refine gx_q (fun Q hQ => ?_)
  have hPV : mPV = 100000 := rfl
  refine lv_aload_n hx hb dX0_minimise_0 rfl (lv_at hl 1 rfl) ?_
  refine gx_alen hx hb G kg (hkg) (hgs) (v := 5) rfl dX0_minimise_1 ?_
  refine lv_aload_n hx hb dX0_minimise_2 rfl (lv_at hl 0 rfl) ?_
  refine gx_get hx hb hts hinX0 hown G 4 (by decide) rfl rfl 8 (by decide) rfl lk44 rfl (v := .int (I 4 8)) rfl dX0_minimise_3 ?_
  refine lv_icmp_ge (tgt := 10) hx hb dX0_minimise_6 (by decide) (fun c6 => ?_) (fun c6 => ?_)
  · skip
    have n6 := gn_le (X := nc) (Y := 5) hnc rfl (by omega) (by omega) c6
    refine lv_iconst (v := 0) hx hb dX0_minimise_10 (by decide) ?_
    refine lv_istore_n (lv' := [(2, .int 0), (0, .ref (ad 4)), (1, .ref (ad kg))]) hx hb dX0_minimise_11 rfl hl (by decide) rfl (fun ls hl => ?_)
    have K12 : ∀ (nf : Nat) (i : Nat) (J2 : gL) (a2 : gF) (b2 : gL) (H : Heap) (locs : List Loc) (ls : Array Slot), (i ≤ mPV) → (d_min I kg nl nc mPV (J, a, b) = d_min I kg nl nc (mPV - i) (J2, a2, b2)) → (d_nat (a2 15) nl) → (d_nat (a2 16) nc) → mPV - i < nf → GG D ad cy A s I J2 a2 b2 H locs → lv_has ls 5 [(0, .ref (ad 4)), (1, .ref (ad kg)), (2, .int (nI i))] → W p l e ({ frames := 2, cells := 0, slots := 0, locals := 67 }) s m args below meth c H locs 0 0 Q (F0 m 12 ls []) := by
      intro nf
      induction nf with
      | zero => exact fun _ _ _ _ _ _ _ _ _ _ _ hz => absurd hz (Nat.not_lt_zero _)
      | succ nf ih =>
        intro i J2 a2 b2 H locs ls h1 h2 h15 h16 hmeas G hl
        have ih12 := ih
        clear ih
        refine lv_iload_n hx hb dX0_minimise_12 rfl (lv_at hl 2 rfl) ?_
        refine lv_ldc hx hb hown (hts (.constant RX0 54 100000) (by decide +kernel)) dX0_minimise_13 ?_
        refine lv_icmp_ge (tgt := 62) hx hb dX0_minimise_15 (by decide) (fun c15 => ?_) (fun c15 => ?_)
        · skip
          have n15 := gn_le (X := 100000) (Y := i) rfl rfl (by omega) (by omega) c15
          exact gx_vr hx hb hr hlocks G hQ (by rw [h2, show mPV - i = 0 by omega]; rfl) dX0_minimise_62
        · skip
          have n15 := gn_nle (X := 100000) (Y := i) rfl rfl (by omega) (by omega) c15
          refine lv_aload_n hx hb dX0_minimise_18 rfl (lv_at hl 0 rfl) ?_
          refine lv_aload_n hx hb dX0_minimise_19 rfl (lv_at hl 1 rfl) ?_
          refine gx_dVv (I1 := I) (J1 := J2) (a1 := a2) (b1 := (d_slopes I J2 a2 b2 kg nl nc)) (As := [.ref (ad kg)]) (rest := []) ⟨hx, hb, hml, hown, hts⟩ G 4 (kX0_findSlopes l D ad cy I J2 a2 b2 H.size nl nc kg hnl hnl2 hnc hnc2 hkg hgs h15 h16) (cwV 1 hts gX0_minimise_X0_findSlopes rfl rfl rfl (by decide +kernel) ⟨Nat.le_of_ble_eq_true rfl, Nat.le_of_ble_eq_true rfl⟩) (by decide) rfl rfl rfl rfl hl.1 rfl (Nat.le_of_ble_eq_true rfl) ⟨Nat.zero_le _, Nat.zero_le _⟩ dX0_minimise_20 (fun H locs G => ?_)
          generalize hb3 : d_slopes I J2 a2 b2 kg nl nc = b3 at G
          refine lv_aload_n hx hb dX0_minimise_23 rfl (lv_at hl 0 rfl) ?_
          refine gx_dVi (v := (d_fall a2 b3 nc)) (I1 := I) (J1 := J2) (a1 := a2) (b1 := b3) (As := []) (rest := []) ⟨hx, hb, hml, hown, hts⟩ G 4 (kX0_fallingColumn l D ad cy I J2 a2 b3 H.size nc hnc hnc2) (cwV 0 hts gX0_minimise_X0_fallingColumn rfl rfl rfl (by decide +kernel) ⟨Nat.le_of_ble_eq_true rfl, Nat.le_of_ble_eq_true rfl⟩) (by decide) rfl rfl rfl rfl hl.1 rfl (Nat.le_of_ble_eq_true rfl) ⟨Nat.zero_le _, Nat.zero_le _⟩ dX0_minimise_24 (fun H locs G => ?_)
          refine lv_istore_n (lv' := [(3, .int (d_fall a2 b3 nc)), (0, .ref (ad 4)), (1, .ref (ad kg)), (2, .int (nI i))]) hx hb dX0_minimise_27 rfl hl (by decide) rfl (fun ls hl => ?_)
          refine lv_iload_n hx hb dX0_minimise_28 rfl (lv_at hl 0 rfl) ?_
          refine lv_if_ge (tgt := 36) hx hb dX0_minimise_29 (by decide) (fun c29 => ?_) (fun c29 => ?_)
          · skip
            obtain ⟨js, hjs, ejs⟩ := (d_fall_ix a2 b3 nc).resolve_left (gx_notneg c29)
            have es := gx_clamp ejs (by omega)
            refine lv_aload_n hx hb dX0_minimise_36 rfl (lv_at hl 1 rfl) ?_
            refine lv_iload_n hx hb dX0_minimise_37 rfl (lv_at hl 0 rfl) ?_
            rw [ejs]
            refine gx_dVi (v := (d_stop a2 b3 js nl)) (I1 := I) (J1 := J2) (a1 := a2) (b1 := b3) (As := [.int (nI js)]) (rest := []) ⟨hx, hb, hml, hown, hts⟩ G 4 (kX0_firstStop l D ad cy I J2 a2 b3 H.size nl js hnl hnl2 (by omega)) (cwV 1 hts gX0_minimise_X0_firstStop rfl rfl rfl (by decide +kernel) ⟨Nat.le_of_ble_eq_true rfl, Nat.le_of_ble_eq_true rfl⟩) (by decide) rfl rfl rfl rfl hl.1 rfl (Nat.le_of_ble_eq_true rfl) ⟨Nat.zero_le _, Nat.zero_le _⟩ dX0_minimise_38 (fun H locs G => ?_)
            refine lv_istore (lv' := [(4, .int (d_stop a2 b3 js nl)), (3, .int (d_fall a2 b3 nc)), (0, .ref (ad 4)), (1, .ref (ad kg)), (2, .int (nI i))]) hx hb dX0_minimise_41 hl (by decide) rfl (fun ls hl => ?_)
            refine lv_iload hx hb dX0_minimise_43 (lv_at hl 0 rfl) ?_
            refine lv_if_ge (tgt := 49) hx hb dX0_minimise_45 (by decide) (fun c45 => ?_) (fun c45 => ?_)
            · skip
              obtain ⟨jr, hjr, ejr⟩ := (d_stop_ix a2 b3 js nl).resolve_left (gx_notneg c45)
              have er := gx_clamp ejr (by omega)
              refine lv_aload_n hx hb dX0_minimise_49 rfl (lv_at hl 2 rfl) ?_
              refine lv_iload hx hb dX0_minimise_50 (lv_at hl 0 rfl) ?_
              refine lv_iload_n hx hb dX0_minimise_52 rfl (lv_at hl 1 rfl) ?_
              rw [ejr, ejs]
              refine gx_dVv (I1 := I) (J1 := (d_pJ J2 b3 jr js)) (a1 := (d_pA J2 a2 b3 jr js)) (b1 := (d_pB J2 b3 nl nc jr js)) (As := [.int (nI jr), .int (nI js)]) (rest := []) ⟨hx, hb, hml, hown, hts⟩ G 4 (kX0_pivot l D ad cy I J2 a2 b3 H.size nl nc jr js hnl hnl2 hnc hnc2 (by omega) (by omega)) (cwV 2 hts gX0_minimise_X0_pivot rfl rfl rfl (by decide +kernel) ⟨Nat.le_of_ble_eq_true rfl, Nat.le_of_ble_eq_true rfl⟩) (by decide) rfl rfl rfl rfl hl.1 rfl (Nat.le_of_ble_eq_true rfl) ⟨Nat.zero_le _, Nat.zero_le _⟩ dX0_minimise_53 (fun H locs G => ?_)
              refine lv_iinc (v := (nI (i + 1))) (lv' := [(2, .int (nI (i + 1))), (4, .int (d_stop a2 b3 js nl)), (3, .int (d_fall a2 b3 nc)), (0, .ref (ad 4)), (1, .ref (ad kg))]) hx hb dX0_minimise_56 hl (k := 4) rfl (gn_add (X := i) (Y := 1) rfl rfl) (by decide) rfl (fun ls hl => ?_)
              refine lv_goto (tgt := 12) hx hb dX0_minimise_59 (by decide) ?_
              exact ih12  (i + 1) (d_pJ J2 b3 jr js) (d_pA J2 a2 b3 jr js) (d_pB J2 b3 nl nc jr js) _ _ _ (by omega) (by rw [h2, d_min_s I kg nl nc J2 a2 b2 b3 hb3 n15]; simp only [c15, c29, es, c45, er, reduceIte]) (d_pA_15 hjs h15 h16) (d_pA_16 hjr h15 h16) (by omega) G (lv_sub hl [3, 4, 0] rfl)
            · skip
              exact gx_vr hx hb hr hlocks G hQ (by rw [h2, d_min_s I kg nl nc J2 a2 b2 b3 hb3 n15]; simp only [c15, c29, es, c45, reduceIte]) dX0_minimise_48
          · skip
            refine lv_iconst (v := -1) hx hb dX0_minimise_32 (by decide) ?_
            refine lv_goto (tgt := 41) hx hb dX0_minimise_33 (by decide) ?_
            refine lv_istore (lv' := [(4, .int (-1)), (3, .int (d_fall a2 b3 nc)), (0, .ref (ad 4)), (1, .ref (ad kg)), (2, .int (nI i))]) hx hb dX0_minimise_41 hl (by decide) rfl (fun ls hl => ?_)
            refine lv_iload hx hb dX0_minimise_43 (lv_at hl 0 rfl) ?_
            refine lv_if_ge (tgt := 49) hx hb dX0_minimise_45 (by decide) (fun c45 => ?_) (fun c45 => ?_)
            · skip
              exact absurd c45 (by decide)
            · skip
              exact gx_vr hx hb hr hlocks G hQ (by rw [h2, d_min_s I kg nl nc J2 a2 b2 b3 hb3 n15]; simp only [c15, c29, c45, reduceIte]) dX0_minimise_48
    have q2 : 0 = nI 0 := by first | rfl | (simp only [c6, reduceIte]; done) | (simp [c6, reduceIte]; done)
    rw [q2] at hl
    exact K12 (mPV - 0 + 1) 0 J a b _ _ _ (by omega) (rfl) (hbas) (hout) (Nat.lt_succ_self _) G (lv_sub hl [1, 2, 0] rfl)
  · skip
    have n6 := gn_nle (X := nc) (Y := 5) hnc rfl (by omega) (by omega) c6
    exact absurd n6 (by omega)
