/-! The reference: keeps, keepsWhole, take -/
def m_kp1 (J : gL) (a : gF) (b : gL) : Nat → Nat → Int32
  | 0, _ => 1
  | n + 1, i => if b 89 i < (a 27 i).toInt64 * J 5 23 then 0 else if b 89 i ≤ (a 28 i).toInt64 * J 5 23 then m_kp1 J a b n (i + 1) else 0
theorem m_kp1_s (J : gL) (a : gF) (b : gL) {mn i : Nat} (h : i < mn) : m_kp1 J a b (mn - i) i = if b 89 i < (a 27 i).toInt64 * J 5 23 then 0 else if b 89 i ≤ (a 28 i).toInt64 * J 5 23 then m_kp1 J a b (mn - (i + 1)) (i + 1) else 0 := by
  rw [show mn - i = (mn - (i + 1)) + 1 by omega]
  rfl
def m_ks (J : gL) (a : gF) (b : gL) (r : Nat) : Nat → Int64
  | 0 => (-a 31 r).toInt64 * J 5 23
  | n + 1 => m_ks J a b r n + (a 32 ((5 * r) + n)).toInt64 * b 89 n
def m_g2 (s : Int32) (T : Int64) (nx : Int32) : Int32 := if s = 2 then if 0 ≤ T then nx else 0 else nx
def m_g1 (s : Int32) (T : Int64) (nx : Int32) : Int32 := if s = 1 then if T = 0 then m_g2 s T nx else 0 else m_g2 s T nx
def m_g0 (s : Int32) (T : Int64) (nx : Int32) : Int32 := if s = 0 then if 0 < T then 0 else m_g1 s T nx else m_g1 s T nx
def m_kp2 (J : gL) (a : gF) (b : gL) (set : Int32) (mn : Nat) : Nat → Nat → Int32
  | 0, _ => 1
  | n + 1, r => if (set >>> (nI r &&& 31)) &&& 1 = 0 then m_kp2 J a b set mn n (r + 1) else m_g0 (a 30 r) (m_ks J a b r mn) (m_kp2 J a b set mn n (r + 1))
theorem m_kp2_s (J : gL) (a : gF) (b : gL) (set : Int32) (mn : Nat) {mr r : Nat} (h : r < mr) : m_kp2 J a b set mn (mr - r) r = if (set >>> (nI r &&& 31)) &&& 1 = 0 then m_kp2 J a b set mn (mr - (r + 1)) (r + 1) else m_g0 (a 30 r) (m_ks J a b r mn) (m_kp2 J a b set mn (mr - (r + 1)) (r + 1)) := by
  rw [show mr - r = (mr - (r + 1)) + 1 by omega]
  rfl
def m_keeps (J : gL) (a : gF) (b : gL) (set : Int32) (mn mr : Nat) : Int32 := if m_kp1 J a b mn 0 = 0 then 0 else m_kp2 J a b set mn mr 0
theorem m_kp1_0 {J : gL} {a : gF} {b : gL} {set : Int32} {mn mr : Nat} (h : m_kp1 J a b mn 0 = 0) : (0 : Int32) = m_keeps J a b set mn mr := by
  unfold m_keeps
  rw [if_pos h]
theorem m_kp1_1 {J : gL} {a : gF} {b : gL} {set : Int32} {mn mr : Nat} (h : m_kp1 J a b mn 0 = 1) : m_keeps J a b set mn mr = m_kp2 J a b set mn mr 0 := by
  unfold m_keeps
  rw [if_neg (by rw [h]; decide)]
def m_ws (a : gF) (r : Nat) : Nat → Int32
  | 0 => -a 31 r
  | n + 1 => m_ws a r n + a 32 ((5 * r) + n) * a 90 n
def m_h2 (s T nx : Int32) : Int32 := if s = 2 then if 0 ≤ T then nx else 0 else nx
def m_h1 (s T nx : Int32) : Int32 := if s = 1 then if T = 0 then m_h2 s T nx else 0 else m_h2 s T nx
def m_h0 (s T nx : Int32) : Int32 := if s = 0 then if 0 < T then 0 else m_h1 s T nx else m_h1 s T nx
def m_kw (a : gF) (mn : Nat) : Nat → Nat → Int32
  | 0, _ => 1
  | n + 1, r => if a 33 r = 0 then m_kw a mn n (r + 1) else m_h0 (a 30 r) (m_ws a r mn) (m_kw a mn n (r + 1))
theorem m_kw_s (a : gF) (mn : Nat) {mr r : Nat} (h : r < mr) : m_kw a mn (mr - r) r = if a 33 r = 0 then m_kw a mn (mr - (r + 1)) (r + 1) else m_h0 (a 30 r) (m_ws a r mn) (m_kw a mn (mr - (r + 1)) (r + 1)) := by
  rw [show mr - r = (mr - (r + 1)) + 1 by omega]
  rfl

set_option maxHeartbeats 4000000 in
set_option maxRecDepth 100000 in
theorem kX5_keeps (l : Launch) (D : va_G) (ad : Nat → Nat) (cy : Nat → ClassId) (I : gF) (J : gL) (a : gF) (b : gL) (sz : Nat) (mn mr : Nat) (set : Int32) (hmn : I 5 0 = nI mn) (hmn2 : mn ≤ 5) (hmr : I 5 1 = nI mr) (hmr2 : mr ≤ 8) : gMi l yX5_keeps wsX5_keeps ({ frames := 0, cells := 0, slots := 0, locals := 0 }) D ad cy I J a b sz [.ref (ad 5), .int set] (fun res u => res = m_keeps J a b set mn mr ∧ u = (I, J, a, b)) := by
  refine Met.ofW (cc := cX5_keeps) (maxL := 6) (ret := some .boolean) (by decide) rfl ?_
  intro p e s m args below meth c s₁ B hml hv
  obtain ⟨hargs, hsz, G⟩ := gx_begin hv
  subst hsz
  have hx := B.exec
  have hb := B.bytes
  have hr := B.returns
  have hts := atoms_spec (ws := wsX5_keeps) B.pre
  have hown : s.vm.findClass RX5 = some m.cls := findClass_of_methodNamed B.named
  have hlocks := B.notSynchronized
  have hinX5 : ∀ w ∈ wsX50, w ∈ wsX5_keeps := by decide +kernel
  have lk7 := hts (.fieldLink RX5 7 "ExactSimplexModel" "low" "[I") (by decide +kernel)
  have lk13 := hts (.fieldLink RX5 13 "ExactSimplexModel" "high" "[I") (by decide +kernel)
  have lk19 := hts (.fieldLink RX5 19 "ExactSimplexModel" "sense" "[I") (by decide +kernel)
  have lk22 := hts (.fieldLink RX5 22 "ExactSimplexModel" "rights" "[I") (by decide +kernel)
  have lk25 := hts (.fieldLink RX5 25 "ExactSimplexModel" "factors" "[I") (by decide +kernel)
  have lk57 := hts (.fieldLink RX5 57 "ExactSimplexModel" "over" "[J") (by decide +kernel)
  have lk66 := hts (.fieldLink RX5 66 "ExactSimplexModel" "names" "I") (by decide +kernel)
  have lk74 := hts (.fieldLink RX5 74 "ExactSimplexModel" "under" "J") (by decide +kernel)
  have lk78 := hts (.fieldLink RX5 78 "ExactSimplexModel" "rows" "I") (by decide +kernel)
  have hl := lv_entry ([.ref (ad 5), .int set]) (n := 6) (Nat.le_of_ble_eq_true rfl)
  have hent := lg_entry_eq m ([.ref (ad 5), .int set]) 6
  rw [← hargs] at hent
  rw [hent]
  clear hent
  generalize (lg_sl ([.ref (ad 5), .int set]) ++ List.replicate (6 - (lg_sl ([.ref (ad 5), .int set])).length) Slot.unset).toArray = ls at hl ⊢
  have hl : lv_has ls 6 [(0, .ref (ad 5)), (1, .int set)] := hl
  generalize hA : gA ad s.heap.size = A at G ⊢
  generalize hH : s.heap = H at G ⊢
  refine gx_q (fun Q hQ => ?_)
  refine lv_iconst (v := 0) hx hb dX5_keeps_0 (by decide) ?_
  refine lv_istore_n (lv' := [(2, .int 0), (0, .ref (ad 5)), (1, .int set)]) hx hb dX5_keeps_1 rfl hl (by decide) rfl (fun ls hl => ?_)
  have K2 : ∀ (nf : Nat) (r : Nat) (H : Heap) (locs : List Loc) (ls : Array Slot), (r ≤ mn) → (m_kp1 J a b mn 0 = m_kp1 J a b (mn - r) r) → mn - r < nf → GG D ad cy A s I J a b H locs → lv_has ls 6 [(0, .ref (ad 5)), (1, .int set), (2, .int (nI r))] → W p l e ({ frames := 0, cells := 0, slots := 0, locals := 0 }) s m args below meth c H locs 0 0 Q (F0 m 2 ls []) := by
    intro nf
    induction nf with
    | zero => exact fun _ _ _ _ _ _ hz => absurd hz (Nat.not_lt_zero _)
    | succ nf ih =>
      intro r H locs ls h1 h2 hmeas G hl
      have ih2 := ih
      clear ih
      refine lv_iload_n hx hb dX5_keeps_2 rfl (lv_at hl 2 rfl) ?_
      refine lv_aload_n hx hb dX5_keeps_3 rfl (lv_at hl 0 rfl) ?_
      refine gx_get hx hb hts hinX5 hown G 5 (by decide) rfl rfl 0 (by decide) rfl lk66 rfl (v := .int (I 5 0)) rfl dX5_keeps_4 ?_
      refine lv_icmp_ge (tgt := 62) hx hb dX5_keeps_7 (by decide) (fun c7 => ?_) (fun c7 => ?_)
      · skip
        have n7 := gn_le (X := mn) (Y := r) hmn rfl (by omega) (by omega) c7
        have hk1 : m_kp1 J a b mn 0 = 1 := by rw [h2, show mn - r = 0 by omega]; rfl
        have hk2 := m_kp1_1 (set := set) (mr := mr) hk1
        refine lv_iconst (v := 0) hx hb dX5_keeps_62 (by decide) ?_
        refine lv_istore_n (lv' := [(2, .int 0), (0, .ref (ad 5)), (1, .int set)]) hx hb dX5_keeps_63 rfl hl (by decide) rfl (fun ls hl => ?_)
        have K64 : ∀ (nf : Nat) (r : Nat) (H : Heap) (locs : List Loc) (ls : Array Slot), (r ≤ mr) → (m_kp2 J a b set mn mr 0 = m_kp2 J a b set mn (mr - r) r) → mr - r < nf → GG D ad cy A s I J a b H locs → lv_has ls 6 [(0, .ref (ad 5)), (1, .int set), (2, .int (nI r))] → W p l e ({ frames := 0, cells := 0, slots := 0, locals := 0 }) s m args below meth c H locs 0 0 Q (F0 m 64 ls []) := by
          intro nf
          induction nf with
          | zero => exact fun _ _ _ _ _ _ hz => absurd hz (Nat.not_lt_zero _)
          | succ nf ih =>
            intro r H locs ls h3 h4 hmeas G hl
            have ih64 := ih
            clear ih
            refine lv_iload_n hx hb dX5_keeps_64 rfl (lv_at hl 2 rfl) ?_
            refine lv_aload_n hx hb dX5_keeps_65 rfl (lv_at hl 0 rfl) ?_
            refine gx_get hx hb hts hinX5 hown G 5 (by decide) rfl rfl 1 (by decide) rfl lk78 rfl (v := .int (I 5 1)) rfl dX5_keeps_66 ?_
            refine lv_icmp_ge (tgt := 193) hx hb dX5_keeps_69 (by decide) (fun c69 => ?_) (fun c69 => ?_)
            · skip
              have n69 := gn_le (X := mr) (Y := r) hmr rfl (by omega) (by omega) c69
              refine lv_iconst (v := 1) hx hb dX5_keeps_193 (by decide) ?_
              exact gx_zr hx hb hr hlocks G hQ (rfl) ⟨by rw [hk2, h4, show mr - r = 0 by omega]; rfl, rfl⟩ dX5_keeps_194
            · skip
              have n69 := gn_nle (X := mr) (Y := r) hmr rfl (by omega) (by omega) c69
              refine lv_iload_n hx hb dX5_keeps_72 rfl (lv_at hl 1 rfl) ?_
              refine lv_iload_n hx hb dX5_keeps_73 rfl (lv_at hl 2 rfl) ?_
              refine lv_ishr hx hb dX5_keeps_74 ?_
              refine lv_iconst (v := 1) hx hb dX5_keeps_75 (by decide) ?_
              refine lv_iand hx hb dX5_keeps_76 ?_
              refine lv_if_ne (tgt := 83) hx hb dX5_keeps_77 (by decide) (fun c77 => ?_) (fun c77 => ?_)
              · skip
                refine lv_aload_n hx hb dX5_keeps_83 rfl (lv_at hl 0 rfl) ?_
                refine gx_get hx hb hts hinX5 hown G 5 (by decide) rfl rfl 6 (by decide) rfl lk22 rfl (v := .ref (ad 31)) rfl dX5_keeps_84 ?_
                refine lv_iload_n hx hb dX5_keeps_87 rfl (lv_at hl 2 rfl) ?_
                refine gx_iald hx hb G 31 (by decide) (rfl) (by decide) r rfl (by omega) dX5_keeps_88 ?_
                refine lv_ineg hx hb dX5_keeps_89 ?_
                refine lv_i2l (v := (-(a 31 r)).toInt64) hx hb dX5_keeps_90 rfl ?_
                refine lv_aload_n hx hb dX5_keeps_91 rfl (lv_at hl 0 rfl) ?_
                refine gx_get hx hb hts hinX5 hown G 5 (by decide) rfl rfl 23 (by decide) rfl lk74 rfl (v := .long (J 5 23)) rfl dX5_keeps_92 ?_
                refine lv_lmul hx hb dX5_keeps_95 ?_
                refine lv_lstore_n (lv' := [(3, .long (((-(a 31 r)).toInt64) * (J 5 23))), (0, .ref (ad 5)), (1, .int set), (2, .int (nI r))]) hx hb dX5_keeps_96 rfl hl (by decide) rfl (fun ls hl => ?_)
                refine lv_iconst (v := 0) hx hb dX5_keeps_97 (by decide) ?_
                refine lv_istore (lv' := [(5, .int 0), (3, .long (((-(a 31 r)).toInt64) * (J 5 23))), (0, .ref (ad 5)), (1, .int set), (2, .int (nI r))]) hx hb dX5_keeps_98 hl (by decide) rfl (fun ls hl => ?_)
                have K100 : ∀ (nf : Nat) (q : Nat) (H : Heap) (locs : List Loc) (ls : Array Slot), (q ≤ mn) → mn - q < nf → GG D ad cy A s I J a b H locs → lv_has ls 6 [(0, .ref (ad 5)), (1, .int set), (2, .int (nI r)), (3, .long (m_ks J a b r q)), (5, .int (nI q))] → W p l e ({ frames := 0, cells := 0, slots := 0, locals := 0 }) s m args below meth c H locs 0 0 Q (F0 m 100 ls []) := by
                  intro nf
                  induction nf with
                  | zero => exact fun _ _ _ _ _ hz => absurd hz (Nat.not_lt_zero _)
                  | succ nf ih =>
                    intro q H locs ls h5 hmeas G hl
                    have ih100 := ih
                    clear ih
                    refine lv_iload hx hb dX5_keeps_100 (lv_at hl 4 rfl) ?_
                    refine lv_aload_n hx hb dX5_keeps_102 rfl (lv_at hl 0 rfl) ?_
                    refine gx_get hx hb hts hinX5 hown G 5 (by decide) rfl rfl 0 (by decide) rfl lk66 rfl (v := .int (I 5 0)) rfl dX5_keeps_103 ?_
                    refine lv_icmp_ge (tgt := 138) hx hb dX5_keeps_106 (by decide) (fun c106 => ?_) (fun c106 => ?_)
                    · skip
                      have n106 := gn_le (X := mn) (Y := q) hmn rfl (by omega) (by omega) c106
                      have hex : q = mn := by omega
                      rw [hex] at hl
                      refine lv_aload_n hx hb dX5_keeps_138 rfl (lv_at hl 0 rfl) ?_
                      refine gx_get hx hb hts hinX5 hown G 5 (by decide) rfl rfl 5 (by decide) rfl lk19 rfl (v := .ref (ad 30)) rfl dX5_keeps_139 ?_
                      refine lv_iload_n hx hb dX5_keeps_142 rfl (lv_at hl 2 rfl) ?_
                      refine gx_iald hx hb G 30 (by decide) (rfl) (by decide) r rfl (by omega) dX5_keeps_143 ?_
                      refine lv_if_ne (tgt := 153) hx hb dX5_keeps_144 (by decide) (fun c144 => ?_) (fun c144 => ?_)
                      · skip
                        refine lv_aload_n hx hb dX5_keeps_153 rfl (lv_at hl 0 rfl) ?_
                        refine gx_get hx hb hts hinX5 hown G 5 (by decide) rfl rfl 5 (by decide) rfl lk19 rfl (v := .ref (ad 30)) rfl dX5_keeps_154 ?_
                        refine lv_iload_n hx hb dX5_keeps_157 rfl (lv_at hl 2 rfl) ?_
                        refine gx_iald hx hb G 30 (by decide) (rfl) (by decide) r rfl (by omega) dX5_keeps_158 ?_
                        refine lv_iconst (v := 1) hx hb dX5_keeps_159 (by decide) ?_
                        refine lv_icmp_ne (tgt := 169) hx hb dX5_keeps_160 (by decide) (fun c160 => ?_) (fun c160 => ?_)
                        · skip
                          refine lv_aload_n hx hb dX5_keeps_169 rfl (lv_at hl 0 rfl) ?_
                          refine gx_get hx hb hts hinX5 hown G 5 (by decide) rfl rfl 5 (by decide) rfl lk19 rfl (v := .ref (ad 30)) rfl dX5_keeps_170 ?_
                          refine lv_iload_n hx hb dX5_keeps_173 rfl (lv_at hl 2 rfl) ?_
                          refine gx_iald hx hb G 30 (by decide) (rfl) (by decide) r rfl (by omega) dX5_keeps_174 ?_
                          refine lv_iconst (v := 2) hx hb dX5_keeps_175 (by decide) ?_
                          refine lv_icmp_ne (tgt := 187) hx hb dX5_keeps_176 (by decide) (fun c176 => ?_) (fun c176 => ?_)
                          · skip
                            refine lv_iinc (v := (nI (r + 1))) (lv' := [(2, .int (nI (r + 1))), (0, .ref (ad 5)), (1, .int set), (3, .long (m_ks J a b r mn)), (5, .int (nI mn))]) hx hb dX5_keeps_187 hl (k := 2) rfl (gn_add (X := r) (Y := 1) rfl rfl) (by decide) rfl (fun ls hl => ?_)
                            refine lv_goto (tgt := 64) hx hb dX5_keeps_190 (by decide) ?_
                            exact ih64  (r + 1) _ _ _ (by omega) (by rw [h4, m_kp2_s J a b set mn n69]; (try unfold m_g0 m_g1 m_g2); (repeat (first | rw [if_pos c7] | rw [if_neg c69] | rw [if_neg c77] | rw [if_pos c106] | rw [if_neg c144] | rw [if_neg c160] | rw [if_neg c176]))) (by omega) G (lv_sub hl [1, 2, 0] rfl)
                          · skip
                            refine lv_lload_n hx hb dX5_keeps_179 rfl (lv_at hl 3 rfl) ?_
                            refine lv_lconst (v := 0) hx hb dX5_keeps_180 (by decide) ?_
                            refine gx_lc_ge (tgt := 187) hx hb dX5_keeps_181 dX5_keeps_182 (by decide) (fun c182 => ?_) (fun c182 => ?_)
                            · skip
                              refine lv_iinc (v := (nI (r + 1))) (lv' := [(2, .int (nI (r + 1))), (0, .ref (ad 5)), (1, .int set), (3, .long (m_ks J a b r mn)), (5, .int (nI mn))]) hx hb dX5_keeps_187 hl (k := 2) rfl (gn_add (X := r) (Y := 1) rfl rfl) (by decide) rfl (fun ls hl => ?_)
                              refine lv_goto (tgt := 64) hx hb dX5_keeps_190 (by decide) ?_
                              exact ih64  (r + 1) _ _ _ (by omega) (by rw [h4, m_kp2_s J a b set mn n69]; (try unfold m_g0 m_g1 m_g2); (repeat (first | rw [if_pos c7] | rw [if_neg c69] | rw [if_neg c77] | rw [if_pos c106] | rw [if_neg c144] | rw [if_neg c160] | rw [if_pos c176] | rw [if_pos c182]))) (by omega) G (lv_sub hl [1, 2, 0] rfl)
                            · skip
                              refine lv_iconst (v := 0) hx hb dX5_keeps_185 (by decide) ?_
                              exact gx_zr hx hb hr hlocks G hQ (rfl) ⟨by rw [hk2]; rw [h4, m_kp2_s J a b set mn n69]; (try unfold m_g0 m_g1 m_g2); (repeat (first | rw [if_pos c7] | rw [if_neg c69] | rw [if_neg c77] | rw [if_pos c106] | rw [if_neg c144] | rw [if_neg c160] | rw [if_pos c176] | rw [if_neg c182])), rfl⟩ dX5_keeps_186
                        · skip
                          refine lv_lload_n hx hb dX5_keeps_163 rfl (lv_at hl 3 rfl) ?_
                          refine lv_lconst (v := 0) hx hb dX5_keeps_164 (by decide) ?_
                          refine gx_lc_ne (tgt := 185) hx hb dX5_keeps_165 dX5_keeps_166 (by decide) (fun c166 => ?_) (fun c166 => ?_)
                          · skip
                            refine lv_iconst (v := 0) hx hb dX5_keeps_185 (by decide) ?_
                            exact gx_zr hx hb hr hlocks G hQ (rfl) ⟨by rw [hk2]; rw [h4, m_kp2_s J a b set mn n69]; (try unfold m_g0 m_g1 m_g2); (repeat (first | rw [if_pos c7] | rw [if_neg c69] | rw [if_neg c77] | rw [if_pos c106] | rw [if_neg c144] | rw [if_pos c160] | rw [if_neg c166])), rfl⟩ dX5_keeps_186
                          · skip
                            refine lv_aload_n hx hb dX5_keeps_169 rfl (lv_at hl 0 rfl) ?_
                            refine gx_get hx hb hts hinX5 hown G 5 (by decide) rfl rfl 5 (by decide) rfl lk19 rfl (v := .ref (ad 30)) rfl dX5_keeps_170 ?_
                            refine lv_iload_n hx hb dX5_keeps_173 rfl (lv_at hl 2 rfl) ?_
                            refine gx_iald hx hb G 30 (by decide) (rfl) (by decide) r rfl (by omega) dX5_keeps_174 ?_
                            refine lv_iconst (v := 2) hx hb dX5_keeps_175 (by decide) ?_
                            refine lv_icmp_ne (tgt := 187) hx hb dX5_keeps_176 (by decide) (fun c176 => ?_) (fun c176 => ?_)
                            · skip
                              refine lv_iinc (v := (nI (r + 1))) (lv' := [(2, .int (nI (r + 1))), (0, .ref (ad 5)), (1, .int set), (3, .long (m_ks J a b r mn)), (5, .int (nI mn))]) hx hb dX5_keeps_187 hl (k := 2) rfl (gn_add (X := r) (Y := 1) rfl rfl) (by decide) rfl (fun ls hl => ?_)
                              refine lv_goto (tgt := 64) hx hb dX5_keeps_190 (by decide) ?_
                              exact ih64  (r + 1) _ _ _ (by omega) (by rw [h4, m_kp2_s J a b set mn n69]; (try unfold m_g0 m_g1 m_g2); (repeat (first | rw [if_pos c7] | rw [if_neg c69] | rw [if_neg c77] | rw [if_pos c106] | rw [if_neg c144] | rw [if_pos c160] | rw [if_pos c166] | rw [if_neg c176]))) (by omega) G (lv_sub hl [1, 2, 0] rfl)
                            · skip
                              exact absurd (c160.symm.trans c176) (by decide)
                      · skip
                        refine lv_lload_n hx hb dX5_keeps_147 rfl (lv_at hl 3 rfl) ?_
                        refine lv_lconst (v := 0) hx hb dX5_keeps_148 (by decide) ?_
                        refine gx_lc_gt (tgt := 185) hx hb dX5_keeps_149 dX5_keeps_150 (by decide) (fun c150 => ?_) (fun c150 => ?_)
                        · skip
                          refine lv_iconst (v := 0) hx hb dX5_keeps_185 (by decide) ?_
                          exact gx_zr hx hb hr hlocks G hQ (rfl) ⟨by rw [hk2]; rw [h4, m_kp2_s J a b set mn n69]; (try unfold m_g0 m_g1 m_g2); (repeat (first | rw [if_pos c7] | rw [if_neg c69] | rw [if_neg c77] | rw [if_pos c106] | rw [if_pos c144] | rw [if_pos c150])), rfl⟩ dX5_keeps_186
                        · skip
                          refine lv_aload_n hx hb dX5_keeps_153 rfl (lv_at hl 0 rfl) ?_
                          refine gx_get hx hb hts hinX5 hown G 5 (by decide) rfl rfl 5 (by decide) rfl lk19 rfl (v := .ref (ad 30)) rfl dX5_keeps_154 ?_
                          refine lv_iload_n hx hb dX5_keeps_157 rfl (lv_at hl 2 rfl) ?_
                          refine gx_iald hx hb G 30 (by decide) (rfl) (by decide) r rfl (by omega) dX5_keeps_158 ?_
                          refine lv_iconst (v := 1) hx hb dX5_keeps_159 (by decide) ?_
                          refine lv_icmp_ne (tgt := 169) hx hb dX5_keeps_160 (by decide) (fun c160 => ?_) (fun c160 => ?_)
                          · skip
                            refine lv_aload_n hx hb dX5_keeps_169 rfl (lv_at hl 0 rfl) ?_
                            refine gx_get hx hb hts hinX5 hown G 5 (by decide) rfl rfl 5 (by decide) rfl lk19 rfl (v := .ref (ad 30)) rfl dX5_keeps_170 ?_
                            refine lv_iload_n hx hb dX5_keeps_173 rfl (lv_at hl 2 rfl) ?_
                            refine gx_iald hx hb G 30 (by decide) (rfl) (by decide) r rfl (by omega) dX5_keeps_174 ?_
                            refine lv_iconst (v := 2) hx hb dX5_keeps_175 (by decide) ?_
                            refine lv_icmp_ne (tgt := 187) hx hb dX5_keeps_176 (by decide) (fun c176 => ?_) (fun c176 => ?_)
                            · skip
                              refine lv_iinc (v := (nI (r + 1))) (lv' := [(2, .int (nI (r + 1))), (0, .ref (ad 5)), (1, .int set), (3, .long (m_ks J a b r mn)), (5, .int (nI mn))]) hx hb dX5_keeps_187 hl (k := 2) rfl (gn_add (X := r) (Y := 1) rfl rfl) (by decide) rfl (fun ls hl => ?_)
                              refine lv_goto (tgt := 64) hx hb dX5_keeps_190 (by decide) ?_
                              exact ih64  (r + 1) _ _ _ (by omega) (by rw [h4, m_kp2_s J a b set mn n69]; (try unfold m_g0 m_g1 m_g2); (repeat (first | rw [if_pos c7] | rw [if_neg c69] | rw [if_neg c77] | rw [if_pos c106] | rw [if_pos c144] | rw [if_neg c150] | rw [if_neg c160] | rw [if_neg c176]))) (by omega) G (lv_sub hl [1, 2, 0] rfl)
                            · skip
                              exact absurd (c144.symm.trans c176) (by decide)
                          · skip
                            exact absurd (c144.symm.trans c160) (by decide)
                    · skip
                      have n106 := gn_nle (X := mn) (Y := q) hmn rfl (by omega) (by omega) c106
                      refine lv_lload_n hx hb dX5_keeps_109 rfl (lv_at hl 3 rfl) ?_
                      refine lv_aload_n hx hb dX5_keeps_110 rfl (lv_at hl 0 rfl) ?_
                      refine gx_get hx hb hts hinX5 hown G 5 (by decide) rfl rfl 7 (by decide) rfl lk25 rfl (v := .ref (ad 32)) rfl dX5_keeps_111 ?_
                      refine lv_iconst (v := 5) hx hb dX5_keeps_114 (by decide) ?_
                      refine lv_iload_n hx hb dX5_keeps_115 rfl (lv_at hl 2 rfl) ?_
                      refine lv_imul hx hb dX5_keeps_116 ?_
                      refine lv_iload hx hb dX5_keeps_117 (lv_at hl 4 rfl) ?_
                      refine lv_iadd hx hb dX5_keeps_119 ?_
                      refine gx_iald hx hb G 32 (by decide) (rfl) (by decide) ((5 * r) + q) (gn_add (gn_mul rfl rfl) rfl) (by omega) dX5_keeps_120 ?_
                      refine lv_i2l (v := (a 32 ((5 * r) + q)).toInt64) hx hb dX5_keeps_121 rfl ?_
                      refine lv_aload_n hx hb dX5_keeps_122 rfl (lv_at hl 0 rfl) ?_
                      refine gx_get hx hb hts hinX5 hown G 5 (by decide) rfl rfl 22 (by decide) rfl lk57 rfl (v := .ref (ad 89)) rfl dX5_keeps_123 ?_
                      refine lv_iload hx hb dX5_keeps_126 (lv_at hl 4 rfl) ?_
                      refine gx_lald hx hb G 89 (by decide) (rfl) (by decide) q rfl (by omega) dX5_keeps_128 ?_
                      refine lv_lmul hx hb dX5_keeps_129 ?_
                      refine lv_ladd hx hb dX5_keeps_130 ?_
                      refine lv_lstore_n (lv' := [(3, .long ((m_ks J a b r q) + (((a 32 ((5 * r) + q)).toInt64) * (b 89 q)))), (0, .ref (ad 5)), (1, .int set), (2, .int (nI r)), (5, .int (nI q))]) hx hb dX5_keeps_131 rfl hl (by decide) rfl (fun ls hl => ?_)
                      refine lv_iinc (v := (nI (q + 1))) (lv' := [(5, .int (nI (q + 1))), (3, .long ((m_ks J a b r q) + (((a 32 ((5 * r) + q)).toInt64) * (b 89 q)))), (0, .ref (ad 5)), (1, .int set), (2, .int (nI r))]) hx hb dX5_keeps_132 hl (k := 4) rfl (gn_add (X := q) (Y := 1) rfl rfl) (by decide) rfl (fun ls hl => ?_)
                      refine lv_goto (tgt := 100) hx hb dX5_keeps_135 (by decide) ?_
                      have q3 : (m_ks J a b r q) + (((a 32 ((5 * r) + q)).toInt64) * (b 89 q)) = m_ks J a b r (q + 1) := rfl
                      rw [q3] at hl
                      exact ih100  (q + 1) _ _ _ (by omega) (by omega) G (lv_sub hl [2, 3, 4, 1, 0] rfl)
                have q3 : ((-(a 31 r)).toInt64) * (J 5 23) = m_ks J a b r 0 := rfl
                rw [q3] at hl
                exact K100 (mn - 0 + 1) 0 _ _ _ (by omega) (Nat.lt_succ_self _) G (lv_sub hl [2, 3, 4, 1, 0] rfl)
              · skip
                refine lv_goto (tgt := 187) hx hb dX5_keeps_80 (by decide) ?_
                refine lv_iinc (v := (nI (r + 1))) (lv' := [(2, .int (nI (r + 1))), (0, .ref (ad 5)), (1, .int set)]) hx hb dX5_keeps_187 hl (k := 2) rfl (gn_add (X := r) (Y := 1) rfl rfl) (by decide) rfl (fun ls hl => ?_)
                refine lv_goto (tgt := 64) hx hb dX5_keeps_190 (by decide) ?_
                exact ih64  (r + 1) _ _ _ (by omega) (by rw [h4, m_kp2_s J a b set mn n69]; (try unfold m_g0 m_g1 m_g2); (repeat (first | rw [if_pos c7] | rw [if_neg c69] | rw [if_pos c77]))) (by omega) G (lv_sub hl [1, 2, 0] rfl)
        exact K64 (mr - 0 + 1) 0 _ _ _ (by omega) (rfl) (Nat.lt_succ_self _) G (lv_sub hl [1, 2, 0] rfl)
      · skip
        have n7 := gn_nle (X := mn) (Y := r) hmn rfl (by omega) (by omega) c7
        refine lv_aload_n hx hb dX5_keeps_10 rfl (lv_at hl 0 rfl) ?_
        refine gx_get hx hb hts hinX5 hown G 5 (by decide) rfl rfl 22 (by decide) rfl lk57 rfl (v := .ref (ad 89)) rfl dX5_keeps_11 ?_
        refine lv_iload_n hx hb dX5_keeps_14 rfl (lv_at hl 2 rfl) ?_
        refine gx_lald hx hb G 89 (by decide) (rfl) (by decide) r rfl (by omega) dX5_keeps_15 ?_
        refine lv_aload_n hx hb dX5_keeps_16 rfl (lv_at hl 0 rfl) ?_
        refine gx_get hx hb hts hinX5 hown G 5 (by decide) rfl rfl 2 (by decide) rfl lk7 rfl (v := .ref (ad 27)) rfl dX5_keeps_17 ?_
        refine lv_iload_n hx hb dX5_keeps_20 rfl (lv_at hl 2 rfl) ?_
        refine gx_iald hx hb G 27 (by decide) (rfl) (by decide) r rfl (by omega) dX5_keeps_21 ?_
        refine lv_i2l (v := (a 27 r).toInt64) hx hb dX5_keeps_22 rfl ?_
        refine lv_aload_n hx hb dX5_keeps_23 rfl (lv_at hl 0 rfl) ?_
        refine gx_get hx hb hts hinX5 hown G 5 (by decide) rfl rfl 23 (by decide) rfl lk74 rfl (v := .long (J 5 23)) rfl dX5_keeps_24 ?_
        refine lv_lmul hx hb dX5_keeps_27 ?_
        refine gx_lc_lt (tgt := 54) hx hb dX5_keeps_28 dX5_keeps_29 (by decide) (fun c29 => ?_) (fun c29 => ?_)
        · skip
          refine lv_iconst (v := 0) hx hb dX5_keeps_54 (by decide) ?_
          exact gx_zr hx hb hr hlocks G hQ (rfl) ⟨m_kp1_0 (by rw [h2, m_kp1_s J a b n7]; (repeat (first | rw [if_neg c7] | rw [if_pos c29]))), rfl⟩ dX5_keeps_55
        · skip
          refine lv_aload_n hx hb dX5_keeps_32 rfl (lv_at hl 0 rfl) ?_
          refine gx_get hx hb hts hinX5 hown G 5 (by decide) rfl rfl 22 (by decide) rfl lk57 rfl (v := .ref (ad 89)) rfl dX5_keeps_33 ?_
          refine lv_iload_n hx hb dX5_keeps_36 rfl (lv_at hl 2 rfl) ?_
          refine gx_lald hx hb G 89 (by decide) (rfl) (by decide) r rfl (by omega) dX5_keeps_37 ?_
          refine lv_aload_n hx hb dX5_keeps_38 rfl (lv_at hl 0 rfl) ?_
          refine gx_get hx hb hts hinX5 hown G 5 (by decide) rfl rfl 3 (by decide) rfl lk13 rfl (v := .ref (ad 28)) rfl dX5_keeps_39 ?_
          refine lv_iload_n hx hb dX5_keeps_42 rfl (lv_at hl 2 rfl) ?_
          refine gx_iald hx hb G 28 (by decide) (rfl) (by decide) r rfl (by omega) dX5_keeps_43 ?_
          refine lv_i2l (v := (a 28 r).toInt64) hx hb dX5_keeps_44 rfl ?_
          refine lv_aload_n hx hb dX5_keeps_45 rfl (lv_at hl 0 rfl) ?_
          refine gx_get hx hb hts hinX5 hown G 5 (by decide) rfl rfl 23 (by decide) rfl lk74 rfl (v := .long (J 5 23)) rfl dX5_keeps_46 ?_
          refine lv_lmul hx hb dX5_keeps_49 ?_
          refine gx_lc_le (tgt := 56) hx hb dX5_keeps_50 dX5_keeps_51 (by decide) (fun c51 => ?_) (fun c51 => ?_)
          · skip
            refine lv_iinc (v := (nI (r + 1))) (lv' := [(2, .int (nI (r + 1))), (0, .ref (ad 5)), (1, .int set)]) hx hb dX5_keeps_56 hl (k := 2) rfl (gn_add (X := r) (Y := 1) rfl rfl) (by decide) rfl (fun ls hl => ?_)
            refine lv_goto (tgt := 2) hx hb dX5_keeps_59 (by decide) ?_
            exact ih2  (r + 1) _ _ _ (by omega) (by rw [h2, m_kp1_s J a b n7]; (repeat (first | rw [if_neg c7] | rw [if_neg c29] | rw [if_pos c51]))) (by omega) G (lv_sub hl [1, 2, 0] rfl)
          · skip
            refine lv_iconst (v := 0) hx hb dX5_keeps_54 (by decide) ?_
            exact gx_zr hx hb hr hlocks G hQ (rfl) ⟨m_kp1_0 (by rw [h2, m_kp1_s J a b n7]; (repeat (first | rw [if_neg c7] | rw [if_neg c29] | rw [if_neg c51]))), rfl⟩ dX5_keeps_55
  exact K2 (mn - 0 + 1) 0 _ _ _ (by omega) (rfl) (Nat.lt_succ_self _) G (lv_sub hl [1, 2, 0] rfl)

set_option maxHeartbeats 4000000 in
set_option maxRecDepth 100000 in
theorem kX5_keepsWhole (l : Launch) (D : va_G) (ad : Nat → Nat) (cy : Nat → ClassId) (I : gF) (J : gL) (a : gF) (b : gL) (sz : Nat) (mn mr : Nat) (hmn : I 5 0 = nI mn) (hmn2 : mn ≤ 5) (hmr : I 5 1 = nI mr) (hmr2 : mr ≤ 8) : gMi l yX5_keepsWhole wsX5_keepsWhole ({ frames := 0, cells := 0, slots := 0, locals := 0 }) D ad cy I J a b sz [.ref (ad 5)] (fun res u => res = m_kw a mn mr 0 ∧ u = (I, J, a, b)) := by
  refine Met.ofW (cc := cX5_keepsWhole) (maxL := 4) (ret := some .boolean) (by decide) rfl ?_
  intro p e s m args below meth c s₁ B hml hv
  obtain ⟨hargs, hsz, G⟩ := gx_begin hv
  subst hsz
  have hx := B.exec
  have hb := B.bytes
  have hr := B.returns
  have hts := atoms_spec (ws := wsX5_keepsWhole) B.pre
  have hown : s.vm.findClass RX5 = some m.cls := findClass_of_methodNamed B.named
  have hlocks := B.notSynchronized
  have hinX5 : ∀ w ∈ wsX50, w ∈ wsX5_keepsWhole := by decide +kernel
  have lk19 := hts (.fieldLink RX5 19 "ExactSimplexModel" "sense" "[I") (by decide +kernel)
  have lk22 := hts (.fieldLink RX5 22 "ExactSimplexModel" "rights" "[I") (by decide +kernel)
  have lk25 := hts (.fieldLink RX5 25 "ExactSimplexModel" "factors" "[I") (by decide +kernel)
  have lk28 := hts (.fieldLink RX5 28 "ExactSimplexModel" "alive" "[Z") (by decide +kernel)
  have lk60 := hts (.fieldLink RX5 60 "ExactSimplexModel" "point" "[I") (by decide +kernel)
  have lk66 := hts (.fieldLink RX5 66 "ExactSimplexModel" "names" "I") (by decide +kernel)
  have lk78 := hts (.fieldLink RX5 78 "ExactSimplexModel" "rows" "I") (by decide +kernel)
  have hl := lv_entry ([.ref (ad 5)]) (n := 4) (Nat.le_of_ble_eq_true rfl)
  have hent := lg_entry_eq m ([.ref (ad 5)]) 4
  rw [← hargs] at hent
  rw [hent]
  clear hent
  generalize (lg_sl ([.ref (ad 5)]) ++ List.replicate (4 - (lg_sl ([.ref (ad 5)])).length) Slot.unset).toArray = ls at hl ⊢
  have hl : lv_has ls 4 [(0, .ref (ad 5))] := hl
  generalize hA : gA ad s.heap.size = A at G ⊢
  generalize hH : s.heap = H at G ⊢
  refine gx_q (fun Q hQ => ?_)
  refine lv_iconst (v := 0) hx hb dX5_keepsWhole_0 (by decide) ?_
  refine lv_istore_n (lv' := [(1, .int 0), (0, .ref (ad 5))]) hx hb dX5_keepsWhole_1 rfl hl (by decide) rfl (fun ls hl => ?_)
  have K2 : ∀ (nf : Nat) (r : Nat) (H : Heap) (locs : List Loc) (ls : Array Slot), (r ≤ mr) → (m_kw a mn mr 0 = m_kw a mn (mr - r) r) → mr - r < nf → GG D ad cy A s I J a b H locs → lv_has ls 4 [(0, .ref (ad 5)), (1, .int (nI r))] → W p l e ({ frames := 0, cells := 0, slots := 0, locals := 0 }) s m args below meth c H locs 0 0 Q (F0 m 2 ls []) := by
    intro nf
    induction nf with
    | zero => exact fun _ _ _ _ _ _ hz => absurd hz (Nat.not_lt_zero _)
    | succ nf ih =>
      intro r H locs ls h3 h4 hmeas G hl
      have ih2 := ih
      clear ih
      refine lv_iload_n hx hb dX5_keepsWhole_2 rfl (lv_at hl 1 rfl) ?_
      refine lv_aload_n hx hb dX5_keepsWhole_3 rfl (lv_at hl 0 rfl) ?_
      refine gx_get hx hb hts hinX5 hown G 5 (by decide) rfl rfl 1 (by decide) rfl lk78 rfl (v := .int (I 5 1)) rfl dX5_keepsWhole_4 ?_
      refine lv_icmp_ge (tgt := 115) hx hb dX5_keepsWhole_7 (by decide) (fun c7 => ?_) (fun c7 => ?_)
      · skip
        have n7 := gn_le (X := mr) (Y := r) hmr rfl (by omega) (by omega) c7
        refine lv_iconst (v := 1) hx hb dX5_keepsWhole_115 (by decide) ?_
        exact gx_zr hx hb hr hlocks G hQ (rfl) ⟨by rw [h4, show mr - r = 0 by omega]; rfl, rfl⟩ dX5_keepsWhole_116
      · skip
        have n7 := gn_nle (X := mr) (Y := r) hmr rfl (by omega) (by omega) c7
        refine lv_aload_n hx hb dX5_keepsWhole_10 rfl (lv_at hl 0 rfl) ?_
        refine gx_get hx hb hts hinX5 hown G 5 (by decide) rfl rfl 8 (by decide) rfl lk28 rfl (v := .ref (ad 33)) rfl dX5_keepsWhole_11 ?_
        refine lv_iload_n hx hb dX5_keepsWhole_14 rfl (lv_at hl 1 rfl) ?_
        refine gx_zald hx hb G 33 (by decide) (rfl) (by decide) r rfl (by omega) dX5_keepsWhole_15 ?_
        refine lv_if_ne (tgt := 22) hx hb dX5_keepsWhole_16 (by decide) (fun c16 => ?_) (fun c16 => ?_)
        · skip
          refine lv_aload_n hx hb dX5_keepsWhole_22 rfl (lv_at hl 0 rfl) ?_
          refine gx_get hx hb hts hinX5 hown G 5 (by decide) rfl rfl 6 (by decide) rfl lk22 rfl (v := .ref (ad 31)) rfl dX5_keepsWhole_23 ?_
          refine lv_iload_n hx hb dX5_keepsWhole_26 rfl (lv_at hl 1 rfl) ?_
          refine gx_iald hx hb G 31 (by decide) (rfl) (by decide) r rfl (by omega) dX5_keepsWhole_27 ?_
          refine lv_ineg hx hb dX5_keepsWhole_28 ?_
          refine lv_istore_n (lv' := [(2, .int (-(a 31 r))), (0, .ref (ad 5)), (1, .int (nI r))]) hx hb dX5_keepsWhole_29 rfl hl (by decide) rfl (fun ls hl => ?_)
          refine lv_iconst (v := 0) hx hb dX5_keepsWhole_30 (by decide) ?_
          refine lv_istore_n (lv' := [(3, .int 0), (2, .int (-(a 31 r))), (0, .ref (ad 5)), (1, .int (nI r))]) hx hb dX5_keepsWhole_31 rfl hl (by decide) rfl (fun ls hl => ?_)
          have K32 : ∀ (nf : Nat) (q : Nat) (H : Heap) (locs : List Loc) (ls : Array Slot), (q ≤ mn) → mn - q < nf → GG D ad cy A s I J a b H locs → lv_has ls 4 [(0, .ref (ad 5)), (1, .int (nI r)), (2, .int (m_ws a r q)), (3, .int (nI q))] → W p l e ({ frames := 0, cells := 0, slots := 0, locals := 0 }) s m args below meth c H locs 0 0 Q (F0 m 32 ls []) := by
            intro nf
            induction nf with
            | zero => exact fun _ _ _ _ _ hz => absurd hz (Nat.not_lt_zero _)
            | succ nf ih =>
              intro q H locs ls h5 hmeas G hl
              have ih32 := ih
              clear ih
              refine lv_iload_n hx hb dX5_keepsWhole_32 rfl (lv_at hl 3 rfl) ?_
              refine lv_aload_n hx hb dX5_keepsWhole_33 rfl (lv_at hl 0 rfl) ?_
              refine gx_get hx hb hts hinX5 hown G 5 (by decide) rfl rfl 0 (by decide) rfl lk66 rfl (v := .int (I 5 0)) rfl dX5_keepsWhole_34 ?_
              refine lv_icmp_ge (tgt := 66) hx hb dX5_keepsWhole_37 (by decide) (fun c37 => ?_) (fun c37 => ?_)
              · skip
                have n37 := gn_le (X := mn) (Y := q) hmn rfl (by omega) (by omega) c37
                have hex : q = mn := by omega
                rw [hex] at hl
                refine lv_aload_n hx hb dX5_keepsWhole_66 rfl (lv_at hl 0 rfl) ?_
                refine gx_get hx hb hts hinX5 hown G 5 (by decide) rfl rfl 5 (by decide) rfl lk19 rfl (v := .ref (ad 30)) rfl dX5_keepsWhole_67 ?_
                refine lv_iload_n hx hb dX5_keepsWhole_70 rfl (lv_at hl 1 rfl) ?_
                refine gx_iald hx hb G 30 (by decide) (rfl) (by decide) r rfl (by omega) dX5_keepsWhole_71 ?_
                refine lv_if_ne (tgt := 79) hx hb dX5_keepsWhole_72 (by decide) (fun c72 => ?_) (fun c72 => ?_)
                · skip
                  refine lv_aload_n hx hb dX5_keepsWhole_79 rfl (lv_at hl 0 rfl) ?_
                  refine gx_get hx hb hts hinX5 hown G 5 (by decide) rfl rfl 5 (by decide) rfl lk19 rfl (v := .ref (ad 30)) rfl dX5_keepsWhole_80 ?_
                  refine lv_iload_n hx hb dX5_keepsWhole_83 rfl (lv_at hl 1 rfl) ?_
                  refine gx_iald hx hb G 30 (by decide) (rfl) (by decide) r rfl (by omega) dX5_keepsWhole_84 ?_
                  refine lv_iconst (v := 1) hx hb dX5_keepsWhole_85 (by decide) ?_
                  refine lv_icmp_ne (tgt := 93) hx hb dX5_keepsWhole_86 (by decide) (fun c86 => ?_) (fun c86 => ?_)
                  · skip
                    refine lv_aload_n hx hb dX5_keepsWhole_93 rfl (lv_at hl 0 rfl) ?_
                    refine gx_get hx hb hts hinX5 hown G 5 (by decide) rfl rfl 5 (by decide) rfl lk19 rfl (v := .ref (ad 30)) rfl dX5_keepsWhole_94 ?_
                    refine lv_iload_n hx hb dX5_keepsWhole_97 rfl (lv_at hl 1 rfl) ?_
                    refine gx_iald hx hb G 30 (by decide) (rfl) (by decide) r rfl (by omega) dX5_keepsWhole_98 ?_
                    refine lv_iconst (v := 2) hx hb dX5_keepsWhole_99 (by decide) ?_
                    refine lv_icmp_ne (tgt := 109) hx hb dX5_keepsWhole_100 (by decide) (fun c100 => ?_) (fun c100 => ?_)
                    · skip
                      refine lv_iinc (v := (nI (r + 1))) (lv' := [(1, .int (nI (r + 1))), (0, .ref (ad 5)), (2, .int (m_ws a r mn)), (3, .int (nI mn))]) hx hb dX5_keepsWhole_109 hl (k := 1) rfl (gn_add (X := r) (Y := 1) rfl rfl) (by decide) rfl (fun ls hl => ?_)
                      refine lv_goto (tgt := 2) hx hb dX5_keepsWhole_112 (by decide) ?_
                      exact ih2  (r + 1) _ _ _ (by omega) (by rw [h4, m_kw_s a mn n7]; (try unfold m_h0 m_h1 m_h2); (repeat (first | rw [if_neg c7] | rw [if_neg c16] | rw [if_pos c37] | rw [if_neg c72] | rw [if_neg c86] | rw [if_neg c100]))) (by omega) G (lv_sub hl [1, 0] rfl)
                    · skip
                      refine lv_iload_n hx hb dX5_keepsWhole_103 rfl (lv_at hl 2 rfl) ?_
                      refine lv_if_ge (tgt := 109) hx hb dX5_keepsWhole_104 (by decide) (fun c104 => ?_) (fun c104 => ?_)
                      · skip
                        refine lv_iinc (v := (nI (r + 1))) (lv' := [(1, .int (nI (r + 1))), (0, .ref (ad 5)), (2, .int (m_ws a r mn)), (3, .int (nI mn))]) hx hb dX5_keepsWhole_109 hl (k := 1) rfl (gn_add (X := r) (Y := 1) rfl rfl) (by decide) rfl (fun ls hl => ?_)
                        refine lv_goto (tgt := 2) hx hb dX5_keepsWhole_112 (by decide) ?_
                        exact ih2  (r + 1) _ _ _ (by omega) (by rw [h4, m_kw_s a mn n7]; (try unfold m_h0 m_h1 m_h2); (repeat (first | rw [if_neg c7] | rw [if_neg c16] | rw [if_pos c37] | rw [if_neg c72] | rw [if_neg c86] | rw [if_pos c100] | rw [if_pos c104]))) (by omega) G (lv_sub hl [1, 0] rfl)
                      · skip
                        refine lv_iconst (v := 0) hx hb dX5_keepsWhole_107 (by decide) ?_
                        exact gx_zr hx hb hr hlocks G hQ (rfl) ⟨by rw [h4, m_kw_s a mn n7]; (try unfold m_h0 m_h1 m_h2); (repeat (first | rw [if_neg c7] | rw [if_neg c16] | rw [if_pos c37] | rw [if_neg c72] | rw [if_neg c86] | rw [if_pos c100] | rw [if_neg c104])), rfl⟩ dX5_keepsWhole_108
                  · skip
                    refine lv_iload_n hx hb dX5_keepsWhole_89 rfl (lv_at hl 2 rfl) ?_
                    refine lv_if_ne (tgt := 107) hx hb dX5_keepsWhole_90 (by decide) (fun c90 => ?_) (fun c90 => ?_)
                    · skip
                      refine lv_iconst (v := 0) hx hb dX5_keepsWhole_107 (by decide) ?_
                      exact gx_zr hx hb hr hlocks G hQ (rfl) ⟨by rw [h4, m_kw_s a mn n7]; (try unfold m_h0 m_h1 m_h2); (repeat (first | rw [if_neg c7] | rw [if_neg c16] | rw [if_pos c37] | rw [if_neg c72] | rw [if_pos c86] | rw [if_neg c90])), rfl⟩ dX5_keepsWhole_108
                    · skip
                      refine lv_aload_n hx hb dX5_keepsWhole_93 rfl (lv_at hl 0 rfl) ?_
                      refine gx_get hx hb hts hinX5 hown G 5 (by decide) rfl rfl 5 (by decide) rfl lk19 rfl (v := .ref (ad 30)) rfl dX5_keepsWhole_94 ?_
                      refine lv_iload_n hx hb dX5_keepsWhole_97 rfl (lv_at hl 1 rfl) ?_
                      refine gx_iald hx hb G 30 (by decide) (rfl) (by decide) r rfl (by omega) dX5_keepsWhole_98 ?_
                      refine lv_iconst (v := 2) hx hb dX5_keepsWhole_99 (by decide) ?_
                      refine lv_icmp_ne (tgt := 109) hx hb dX5_keepsWhole_100 (by decide) (fun c100 => ?_) (fun c100 => ?_)
                      · skip
                        refine lv_iinc (v := (nI (r + 1))) (lv' := [(1, .int (nI (r + 1))), (0, .ref (ad 5)), (2, .int (m_ws a r mn)), (3, .int (nI mn))]) hx hb dX5_keepsWhole_109 hl (k := 1) rfl (gn_add (X := r) (Y := 1) rfl rfl) (by decide) rfl (fun ls hl => ?_)
                        refine lv_goto (tgt := 2) hx hb dX5_keepsWhole_112 (by decide) ?_
                        exact ih2  (r + 1) _ _ _ (by omega) (by rw [h4, m_kw_s a mn n7]; (try unfold m_h0 m_h1 m_h2); (repeat (first | rw [if_neg c7] | rw [if_neg c16] | rw [if_pos c37] | rw [if_neg c72] | rw [if_pos c86] | rw [if_pos c90] | rw [if_neg c100]))) (by omega) G (lv_sub hl [1, 0] rfl)
                      · skip
                        exact absurd (c86.symm.trans c100) (by decide)
                · skip
                  refine lv_iload_n hx hb dX5_keepsWhole_75 rfl (lv_at hl 2 rfl) ?_
                  refine lv_if_gt (tgt := 107) hx hb dX5_keepsWhole_76 (by decide) (fun c76 => ?_) (fun c76 => ?_)
                  · skip
                    refine lv_iconst (v := 0) hx hb dX5_keepsWhole_107 (by decide) ?_
                    exact gx_zr hx hb hr hlocks G hQ (rfl) ⟨by rw [h4, m_kw_s a mn n7]; (try unfold m_h0 m_h1 m_h2); (repeat (first | rw [if_neg c7] | rw [if_neg c16] | rw [if_pos c37] | rw [if_pos c72] | rw [if_pos c76])), rfl⟩ dX5_keepsWhole_108
                  · skip
                    refine lv_aload_n hx hb dX5_keepsWhole_79 rfl (lv_at hl 0 rfl) ?_
                    refine gx_get hx hb hts hinX5 hown G 5 (by decide) rfl rfl 5 (by decide) rfl lk19 rfl (v := .ref (ad 30)) rfl dX5_keepsWhole_80 ?_
                    refine lv_iload_n hx hb dX5_keepsWhole_83 rfl (lv_at hl 1 rfl) ?_
                    refine gx_iald hx hb G 30 (by decide) (rfl) (by decide) r rfl (by omega) dX5_keepsWhole_84 ?_
                    refine lv_iconst (v := 1) hx hb dX5_keepsWhole_85 (by decide) ?_
                    refine lv_icmp_ne (tgt := 93) hx hb dX5_keepsWhole_86 (by decide) (fun c86 => ?_) (fun c86 => ?_)
                    · skip
                      refine lv_aload_n hx hb dX5_keepsWhole_93 rfl (lv_at hl 0 rfl) ?_
                      refine gx_get hx hb hts hinX5 hown G 5 (by decide) rfl rfl 5 (by decide) rfl lk19 rfl (v := .ref (ad 30)) rfl dX5_keepsWhole_94 ?_
                      refine lv_iload_n hx hb dX5_keepsWhole_97 rfl (lv_at hl 1 rfl) ?_
                      refine gx_iald hx hb G 30 (by decide) (rfl) (by decide) r rfl (by omega) dX5_keepsWhole_98 ?_
                      refine lv_iconst (v := 2) hx hb dX5_keepsWhole_99 (by decide) ?_
                      refine lv_icmp_ne (tgt := 109) hx hb dX5_keepsWhole_100 (by decide) (fun c100 => ?_) (fun c100 => ?_)
                      · skip
                        refine lv_iinc (v := (nI (r + 1))) (lv' := [(1, .int (nI (r + 1))), (0, .ref (ad 5)), (2, .int (m_ws a r mn)), (3, .int (nI mn))]) hx hb dX5_keepsWhole_109 hl (k := 1) rfl (gn_add (X := r) (Y := 1) rfl rfl) (by decide) rfl (fun ls hl => ?_)
                        refine lv_goto (tgt := 2) hx hb dX5_keepsWhole_112 (by decide) ?_
                        exact ih2  (r + 1) _ _ _ (by omega) (by rw [h4, m_kw_s a mn n7]; (try unfold m_h0 m_h1 m_h2); (repeat (first | rw [if_neg c7] | rw [if_neg c16] | rw [if_pos c37] | rw [if_pos c72] | rw [if_neg c76] | rw [if_neg c86] | rw [if_neg c100]))) (by omega) G (lv_sub hl [1, 0] rfl)
                      · skip
                        exact absurd (c72.symm.trans c100) (by decide)
                    · skip
                      exact absurd (c72.symm.trans c86) (by decide)
              · skip
                have n37 := gn_nle (X := mn) (Y := q) hmn rfl (by omega) (by omega) c37
                refine lv_iload_n hx hb dX5_keepsWhole_40 rfl (lv_at hl 2 rfl) ?_
                refine lv_aload_n hx hb dX5_keepsWhole_41 rfl (lv_at hl 0 rfl) ?_
                refine gx_get hx hb hts hinX5 hown G 5 (by decide) rfl rfl 7 (by decide) rfl lk25 rfl (v := .ref (ad 32)) rfl dX5_keepsWhole_42 ?_
                refine lv_iconst (v := 5) hx hb dX5_keepsWhole_45 (by decide) ?_
                refine lv_iload_n hx hb dX5_keepsWhole_46 rfl (lv_at hl 1 rfl) ?_
                refine lv_imul hx hb dX5_keepsWhole_47 ?_
                refine lv_iload_n hx hb dX5_keepsWhole_48 rfl (lv_at hl 3 rfl) ?_
                refine lv_iadd hx hb dX5_keepsWhole_49 ?_
                refine gx_iald hx hb G 32 (by decide) (rfl) (by decide) ((5 * r) + q) (gn_add (gn_mul rfl rfl) rfl) (by omega) dX5_keepsWhole_50 ?_
                refine lv_aload_n hx hb dX5_keepsWhole_51 rfl (lv_at hl 0 rfl) ?_
                refine gx_get hx hb hts hinX5 hown G 5 (by decide) rfl rfl 25 (by decide) rfl lk60 rfl (v := .ref (ad 90)) rfl dX5_keepsWhole_52 ?_
                refine lv_iload_n hx hb dX5_keepsWhole_55 rfl (lv_at hl 3 rfl) ?_
                refine gx_iald hx hb G 90 (by decide) (rfl) (by decide) q rfl (by omega) dX5_keepsWhole_56 ?_
                refine lv_imul hx hb dX5_keepsWhole_57 ?_
                refine lv_iadd hx hb dX5_keepsWhole_58 ?_
                refine lv_istore_n (lv' := [(2, .int ((m_ws a r q) + ((a 32 ((5 * r) + q)) * (a 90 q)))), (0, .ref (ad 5)), (1, .int (nI r)), (3, .int (nI q))]) hx hb dX5_keepsWhole_59 rfl hl (by decide) rfl (fun ls hl => ?_)
                refine lv_iinc (v := (nI (q + 1))) (lv' := [(3, .int (nI (q + 1))), (2, .int ((m_ws a r q) + ((a 32 ((5 * r) + q)) * (a 90 q)))), (0, .ref (ad 5)), (1, .int (nI r))]) hx hb dX5_keepsWhole_60 hl (k := 3) rfl (gn_add (X := q) (Y := 1) rfl rfl) (by decide) rfl (fun ls hl => ?_)
                refine lv_goto (tgt := 32) hx hb dX5_keepsWhole_63 (by decide) ?_
                have q2 : (m_ws a r q) + ((a 32 ((5 * r) + q)) * (a 90 q)) = m_ws a r (q + 1) := rfl
                rw [q2] at hl
                exact ih32  (q + 1) _ _ _ (by omega) (by omega) G (lv_sub hl [2, 3, 1, 0] rfl)
          have q2 : -(a 31 r) = m_ws a r 0 := rfl
          rw [q2] at hl
          exact K32 (mn - 0 + 1) 0 _ _ _ (by omega) (Nat.lt_succ_self _) G (lv_sub hl [2, 3, 1, 0] rfl)
        · skip
          refine lv_goto (tgt := 109) hx hb dX5_keepsWhole_19 (by decide) ?_
          refine lv_iinc (v := (nI (r + 1))) (lv' := [(1, .int (nI (r + 1))), (0, .ref (ad 5))]) hx hb dX5_keepsWhole_109 hl (k := 1) rfl (gn_add (X := r) (Y := 1) rfl rfl) (by decide) rfl (fun ls hl => ?_)
          refine lv_goto (tgt := 2) hx hb dX5_keepsWhole_112 (by decide) ?_
          exact ih2  (r + 1) _ _ _ (by omega) (by rw [h4, m_kw_s a mn n7]; (try unfold m_h0 m_h1 m_h2); (repeat (first | rw [if_neg c7] | rw [if_pos c16]))) (by omega) G (lv_sub hl [1, 0] rfl)
  exact K2 (mr - 0 + 1) 0 _ _ _ (by omega) (rfl) (Nat.lt_succ_self _) G (lv_sub hl [1, 0] rfl)
