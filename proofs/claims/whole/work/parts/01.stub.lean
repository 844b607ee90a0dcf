abbrev gF : Type := Nat → Nat → Int32
abbrev gL : Type := Nat → Nat → Int64
abbrev gS : Type := gF × gL × gF × gL
def gU {α : Type} (f : Nat → Nat → α) (k j : Nat) (v : α) : Nat → Nat → α := fun k' j' => if k' = k ∧ j' = j then v else f k' j'
theorem gU_s {α : Type} {f : Nat → Nat → α} {k j : Nat} {v : α} : gU f k j v k j = v := if_pos ⟨rfl, rfl⟩
theorem gU_n {α : Type} {f : Nat → Nat → α} {k j k' j' : Nat} {v : α} (h : k' ≠ k ∨ j' ≠ j) : gU f k j v k' j' = f k' j' := if_neg (fun q => h.elim (fun h => h q.1) (fun h => h q.2))
theorem gU_k {α : Type} {f : Nat → Nat → α} {k j k' : Nat} {v : α} (h : k' ≠ k) : gU f k j v k' = f k' := funext fun _ => gU_n (Or.inl h)
def d_thaw (a : gF) : Nat → gF
  | 0 => a
  | n + 1 => gU (d_thaw a n) 17 n 0
def d_freeze (a : gF) (b : gL) : Nat → gF
  | 0 => a
  | n + 1 => if b 18 n ≤ 0 then d_freeze a b n else gU (d_freeze a b n) 17 n 1
def d_broken (a : gF) (b : gL) : Nat → Int32
  | 0 => -1
  | n + 1 => if 0 ≤ b 14 n then d_broken a b n else if d_broken a b n < 0 then nI n else if a 15 (d_broken a b n).toNatClampNeg ≤ a 15 n then d_broken a b n else nI n
def d_mend (a : gF) (b : gL) (r : Nat) : Nat → Int32
  | 0 => -1
  | n + 1 => if 0 ≤ b (48 + r) n then d_mend a b r n else if d_mend a b r n < 0 then nI n else if a 16 (d_mend a b r n).toNatClampNeg ≤ a 16 n then d_mend a b r n else nI n
def d_fall (a : gF) (b : gL) : Nat → Int32
  | 0 => -1
  | n + 1 => if a 17 n = 0 then if 0 ≤ b 18 n then d_fall a b n else if d_fall a b n < 0 then nI n else if a 16 (d_fall a b n).toNatClampNeg ≤ a 16 n then d_fall a b n else nI n else d_fall a b n
def d_num (a : gF) (b : gL) (v : Int32) : Nat → Nat → Int64
  | 0, _ => 0
  | n + 1, r => if a 15 r = v then b 14 r else d_num a b v n (r + 1)
def d_stops (a : gF) (b : gL) (r o s : Nat) : Int32 := if b 14 r * b (48 + o) s < b 14 o * b (48 + r) s then 1 else if b 14 r * b (48 + o) s = b 14 o * b (48 + r) s then if a 15 o ≤ a 15 r then 0 else 1 else 0
def d_stop (a : gF) (b : gL) (s : Nat) : Nat → Int32
  | 0 => -1
  | n + 1 => if b (48 + n) s ≤ 0 then d_stop a b s n else if d_stop a b s n < 0 then nI n else if d_stops a b n (d_stop a b s n).toNatClampNeg s = 0 then d_stop a b s n else nI n
def d_turnL (b : gL) (r : Nat) : Nat → gL
  | 0 => b
  | n + 1 => gU (d_turnL b r n) (48 + r) n (-(d_turnL b r n (48 + r) n))
def d_turn (b : gL) (r nc : Nat) : gL := gU (d_turnL b r nc) 14 r (-(d_turnL b r nc 14 r))
def d_swL (b : gL) (i r s : Nat) (p q dv : Int64) : Nat → gL
  | 0 => b
  | n + 1 => if nI n = nI s then d_swL b i r s p q dv n else gU (d_swL b i r s p q dv n) (48 + i) n ((p * d_swL b i r s p q dv n (48 + i) n - q * d_swL b i r s p q dv n (48 + r) n) / dv)
def d_swR (b : gL) (nc i r s : Nat) (p q dv : Int64) : gL := gU (d_swL b i r s p q dv nc) 14 i ((p * d_swL b i r s p q dv nc 14 i - q * d_swL b i r s p q dv nc 14 r) / dv)
def d_swF (b : gL) (nc i r s : Nat) (p q dv : Int64) : gL := if 0 ≤ p then gU (d_swR b nc i r s p q dv) (48 + i) s (-q) else gU (d_swR b nc i r s p q dv) (48 + i) s q
def d_sweep (b : gL) (nc i r s : Nat) (dv : Int64) : gL := if dv = 0 then b else if b (48 + i) s = 0 then if b (48 + r) s = dv then b else d_swF b nc i r s (b (48 + r) s) (b (48 + i) s) dv else d_swF b nc i r s (b (48 + r) s) (b (48 + i) s) dv
def d_sweeps (b : gL) (nc r s : Nat) (dv : Int64) : Nat → gL
  | 0 => b
  | n + 1 => if nI n = nI r then d_sweeps b nc r s dv n else d_sweep (d_sweeps b nc r s dv n) nc n r s dv
def d_sl1 (I : gF) (J : gL) (a : gF) (b : gL) (kg : Nat) : Nat → gL
  | 0 => b
  | n + 1 => if I 4 8 ≤ a 16 n then gU (d_sl1 I J a b kg n) 18 n 0 else gU (d_sl1 I J a b kg n) 18 n ((a kg (a 16 n).toNatClampNeg).toInt64 * J 4 6)
def d_sl2 (b : gL) (r : Nat) (w : Int32) : Nat → gL
  | 0 => b
  | n + 1 => gU (d_sl2 b r w n) 18 n (d_sl2 b r w n 18 n - w.toInt64 * d_sl2 b r w n (48 + r) n)
def d_slI (b : gL) (r : Nat) (w : Int32) (n : Nat) : gL := if w = 0 then b else d_sl2 b r w n
def d_sl4 (I : gF) (a : gF) (b : gL) (kg nc : Nat) : Nat → gL
  | 0 => b
  | n + 1 => if I 4 8 ≤ a 15 n then d_slI (d_sl4 I a b kg nc n) n 0 nc else d_slI (d_sl4 I a b kg nc n) n (a kg (a 15 n).toNatClampNeg) nc
def d_slopes (I : gF) (J : gL) (a : gF) (b : gL) (kg nl nc : Nat) : gL := d_sl4 I a (d_sl1 I J a b kg nc) kg nc nl
def d_dv (J : gL) (b : gL) (r s : Nat) : Int64 := if 0 ≤ b (48 + r) s then J 4 6 else -J 4 6
def d_pJ (J : gL) (b : gL) (r s : Nat) : gL := if b (48 + r) s = 0 then J else if d_dv J b r s = 0 then J else gU J 4 6 (if 0 < b (48 + r) s then b (48 + r) s else -b (48 + r) s)
def d_pA (J : gL) (a : gF) (b : gL) (r s : Nat) : gF := if b (48 + r) s = 0 then a else if d_dv J b r s = 0 then a else gU (gU a 15 r (a 16 s)) 16 s (a 15 r)
def d_pB (J : gL) (b : gL) (nl nc r s : Nat) : gL := if b (48 + r) s = 0 then b else if d_dv J b r s = 0 then b else gU (if 0 ≤ b (48 + r) s then d_sweeps b nc r s (d_dv J b r s) nl else d_turn (d_sweeps b nc r s (d_dv J b r s) nl) r nc) (48 + r) s (d_dv J b r s)
def d_ids (a : gF) : Nat → gF
  | 0 => a
  | n + 1 => gU (d_ids a n) 16 n (nI n)
def d_addL (a : gF) (b : gL) (kf nl : Nat) (sg : Int32) : Nat → gL
  | 0 => b
  | n + 1 => gU (d_addL a b kf nl sg n) (48 + nl) n (sg * a kf n).toInt64
def d_addB (a : gF) (b : gL) (kf nl nc : Nat) (sg ri : Int32) : gL := gU (d_addL a b kf nl sg nc) 14 nl ri.toInt64
def mPV : Nat := 100000
def d_find (nl nc : Nat) : Nat → gL × gF × gL → Int32 × gL × gF × gL
  | 0, x => (0, x)
  | n + 1, x => if 0 ≤ d_broken x.2.1 x.2.2 nl then if 0 ≤ d_mend x.2.1 x.2.2 (d_broken x.2.1 x.2.2 nl).toNatClampNeg nc then d_find nl nc n (d_pJ x.1 x.2.2 (d_broken x.2.1 x.2.2 nl).toNatClampNeg (d_mend x.2.1 x.2.2 (d_broken x.2.1 x.2.2 nl).toNatClampNeg nc).toNatClampNeg, d_pA x.1 x.2.1 x.2.2 (d_broken x.2.1 x.2.2 nl).toNatClampNeg (d_mend x.2.1 x.2.2 (d_broken x.2.1 x.2.2 nl).toNatClampNeg nc).toNatClampNeg, d_pB x.1 x.2.2 nl nc (d_broken x.2.1 x.2.2 nl).toNatClampNeg (d_mend x.2.1 x.2.2 (d_broken x.2.1 x.2.2 nl).toNatClampNeg nc).toNatClampNeg) else (0, x) else (1, x)
def d_nat (f : Nat → Int32) (n : Nat) : Prop := ∀ r, r < n → ∃ v, f r = nI v ∧ v < 100
def d_min (I : gF) (kg nl nc : Nat) : Nat → gL × gF × gL → gL × gF × gL
  | 0, x => x
  | n + 1, x => if 0 ≤ d_fall x.2.1 (d_slopes I x.1 x.2.1 x.2.2 kg nl nc) nc then if 0 ≤ d_stop x.2.1 (d_slopes I x.1 x.2.1 x.2.2 kg nl nc) (d_fall x.2.1 (d_slopes I x.1 x.2.1 x.2.2 kg nl nc) nc).toNatClampNeg nl then d_min I kg nl nc n (d_pJ x.1 (d_slopes I x.1 x.2.1 x.2.2 kg nl nc) (d_stop x.2.1 (d_slopes I x.1 x.2.1 x.2.2 kg nl nc) (d_fall x.2.1 (d_slopes I x.1 x.2.1 x.2.2 kg nl nc) nc).toNatClampNeg nl).toNatClampNeg (d_fall x.2.1 (d_slopes I x.1 x.2.1 x.2.2 kg nl nc) nc).toNatClampNeg, d_pA x.1 x.2.1 (d_slopes I x.1 x.2.1 x.2.2 kg nl nc) (d_stop x.2.1 (d_slopes I x.1 x.2.1 x.2.2 kg nl nc) (d_fall x.2.1 (d_slopes I x.1 x.2.1 x.2.2 kg nl nc) nc).toNatClampNeg nl).toNatClampNeg (d_fall x.2.1 (d_slopes I x.1 x.2.1 x.2.2 kg nl nc) nc).toNatClampNeg, d_pB x.1 (d_slopes I x.1 x.2.1 x.2.2 kg nl nc) nl nc (d_stop x.2.1 (d_slopes I x.1 x.2.1 x.2.2 kg nl nc) (d_fall x.2.1 (d_slopes I x.1 x.2.1 x.2.2 kg nl nc) nc).toNatClampNeg nl).toNatClampNeg (d_fall x.2.1 (d_slopes I x.1 x.2.1 x.2.2 kg nl nc) nc).toNatClampNeg) else (x.1, x.2.1, d_slopes I x.1 x.2.1 x.2.2 kg nl nc) else (x.1, x.2.1, d_slopes I x.1 x.2.1 x.2.2 kg nl nc)
def p_hasN (I : gF) (v : Int32) : Int32 := if v < 0 then 0 else if I 1 7 ≤ v then 0 else 1
def p_hasR (I a : gF) (v : Int32) : Int32 := if v < 0 then 0 else if I 1 8 ≤ v then 0 else if a 12 v.toNatClampNeg = 0 then 0 else 1
def p_addNA (a : gF) (nn : Nat) (lo hi : Int32) : gF := gU (gU (gU a 6 nn lo) 7 nn hi) 8 nn 0
def p_wipe (a : gF) (nr : Nat) : Nat → gF
  | 0 => a
  | n + 1 => gU (p_wipe a nr n) (40 + nr) n 0
def p_addRA (a : gF) (nr : Nat) (se ri : Int32) : gF := p_wipe (gU (gU (gU a 9 nr se) 10 nr ri) 12 nr 1) nr 5
def p_cnt (a : gF) : Nat → Int32
  | 0 => 0
  | n + 1 => if a 12 n = 0 then p_cnt a n else p_cnt a n + 1
def p_cw (a : gF) : Nat → Int64
  | 0 => 1
  | n + 1 => p_cw a n * (a 7 n - a 6 n + 1).toInt64
def p_above (a : gF) (r : Nat) : Int32 := if a 9 r = 0 then 1 else if a 9 r = 1 then 1 else 0
def p_below (a : gF) (r : Nat) : Int32 := if a 9 r = 2 then 1 else if a 9 r = 1 then 1 else 0
def s_aim (a : gF) (k w : Int32) : Nat → gF
  | 0 => a
  | n + 1 => if nI n = k then gU (s_aim a k w n) 19 n w else gU (s_aim a k w n) 19 n 0
def s_all (a : gF) : Nat → Int32
  | 0 => 0
  | n + 1 => if a 12 n = 0 then s_all a n else s_all a n ||| ((1 : Int32) <<< (nI n &&& 31))
def s_gcd : Nat → Int64 → Int64 → Int64
  | 0, x, _ => x
  | n + 1, x, y => if y = 0 then x else s_gcd n y (x - x / y * y)
def s_abs (x : Int64) : Int64 := if 0 < x then x else -x
def s_gd (x y : Int64) : Int64 := s_gcd 200 (s_abs x) (s_abs y)
def s_part (x y : Int64) (pt : Int32) : Int64 := if s_gd x y = 0 then 0 else if pt = 0 then x / s_gd x y else y / s_gd x y
def s_add (I a : gF) (b : gL) (kf nl nc : Nat) (sg ri : Int32) : gF × gF × gL := (gU I 4 7 (I 4 7 + 1), gU a 15 nl (I 4 8 + I 4 7), d_addB a b kf nl nc sg ri)
def s_rt (a : gF) (r0 : Nat) : Nat → Int32
  | 0 => a 10 r0
  | n + 1 => s_rt a r0 n - a (40 + r0) n * a 6 n
def s_row (I a : gF) (b : gL) (r0 nl nc : Nat) : gF × gF × gL :=
  if p_above a r0 = 0 then (if p_below a r0 = 0 then (I, a, b) else s_add I a b (40 + r0) nl nc (-1) (-s_rt a r0 nc))
  else (if p_below (gU a 15 nl (I 4 8 + I 4 7)) r0 = 0 then s_add I a b (40 + r0) nl nc 1 (s_rt a r0 nc)
    else s_add (gU I 4 7 (I 4 7 + 1)) (gU a 15 nl (I 4 8 + I 4 7)) (d_addB a b (40 + r0) nl nc 1 (s_rt a r0 nc)) (40 + r0) (nl + 1) nc (-1) (-s_rt a r0 nc))
def s_nl (a : gF) (r0 nl : Nat) : Nat := nl + (if p_above a r0 = 0 then 0 else 1) + (if p_below a r0 = 0 then 0 else 1)
def s_k0 (I : gF) (nn : Nat) : gF := gU (gU I 4 8 (nI nn)) 4 7 0
def s_kn (I a : gF) (b : gL) (nn : Nat) : Nat → gF × gF × gL
  | 0 => (s_k0 I nn, d_thaw (d_ids a nn) nn, b)
  | n + 1 => s_add (s_kn I a b nn n).1 (s_aim (s_kn I a b nn n).2.1 (nI n) 1 5) (s_kn I a b nn n).2.2 19 n nn 1 ((s_aim (s_kn I a b nn n).2.1 (nI n) 1 5) 7 n - (s_aim (s_kn I a b nn n).2.1 (nI n) 1 5) 6 n)
def s_bit (set : Int32) (n : Nat) : Int32 := set &&& ((1 : Int32) <<< (nI n &&& 31))
def s_kr (I a : gF) (b : gL) (nn : Nat) (set : Int32) : Nat → (gF × gF × gL) × Nat
  | 0 => (s_kn I a b nn nn, nn)
  | n + 1 => if s_bit set n = 0 then s_kr I a b nn set n else (s_row (s_kr I a b nn set n).1.1 (s_kr I a b nn set n).1.2.1 (s_kr I a b nn set n).1.2.2 n (s_kr I a b nn set n).2 nn, s_nl (s_kr I a b nn set n).1.2.1 n (s_kr I a b nn set n).2)
def s_kf (I : gF) (J : gL) (a : gF) (b : gL) (nn nr : Nat) (set : Int32) : Int32 × gL × gF × gL := d_find (s_kr I a b nn set nr).2 nn mPV (gU J 4 6 1, (s_kr I a b nn set nr).1.2.1, (s_kr I a b nn set nr).1.2.2)
def s_kI (I a : gF) (b : gL) (nn nr : Nat) (set : Int32) : gF := (s_kr I a b nn set nr).1.1
def s_hp (I : gF) (J : gL) (a : gF) (b : gL) (nn nr : Nat) : Int32 := if I 2 5 = 0 then (s_kf I J a b nn nr (s_all a nr)).1 else I 2 6
def s_hpI (I : gF) (J : gL) (a : gF) (b : gL) (nn nr : Nat) : gF := if I 2 5 = 0 then gU (gU (s_kI I a b nn nr (s_all a nr)) 2 6 (s_kf I J a b nn nr (s_all a nr)).1) 2 5 1 else I
def s_hpJ (I : gF) (J : gL) (a : gF) (b : gL) (nn nr : Nat) : gL := if I 2 5 = 0 then (s_kf I J a b nn nr (s_all a nr)).2.1 else J
def s_hpA (I : gF) (J : gL) (a : gF) (b : gL) (nn nr : Nat) : gF := if I 2 5 = 0 then (s_kf I J a b nn nr (s_all a nr)).2.2.1 else a
def s_hpB (I : gF) (J : gL) (a : gF) (b : gL) (nn nr : Nat) : gL := if I 2 5 = 0 then (s_kf I J a b nn nr (s_all a nr)).2.2.2 else b
def s_k2b (I : gF) (J : gL) (a : gF) (b : gL) (nl nc : Nat) : gL × gF × gL := ((d_min I 8 nl nc mPV (J, a, b)).1, d_freeze (d_min I 8 nl nc mPV (J, a, b)).2.1 (d_min I 8 nl nc mPV (J, a, b)).2.2 nc, (d_min I 8 nl nc mPV (J, a, b)).2.2)
def s_w (sd : Int32) : Int32 := if sd = 0 then 1 else -1
def s_endX (I : gF) (J : gL) (a : gF) (b : gL) (nl nc n0 : Nat) (w : Int32) : gL × gF × gL := d_min I 19 nl nc mPV (J, s_aim a (nI n0) w 5, b)
def s_end (I : gF) (J : gL) (a : gF) (b : gL) (nl nc n0 : Nat) (w pt : Int32) : Int64 := s_part (((s_endX I J a b nl nc n0 w).2.1 6 n0).toInt64 * (s_endX I J a b nl nc n0 w).1 4 6 + d_num (s_endX I J a b nl nc n0 w).2.1 (s_endX I J a b nl nc n0 w).2.2 (nI n0) nl 0) ((s_endX I J a b nl nc n0 w).1 4 6) pt
def s_fb (I : gF) (J : gL) (a : gF) (b : gL) (nl nc : Nat) : Nat → gL × gF × gL
  | 0 => s_k2b I J (d_thaw a nc) b nl nc
  | n + 1 => ((s_endX I (s_fb I J a b nl nc n).1 (s_fb I J a b nl nc n).2.1 (s_fb I J a b nl nc n).2.2 nl nc n 1).1, d_freeze (s_endX I (s_fb I J a b nl nc n).1 (s_fb I J a b nl nc n).2.1 (s_fb I J a b nl nc n).2.2 nl nc n 1).2.1 (s_endX I (s_fb I J a b nl nc n).1 (s_fb I J a b nl nc n).2.1 (s_fb I J a b nl nc n).2.2 nl nc n 1).2.2 nc, (s_endX I (s_fb I J a b nl nc n).1 (s_fb I J a b nl nc n).2.1 (s_fb I J a b nl nc n).2.2 nl nc n 1).2.2)
def s_fbB (J : gL) (a : gF) (b : gL) (nl : Nat) : Nat → gL
  | 0 => b
  | n + 1 => gU (s_fbB J a b nl n) 20 n ((a 6 n).toInt64 * J 4 6 + d_num a (s_fbB J a b nl n) (nI n) nl 0)
def s_ffI (I : gF) : gF := if I 2 7 = 0 then gU I 2 7 1 else I
def s_ffJ (I : gF) (J : gL) (a : gF) (b : gL) (nn nl nc : Nat) : gL := if I 2 7 = 0 then gU (s_fb I J a b nl nc nn).1 2 4 ((s_fb I J a b nl nc nn).1 4 6) else J
def s_ffA (I : gF) (J : gL) (a : gF) (b : gL) (nn nl nc : Nat) : gF := if I 2 7 = 0 then (s_fb I J a b nl nc nn).2.1 else a
def s_ffB (I : gF) (J : gL) (a : gF) (b : gL) (nn nl nc : Nat) : gL := if I 2 7 = 0 then s_fbB (s_fb I J a b nl nc nn).1 (s_fb I J a b nl nc nn).2.1 (s_fb I J a b nl nc nn).2.2 nl nn else b
def s_sum (a : gF) (b : gL) : Nat → Int64
  | 0 => 0
  | n + 1 => s_sum a b n + (a 8 n).toInt64 * b 20 n
def s_tsum (a : gF) (b : gL) (r0 : Nat) : Nat → Int64
  | 0 => 0
  | n + 1 => s_tsum a b r0 n + (a (40 + r0) n).toInt64 * b 20 n
def s_wo (set : Int32) (k : Nat) : Int32 := set &&& (((1 : Int32) <<< (nI k &&& 31)) ^^^ -1)
abbrev s_X : Type := Int32 × gF × gL × gF × gL
def s_ck (nn nr : Nat) (set : Int32) (x : s_X) : Int32 := (s_kf x.2.1 x.2.2.1 x.2.2.2.1 x.2.2.2.2 nn nr set).1
def s_cx (nn nr : Nat) (set s2 : Int32) (x : s_X) : s_X := (s2, s_kI x.2.1 x.2.2.2.1 x.2.2.2.2 nn nr set, (s_kf x.2.1 x.2.2.1 x.2.2.2.1 x.2.2.2.2 nn nr set).2.1, (s_kf x.2.1 x.2.2.1 x.2.2.2.1 x.2.2.2.2 nn nr set).2.2.1, (s_kf x.2.1 x.2.2.1 x.2.2.2.1 x.2.2.2.2 nn nr set).2.2.2)
def s_bar (nn nr : Nat) : Nat → s_X → s_X
  | 0, x => x
  | k + 1, x => if s_wo x.1 k = x.1 then s_bar nn nr k x else if s_ck nn nr (s_wo x.1 k) x = 0 then s_bar nn nr k (s_cx nn nr (s_wo x.1 k) (s_wo x.1 k) x) else s_bar nn nr k (s_cx nn nr (s_wo x.1 k) x.1 x)
def s_fbar (I : gF) (J : gL) (a : gF) (b : gL) (nn nr : Nat) : s_X := s_bar nn nr nr (s_all a nr, I, J, a, b)
def s_brI (I : gF) (J : gL) (a : gF) (b : gL) (nn nr : Nat) : gF := if I 2 8 = 0 then gU (gU (s_fbar I J a b nn nr).2.1 2 9 (s_fbar I J a b nn nr).1) 2 8 1 else I
def s_brJ (I : gF) (J : gL) (a : gF) (b : gL) (nn nr : Nat) : gL := if I 2 8 = 0 then (s_fbar I J a b nn nr).2.2.1 else J
def s_brA (I : gF) (J : gL) (a : gF) (b : gL) (nn nr : Nat) : gF := if I 2 8 = 0 then (s_fbar I J a b nn nr).2.2.2.1 else a
def s_brB (I : gF) (J : gL) (a : gF) (b : gL) (nn nr : Nat) : gL := if I 2 8 = 0 then (s_fbar I J a b nn nr).2.2.2.2 else b
def s_brow (set k : Int32) : Nat → Nat → Int32 → Int32
  | 0, _, _ => -1
  | n + 1, r, pl => if set &&& ((1 : Int32) <<< (nI r &&& 31)) = 0 then s_brow set k n (r + 1) pl else if pl = k then nI r else s_brow set k n (r + 1) (pl + 1)
def s_ebX (I : gF) (J : gL) (a : gF) (b : gL) (nl nc n0 : Nat) (sd : Int32) : gL × gF × gL := s_endX I (s_k2b I J (d_thaw a nc) b nl nc).1 (s_k2b I J (d_thaw a nc) b nl nc).2.1 (s_k2b I J (d_thaw a nc) b nl nc).2.2 nl nc n0 (s_w sd)
def s_eb (I : gF) (J : gL) (a : gF) (b : gL) (nl nc n0 : Nat) (sd pt : Int32) : Int64 := s_end I (s_k2b I J (d_thaw a nc) b nl nc).1 (s_k2b I J (d_thaw a nc) b nl nc).2.1 (s_k2b I J (d_thaw a nc) b nl nc).2.2 nl nc n0 (s_w sd) pt
def f_div (x y : Int32) : Int32 := if 0 ≤ x ^^^ y then x / y else if x / y * y = x then x / y else x / y - 1
def w_nar (a : gF) (n0 : Nat) (f rm : Int32) : gF := if f ≤ 0 then if 0 ≤ f then if 0 ≤ rm then a else gU a 22 n0 (a 6 n0 - 1) else gU a 21 n0 (if a 21 n0 < -f_div rm (-f) - 1 then -f_div rm (-f) - 1 else a 21 n0) else gU a 22 n0 (if f_div rm f < a 22 n0 then f_div rm f else a 22 n0)
def w_kc (a : gF) (n0 : Nat) : gF := if 0 ≤ a 8 n0 then gU a 22 n0 (if a 21 n0 + 1 < a 22 n0 then a 21 n0 + 1 else a 22 n0) else gU a 21 n0 (if a 21 n0 < a 22 n0 - 1 then a 22 n0 - 1 else a 21 n0)
def w_nb1 (a : gF) (n0 r0 : Nat) : gF := if p_above a r0 = 0 then a else w_nar a n0 (a (40 + r0) n0) (a 10 r0 - a (69 + n0) r0 - a (75 + (n0 + 1)) r0)
def w_nbr (a : gF) (n0 r0 : Nat) : gF := if p_below (w_nb1 a n0 r0) r0 = 0 then w_nb1 a n0 r0 else w_nar (w_nb1 a n0 r0) n0 (-a (40 + r0) n0) (w_nb1 a n0 r0 (81 + (n0 + 1)) r0 - (a 10 r0 - a (69 + n0) r0))
def w_au (a : gF) (n0 : Nat) : Nat → gF
  | 0 => a
  | n + 1 => gU (w_au a n0 n) (69 + (n0 + 1)) n (w_au a n0 n (69 + n0) n + w_au a n0 n (40 + n) n0 * w_au a n0 n 21 n0)
def w_add (a : gF) (n0 nr : Nat) : gF := gU (w_au a n0 nr) (69 + (n0 + 1)) 8 (w_au a n0 nr (69 + n0) 8 + w_au a n0 nr 8 n0 * w_au a n0 nr 21 n0)
def w_wt (a : gF) (ln nm : Nat) : Int32 := if nI ln = 8 then a 8 nm else a (40 + ln) nm
def w_st1 (a : gF) (ln k : Nat) : gF := gU a (75 + k) ln (a (75 + (k + 1)) ln + if w_wt a ln k * a 7 k < w_wt a ln k * a 6 k then w_wt a ln k * a 7 k else w_wt a ln k * a 6 k)
def w_st2 (a : gF) (ln k : Nat) : gF := gU (w_st1 a ln k) (81 + k) ln (w_st1 a ln k (81 + (k + 1)) ln + if w_wt a ln k * a 6 k < w_wt a ln k * a 7 k then w_wt a ln k * a 7 k else w_wt a ln k * a 6 k)
def w_in (a : gF) (ln nn : Nat) : Nat → gF
  | 0 => a
  | m + 1 => w_st2 (w_in a ln nn m) ln (nn - 1 - m)
def w_wo0 (a : gF) (nn ln : Nat) : gF := gU (gU (gU a (69 + 0) ln 0) (75 + nn) ln 0) (81 + nn) ln 0
def w_wo (a : gF) (nn : Nat) : Nat → gF
  | 0 => a
  | n + 1 => w_in (w_wo0 (w_wo a nn n) nn n) n nn nn
def w_mbc (I a : gF) (d : Nat) : Int32 := if I 3 8 = 0 then 1 else if I 3 7 ≤ a (69 + d) 8 + a (75 + d) 8 then 0 else 1
def w_kp (I a : gF) (nn : Nat) : Nat → Nat → Int32
  | 0, _ => 1
  | n + 1, r => if p_hasR I a (nI r) = 0 then w_kp I a nn n (r + 1) else if a (69 + nn) r - a 10 r ≤ 0 then (if 0 ≤ a (69 + nn) r - a 10 r then w_kp I a nn n (r + 1) else if p_below a r = 0 then w_kp I a nn n (r + 1) else 0) else if p_above a r = 0 then (if 0 ≤ a (69 + nn) r - a 10 r then w_kp I a nn n (r + 1) else if p_below a r = 0 then w_kp I a nn n (r + 1) else 0) else 0
def w_cp (a : gF) : Nat → gF
  | 0 => a
  | n + 1 => gU (w_cp a n) 23 n (w_cp a n 21 n)
def w_tpI (I a : gF) (nn nr : Nat) : gF := if w_kp I a nn nr 0 = 0 then I else if w_mbc I a nn = 0 then I else gU (gU I 3 8 1) 3 7 (a (69 + nn) 8)
def w_tpA (I a : gF) (nn nr : Nat) : gF := if w_kp I a nn nr 0 = 0 then a else if w_mbc I a nn = 0 then a else w_cp a nn
def w_on (I a : gF) (n0 : Nat) : Nat → gF
  | 0 => a
  | n + 1 => if p_hasR I (w_on I a n0 n) (nI n) = 0 then w_on I a n0 n else w_nbr (w_on I a n0 n) n0 n
def w_op1 (I a : gF) (n0 nr : Nat) : gF := w_on I (gU (gU a 21 n0 (a 6 n0 - 1)) 22 n0 (a 7 n0)) n0 nr
def w_op2 (I a : gF) (n0 nr : Nat) : gF := if I 3 8 = 0 then w_op1 I a n0 nr else w_nar (w_op1 I a n0 nr) n0 (w_op1 I a n0 nr 8 n0) (I 3 7 - 1 - w_op1 I a n0 nr (69 + n0) 8 - w_op1 I a n0 nr (75 + (n0 + 1)) 8)
def w_open (I a : gF) (n0 nr : Nat) : gF := if nI n0 < I 1 7 then if nI n0 = I 1 7 - 1 then w_kc (w_op2 I a n0 nr) n0 else w_op2 I a n0 nr else a
def mST : Nat := 1000000
def w_srch (nn nr : Nat) : Nat → Nat × gF × gF → Nat × gF × gF
  | 0, x => x
  | n + 1, (0, I, a) => (0, I, a)
  | n + 1, (d + 1, I, a) => if nI d < I 1 7 then if a 21 d < a 22 d then if w_mbc I (w_add (gU a 21 d (a 21 d + 1)) d nr) (d + 1) = 0 then w_srch nn nr n (d + 1, I, w_add (gU a 21 d (a 21 d + 1)) d nr) else w_srch nn nr n (d + 1 + 1, I, w_open I (w_add (gU a 21 d (a 21 d + 1)) d nr) (d + 1) nr) else w_srch nn nr n (d, I, a) else w_srch nn nr n (d, w_tpI I a nn nr, w_tpA I a nn nr)
def w_hpX (I a : gF) (nn nr : Nat) : Nat × gF × gF := w_srch nn nr mST (1, gU (gU I 3 8 0) 3 9 1, w_open (gU (gU I 3 8 0) 3 9 1) (w_wo a nn 9) 0 nr)
def w_hp (I a : gF) (nn nr : Nat) : Int32 := if I 3 9 = 0 then (w_hpX I a nn nr).2.1 3 8 else I 3 8
def w_hpI (I a : gF) (nn nr : Nat) : gF := if I 3 9 = 0 then (w_hpX I a nn nr).2.1 else I
def w_hpA (I a : gF) (nn nr : Nat) : gF := if I 3 9 = 0 then (w_hpX I a nn nr).2.2 else a
def cN (x : Int32) : Nat := x.toNatClampNeg
def cNat (x : Int32) (m : Nat) : Prop := x = nI (cN x) ∧ cN x ≤ m
def cOK (I a : gF) : Prop := cNat (I 1 7) 5 ∧ cNat (I 1 8) 8 ∧ cNat (I 4 7) 21 ∧ cNat (I 4 8) 5 ∧ d_nat (a 15) (cN (I 4 7)) ∧ d_nat (a 16) (cN (I 4 8)) ∧ (I 2 6 = 0 ∨ I 2 6 = 1) ∧ (I 3 8 = 0 ∨ I 3 8 = 1)
abbrev s_hpT (I : gF) (J : gL) (a : gF) (b : gL) : gS := (s_hpI I J a b (cN (I 1 7)) (cN (I 1 8)), s_hpJ I J a b (cN (I 1 7)) (cN (I 1 8)), s_hpA I J a b (cN (I 1 7)) (cN (I 1 8)), s_hpB I J a b (cN (I 1 7)) (cN (I 1 8)))
def q_within (v b : Int32) : Int32 := if v < -b then 0 else if b < v then 0 else 1
def q_span (lo hi : Int32) : Int32 := if q_within lo 100 = 0 then 0 else if q_within hi 100 = 0 then 0 else if hi < lo then 0 else 1
def q_z01 (v : Int32) : Int32 := if v = 0 then 1 else if v = 1 then 1 else 0
def q_fg (I : gF) : gF := gU (gU (gU (gU I 2 5 0) 2 7 0) 2 8 0) 3 9 0
def c_name (x : gS) (lo hi : Int32) : Int32 := if q_span lo hi = 0 then -2 else if x.1 1 7 < 5 then x.1 1 7 else -4
def c_nameS (x : gS) (lo hi : Int32) : gS := if q_span lo hi = 0 then x else (if x.1 1 7 < 5 then gU (q_fg x.1) 1 7 (x.1 1 7 + 1) else q_fg x.1, x.2.1, if x.1 1 7 < 5 then p_addNA x.2.2.1 (cN (x.1 1 7)) lo hi else x.2.2.1, x.2.2.2)
def c_span (x : gS) (v lo hi : Int32) : Int32 := if p_hasN x.1 v = 0 then -1 else if q_span lo hi = 0 then -2 else 1
def c_spanS (x : gS) (v lo hi : Int32) : gS := if p_hasN x.1 v = 0 then x else if q_span lo hi = 0 then x else (q_fg x.1, x.2.1, gU (gU x.2.2.1 6 (cN v) lo) 7 (cN v) hi, x.2.2.2)
def c_cost (x : gS) (v w : Int32) : Int32 := if p_hasN x.1 v = 0 then -1 else if q_within w 99 = 0 then -2 else x.2.2.1 8 (cN v)
def c_costS (x : gS) (v w : Int32) : gS := if p_hasN x.1 v = 0 then x else if q_within w 99 = 0 then x else (q_fg x.1, x.2.1, gU x.2.2.1 8 (cN v) w, x.2.2.2)
def c_row (x : gS) (se ri : Int32) : Int32 := if se < 0 then -2 else if 2 < se then -2 else if q_within ri 1000 = 0 then -2 else if x.1 1 8 < 8 then x.1 1 8 else -4
def c_rowS (x : gS) (se ri : Int32) : gS := if se < 0 then x else if 2 < se then x else if q_within ri 1000 = 0 then x else (if x.1 1 8 < 8 then gU (q_fg x.1) 1 8 (x.1 1 8 + 1) else q_fg x.1, x.2.1, if x.1 1 8 < 8 then p_addRA x.2.2.1 (cN (x.1 1 8)) se ri else x.2.2.1, x.2.2.2)
def c_right (x : gS) (r w : Int32) : Int32 := if p_hasR x.1 x.2.2.1 r = 0 then -1 else if q_within w 1000 = 0 then -2 else 1
def c_rightS (x : gS) (r w : Int32) : gS := if p_hasR x.1 x.2.2.1 r = 0 then x else if q_within w 1000 = 0 then x else (q_fg x.1, x.2.1, gU x.2.2.1 10 (cN r) w, x.2.2.2)
def c_factor (x : gS) (r v w : Int32) : Int32 := if p_hasR x.1 x.2.2.1 r = 0 then -1 else if p_hasN x.1 v = 0 then -1 else if q_within w 9 = 0 then -2 else 1
def c_factorS (x : gS) (r v w : Int32) : gS := if p_hasR x.1 x.2.2.1 r = 0 then x else if p_hasN x.1 v = 0 then x else if q_within w 9 = 0 then x else (q_fg x.1, x.2.1, gU x.2.2.1 (40 + cN r) (cN v) w, x.2.2.2)
def c_drop (x : gS) (r : Int32) : Int32 := if p_hasR x.1 x.2.2.1 r = 0 then -1 else p_cnt (gU x.2.2.1 12 (cN r) 0) (cN (x.1 1 8))
def c_dropS (x : gS) (r : Int32) : gS := if p_hasR x.1 x.2.2.1 r = 0 then x else (q_fg x.1, x.2.1, gU x.2.2.1 12 (cN r) 0, x.2.2.2)
def c_clear (x : gS) : Int32 := x.1 1 7
def c_clearS (x : gS) : gS := (gU (gU (q_fg x.1) 1 7 0) 1 8 0, x.2.1, x.2.2.1, x.2.2.2)
def h_r (x : gS) : Int32 := s_hp x.1 x.2.1 x.2.2.1 x.2.2.2 (cN (x.1 1 7)) (cN (x.1 1 8))
def hS (x : gS) : gS := (s_hpI x.1 x.2.1 x.2.2.1 x.2.2.2 (cN (x.1 1 7)) (cN (x.1 1 8)), s_hpJ x.1 x.2.1 x.2.2.1 x.2.2.2 (cN (x.1 1 7)) (cN (x.1 1 8)), s_hpA x.1 x.2.1 x.2.2.1 x.2.2.2 (cN (x.1 1 7)) (cN (x.1 1 8)), s_hpB x.1 x.2.1 x.2.2.1 x.2.2.2 (cN (x.1 1 7)) (cN (x.1 1 8)))
def fS (x : gS) : gS := (s_ffI x.1, s_ffJ x.1 x.2.1 x.2.2.1 x.2.2.2 (cN (x.1 1 7)) (cN (x.1 4 7)) (cN (x.1 4 8)), s_ffA x.1 x.2.1 x.2.2.1 x.2.2.2 (cN (x.1 1 7)) (cN (x.1 4 7)) (cN (x.1 4 8)), s_ffB x.1 x.2.1 x.2.2.1 x.2.2.2 (cN (x.1 1 7)) (cN (x.1 4 7)) (cN (x.1 4 8)))
def bS (x : gS) : gS := (s_brI x.1 x.2.1 x.2.2.1 x.2.2.2 (cN (x.1 1 7)) (cN (x.1 1 8)), s_brJ x.1 x.2.1 x.2.2.1 x.2.2.2 (cN (x.1 1 7)) (cN (x.1 1 8)), s_brA x.1 x.2.1 x.2.2.1 x.2.2.2 (cN (x.1 1 7)) (cN (x.1 1 8)), s_brB x.1 x.2.1 x.2.2.1 x.2.2.2 (cN (x.1 1 7)) (cN (x.1 1 8)))
def c_run (x : gS) : Int32 := if h_r x = 0 then 0 else 1
def c_least (x : gS) (pt : Int32) : Int64 := if q_z01 pt = 0 then -2 else if h_r x = 0 then -3 else s_part (s_sum (fS (hS x)).2.2.1 (fS (hS x)).2.2.2 (cN ((hS x).1 1 7))) ((fS (hS x)).2.1 2 4) pt
def c_leastS (x : gS) (pt : Int32) : gS := if q_z01 pt = 0 then x else if h_r x = 0 then hS x else fS (hS x)
def c_value (x : gS) (v pt : Int32) : Int64 := if p_hasN x.1 v = 0 then -1 else if q_z01 pt = 0 then -2 else if h_r x = 0 then -3 else s_part ((fS (hS x)).2.2.2 20 (cN v)) ((fS (hS x)).2.1 2 4) pt
def c_valueS (x : gS) (v pt : Int32) : gS := if p_hasN x.1 v = 0 then x else if q_z01 pt = 0 then x else if h_r x = 0 then hS x else fS (hS x)
def c_tight (x : gS) (r : Int32) : Int32 := if p_hasR x.1 x.2.2.1 r = 0 then -1 else if h_r x = 0 then -3 else if s_tsum (fS (hS x)).2.2.1 (fS (hS x)).2.2.2 (cN r) (cN ((hS x).1 1 7)) = ((fS (hS x)).2.2.1 10 (cN r)).toInt64 * (fS (hS x)).2.1 2 4 then 1 else 0
def c_tightS (x : gS) (r : Int32) : gS := if p_hasR x.1 x.2.2.1 r = 0 then x else if h_r x = 0 then hS x else fS (hS x)
def q_re (x : gS) (v sd pt : Int32) : Int32 := if p_hasN x.1 v = 0 then -1 else if q_z01 sd = 0 then -2 else if q_z01 pt = 0 then -2 else if h_r x = 0 then -3 else 0
def q_reS (x : gS) (v sd pt : Int32) : gS := if p_hasN x.1 v = 0 then x else if q_z01 sd = 0 then x else if q_z01 pt = 0 then x else hS x
def eS (x : gS) (n0 : Nat) (sd : Int32) : gS := (x.1, (s_ebX x.1 x.2.1 x.2.2.1 x.2.2.2 (cN (x.1 4 7)) (cN (x.1 4 8)) n0 sd).1, (s_ebX x.1 x.2.1 x.2.2.1 x.2.2.2 (cN (x.1 4 7)) (cN (x.1 4 8)) n0 sd).2.1, (s_ebX x.1 x.2.1 x.2.2.1 x.2.2.2 (cN (x.1 4 7)) (cN (x.1 4 8)) n0 sd).2.2)
def aS (x : gS) (n0 : Nat) (sd : Int32) : gS := (x.1, (s_endX x.1 x.2.1 (d_thaw x.2.2.1 (cN (x.1 4 8))) x.2.2.2 (cN (x.1 4 7)) (cN (x.1 4 8)) n0 (s_w sd)).1, (s_endX x.1 x.2.1 (d_thaw x.2.2.1 (cN (x.1 4 8))) x.2.2.2 (cN (x.1 4 7)) (cN (x.1 4 8)) n0 (s_w sd)).2.1, (s_endX x.1 x.2.1 (d_thaw x.2.2.1 (cN (x.1 4 8))) x.2.2.2 (cN (x.1 4 7)) (cN (x.1 4 8)) n0 (s_w sd)).2.2)
def c_reach (x : gS) (v sd pt : Int32) : Int64 := if q_re x v sd pt = 0 then s_eb (hS x).1 (hS x).2.1 (hS x).2.2.1 (hS x).2.2.2 (cN ((hS x).1 4 7)) (cN ((hS x).1 4 8)) (cN v) sd pt else (q_re x v sd pt).toInt64
def c_reachS (x : gS) (v sd pt : Int32) : gS := if q_re x v sd pt = 0 then eS (hS x) (cN v) sd else q_reS x v sd pt
def c_far (x : gS) (v sd pt : Int32) : Int64 := if q_re x v sd pt = 0 then s_end (hS x).1 (hS x).2.1 (d_thaw (hS x).2.2.1 (cN ((hS x).1 4 8))) (hS x).2.2.2 (cN ((hS x).1 4 7)) (cN ((hS x).1 4 8)) (cN v) (s_w sd) pt else (q_re x v sd pt).toInt64
def c_farS (x : gS) (v sd pt : Int32) : gS := if q_re x v sd pt = 0 then aS (hS x) (cN v) sd else q_reS x v sd pt
def q_brow (x : gS) (k : Int32) : Int32 := s_brow ((bS (hS x)).1 2 9) k (cN ((hS x).1 1 8)) 0 0
def c_barred (x : gS) (k : Int32) : Int32 := if h_r x = 0 then if 0 ≤ q_brow x k then q_brow x k else -1 else -3
def c_barredS (x : gS) : gS := if h_r x = 0 then bS (hS x) else hS x
def wS (x : gS) : gS := (w_hpI x.1 x.2.2.1 (cN (x.1 1 7)) (cN (x.1 1 8)), x.2.1, w_hpA x.1 x.2.2.1 (cN (x.1 1 7)) (cN (x.1 1 8)), x.2.2.2)
def q_rw (x : gS) : Int32 := if p_cw x.2.2.1 (cN (x.1 1 7)) ≤ 20000 then if w_hp x.1 x.2.2.1 (cN (x.1 1 7)) (cN (x.1 1 8)) = 0 then -3 else 0 else -4
def q_rwS (x : gS) : gS := if p_cw x.2.2.1 (cN (x.1 1 7)) ≤ 20000 then wS x else x
def c_whole (x : gS) : Int32 := if q_rw x = 0 then (q_rwS x).1 3 7 else q_rw x
def c_wholeValue (x : gS) (v : Int32) : Int32 := if p_hasN x.1 v = 0 then -1 else if q_rw x = 0 then (q_rwS x).2.2.1 23 (cN v) else q_rw x
def c_wholeValueS (x : gS) (v : Int32) : gS := if p_hasN x.1 v = 0 then x else q_rwS x
def c_isWhole (x : gS) : Int32 := if q_rw x = -4 then -4 else if q_rw x = 0 then 1 else 0
def c_told (x : gS) (w : Int32) : Int32 := if w = 0 then x.1 1 7 else if w = 1 then p_cnt x.2.2.1 (cN (x.1 1 8)) else if w = 2 then x.1 1 8 else -2
def m_isN (I : gF) (v : Int32) : Int32 := if v < 0 then 0 else if I 5 0 ≤ v then 0 else 1
def m_isR (I a : gF) (v : Int32) : Int32 := if v < 0 then 0 else if I 5 1 ≤ v then 0 else if a 33 (cN v) = 0 then 0 else 1
def m_span (lo hi : Int32) : Int32 := if lo < -100 then 0 else if 100 < hi then 0 else if hi < lo then 0 else 1
def m_cmp (x y z w : Int64) : Int32 := if z * y ≤ x * w then if x * w ≤ z * y then 0 else 1 else -1
def m_cnt (a : gF) : Nat → Int32
  | 0 => 0
  | n + 1 => if a 33 n = 0 then m_cnt a n + 0 else m_cnt a n + 1
def m_wipN (a : gF) (mn : Nat) : Nat → gF
  | 0 => a
  | r + 1 => gU (m_wipN a mn r) 32 ((5 * r) + mn) 0
def m_wipR (a : gF) (mr : Nat) : Nat → gF
  | 0 => a
  | r + 1 => gU (m_wipR a mr r) 32 ((5 * mr) + r) 0
def m_cw (a : gF) : Nat → Int64
  | 0 => 1
  | n + 1 => m_cw a n * (a 28 n - a 27 n + 1).toInt64
def m_large (a : gF) (mn : Nat) : Int32 := if m_cw a mn ≤ 20000 then 0 else 1
def m_name (x : gS) (lo hi : Int32) : Int32 := if m_span lo hi = 0 then -2 else if x.1 5 0 = 5 then -4 else x.1 5 0 + 1 - 1
def m_nameS (x : gS) (lo hi : Int32) : gS := if m_span lo hi = 0 then x else if x.1 5 0 = 5 then x else (gU (gU x.1 5 0 (x.1 5 0 + 1)) 5 9 0, x.2.1, m_wipN (gU (gU (gU x.2.2.1 27 (cN (x.1 5 0)) lo) 28 (cN (x.1 5 0)) hi) 29 (cN (x.1 5 0)) 0) (cN (x.1 5 0)) 8, x.2.2.2)
def m_sp (x : gS) (v lo hi : Int32) : Int32 := if m_isN x.1 v = 0 then -1 else if m_span lo hi = 0 then -2 else 1
def m_spS (x : gS) (v lo hi : Int32) : gS := if m_isN x.1 v = 0 then x else if m_span lo hi = 0 then x else (gU x.1 5 9 0, x.2.1, gU (gU x.2.2.1 27 (cN v) lo) 28 (cN v) hi, x.2.2.2)
def m_co (x : gS) (v w : Int32) : Int32 := if m_isN x.1 v = 0 then -1 else if w < -99 then -2 else if w ≤ 99 then x.2.2.1 29 (cN v) else -2
def m_coS (x : gS) (v w : Int32) : gS := if m_isN x.1 v = 0 then x else if w < -99 then x else if w ≤ 99 then (gU x.1 5 9 0, x.2.1, gU x.2.2.1 29 (cN v) w, x.2.2.2) else x
def m_row (x : gS) (se ri : Int32) : Int32 := if se < 0 then -2 else if 2 < se then -2 else if ri < -1000 then -2 else if ri ≤ 1000 then if x.1 5 1 = 8 then -4 else x.1 5 1 + 1 - 1 else -2
def m_rowS (x : gS) (se ri : Int32) : gS := if se < 0 then x else if 2 < se then x else if ri < -1000 then x else if ri ≤ 1000 then if x.1 5 1 = 8 then x else (gU (gU x.1 5 1 (x.1 5 1 + 1)) 5 9 0, x.2.1, m_wipR (gU (gU (gU x.2.2.1 30 (cN (x.1 5 1)) se) 31 (cN (x.1 5 1)) ri) 33 (cN (x.1 5 1)) 1) (cN (x.1 5 1)) 5, x.2.2.2) else x
def m_right (x : gS) (r w : Int32) : Int32 := if m_isR x.1 x.2.2.1 r = 0 then -1 else if w < -1000 then -2 else if w ≤ 1000 then 1 else -2
def m_rightS (x : gS) (r w : Int32) : gS := if m_isR x.1 x.2.2.1 r = 0 then x else if w < -1000 then x else if w ≤ 1000 then (gU x.1 5 9 0, x.2.1, gU x.2.2.1 31 (cN r) w, x.2.2.2) else x
def m_factor (x : gS) (r v w : Int32) : Int32 := if m_isR x.1 x.2.2.1 r = 0 then -1 else if m_isN x.1 v = 0 then -1 else if w < -9 then -2 else if w ≤ 9 then 1 else -2
def m_factorS (x : gS) (r v w : Int32) : gS := if m_isR x.1 x.2.2.1 r = 0 then x else if m_isN x.1 v = 0 then x else if w < -9 then x else if w ≤ 9 then (gU x.1 5 9 0, x.2.1, gU x.2.2.1 32 ((5 * cN r) + cN v) w, x.2.2.2) else x
def m_drop (x : gS) (r : Int32) : Int32 := if m_isR x.1 x.2.2.1 r = 0 then -1 else m_cnt (gU x.2.2.1 33 (cN r) 0) (cN (x.1 5 1))
def m_dropS (x : gS) (r : Int32) : gS := if m_isR x.1 x.2.2.1 r = 0 then x else (gU x.1 5 9 0, x.2.1, gU x.2.2.1 33 (cN r) 0, x.2.2.2)
def m_clear (x : gS) : Int32 := x.1 5 0
def m_clearS (x : gS) : gS := (gU (gU (gU x.1 5 0 0) 5 1 0) 5 9 0, x.2.1, x.2.2.1, x.2.2.2)
def m_told (x : gS) (w : Int32) : Int32 := if w = 0 then x.1 5 0 else if w = 1 then m_cnt x.2.2.1 (cN (x.1 5 1)) else if w = 2 then x.1 5 1 else -2
def m_part (a : gF) (c nm : Nat) : Int64 := if 8 ≤ nI c then if nI nm = 5 then if 13 ≤ nI c then (a 28 ((c - 8) % 5)).toInt64 else (a 27 ((c - 8) % 5)).toInt64 else if nI nm = nI ((c - 8) % 5) then 1 else 0 else if nI nm = 5 then (a 31 c).toInt64 else (a 32 ((5 * c) + nm)).toInt64
def m_there (I : gF) (set : Int32) (c : Nat) : Int32 := if 8 ≤ nI c then if I 5 0 ≤ nI ((c - 8) % 5) then 0 else 1 else if (set >>> (nI c &&& 31)) &&& 1 = 1 then 1 else 0
def m_aft (I : gF) (set : Int32) : Nat → Nat → Nat
  | 0, k => k
  | n + 1, k => if m_there I set k = 0 then m_aft I set n (k + 1) else k
def m_all (a : gF) : Nat → Int32
  | 0 => 0
  | n + 1 => if a 33 n = 0 then m_all a n ||| 0 else m_all a n ||| ((1 : Int32) <<< (nI n &&& 31))
def m_pick (a : gF) (mn : Nat) : Prop := ∀ i, i < mn → ∃ k, a 88 i = nI k ∧ k < 18
def m_mx1 (a : gF) (b : gL) (i : Nat) : Nat → gL
  | 0 => b
  | j + 1 => gU (m_mx1 a b i j) 87 ((6 * i) + j) (m_part a (cN (a 88 i)) j)
def m_mx (a : gF) (b : gL) (mn : Nat) : Nat → gL
  | 0 => b
  | i + 1 => gU (m_mx1 a (m_mx a b mn i) i mn) 87 ((6 * i) + mn) (m_part a (cN (a 88 i)) 5)
def m_pv (b : gL) (k : Nat) : Nat → Nat → Nat
  | 0, p => p
  | n + 1, p => if b 87 ((6 * p) + k) = 0 then m_pv b k n (p + 1) else p
def m_sw (b : gL) (k p : Nat) : Nat → gL
  | 0 => b
  | j + 1 => gU (gU (m_sw b k p j) 87 ((6 * k) + j) (m_sw b k p j 87 ((6 * p) + j))) 87 ((6 * p) + j) (m_sw b k p j 87 ((6 * k) + j))
def m_el1 (b : gL) (i k : Nat) (pv q bf : Int64) : Nat → gL
  | 0 => b
  | j + 1 => gU (m_el1 b i k pv q bf j) 87 ((6 * i) + j) ((pv * m_el1 b i k pv q bf j 87 ((6 * i) + j) - q * m_el1 b i k pv q bf j 87 ((6 * k) + j)) / bf)
def m_elI (b : gL) (i k : Nat) (pv q bf : Int64) (n : Nat) : gL := if nI i = nI k then b else m_el1 b i k pv q bf n
def m_el (b : gL) (k : Nat) (pv bf : Int64) (mn : Nat) : Nat → gL
  | 0 => b
  | i + 1 => m_elI (m_el b k pv bf mn i) i k pv (m_el b k pv bf mn i 87 ((6 * i) + k)) bf (mn + 1)
def m_sol (mn : Nat) : Nat → Nat → Int64 → gL → Int32 × Int64 × gL
  | 0, _, bf, b => (1, bf, b)
  | n + 1, k, bf, b => if m_pv b k (mn - k) k = mn then (0, bf, b) else m_sol mn n (k + 1) (m_sw b k (m_pv b k (mn - k) k) (mn + 1) 87 ((6 * k) + k)) (m_el (m_sw b k (m_pv b k (mn - k) k) (mn + 1)) k (m_sw b k (m_pv b k (mn - k) k) (mn + 1) 87 ((6 * k) + k)) bf mn mn)
def m_ov (b : gL) (mn : Nat) : Nat → gL
  | 0 => b
  | i + 1 => gU (m_ov b mn i) 89 i (m_ov b mn i 87 ((6 * i) + mn))
def m_ng (b : gL) : Nat → gL
  | 0 => b
  | i + 1 => gU (m_ng b i) 89 i (-m_ng b i 89 i)
def m_s0 (a : gF) (b : gL) (mn : Nat) : Int32 × Int64 × gL := m_sol mn mn 0 1 (m_mx a b mn mn)
def m_sJ (J : gL) (a : gF) (b : gL) (mn : Nat) : gL := if (m_s0 a b mn).1 = 0 then J else if 0 ≤ (m_s0 a b mn).2.1 then gU J 5 23 (m_s0 a b mn).2.1 else gU (gU J 5 23 (m_s0 a b mn).2.1) 5 23 (-(m_s0 a b mn).2.1)
def m_sB (a : gF) (b : gL) (mn : Nat) : gL := if (m_s0 a b mn).1 = 0 then (m_s0 a b mn).2.2 else if 0 ≤ (m_s0 a b mn).2.1 then m_ov (m_s0 a b mn).2.2 mn mn else m_ng (m_ov (m_s0 a b mn).2.2 mn mn) mn
def m_kp1 (J : gL) (a : gF) (b : gL) : Nat → Nat → Int32
  | 0, _ => 1
  | n + 1, i => if b 89 i < (a 27 i).toInt64 * J 5 23 then 0 else if b 89 i ≤ (a 28 i).toInt64 * J 5 23 then m_kp1 J a b n (i + 1) else 0
def m_ks (J : gL) (a : gF) (b : gL) (r : Nat) : Nat → Int64
  | 0 => (-a 31 r).toInt64 * J 5 23
  | n + 1 => m_ks J a b r n + (a 32 ((5 * r) + n)).toInt64 * b 89 n
def m_g2 (s : Int32) (T : Int64) (nx : Int32) : Int32 := if s = 2 then if 0 ≤ T then nx else 0 else nx
def m_g1 (s : Int32) (T : Int64) (nx : Int32) : Int32 := if s = 1 then if T = 0 then m_g2 s T nx else 0 else m_g2 s T nx
def m_g0 (s : Int32) (T : Int64) (nx : Int32) : Int32 := if s = 0 then if 0 < T then 0 else m_g1 s T nx else m_g1 s T nx
def m_kp2 (J : gL) (a : gF) (b : gL) (set : Int32) (mn : Nat) : Nat → Nat → Int32
  | 0, _ => 1
  | n + 1, r => if (set >>> (nI r &&& 31)) &&& 1 = 0 then m_kp2 J a b set mn n (r + 1) else m_g0 (a 30 r) (m_ks J a b r mn) (m_kp2 J a b set mn n (r + 1))
def m_keeps (J : gL) (a : gF) (b : gL) (set : Int32) (mn mr : Nat) : Int32 := if m_kp1 J a b mn 0 = 0 then 0 else m_kp2 J a b set mn mr 0
def m_ws (a : gF) (r : Nat) : Nat → Int32
  | 0 => -a 31 r
  | n + 1 => m_ws a r n + a 32 ((5 * r) + n) * a 90 n
def m_h2 (s T nx : Int32) : Int32 := if s = 2 then if 0 ≤ T then nx else 0 else nx
def m_h1 (s T nx : Int32) : Int32 := if s = 1 then if T = 0 then m_h2 s T nx else 0 else m_h2 s T nx
def m_h0 (s T nx : Int32) : Int32 := if s = 0 then if 0 < T then 0 else m_h1 s T nx else m_h1 s T nx
def m_kw (a : gF) (mn : Nat) : Nat → Nat → Int32
  | 0, _ => 1
  | n + 1, r => if a 33 r = 0 then m_kw a mn n (r + 1) else m_h0 (a 30 r) (m_ws a r mn) (m_kw a mn n (r + 1))
def m_fu (J b : gL) (i k : Nat) : gL := gU (gU b 37 k (b 89 i)) 38 k (J 5 23)
def m_fs (I : gF) (J b : gL) (i s : Nat) : gL := if I 5 24 = 0 then m_fu J b i ((2 * i) + s) else if nI s = 0 then if 0 ≤ m_cmp (b 89 i) (J 5 23) (b 37 ((2 * i) + s)) (b 38 ((2 * i) + s)) then b else m_fu J b i ((2 * i) + s) else if m_cmp (b 89 i) (J 5 23) (b 37 ((2 * i) + s)) (b 38 ((2 * i) + s)) ≤ 0 then b else m_fu J b i ((2 * i) + s)
def m_fr (I : gF) (J b : gL) (i : Nat) : Nat → gL
  | 0 => b
  | s + 1 => m_fs I J (m_fr I J b i s) i s
def m_t1 (I : gF) (J : gL) (a : gF) (b : gL) : Nat → Int64 × gL
  | 0 => (0, b)
  | i + 1 => ((m_t1 I J a b i).1 + (a 29 i).toInt64 * (m_t1 I J a b i).2 89 i, m_fr I J (m_t1 I J a b i).2 i 2)
def m_tc (I : gF) (J : gL) (x : Int64) : Int32 := if I 5 24 = 0 then -1 else m_cmp x (J 5 23) (J 5 11) (J 5 12)
def m_ru (J b : gL) (i k : Nat) : gL := gU (gU b 35 k (b 89 i)) 36 k (J 5 23)
def m_rs (cv : Int32) (J b : gL) (i s : Nat) : gL := if 0 ≤ cv then if nI s = 0 then if 0 ≤ m_cmp (b 89 i) (J 5 23) (b 35 ((2 * i) + s)) (b 36 ((2 * i) + s)) then b else m_ru J b i ((2 * i) + s) else if m_cmp (b 89 i) (J 5 23) (b 35 ((2 * i) + s)) (b 36 ((2 * i) + s)) ≤ 0 then b else m_ru J b i ((2 * i) + s) else m_ru J b i ((2 * i) + s)
def m_rr (cv : Int32) (J b : gL) (i : Nat) : Nat → gL
  | 0 => b
  | s + 1 => m_rs cv J (m_rr cv J b i s) i s
def m_t2 (cv : Int32) (J b : gL) : Nat → gL
  | 0 => b
  | i + 1 => m_rr cv J (m_t2 cv J b i) i 2
def m_fi (J b : gL) : Nat → Nat → Int32 → Int32
  | 0, _, f => f
  | n + 1, i, f => if f = 0 then m_fi J b n (i + 1) (m_cmp (b 89 i) (J 5 23) (b 34 i) (J 5 14)) else f
def m_cpb (b : gL) : Nat → gL
  | 0 => b
  | i + 1 => gU (m_cpb b i) 34 i (m_cpb b i 89 i)
def m_f0 (cv : Int32) : Int32 := if 0 ≤ cv then 0 else -1
def m_tI (I : gF) : gF := gU I 5 24 1
def m_tk0 (I : gF) (J : gL) (a : gF) (b : gL) (mn : Nat) : Int32 := m_tc I J (m_t1 I J a b mn).1
def m_tk2 (I : gF) (J : gL) (a : gF) (b : gL) (mn : Nat) : gL := m_t2 (m_tk0 I J a b mn) J (m_t1 I J a b mn).2 mn
def m_tk1 (I : gF) (J : gL) (a : gF) (b : gL) (mn : Nat) : Int32 := m_fi J (m_tk2 I J a b mn) mn 0 (m_f0 (m_tk0 I J a b mn))
def m_tJ (I : gF) (J : gL) (a : gF) (b : gL) (mn : Nat) : gL := if m_tk0 I J a b mn ≤ 0 then if 0 ≤ m_tk1 I J a b mn then gU (gU J 5 11 (m_t1 I J a b mn).1) 5 12 (J 5 23) else gU (gU (gU J 5 14 (J 5 23)) 5 11 (m_t1 I J a b mn).1) 5 12 (J 5 23) else J
def m_tB (I : gF) (J : gL) (a : gF) (b : gL) (mn : Nat) : gL := if m_tk0 I J a b mn ≤ 0 then if 0 ≤ m_tk1 I J a b mn then m_tk2 I J a b mn else m_cpb (m_tk2 I J a b mn) mn else (m_t1 I J a b mn).2
def m_low : Nat → Int64 → Int64 → Int64
  | 0, _, y => y
  | n + 1, x, y => if x = 0 then y else m_low n (y - y / x * x) x
def mGC : Nat := 18446744073709551616
def m_ab (x : Int64) : Int64 := if 0 ≤ x then x else -x
def m_gd (x y : Int64) : Int64 := m_low mGC (m_ab x) y
def m_lowest (x y : Int64) (pt : Int32) : Int64 := if pt = 0 then x / m_gd x y else y / m_gd x y
def m_nx (I a : gF) (set : Int32) (d : Nat) : Nat := m_aft I set (18 - cN (a 88 d + 1)) (cN (a 88 d + 1))
abbrev m_C : Type := Nat × Int32 × gS
def m_cS (mn : Nat) (x : gS) : gS := (x.1, m_sJ x.2.1 x.2.2.1 x.2.2.2 mn, x.2.2.1, m_sB x.2.2.1 x.2.2.2 mn)
def m_cT (mn : Nat) (x : gS) : gS := (m_tI x.1, m_tJ x.1 x.2.1 x.2.2.1 x.2.2.2 mn, x.2.2.1, m_tB x.1 x.2.1 x.2.2.1 x.2.2.2 mn)
def m_cA (x : gS) (set : Int32) (d : Nat) : gS := (x.1, x.2.1, gU x.2.2.1 88 d (nI (m_nx x.1 x.2.2.1 set d)), x.2.2.2)
def m_cP (x : gS) (set : Int32) (d : Nat) : gS := (x.1, x.2.1, gU (gU x.2.2.1 88 d (nI (m_nx x.1 x.2.2.1 set d))) 88 (d + 1) (nI (m_nx x.1 x.2.2.1 set d)), x.2.2.2)
def m_cor (mn mr : Nat) (set al : Int32) : Nat → m_C → Int32 × gS
  | 0, x => x.2
  | n + 1, (0, f, x) => (f, x)
  | n + 1, (d + 1, f, x) => if nI (m_nx x.1 x.2.2.1 set d) ≤ 17 then if x.1 5 0 ≤ nI d + 1 then if (m_s0 (m_cA x set d).2.2.1 x.2.2.2 mn).1 = 0 then m_cor mn mr set al n (d + 1, f, m_cS mn (m_cA x set d)) else if m_keeps (m_cS mn (m_cA x set d)).2.1 (m_cA x set d).2.2.1 (m_cS mn (m_cA x set d)).2.2.2 set mn mr = 0 then m_cor mn mr set al n (d + 1, f, m_cS mn (m_cA x set d)) else if al = 0 then (1, m_cS mn (m_cA x set d)) else m_cor mn mr set al n (d + 1, 1, m_cT mn (m_cS mn (m_cA x set d))) else m_cor mn mr set al n (d + 1 + 1, f, m_cP x set d) else m_cor mn mr set al n (d, f, m_cA x set d)
def m_mu (a : gF) : Nat → Nat
  | 0 => 0
  | d + 1 => m_mu a d + (19 - cN (a 88 d + 1)) * 20 ^ (5 - d)
def m_pk (a : gF) (dd : Nat) : Prop := (∀ i, i + 1 < dd → ∃ k, a 88 i = nI k ∧ k < 18) ∧ (∀ d, dd = d + 1 → ∃ q, a 88 d + 1 = nI q ∧ q ≤ 18)
def mCF : Nat := 1000000000000
def m_c0 (x : gS) (set al : Int32) (mn mr : Nat) : Int32 × gS := if m_keeps (gU x.2.1 5 23 1) (gU x.2.2.1 88 0 (-1)) x.2.2.2 set mn mr = 0 then (m_keeps (gU x.2.1 5 23 1) (gU x.2.2.1 88 0 (-1)) x.2.2.2 set mn mr, (x.1, gU x.2.1 5 23 1, gU x.2.2.1 88 0 (-1), x.2.2.2)) else if al = 0 then (m_keeps (gU x.2.1 5 23 1) (gU x.2.2.1 88 0 (-1)) x.2.2.2 set mn mr, (x.1, gU x.2.1 5 23 1, gU x.2.2.1 88 0 (-1), x.2.2.2)) else (m_keeps (gU x.2.1 5 23 1) (gU x.2.2.1 88 0 (-1)) x.2.2.2 set mn mr, m_cT mn (x.1, gU x.2.1 5 23 1, gU x.2.2.1 88 0 (-1), x.2.2.2))
def m_cc (x : gS) (set al : Int32) (mn mr : Nat) : Int32 × gS := m_cor mn mr set al mCF (1, 0, (x.1, x.2.1, gU x.2.2.1 88 0 (-1), x.2.2.2))
def m_corners (x : gS) (set al : Int32) (mn mr : Nat) : Int32 × gS := if x.1 5 0 = 0 then m_c0 x set al mn mr else m_cc x set al mn mr
abbrev m_K : Type := Int32 × gS
def m_bt (set : Int32) (k : Nat) : Int32 := (set >>> (nI k &&& 31)) &&& 1
def m_kn (mn mr : Nat) : Nat → m_K → m_K
  | 0, x => x
  | k + 1, x => if x.2.1 5 10 = 0 then if m_bt x.1 k = 1 then if (m_corners x.2 (s_wo x.1 k) 0 mn mr).1 = 0 then m_kn mn mr k (s_wo x.1 k, (m_corners x.2 (s_wo x.1 k) 0 mn mr).2) else m_kn mn mr k (x.1, (m_corners x.2 (s_wo x.1 k) 0 mn mr).2) else m_kn mn mr k x else x
def m_ib (I a : gF) (set : Int32) : Nat → gF
  | 0 => a
  | r + 1 => if I 5 10 = 0 then if m_bt set r = 1 then gU (m_ib I a set r) 39 r 1 else gU (m_ib I a set r) 39 r 0 else gU (m_ib I a set r) 39 r 0
def m_k1 (x : gS) (mn mr : Nat) : Int32 × gS := m_corners (gU (gU x.1 5 9 1) 5 24 0, x.2.1, x.2.2.1, x.2.2.2) (m_all x.2.2.1 mr) 1 mn mr
def m_k2 (x : gS) (mn mr : Nat) : gS := (gU (m_k1 x mn mr).2.1 5 10 (m_k1 x mn mr).1, (m_k1 x mn mr).2.2.1, (m_k1 x mn mr).2.2.2.1, (m_k1 x mn mr).2.2.2.2)
def m_k3 (x : gS) (mn mr : Nat) : m_K := m_kn mn mr 8 (m_all (m_k2 x mn mr).2.2.1 mr, m_k2 x mn mr)
def m_know (x : gS) (mn mr : Nat) : gS := if x.1 5 9 = 0 then ((m_k3 x mn mr).2.1, (m_k3 x mn mr).2.2.1, m_ib (m_k3 x mn mr).2.1 (m_k3 x mn mr).2.2.2.1 (m_k3 x mn mr).1 8, (m_k3 x mn mr).2.2.2.2) else x
def kS (x : gS) : gS := m_know x (cN (x.1 5 0)) (cN (x.1 5 1))
def m_nz (y : gS) (mn : Nat) : Prop := ¬ y.1 5 10 = 0 → ¬ y.2.1 5 12 = 0 ∧ (0 < mn → ¬ y.2.1 5 14 = 0) ∧ ∀ k, k < 2 * mn → ¬ y.2.2.2 36 k = 0 ∧ ¬ y.2.2.2 38 k = 0
def m_run (x : gS) : Int32 := if (kS x).1 5 10 = 0 then 0 else 1
def m_least (x : gS) (pt : Int32) : Int64 := if q_z01 pt = 0 then -2 else if (kS x).1 5 10 = 0 then -3 else m_lowest ((kS x).2.1 5 11) ((kS x).2.1 5 12) pt
def m_leastS (x : gS) (pt : Int32) : gS := if q_z01 pt = 0 then x else kS x
def m_value (x : gS) (v pt : Int32) : Int64 := if m_isN x.1 v = 0 then -1 else if q_z01 pt = 0 then -2 else if (kS x).1 5 10 = 0 then -3 else m_lowest ((kS x).2.2.2 34 (cN v)) ((kS x).2.1 5 14) pt
def m_valueS (x : gS) (v pt : Int32) : gS := if m_isN x.1 v = 0 then x else if q_z01 pt = 0 then x else kS x
def m_reach (x : gS) (v sd pt : Int32) : Int64 := if m_isN x.1 v = 0 then -1 else if q_z01 sd = 0 then -2 else if q_z01 pt = 0 then -2 else if (kS x).1 5 10 = 0 then -3 else m_lowest ((kS x).2.2.2 35 ((2 * cN v) + cN sd)) ((kS x).2.2.2 36 ((2 * cN v) + cN sd)) pt
def m_reachS (x : gS) (v sd pt : Int32) : gS := if m_isN x.1 v = 0 then x else if q_z01 sd = 0 then x else if q_z01 pt = 0 then x else kS x
def m_far (x : gS) (v sd pt : Int32) : Int64 := if m_isN x.1 v = 0 then -1 else if q_z01 sd = 0 then -2 else if q_z01 pt = 0 then -2 else if (kS x).1 5 10 = 0 then -3 else m_lowest ((kS x).2.2.2 37 ((2 * cN v) + cN sd)) ((kS x).2.2.2 38 ((2 * cN v) + cN sd)) pt
def m_tsum (x : gS) (r : Nat) : Nat → Int64
  | 0 => if x.1 5 0 = 0 then (-x.2.2.1 31 r).toInt64 else (-x.2.2.1 31 r).toInt64 * x.2.1 5 14
  | n + 1 => m_tsum x r n + (x.2.2.1 32 ((5 * r) + n)).toInt64 * x.2.2.2 34 n
def m_tight (x : gS) (r : Int32) : Int32 := if m_isR x.1 x.2.2.1 r = 0 then -1 else if (kS x).1 5 10 = 0 then -3 else if m_tsum (kS x) (cN r) (cN (x.1 5 0)) = 0 then 1 else 0
def m_tightS (x : gS) (r : Int32) : gS := if m_isR x.1 x.2.2.1 r = 0 then x else kS x
def m_brow (a : gF) (k : Int32) : Nat → Nat → Int32 → Int32
  | 0, _, _ => -1
  | n + 1, r, pl => if a 39 r = 0 then m_brow a k n (r + 1) pl else if pl = k then nI r else m_brow a k n (r + 1) (pl + 1)
def m_barred (x : gS) (k : Int32) : Int32 := if (kS x).1 5 10 = 0 then m_brow (kS x).2.2.1 k 8 0 0 else -3
def m_w0 (a : gF) : Nat → gF
  | 0 => a
  | i + 1 => gU (m_w0 a i) 90 i (m_w0 a i 27 i)
def m_wc (a : gF) : Nat → Int32
  | 0 => 0
  | i + 1 => m_wc a i + a 29 i * a 90 i
def m_wb (a : gF) : Nat → gF
  | 0 => a
  | i + 1 => gU (m_wb a i) 91 i (m_wb a i 90 i)
def m_od : Nat → gF → Nat × gF
  | 0, a => (0, a)
  | k + 1, a => if a 90 k = a 28 k then m_od k (gU a 90 k (a 27 k)) else (k + 1, a)
abbrev m_F : Type := Int32 × gF × gF
def m_tw (mn mr : Nat) (x : m_F) : m_F := if m_kw x.2.2 mn mr 0 = 0 then x else if x.1 = 0 then (1, gU x.2.1 5 27 (m_wc x.2.2 mn), m_wb x.2.2 mn) else if x.2.1 5 27 ≤ m_wc x.2.2 mn then x else (1, gU x.2.1 5 27 (m_wc x.2.2 mn), m_wb x.2.2 mn)
def m_nw (mn : Nat) (a : gF) : Nat × gF := if (m_od mn a).1 = 0 then m_od mn a else ((m_od mn a).1, gU (m_od mn a).2 90 ((m_od mn a).1 - 1) ((m_od mn a).2 90 ((m_od mn a).1 - 1) + 1))
def m_fw (mn mr : Nat) : Nat → Nat × m_F → m_F
  | 0, x => x.2
  | n + 1, (0, x) => x
  | n + 1, (k + 1, x) => m_fw mn mr n ((m_nw mn (m_tw mn mr x).2.2).1, (m_tw mn mr x).1, (m_tw mn mr x).2.1, (m_nw mn (m_tw mn mr x).2.2).2)
def m_in (a : gF) (mn : Nat) : Prop := ∀ i, i < mn → -100 ≤ (a 27 i).toInt ∧ (a 27 i).toInt ≤ (a 90 i).toInt ∧ (a 90 i).toInt ≤ (a 28 i).toInt ∧ (a 28 i).toInt ≤ 100
def m_sps (a : gF) (mn : Nat) : Prop := ∀ i, i < mn → -100 ≤ (a 27 i).toInt ∧ (a 27 i).toInt ≤ (a 28 i).toInt ∧ (a 28 i).toInt ≤ 100
def m_rem (a : gF) (i : Nat) : Nat := ((a 28 i).toInt - (a 90 i).toInt).toNat
def m_mv (a : gF) : Nat → Nat
  | 0 => 0
  | i + 1 => m_mv a i * 201 + m_rem a i
def m_ms (kk : Nat) (a : gF) (mn : Nat) : Nat := if kk = 0 then 0 else m_mv a mn + 1
def mWF : Nat := 1000000000000000
def m_fwX (I a : gF) (mn mr : Nat) : m_F := m_fw mn mr mWF (1, 0, I, m_w0 a mn)
def m_fS (x : gS) : gS := ((m_fwX x.1 x.2.2.1 (cN (x.1 5 0)) (cN (x.1 5 1))).2.1, x.2.1, (m_fwX x.1 x.2.2.1 (cN (x.1 5 0)) (cN (x.1 5 1))).2.2, x.2.2.2)
def m_fr0 (x : gS) : Int32 := (m_fwX x.1 x.2.2.1 (cN (x.1 5 0)) (cN (x.1 5 1))).1
def m_lg (x : gS) : Int32 := m_large x.2.2.1 (cN (x.1 5 0))
def m_whole (x : gS) : Int32 := if m_lg x = 0 then if m_fr0 x = 0 then -3 else (m_fS x).1 5 27 else -4
def m_wholeS (x : gS) : gS := if m_lg x = 0 then m_fS x else x
def m_wv (x : gS) (v : Int32) : Int32 := if m_isN x.1 v = 0 then -1 else if m_lg x = 0 then if m_fr0 x = 0 then -3 else (m_fS x).2.2.1 91 (cN v) else -4
def m_wvS (x : gS) (v : Int32) : gS := if m_isN x.1 v = 0 then x else if m_lg x = 0 then m_fS x else x
def m_isW (x : gS) : Int32 := if m_lg x = 0 then if m_fr0 x = 0 then 0 else 1 else -4
