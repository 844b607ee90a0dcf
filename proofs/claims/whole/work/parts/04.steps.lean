section GX
variable {p : Program} {l : Launch} {e : Env} {R : Room} {s : State} {m : MethodId} {args : Array Value} {below : List Frame} {meth : Method} {c : Code} {H : Heap} {locs : List Loc} {cells slots : Nat} {Q : State → Prop}
variable {cc : ByteArray} {pc : Nat} {ls : Array Slot} {rest : List Value} {D : va_G} {ad : Nat → Nat} {cy : Nat → ClassId} {A : Nat → Prop} {I : gF} {J : gL} {a : gF} {b : gL}
/-- a field is read -/
theorem gx_get (hx : p.tables.exec = Jvm.exec) (hb : c.code = cc) {own ref C : String} {T : u_T} {N ci index : Nat} {Ts : List Cond} {ks : List gFK} (hts : ∀ w ∈ Ts, w.before args s = true) (hin : ∀ w ∈ u_ws C T N, w ∈ Ts) (hown : s.vm.findClass own = some m.cls) (G : GG D ad cy A s I J a b H locs) (k : Nat) (hk : k < 92) (hs : gsh k = .inl (ci, ks)) (hc : vwCl[ci]? = some (C, T, N)) (j : Nat) (hj : j < N) {fk : gFK} (hf : ks[j]? = some fk) (hlink : (Cond.fieldLink own index ref (T j).2.1 (T j).2.2.1).before args s = true) (he : ref = (T j).1) {v : Value} (hv : gV ad I J k j fk = v) (hdg : decode cc pc = .ok (.getfield index, 3))
    (kk : W p l e R s m args below meth c H locs cells slots Q (F0 m (pc + 3) ls (v :: rest))) : W p l e R s m args below meth c H locs cells slots Q (F0 m pc ls (.ref (ad k) :: rest)) := by
  subst hv
  subst he
  exact va_get (D := D) (ci := ci) (C := C) (T := T) (N := N) hx hb hts hin hown G.1 G.2.1 k ((gWl_get hk).trans (by rw [gE_ob hs])) hc j hj hlink (fun _ h9 => h9) (gfs_get hf) hdg kk
/-- an int (or boolean) field is written -/
theorem gx_putI (hx : p.tables.exec = Jvm.exec) (hb : c.code = cc) {own ref C : String} {T : u_T} {N ci index : Nat} {Ts : List Cond} {ks : List gFK} (hts : ∀ w ∈ Ts, w.before args s = true) (hin : ∀ w ∈ u_ws C T N, w ∈ Ts) (ty0 : Nat → FieldType) (hty : ∀ k, k < N → parseFieldDescriptor (T k).2.2.1 = some (ty0 k)) (hnm : ∀ a, a < N → ∀ b, b < N → a ≠ b → (T a).2.1 ≠ (T b).2.1) (hown : s.vm.findClass own = some m.cls) (G : GG D ad cy A s I J a b H locs) (k : Nat) (hk : k < 92) (hs : gsh k = .inl (ci, ks)) (hc : vwCl[ci]? = some (C, T, N)) (j : Nat) (hj : j < N) (hf : ks[j]? = some none) (hlink : (Cond.fieldLink own index ref (T j).2.1 (T j).2.2.1).before args s = true) (he : ref = (T j).1) (hfin : (T j).2.2.2 = false) {ty : FieldType} {x : Int32} (hd : parseFieldDescriptor (T j).2.2.1 = some ty) (hn : narrow ty (.int x) = .int x) (hfit : fits ty (.int x) = true) (hdg : decode cc pc = .ok (.putfield index, 3))
    (kk : ∀ (H1 : Heap) (locs1 : List Loc), GG D ad cy A s (gU I k j x) J a b H1 locs1 → W p l e R s m args below meth c H1 locs1 cells slots Q (F0 m (pc + 3) ls rest)) : W p l e R s m args below meth c H locs cells slots Q (F0 m pc ls (.int x :: .ref (ad k) :: rest)) := by
  subst he
  have hset : (gWl ad (gE ad cy I J a b)).set k (ad k, .inr (ci, (gfs ad I J k ks).set j (.int x))) = gWl ad (gE ad cy (gU I k j x) J a b) := by
    refine gWl_set hk ?_ ?_
    · rw [gE_ob hs, gfs_setI hf]
    · intro i hi
      exact gE_ne (gU_k hi) rfl rfl rfl
  refine va_put (D := D) (ci := ci) (C := C) (T := T) (N := N) hx hb hts hin ty0 hty hnm hown G.1 G.2.1 G.2.2.1 G.2.2.2.1 k ((gWl_get hk).trans (by rw [gE_ob hs])) hc j hj hlink (fun _ h9 => h9) hfin hd hn hfit (by rw [gfs_len]; exact (List.getElem?_eq_some_iff.mp hf).1) hdg (fun H1 locs1 hP hD hS => ?_)
  rw [hset] at hP hD
  exact kk H1 locs1 ⟨G.1, hP, hD, hS, G.2.2.2.2⟩
/-- a long field is written -/
theorem gx_putJ (hx : p.tables.exec = Jvm.exec) (hb : c.code = cc) {own ref C : String} {T : u_T} {N ci index : Nat} {Ts : List Cond} {ks : List gFK} (hts : ∀ w ∈ Ts, w.before args s = true) (hin : ∀ w ∈ u_ws C T N, w ∈ Ts) (ty0 : Nat → FieldType) (hty : ∀ k, k < N → parseFieldDescriptor (T k).2.2.1 = some (ty0 k)) (hnm : ∀ a, a < N → ∀ b, b < N → a ≠ b → (T a).2.1 ≠ (T b).2.1) (hown : s.vm.findClass own = some m.cls) (G : GG D ad cy A s I J a b H locs) (k : Nat) (hk : k < 92) (hs : gsh k = .inl (ci, ks)) (hc : vwCl[ci]? = some (C, T, N)) (j : Nat) (hj : j < N) (hf : ks[j]? = some (some none)) (hlink : (Cond.fieldLink own index ref (T j).2.1 (T j).2.2.1).before args s = true) (he : ref = (T j).1) (hfin : (T j).2.2.2 = false) {x : Int64} (hd : parseFieldDescriptor (T j).2.2.1 = some .long) (hdg : decode cc pc = .ok (.putfield index, 3))
    (kk : ∀ (H1 : Heap) (locs1 : List Loc), GG D ad cy A s I (gU J k j x) a b H1 locs1 → W p l e R s m args below meth c H1 locs1 cells slots Q (F0 m (pc + 3) ls rest)) : W p l e R s m args below meth c H locs cells slots Q (F0 m pc ls (.long x :: .ref (ad k) :: rest)) := by
  subst he
  have hset : (gWl ad (gE ad cy I J a b)).set k (ad k, .inr (ci, (gfs ad I J k ks).set j (.long x))) = gWl ad (gE ad cy I (gU J k j x) a b) := by
    refine gWl_set hk ?_ ?_
    · rw [gE_ob hs, gfs_setJ hf]
    · intro i hi
      exact gE_ne rfl (gU_k hi) rfl rfl
  refine va_put (D := D) (ci := ci) (C := C) (T := T) (N := N) hx hb hts hin ty0 hty hnm hown G.1 G.2.1 G.2.2.1 G.2.2.2.1 k ((gWl_get hk).trans (by rw [gE_ob hs])) hc j hj hlink (fun _ h9 => h9) hfin hd rfl rfl (by rw [gfs_len]; exact (List.getElem?_eq_some_iff.mp hf).1) hdg (fun H1 locs1 hP hD hS => ?_)
  rw [hset] at hP hD
  exact kk H1 locs1 ⟨G.1, hP, hD, hS, G.2.2.2.2⟩
theorem gC_i {k n ba co : Nat} (h : co ≤ 1) : gC ad a b k co n ba = (n, .inl (a k)) := by unfold gC; rw [if_pos h]
theorem gC_l {k n ba : Nat} : gC ad a b k 2 n ba = (n, .inr (.inl (b k))) := rfl
theorem gC_q {k n ba co : Nat} (h : 2 < co) : gC ad a b k co n ba = (n, .inr (.inr (.inr (.inr (fun i => if i < n then some (ad (ba + i)) else none))))) := by
  unfold gC
  rw [if_neg (by omega), if_neg (by omega)]
theorem gx_upd (f : Nat → Nat → Int32) (k i : Nat) (x : Int32) : gU f k i x k = upd (f k) i x := by
  funext j
  unfold gU upd
  simp
theorem gx_updL (f : Nat → Nat → Int64) (k i : Nat) (x : Int64) : gU f k i x k = vp_updL (f k) i x := by
  funext j
  unfold gU vp_updL
  simp
theorem gx_in {i : Int32} {j n : Nat} (hi : i = nI j) (hj : j < n) (hn : n < 2 ^ 31) : vp_in i n := by rw [hi]; exact vp_in_nI hj hn
/-- an int array is read at place j -/
theorem gx_iald (hx : p.tables.exec = Jvm.exec) (hb : c.code = cc) (G : GG D ad cy A s I J a b H locs) (k : Nat) (hk : k < 92) {n ba : Nat} (hs : gsh k = .inr (0, n, ba)) (hn : n < 2 ^ 31) {i : Int32} (j : Nat) (hi : i = nI j) (hj : j < n) (hdg : decode cc pc = .ok (.iaload, 1))
    (kk : W p l e R s m args below meth c H locs cells slots Q (F0 m (pc + 1) ls (.int (a k j) :: rest))) : W p l e R s m args below meth c H locs cells slots Q (F0 m pc ls (.int i :: .ref (ad k) :: rest)) := by
  refine va_iald hx hb G.1 G.2.1 k 0 ((gWl_get hk).trans (by rw [gE_ar hs, gC_i (by decide)])) rfl (gx_in hi hj hn) hdg ?_
  rw [hi, nI_clamp (Nat.lt_trans hj hn)]
  exact kk
/-- a boolean array is read at place j -/
theorem gx_zald (hx : p.tables.exec = Jvm.exec) (hb : c.code = cc) (G : GG D ad cy A s I J a b H locs) (k : Nat) (hk : k < 92) {n ba : Nat} (hs : gsh k = .inr (1, n, ba)) (hn : n < 2 ^ 31) {i : Int32} (j : Nat) (hi : i = nI j) (hj : j < n) (hdg : decode cc pc = .ok (.baload, 1))
    (kk : W p l e R s m args below meth c H locs cells slots Q (F0 m (pc + 1) ls (.int (a k j) :: rest))) : W p l e R s m args below meth c H locs cells slots Q (F0 m pc ls (.int i :: .ref (ad k) :: rest)) := by
  refine va_zald hx hb G.1 G.2.1 k 1 ((gWl_get hk).trans (by rw [gE_ar hs, gC_i (by decide)])) rfl (gx_in hi hj hn) hdg ?_
  rw [hi, nI_clamp (Nat.lt_trans hj hn)]
  exact kk
/-- a long array is read at place j -/
theorem gx_lald (hx : p.tables.exec = Jvm.exec) (hb : c.code = cc) (G : GG D ad cy A s I J a b H locs) (k : Nat) (hk : k < 92) {n ba : Nat} (hs : gsh k = .inr (2, n, ba)) (hn : n < 2 ^ 31) {i : Int32} (j : Nat) (hi : i = nI j) (hj : j < n) (hdg : decode cc pc = .ok (.laload, 1))
    (kk : W p l e R s m args below meth c H locs cells slots Q (F0 m (pc + 1) ls (.long (b k j) :: rest))) : W p l e R s m args below meth c H locs cells slots Q (F0 m pc ls (.int i :: .ref (ad k) :: rest)) := by
  refine va_lald hx hb G.1 G.2.1 k 2 ((gWl_get hk).trans (by rw [gE_ar hs, gC_l])) rfl (gx_in hi hj hn) hdg ?_
  rw [hi, nI_clamp (Nat.lt_trans hj hn)]
  exact kk
/-- a row of an array of int rows, or of long rows, is taken -/
theorem gx_aald (hx : p.tables.exec = Jvm.exec) (hb : c.code = cc) (G : GG D ad cy A s I J a b H locs) (k : Nat) (hk : k < 92) {co n ba : Nat} (hs : gsh k = .inr (co, n, ba)) (hco : co = 3 ∨ co = 4) (hn : n < 2 ^ 31) {i : Int32} (j : Nat) (hi : i = nI j) (hj : j < n) (hdg : decode cc pc = .ok (.aaload, 1))
    (kk : W p l e R s m args below meth c H locs cells slots Q (F0 m (pc + 1) ls (.ref (ad (ba + j)) :: rest))) : W p l e R s m args below meth c H locs cells slots Q (F0 m pc ls (.int i :: .ref (ad k) :: rest)) := by
  have hin := gx_in hi hj hn
  have hcl : i.toNatClampNeg = j := by rw [hi, nI_clamp (Nat.lt_trans hj hn)]
  have hw : (gWl ad (gE ad cy I J a b))[k]? = some (ad k, .inl (cy co, n, .inr (.inr (.inr (.inr (fun i => if i < n then some (ad (ba + i)) else none)))))) := (gWl_get hk).trans (by rw [gE_ar hs, gC_q (by omega)])
  have hv : va_rf ((fun i => if i < n then some (ad (ba + i)) else none) i.toNatClampNeg) = .ref (ad (ba + j)) := by
    rw [hcl]
    show va_rf (if j < n then some (ad (ba + j)) else none) = _
    rw [if_pos hj]
    rfl
  have kk2 : W p l e R s m args below meth c H locs cells slots Q (F0 m (pc + 1) ls (va_rf ((fun i => if i < n then some (ad (ba + i)) else none) i.toNatClampNeg) :: rest)) := by
    rw [hv]
    exact kk
  rcases hco with rfl | rfl
  · exact W.aald (v := va_rf ((fun i => if i < n then some (ad (ba + i)) else none) i.toNatClampNeg)) (ty := .array .int) hx hb (G.2.1 k _ hw) ((G.1.2 3 _ rfl).1 n (fun j => va_rf ((fun i => if i < n then some (ad (ba + i)) else none) j))) rfl (fun q => by cases q) (by show ¬ (i < 0 ∨ (arrV _ _ _).slots.size ≤ _); rw [arrV_size]; exact hin) (by show (arrV _ _ _).slots[_]? = _; rw [arrV_read _ _ (by rw [hcl]; exact hj)]) rfl rfl hdg kk2
  · exact W.aald (v := va_rf ((fun i => if i < n then some (ad (ba + i)) else none) i.toNatClampNeg)) (ty := .array .long) hx hb (G.2.1 k _ hw) ((G.1.2 4 _ rfl).1 n (fun j => va_rf ((fun i => if i < n then some (ad (ba + i)) else none) j))) rfl (fun q => by cases q) (by show ¬ (i < 0 ∨ (arrV _ _ _).slots.size ≤ _); rw [arrV_size]; exact hin) (by show (arrV _ _ _).slots[_]? = _; rw [arrV_read _ _ (by rw [hcl]; exact hj)]) rfl rfl hdg kk2
/-- an int array is written at place j -/
theorem gx_iast (hx : p.tables.exec = Jvm.exec) (hb : c.code = cc) (G : GG D ad cy A s I J a b H locs) (k : Nat) (hk : k < 92) {n ba : Nat} (hs : gsh k = .inr (0, n, ba)) (hn : n < 2 ^ 31) {i x : Int32} (j : Nat) (hi : i = nI j) (hj : j < n) (hdg : decode cc pc = .ok (.iastore, 1))
    (kk : ∀ (H1 : Heap) (locs1 : List Loc), GG D ad cy A s I J (gU a k j x) b H1 locs1 → W p l e R s m args below meth c H1 locs1 cells slots Q (F0 m (pc + 1) ls rest)) : W p l e R s m args below meth c H locs cells slots Q (F0 m pc ls (.int x :: .int i :: .ref (ad k) :: rest)) := by
  have hset : (gWl ad (gE ad cy I J a b)).set k (ad k, .inl (cy 0, n, .inl (upd (a k) j x))) = gWl ad (gE ad cy I J (gU a k j x) b) := by
    refine gWl_set hk ?_ ?_
    · rw [gE_ar hs, gC_i (by decide), gx_upd]
    · intro i hi
      exact gE_ne rfl rfl (gU_k hi) rfl
  refine va_iast hx hb G.1 G.2.1 G.2.2.1 G.2.2.2.1 k 0 ((gWl_get hk).trans (by rw [gE_ar hs, gC_i (by decide)])) rfl (gx_in hi hj hn) hdg (fun H1 locs1 hP hD hS => ?_)
  rw [hi, nI_clamp (Nat.lt_trans hj hn), hset] at hP hD
  exact kk H1 locs1 ⟨G.1, hP, hD, hS, G.2.2.2.2⟩
/-- a boolean array is written at place j -/
theorem gx_zast (hx : p.tables.exec = Jvm.exec) (hb : c.code = cc) (G : GG D ad cy A s I J a b H locs) (k : Nat) (hk : k < 92) {n ba : Nat} (hs : gsh k = .inr (1, n, ba)) (hn : n < 2 ^ 31) {i x : Int32} (j : Nat) (hi : i = nI j) (hj : j < n) (hz : vp_nar .boolean x = x) (hdg : decode cc pc = .ok (.bastore, 1))
    (kk : ∀ (H1 : Heap) (locs1 : List Loc), GG D ad cy A s I J (gU a k j x) b H1 locs1 → W p l e R s m args below meth c H1 locs1 cells slots Q (F0 m (pc + 1) ls rest)) : W p l e R s m args below meth c H locs cells slots Q (F0 m pc ls (.int x :: .int i :: .ref (ad k) :: rest)) := by
  have hset : (gWl ad (gE ad cy I J a b)).set k (ad k, .inl (cy 1, n, .inl (upd (a k) j x))) = gWl ad (gE ad cy I J (gU a k j x) b) := by
    refine gWl_set hk ?_ ?_
    · rw [gE_ar hs, gC_i (by decide), gx_upd]
    · intro i hi
      exact gE_ne rfl rfl (gU_k hi) rfl
  refine va_zast hx hb G.1 G.2.1 G.2.2.1 G.2.2.2.1 k 1 ((gWl_get hk).trans (by rw [gE_ar hs, gC_i (by decide)])) rfl (gx_in hi hj hn) hdg (fun H1 locs1 hP hD hS => ?_)
  rw [hz, hi, nI_clamp (Nat.lt_trans hj hn), hset] at hP hD
  exact kk H1 locs1 ⟨G.1, hP, hD, hS, G.2.2.2.2⟩
/-- a long array is written at place j -/
theorem gx_last (hx : p.tables.exec = Jvm.exec) (hb : c.code = cc) (G : GG D ad cy A s I J a b H locs) (k : Nat) (hk : k < 92) {n ba : Nat} (hs : gsh k = .inr (2, n, ba)) (hn : n < 2 ^ 31) {i : Int32} {x : Int64} (j : Nat) (hi : i = nI j) (hj : j < n) (hdg : decode cc pc = .ok (.lastore, 1))
    (kk : ∀ (H1 : Heap) (locs1 : List Loc), GG D ad cy A s I J a (gU b k j x) H1 locs1 → W p l e R s m args below meth c H1 locs1 cells slots Q (F0 m (pc + 1) ls rest)) : W p l e R s m args below meth c H locs cells slots Q (F0 m pc ls (.long x :: .int i :: .ref (ad k) :: rest)) := by
  have hset : (gWl ad (gE ad cy I J a b)).set k (ad k, .inl (cy 2, n, .inr (.inl (vp_updL (b k) j x)))) = gWl ad (gE ad cy I J a (gU b k j x)) := by
    refine gWl_set hk ?_ ?_
    · rw [gE_ar hs, gC_l, gx_updL]
    · intro i hi
      exact gE_ne rfl rfl rfl (gU_k hi)
  refine va_last hx hb G.1 G.2.1 G.2.2.1 G.2.2.2.1 k 2 ((gWl_get hk).trans (by rw [gE_ar hs, gC_l])) rfl (gx_in hi hj hn) hdg (fun H1 locs1 hP hD hS => ?_)
  rw [hi, nI_clamp (Nat.lt_trans hj hn), hset] at hP hD
  exact kk H1 locs1 ⟨G.1, hP, hD, hS, G.2.2.2.2⟩
/-- the length of an int array -/
theorem gx_alen (hx : p.tables.exec = Jvm.exec) (hb : c.code = cc) (G : GG D ad cy A s I J a b H locs) (k : Nat) (hk : k < 92) {n ba : Nat} (hs : gsh k = .inr (0, n, ba)) {v : Int32} (hv : nI n = v) (hdg : decode cc pc = .ok (.arraylength, 1))
    (kk : W p l e R s m args below meth c H locs cells slots Q (F0 m (pc + 1) ls (.int v :: rest))) : W p l e R s m args below meth c H locs cells slots Q (F0 m pc ls (.ref (ad k) :: rest)) :=
  va_alen (x := (n, .inl (a k))) hx hb G.1 G.2.1 k 0 ((gWl_get hk).trans (by rw [gE_ar hs, gC_i (by decide)])) rfl hv hdg kk
end GX
