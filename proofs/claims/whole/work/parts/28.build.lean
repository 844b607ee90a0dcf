/-! Building the world: cells by their numbers, some of them there -/
def PW (ks : List Nat) (ad : Nat → Nat) (E : Nat → va_E) : va_W := ks.map (fun k => (ad k, E k))
theorem PW_app {k1 k2 : List Nat} {ad : Nat → Nat} {E : Nat → va_E} : PW (k1 ++ k2) ad E = PW k1 ad E ++ PW k2 ad E := List.map_append
theorem PW_congr {ks : List Nat} {ad ad2 : Nat → Nat} {E E2 : Nat → va_E} (h1 : ∀ k ∈ ks, ad2 k = ad k) (h2 : ∀ k ∈ ks, E2 k = E k) : PW ks ad2 E2 = PW ks ad E := by
  unfold PW
  apply List.map_congr_left
  intro k hk
  rw [h1 k hk, h2 k hk]
theorem PW_push {ks : List Nat} {ad : Nat → Nat} {E : Nat → va_E} {k q : Nat} {e : va_E} (h : k ∉ ks) : PW ks ad E ++ [(q, e)] = PW (ks ++ [k]) (va_up ad k q) (va_up E k e) := by
  rw [PW_app, PW_congr (ad := ad) (E := E) (ad2 := va_up ad k q) (E2 := va_up E k e) (fun j hj => va_up_ne _ _ (fun c => h (c ▸ hj))) (fun j hj => va_up_ne _ _ (fun c => h (c ▸ hj)))]
  simp [PW, va_up]
def rw_ad (ad : Nat → Nat) (base n : Nat) (r : Nat → Nat) : Nat → Nat := fun k => if base ≤ k ∧ k < base + n then r (k - base) else ad k
def rw_E (E : Nat → va_E) (base n : Nat) (e : va_E) : Nat → va_E := fun k => if base ≤ k ∧ k < base + n then e else E k
theorem PW_rows {ks : List Nat} {ad : Nat → Nat} {E : Nat → va_E} {base n : Nat} {r : Nat → Nat} {e : va_E} (h : ∀ k ∈ ks, ¬ (base ≤ k ∧ k < base + n)) : PW ks ad E ++ (List.range n).map (fun i => (r i, e)) = PW (ks ++ (List.range n).map (fun i => base + i)) (rw_ad ad base n r) (rw_E E base n e) := by
  rw [PW_app, PW_congr (ad := ad) (E := E) (ad2 := rw_ad ad base n r) (E2 := rw_E E base n e) (fun j hj => if_neg (h j hj)) (fun j hj => if_neg (h j hj))]
  congr 1
  unfold PW
  rw [List.map_map]
  apply List.map_congr_left
  intro i hi
  have hi := List.mem_range.mp hi
  show (r i, e) = (rw_ad ad base n r (base + i), rw_E E base n e (base + i))
  unfold rw_ad rw_E
  rw [if_pos (by omega), if_pos (by omega), show base + i - base = i by omega]
theorem PW_get {ks : List Nat} {ad : Nat → Nat} {E : Nat → va_E} {p k : Nat} (h : ks[p]? = some k) : (PW ks ad E)[p]? = some (ad k, E k) := by
  simp [PW, List.getElem?_map, h]
theorem PW_set {ks : List Nat} {ad : Nat → Nat} {E : Nat → va_E} {p k : Nat} {e : va_E} (h : ks[p]? = some k) (hn : ∀ i, ks[i]? = some k → i = p) : (PW ks ad E).set p (ad k, e) = PW ks ad (va_up E k e) := by
  apply List.ext_getElem?
  intro i
  rw [List.getElem?_set]
  by_cases e1 : p = i
  · subst e1
    have hl : p < (PW ks ad E).length := by
      have := (List.getElem?_eq_some_iff.mp h).1
      simpa [PW] using this
    rw [if_pos rfl, if_pos hl, PW_get h]
    simp [va_up]
  · rw [if_neg e1]
    simp only [PW, List.getElem?_map]
    cases hi : ks[i]? with
    | none => rfl
    | some j =>
      have hj : j ≠ k := fun c => e1 (hn i (c ▸ hi)).symm
      simp [va_up, hj]
def pw_nd : List Nat → Bool
  | [] => true
  | k :: l => !(l.contains k) && pw_nd l
theorem pw_nd_inj : ∀ {ks : List Nat}, pw_nd ks = true → ∀ (i j k : Nat), ks[i]? = some k → ks[j]? = some k → i = j
  | [], _, i, j, k, h1, _ => by simp at h1
  | a :: l, h, i, j, k, h1, h2 => by
    simp only [pw_nd, Bool.and_eq_true, Bool.not_eq_true', List.contains_eq_mem, decide_eq_false_iff_not] at h
    match i, j, h1, h2 with
    | 0, 0, _, _ => rfl
    | 0, j + 1, h1, h2 =>
      simp at h1 h2
      subst h1
      exact absurd (List.mem_of_getElem? h2) h.1
    | i + 1, 0, h1, h2 =>
      simp at h1 h2
      subst h2
      exact absurd (List.mem_of_getElem? h1) h.1
    | i + 1, j + 1, h1, h2 =>
      simp at h1 h2
      rw [pw_nd_inj h.2 i j k h1 h2]
theorem gty_RA {D : va_G} {cy : Nat → ClassId} {s : State} (hK : va_K D vwCl (gty cy) s) (k : Nat) {cA : ClassId} {ty : FieldType} (h : (gty cy)[k]? = some (cA, ty)) : va_RA s cA ty := (hK.2 k _ h).2
section CX
variable {p : Program} {l : Launch} {e : Env} {R : Room} {s : State} {m : MethodId} {args : Array Value} {below : List Frame} {meth : Method} {c : Code} {H : Heap} {locs : List Loc} {cells slots : Nat} {Q : State → Prop}
variable {cc : ByteArray} {pc : Nat} {ls : Array Slot} {rest : List Value} {D : va_G} {ad : Nat → Nat} {cy : Nat → ClassId} {A : Nat → Prop} {E : Nat → va_E} {ks : List Nat}
/-- the world while it is built -/
def PP (D : va_G) (ks : List Nat) (ad : Nat → Nat) (cy : Nat → ClassId) (E : Nat → va_E) (A : Nat → Prop) (s : State) (H : Heap) (locs : List Loc) : Prop :=
  va_K D vwCl (gty cy) s ∧ va_P D vwCl (PW ks ad E) H ∧ va_D A (PW ks ad E) ∧ va_S A s.heap H locs ∧ ∀ q, s.heap.size ≤ q → A q
/-- a new array becomes cell k -/
theorem cx_newa (hx : p.tables.exec = Jvm.exec) (hb : c.code = cc) {atype : ArrayType} (harr : (Cond.arrayClass (newarray.typeOf atype)).before args s = true) {ty : FieldType} (hty : newarray.typeOf atype = ty) (G : PP D ks ad cy E A s H locs) (k : Nat) (hk : ks.contains k = false) (co : Nat) (hco : (gty cy)[co]? = some (cy co, ty)) (hra : ∀ cA, va_RA s cA ty → s.vm.findClass ("[" ++ ty.toString) = some cA)
    {n : Int32} {N' : Nat} {a0 : vp_A} (ha : ∀ cA : ClassId, vp_cell cA a0 = arrV cA N' (fun _ => defaultValue ty)) (hn : ¬ n < 0) (hN : n.toNatClampNeg = N') (hbytes : N' * componentBytes ty ≤ 536870912) (hcells : cells + 1 ≤ R.cells) (hslots : slots + N' ≤ R.slots) (hdg : decode cc pc = .ok (.newarray atype, 2))
    (kk : ∀ (q : Nat) (H1 : Heap), PP D (ks ++ [k]) (va_up ad k q) cy (va_up E k (.inl (cy co, a0))) A s H1 locs → W p l e R s m args below meth c H1 locs (cells + 1) (slots + N') Q (F0 m (pc + 2) ls (.ref q :: rest))) : W p l e R s m args below meth c H locs cells slots Q (F0 m pc ls (.int n :: rest)) := by
  refine va_newa hx hb harr hty G.1 G.2.1 G.2.2.1 G.2.2.2.1 G.2.2.2.2 ha hn hN hbytes hcells hslots hdg (fun q cA H1 hK1 hP hD hS => ?_)
  have e1 : s.vm.findClass ("[" ++ ty.toString) = some cA := hra cA (hK1.2 (gty cy).length (cA, ty) (by simp)).2
  have e2 : s.vm.findClass ("[" ++ ty.toString) = some (cy co) := hra (cy co) (gty_RA G.1 co hco)
  have e3 : cA = cy co := Option.some.inj (e1.symm.trans e2)
  subst e3
  have hk2 : k ∉ ks := fun q => by simp [q] at hk
  rw [PW_push hk2] at hP hD
  exact kk q H1 ⟨G.1, hP, hD, hS, G.2.2.2.2⟩
/-- arrays of rows: the outer one becomes cell k, the rows become cells base, base + 1, .. -/
theorem cx_mna (hx : p.tables.exec = Jvm.exec) (hb : c.code = cc) {own : String} {index : Nat} {ty : FieldType} (hown : s.vm.findClass own = some m.cls) (hclink : (Cond.classLink own index ("[" ++ (FieldType.array ty).toString)).before args s = true) (hover : va_AOA ty s) (harr : (Cond.arrayClass ty).before args s = true) (G : PP D ks ad cy E A s H locs) (k base : Nat) (hk : ks.contains k = false) (cr co : Nat) (hcr : (gty cy)[cr]? = some (cy cr, ty)) (hco : (gty cy)[co]? = some (cy co, .array ty)) (hra : ∀ cA, va_RA s cA ty → s.vm.findClass ("[" ++ ty.toString) = some cA) (hts2 : (FieldType.array ty).toString = "[" ++ ty.toString)
    {n k2 : Int32} {N' K' : Nat} {z : vp_A} (hn : ¬ n < 0) (hk2 : ¬ k2 < 0) (hN : n.toNatClampNeg = N') (hM : k2.toNatClampNeg = K') (hb1 : N' * 4 ≤ 536870912) (hb2 : K' * componentBytes ty ≤ 536870912) (hb3 : K' ≤ 536870912) (hdf : fits ty (defaultValue ty) = true) (hdd : (defaultValue ty).isDefault = true) (hfr : ∀ j ∈ ks ++ [k], ¬ (base ≤ j ∧ j < base + N')) (hcells : cells + (1 + N') ≤ R.cells) (hslots : slots + (N' + N' * K') ≤ R.slots) (hz : ∀ c : ClassId, Jvm.Free.Multi.innerC c K' (defaultValue ty) = vp_cell c z) (hdg : decode cc pc = .ok (.multianewarray index 2, 4))
    (kk : ∀ (q : Nat) (r : Nat → Nat) (H1 : Heap), PP D ((ks ++ [k]) ++ (List.range N').map (fun i => base + i)) (rw_ad (va_up ad k q) base N' r) cy (rw_E (va_up E k (.inl (cy co, N', .inr (.inr (.inr (.inr (fun i => if i < N' then some (r i) else none))))))) base N' (.inl (cy cr, z))) A s H1 locs → W p l e R s m args below meth c H1 locs (cells + 1 + N') (slots + N' + N' * K') Q (F0 m (pc + 4) ls (.ref q :: rest))) : W p l e R s m args below meth c H locs cells slots Q (F0 m pc ls (.int k2 :: .int n :: rest)) := by
  have hcy : s.vm.findClass (FieldType.array ty).toString = some (cy cr) := by
    rw [hts2]
    exact hra _ (gty_RA G.1 cr hcr)
  refine va_mna (X := PW ks ad E) (L := []) (f := fun _ => .inl (cy cr, z)) hx hb hown hclink hover harr hcy G.1 (by rw [show va_pl [] (fun _ => (.inl (cy cr, z) : va_E)) = [] from rfl, List.append_nil]; exact G.2.1) (by rw [show va_pl [] (fun _ => (.inl (cy cr, z) : va_E)) = [] from rfl, List.append_nil]; exact G.2.2.1) G.2.2.2.1 G.2.2.2.2 hn hk2 hN hM hb1 hb2 hb3 hdf hdd hcells hslots hz hdg (fun q r cA H1 hr1 hr2 hK1 hP hD hS => ?_)
  have e1 : s.vm.findClass ("[" ++ (FieldType.array ty).toString) = some cA := (hK1.2 (gty cy).length (cA, .array ty) (by simp)).2
  have e2 : s.vm.findClass ("[" ++ (FieldType.array ty).toString) = some (cy co) := (G.1.2 co _ hco).2
  have e3 : cA = cy co := Option.some.inj (e1.symm.trans e2)
  subst e3
  have hk3 : k ∉ ks := fun q => by simp [q] at hk
  have ep : va_pl ([] ++ (List.range N').map r) (vr_up (fun _ => (.inl (cy cr, z) : va_E)) ((List.range N').map r) (.inl (cy cr, z))) = (List.range N').map (fun i => (r i, (.inl (cy cr, z) : va_E))) := by
    unfold va_pl
    rw [List.nil_append, List.map_map]
    apply List.map_congr_left
    intro i _
    show (r i, vr_up _ _ _ (r i)) = _
    unfold vr_up
    split <;> rfl
  rw [ep, PW_push hk3, PW_rows hfr] at hP hD
  exact kk q r H1 ⟨G.1, hP, hD, hS, G.2.2.2.2⟩
/-- a final field of an object that is being made -/
theorem cx_putF (hx : p.tables.exec = Jvm.exec) (hb : c.code = cc) {own ref C : String} {T : u_T} {N ci index : Nat} {Ts : List Cond} {fs : List Value} (hts : ∀ w ∈ Ts, w.before args s = true) (hin : ∀ w ∈ u_ws C T N, w ∈ Ts) (ty0 : Nat → FieldType) (hty : ∀ k, k < N → parseFieldDescriptor (T k).2.2.1 = some (ty0 k)) (hnm : ∀ a, a < N → ∀ b, b < N → a ≠ b → (T a).2.1 ≠ (T b).2.1) (hown : s.vm.findClass own = some m.cls) (hin2 : meth.name = "<init>") (G : PP D ks ad cy E A s H locs) (k pos : Nat) (hp : ks[pos]? = some k) (hnd : pw_nd ks = true) (hE : E k = .inr (ci, fs)) (hc : vwCl[ci]? = some (C, T, N)) (j : Nat) (hj : j < N) (hlink : (Cond.fieldLink own index ref (T j).2.1 (T j).2.2.1).before args s = true) (he : ref = (T j).1) (hfin : (T j).2.2.2 = true) (hdecl : (T j).1 = own) {v : Value} (hn : narrow (ty0 j) v = v) (hfit : fits (ty0 j) v = true) (hl : j < fs.length) (hdg : decode cc pc = .ok (.putfield index, 3))
    (kk : ∀ (H1 : Heap) (locs1 : List Loc), PP D ks ad cy (va_up E k (.inr (ci, fs.set j v))) A s H1 locs1 → W p l e R s m args below meth c H1 locs1 cells slots Q (F0 m (pc + 3) ls rest)) : W p l e R s m args below meth c H locs cells slots Q (F0 m pc ls (v :: .ref (ad k) :: rest)) := by
  subst he
  refine va_putF (D := D) (ci := ci) (C := C) (T := T) (N := N) hx hb hts hin ty0 hty hnm hown G.1 G.2.1 G.2.2.1 G.2.2.2.1 pos ((PW_get hp).trans (by rw [hE])) hc j hj hlink (fun _ h9 => h9) hfin hin2 hdecl (hty j hj) hn hfit hl hdg (fun H1 locs1 hP hD hS => ?_)
  rw [PW_set hp (fun i hi => pw_nd_inj hnd i pos k hi hp)] at hP hD
  exact kk H1 locs1 ⟨G.1, hP, hD, hS, G.2.2.2.2⟩
/-- another field of it -/
theorem cx_put (hx : p.tables.exec = Jvm.exec) (hb : c.code = cc) {own ref C : String} {T : u_T} {N ci index : Nat} {Ts : List Cond} {fs : List Value} (hts : ∀ w ∈ Ts, w.before args s = true) (hin : ∀ w ∈ u_ws C T N, w ∈ Ts) (ty0 : Nat → FieldType) (hty : ∀ k, k < N → parseFieldDescriptor (T k).2.2.1 = some (ty0 k)) (hnm : ∀ a, a < N → ∀ b, b < N → a ≠ b → (T a).2.1 ≠ (T b).2.1) (hown : s.vm.findClass own = some m.cls) (G : PP D ks ad cy E A s H locs) (k pos : Nat) (hp : ks[pos]? = some k) (hnd : pw_nd ks = true) (hE : E k = .inr (ci, fs)) (hc : vwCl[ci]? = some (C, T, N)) (j : Nat) (hj : j < N) (hlink : (Cond.fieldLink own index ref (T j).2.1 (T j).2.2.1).before args s = true) (he : ref = (T j).1) (hfin : (T j).2.2.2 = false) {v : Value} (hn : narrow (ty0 j) v = v) (hfit : fits (ty0 j) v = true) (hl : j < fs.length) (hdg : decode cc pc = .ok (.putfield index, 3))
    (kk : ∀ (H1 : Heap) (locs1 : List Loc), PP D ks ad cy (va_up E k (.inr (ci, fs.set j v))) A s H1 locs1 → W p l e R s m args below meth c H1 locs1 cells slots Q (F0 m (pc + 3) ls rest)) : W p l e R s m args below meth c H locs cells slots Q (F0 m pc ls (v :: .ref (ad k) :: rest)) := by
  subst he
  refine va_put (D := D) (ci := ci) (C := C) (T := T) (N := N) hx hb hts hin ty0 hty hnm hown G.1 G.2.1 G.2.2.1 G.2.2.2.1 pos ((PW_get hp).trans (by rw [hE])) hc j hj hlink (fun _ h9 => h9) hfin (hty j hj) hn hfit hl hdg (fun H1 locs1 hP hD hS => ?_)
  rw [PW_set hp (fun i hi => pw_nd_inj hnd i pos k hi hp)] at hP hD
  exact kk H1 locs1 ⟨G.1, hP, hD, hS, G.2.2.2.2⟩
/-- a field of it is read -/
theorem cx_get (hx : p.tables.exec = Jvm.exec) (hb : c.code = cc) {own ref C : String} {T : u_T} {N ci index : Nat} {Ts : List Cond} {fs : List Value} (hts : ∀ w ∈ Ts, w.before args s = true) (hin : ∀ w ∈ u_ws C T N, w ∈ Ts) (hown : s.vm.findClass own = some m.cls) (G : PP D ks ad cy E A s H locs) (k pos : Nat) (hp : ks[pos]? = some k) (hE : E k = .inr (ci, fs)) (hc : vwCl[ci]? = some (C, T, N)) (j : Nat) (hj : j < N) (hlink : (Cond.fieldLink own index ref (T j).2.1 (T j).2.2.1).before args s = true) (he : ref = (T j).1) {v : Value} (hv : fs[j]? = some v) (hdg : decode cc pc = .ok (.getfield index, 3))
    (kk : W p l e R s m args below meth c H locs cells slots Q (F0 m (pc + 3) ls (v :: rest))) : W p l e R s m args below meth c H locs cells slots Q (F0 m pc ls (.ref (ad k) :: rest)) := by
  subst he
  exact va_get (D := D) (ci := ci) (C := C) (T := T) (N := N) hx hb hts hin hown G.1 G.2.1 pos ((PW_get hp).trans (by rw [hE])) hc j hj hlink (fun _ h9 => h9) hv hdg kk
/-- a new object becomes cell k -/
theorem cx_new (hx : p.tables.exec = Jvm.exec) (hb : c.code = cc) {own C : String} {T : u_T} {N ci index : Nat} {Ts : List Cond} (hts : ∀ w ∈ Ts, w.before args s = true) (hin : ∀ w ∈ u_ws C T N, w ∈ Ts) (ty : Nat → FieldType) (hty : ∀ k, k < N → parseFieldDescriptor (T k).2.2.1 = some (ty k)) (hown : s.vm.findClass own = some m.cls) (hcl : (Cond.classLink own index C).before args s = true) (hinst : (Cond.instantiable C N).before args s = true) (hini : (Cond.initialized C).before args s = true) (G : PP D ks ad cy E A s H locs) (k : Nat) (hk : ks.contains k = false) (hc : vwCl[ci]? = some (C, T, N)) {fs : List Value} (hfs : ∀ j, j < N → defaultValue (ty j) = vp_V fs j) (hcells : cells + 1 ≤ R.cells) (hslots : slots + N ≤ R.slots) (hdg : decode cc pc = .ok (.new index, 3))
    (kk : ∀ (q : Nat) (H1 : Heap), PP D (ks ++ [k]) (va_up ad k q) cy (va_up E k (.inr (ci, fs))) A s H1 locs → W p l e R s m args below meth c H1 locs (cells + 1) (slots + N) Q (F0 m (pc + 3) ls (.ref q :: rest))) : W p l e R s m args below meth c H locs cells slots Q (F0 m pc ls rest) := by
  refine va_new (ci := ci) (C := C) (T := T) (N := N) hx hb hts hin ty hty hown hcl hinst hini G.1 G.2.1 G.2.2.1 G.2.2.2.1 G.2.2.2.2 hc hfs hcells hslots hdg (fun q H1 hP hD hS => ?_)
  have hk2 : k ∉ ks := fun q => by simp [q] at hk
  rw [PW_push hk2] at hP hD
  exact kk q H1 ⟨G.1, hP, hD, hS, G.2.2.2.2⟩
end CX
