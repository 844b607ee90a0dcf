/-! THE ONE WORLD of this claim: 92 cells at addresses ad 0 .. ad 91 (the class's object, the objects inside it, the reference's object, all their arrays); I, J: the int and long fields by cell and place; a, b: the int (and boolean) and long arrays by cell and place -/
abbrev gFK : Type := Option (Option Nat)
abbrev gSh : Type := (Nat × List gFK) ⊕ (Nat × Nat × Nat)
def gshL : List gSh := [.inl (4, [some (some 1), some (some 2), some (some 3)]), .inl (1, [some (some 6), some (some 7), some (some 8), some (some 9), some (some 10), some (some 11), some (some 12), none, none]), .inl (2, [some (some 1), some (some 4), some (some 19), some (some 20), some none, none, none, none, none, none]), .inl (3, [some (some 1), some (some 21), some (some 22), some (some 23), some (some 24), some (some 25), some (some 26), none, none, none]), .inl (0, [some (some 13), some (some 14), some (some 15), some (some 16), some (some 17), some (some 18), some none, none, none]), .inl (5, [none, none, some (some 27), some (some 28), some (some 29), some (some 30), some (some 31), some (some 32), some (some 33), none, none, some none, some none, some (some 34), some none, some (some 35), some (some 36), some (some 37), some (some 38), some (some 39), some (some 87), some (some 88), some (some 89), some none, none, some (some 90), some (some 91), none]), .inr (0, 5, 0), .inr (0, 5, 0), .inr (0, 5, 0), .inr (0, 8, 0), .inr (0, 8, 0), .inr (3, 8, 40), .inr (1, 8, 0), .inr (4, 21, 48), .inr (2, 21, 0), .inr (0, 21, 0), .inr (0, 5, 0), .inr (1, 5, 0), .inr (2, 5, 0), .inr (0, 5, 0), .inr (2, 5, 0), .inr (0, 5, 0), .inr (0, 5, 0), .inr (0, 5, 0), .inr (3, 6, 69), .inr (3, 6, 75), .inr (3, 6, 81), .inr (0, 5, 0), .inr (0, 5, 0), .inr (0, 5, 0), .inr (0, 8, 0), .inr (0, 8, 0), .inr (0, 40, 0), .inr (1, 8, 0), .inr (2, 5, 0), .inr (2, 10, 0), .inr (2, 10, 0), .inr (2, 10, 0), .inr (2, 10, 0), .inr (1, 8, 0), .inr (0, 5, 0), .inr (0, 5, 0), .inr (0, 5, 0), .inr (0, 5, 0), .inr (0, 5, 0), .inr (0, 5, 0), .inr (0, 5, 0), .inr (0, 5, 0), .inr (2, 5, 0), .inr (2, 5, 0), .inr (2, 5, 0), .inr (2, 5, 0), .inr (2, 5, 0), .inr (2, 5, 0), .inr (2, 5, 0), .inr (2, 5, 0), .inr (2, 5, 0), .inr (2, 5, 0), .inr (2, 5, 0), .inr (2, 5, 0), .inr (2, 5, 0), .inr (2, 5, 0), .inr (2, 5, 0), .inr (2, 5, 0), .inr (2, 5, 0), .inr (2, 5, 0), .inr (2, 5, 0), .inr (2, 5, 0), .inr (2, 5, 0), .inr (0, 9, 0), .inr (0, 9, 0), .inr (0, 9, 0), .inr (0, 9, 0), .inr (0, 9, 0), .inr (0, 9, 0), .inr (0, 9, 0), .inr (0, 9, 0), .inr (0, 9, 0), .inr (0, 9, 0), .inr (0, 9, 0), .inr (0, 9, 0), .inr (0, 9, 0), .inr (0, 9, 0), .inr (0, 9, 0), .inr (0, 9, 0), .inr (0, 9, 0), .inr (0, 9, 0), .inr (2, 30, 0), .inr (0, 6, 0), .inr (2, 5, 0), .inr (0, 5, 0), .inr (0, 5, 0)]
def gsh (k : Nat) : gSh := gshL.getD k (.inr (0, 0, 0))
abbrev gF : Type := Nat → Nat → Int32
abbrev gL : Type := Nat → Nat → Int64
abbrev gS : Type := gF × gL × gF × gL
def gU {α : Type} (f : Nat → Nat → α) (k j : Nat) (v : α) : Nat → Nat → α := fun k' j' => if k' = k ∧ j' = j then v else f k' j'
theorem gU_s {α : Type} {f : Nat → Nat → α} {k j : Nat} {v : α} : gU f k j v k j = v := if_pos ⟨rfl, rfl⟩
theorem gU_n {α : Type} {f : Nat → Nat → α} {k j k' j' : Nat} {v : α} (h : k' ≠ k ∨ j' ≠ j) : gU f k j v k' j' = f k' j' := if_neg (fun q => h.elim (fun h => h q.1) (fun h => h q.2))
theorem gU_k {α : Type} {f : Nat → Nat → α} {k j k' : Nat} {v : α} (h : k' ≠ k) : gU f k j v k' = f k' := funext fun _ => gU_n (Or.inl h)
def gV (ad : Nat → Nat) (I : gF) (J : gL) (k j : Nat) (fk : gFK) : Value := match fk with
  | none => .int (I k j)
  | some none => .long (J k j)
  | some (some c) => .ref (ad c)
def gfs (ad : Nat → Nat) (I : gF) (J : gL) (k : Nat) (ks : List gFK) : List Value := ks.zipIdx.map (fun q => gV ad I J k q.2 q.1)
def gC (ad : Nat → Nat) (a : gF) (b : gL) (k code n base : Nat) : vp_A := (n, if code ≤ 1 then .inl (a k) else if code = 2 then .inr (.inl (b k)) else .inr (.inr (.inr (.inr (fun i => if i < n then some (ad (base + i)) else none)))))
def gE (ad : Nat → Nat) (cy : Nat → ClassId) (I : gF) (J : gL) (a : gF) (b : gL) (k : Nat) : va_E := match gsh k with
  | .inl o => .inr (o.1, gfs ad I J k o.2)
  | .inr q => .inl (cy q.1, gC ad a b k q.1 q.2.1 q.2.2)
def gWl (ad : Nat → Nat) (E : Nat → va_E) : va_W := (List.range 92).map (fun k => (ad k, E k))
abbrev gW (ad : Nat → Nat) (cy : Nat → ClassId) (I : gF) (J : gL) (a : gF) (b : gL) : va_W := gWl ad (gE ad cy I J a b)
def gty (cy : Nat → ClassId) : List (ClassId × FieldType) := [(cy 0, .int), (cy 1, .boolean), (cy 2, .long), (cy 3, .array .int), (cy 4, .array .long)]
def GG (D : va_G) (ad : Nat → Nat) (cy : Nat → ClassId) (A : Nat → Prop) (s : State) (I : gF) (J : gL) (a : gF) (b : gL) (H : Heap) (locs : List Loc) : Prop :=
  va_K D vwCl (gty cy) s ∧ va_P D vwCl (gW ad cy I J a b) H ∧ va_D A (gW ad cy I J a b) ∧ va_S A s.heap H locs ∧ ∀ q, s.heap.size ≤ q → A q
/-- the world's own addresses, and all new ones -/
def gA (ad : Nat → Nat) (sz : Nat) : Nat → Prop := fun q => (∃ k, k < 92 ∧ ad k = q) ∨ sz ≤ q
/-- what a contract starts from, and what it ends in -/
def gPre (D : va_G) (ad : Nat → Nat) (cy : Nat → ClassId) (I : gF) (J : gL) (a : gF) (b : gL) (sz : Nat) (U : State) : Prop := U.heap.size = sz ∧ va_P D vwCl (gW ad cy I J a b) U.heap ∧ va_K D vwCl (gty cy) U ∧ va_D (fun _ => True) (gW ad cy I J a b)
def gAt (D : va_G) (ad : Nat → Nat) (cy : Nat → ClassId) (A : Nat → Prop) (u : gS) (t : State) : Prop := va_P D vwCl (gW ad cy u.1 u.2.1 u.2.2.1 u.2.2.2) t.heap ∧ va_K D vwCl (gty cy) t ∧ va_D A (gW ad cy u.1 u.2.1 u.2.2.1 u.2.2.2)
abbrev gMi (l : Launch) (y : MethodName) (ws : List Cond) (rm : Room) (D : va_G) (ad : Nat → Nat) (cy : Nat → ClassId) (I : gF) (J : gL) (a : gF) (b : gL) (sz : Nat) (As : List Value) (post : Int32 → gS → Prop) : Prop := Met l y ws rm (va_Pc As (gPre D ad cy I J a b sz)) (va_Qi post (gAt D ad cy (gA ad sz)) (gA ad sz)) 0 0 (gA ad sz)
abbrev gMl (l : Launch) (y : MethodName) (ws : List Cond) (rm : Room) (D : va_G) (ad : Nat → Nat) (cy : Nat → ClassId) (I : gF) (J : gL) (a : gF) (b : gL) (sz : Nat) (As : List Value) (post : Int64 → gS → Prop) : Prop := Met l y ws rm (va_Pc As (gPre D ad cy I J a b sz)) (va_Ql post (gAt D ad cy (gA ad sz)) (gA ad sz)) 0 0 (gA ad sz)
abbrev gMv (l : Launch) (y : MethodName) (ws : List Cond) (rm : Room) (D : va_G) (ad : Nat → Nat) (cy : Nat → ClassId) (I : gF) (J : gL) (a : gF) (b : gL) (sz : Nat) (As : List Value) (post : gS → Prop) : Prop := Met l y ws rm (va_Pc As (gPre D ad cy I J a b sz)) (va_Qv post (gAt D ad cy (gA ad sz)) (gA ad sz)) 0 0 (gA ad sz)
theorem gfs_get {ad : Nat → Nat} {I : gF} {J : gL} {k j : Nat} {ks : List gFK} {fk : gFK} (h : ks[j]? = some fk) : (gfs ad I J k ks)[j]? = some (gV ad I J k j fk) := by
  simp [gfs, List.getElem?_zipIdx, h]
theorem gfs_len {ad : Nat → Nat} {I : gF} {J : gL} {k : Nat} {ks : List gFK} : (gfs ad I J k ks).length = ks.length := by simp [gfs]
theorem gfs_setI {ad : Nat → Nat} {I : gF} {J : gL} {k j : Nat} {ks : List gFK} {v : Int32} (h : ks[j]? = some none) : (gfs ad I J k ks).set j (.int v) = gfs ad (gU I k j v) J k ks := by
  apply List.ext_getElem?
  intro i
  rw [List.getElem?_set]
  by_cases e : j = i
  · subst e
    have hl : j < (gfs ad I J k ks).length := by rw [gfs_len]; exact (List.getElem?_eq_some_iff.mp h).1
    rw [if_pos rfl, if_pos hl, gfs_get h]
    simp [gV, gU_s]
  · rw [if_neg e]
    simp only [gfs, List.getElem?_map, List.getElem?_zipIdx]
    cases hh : ks[i]? with
    | none => rfl
    | some fk =>
      cases fk with
      | none => simp [gV, gU_n (f := I) (k := k) (j := j) (k' := k) (j' := i) (v := v) (Or.inr (fun q => e q.symm))]
      | some z => cases z <;> rfl
theorem gfs_setJ {ad : Nat → Nat} {I : gF} {J : gL} {k j : Nat} {ks : List gFK} {v : Int64} (h : ks[j]? = some (some none)) : (gfs ad I J k ks).set j (.long v) = gfs ad I (gU J k j v) k ks := by
  apply List.ext_getElem?
  intro i
  rw [List.getElem?_set]
  by_cases e : j = i
  · subst e
    have hl : j < (gfs ad I J k ks).length := by rw [gfs_len]; exact (List.getElem?_eq_some_iff.mp h).1
    rw [if_pos rfl, if_pos hl, gfs_get h]
    simp [gV, gU_s]
  · rw [if_neg e]
    simp only [gfs, List.getElem?_map, List.getElem?_zipIdx]
    cases hh : ks[i]? with
    | none => rfl
    | some fk =>
      cases fk with
      | none => rfl
      | some z =>
        cases z with
        | none => simp [gV, gU_n (f := J) (k := k) (j := j) (k' := k) (j' := i) (v := v) (Or.inr (fun q => e q.symm))]
        | some c => rfl
theorem gfs_other {ad : Nat → Nat} {I I' : gF} {J J' : gL} {k : Nat} {ks : List gFK} (hI : ∀ j, I' k j = I k j) (hJ : ∀ j, J' k j = J k j) : gfs ad I' J' k ks = gfs ad I J k ks := by
  unfold gfs
  apply List.map_congr_left
  intro q _
  obtain ⟨fk, j⟩ := q
  cases fk with
  | none => simp [gV, hI]
  | some z => cases z <;> simp [gV, hJ]
theorem gWl_get {ad : Nat → Nat} {E : Nat → va_E} {k : Nat} (h : k < 92) : (gWl ad E)[k]? = some (ad k, E k) := by
  simp [gWl, List.getElem?_map, List.getElem?_range h]
theorem gWl_set {ad : Nat → Nat} {E E' : Nat → va_E} {k : Nat} {e : va_E} (h : k < 92) (h1 : E' k = e) (h2 : ∀ j, j ≠ k → E' j = E j) : (gWl ad E).set k (ad k, e) = gWl ad E' := by
  apply List.ext_getElem?
  intro i
  rw [List.getElem?_set]
  have hlen : (gWl ad E).length = 92 := by simp [gWl]
  by_cases e1 : k = i
  · subst e1
    rw [if_pos rfl, if_pos (by rw [hlen]; exact h), gWl_get h, h1]
  · rw [if_neg e1]
    by_cases hi : i < 92
    · rw [gWl_get hi, gWl_get hi, h2 i (fun q => e1 q.symm)]
    · rw [List.getElem?_eq_none (by rw [hlen]; omega), List.getElem?_eq_none (by simp [gWl]; omega)]
theorem gWl_at {ad : Nat → Nat} {E E' : Nat → va_E} {A : Nat → Prop} (h : va_D A (gWl ad E)) : va_D A (gWl ad E') := by
  have hl : ∀ {F : Nat → va_E} {k : Nat} {q : Nat × va_E}, (gWl ad F)[k]? = some q → k < 92 ∧ q = (ad k, F k) := by
    intro F k q hq
    have hk : k < 92 := by
      have := (List.getElem?_eq_some_iff.mp hq).1
      simpa [gWl] using this
    rw [gWl_get hk] at hq
    exact ⟨hk, (Option.some.inj hq).symm⟩
  refine ⟨fun i j x y hi hj hxy => ?_, fun k q hq => ?_⟩
  · obtain ⟨h1, rfl⟩ := hl hi
    obtain ⟨h2, rfl⟩ := hl hj
    exact h.1 i j _ _ (gWl_get h1) (gWl_get h2) hxy
  · obtain ⟨h1, rfl⟩ := hl hq
    exact h.2 k (ad k, E k) (gWl_get h1)
theorem gE_ob {ad : Nat → Nat} {cy : Nat → ClassId} {I : gF} {J : gL} {a : gF} {b : gL} {k ci : Nat} {ks : List gFK} (h : gsh k = .inl (ci, ks)) : gE ad cy I J a b k = .inr (ci, gfs ad I J k ks) := by
  unfold gE
  rw [h]
theorem gE_ar {ad : Nat → Nat} {cy : Nat → ClassId} {I : gF} {J : gL} {a : gF} {b : gL} {k co n ba : Nat} (h : gsh k = .inr (co, n, ba)) : gE ad cy I J a b k = .inl (cy co, gC ad a b k co n ba) := by
  unfold gE
  rw [h]
theorem gE_ne {ad : Nat → Nat} {cy : Nat → ClassId} {I I' : gF} {J J' : gL} {a a' : gF} {b b' : gL} {k : Nat} (hI : I' k = I k) (hJ : J' k = J k) (ha : a' k = a k) (hb : b' k = b k) : gE ad cy I' J' a' b' k = gE ad cy I J a b k := by
  unfold gE
  cases gsh k with
  | inl o => simp only [gfs_other (I := I) (I' := I') (J := J) (J' := J') (fun j => congrFun hI j) (fun j => congrFun hJ j)]
  | inr q => simp only [gC, ha, hb]
