/-! THE LAW'S START: both objects made, then the loop -/
def gRefs (q : gSh) : List Nat := match q with
  | .inl o => o.2.filterMap (fun fk => match fk with | some (some c) => some c | _ => none)
  | .inr o => if 2 < o.1 then (List.range o.2.1).map (fun i => o.2.2 + i) else []
theorem gE_agree {u v : Nat → Nat} {cy : Nat → ClassId} {I : gF} {J : gL} {a : gF} {b : gL} {k : Nat} (h : ∀ c ∈ gRefs (gsh k), u c = v c) : gE u cy I J a b k = gE v cy I J a b k := by
  unfold gE
  generalize gsh k = q at h
  cases q with
  | inl o =>
    show (Sum.inr (o.1, gfs u I J k o.2) : va_E) = Sum.inr (o.1, gfs v I J k o.2)
    refine congrArg (fun z => (Sum.inr (o.1, z) : va_E)) ?_
    unfold gfs
    apply List.map_congr_left
    intro r hr
    obtain ⟨fk, j⟩ := r
    have hm : fk ∈ o.2 := List.mem_of_getElem? (List.mem_zipIdx_iff_getElem?.mp hr)
    cases fk with
    | none => rfl
    | some z =>
      cases z with
      | none => rfl
      | some c =>
        show Value.ref (u c) = Value.ref (v c)
        rw [h c (List.mem_filterMap.mpr ⟨some (some c), hm, rfl⟩)]
  | inr o =>
    show (Sum.inl (cy o.1, gC u a b k o.1 o.2.1 o.2.2) : va_E) = Sum.inl (cy o.1, gC v a b k o.1 o.2.1 o.2.2)
    refine congrArg (fun z => (Sum.inl (cy o.1, z) : va_E)) ?_
    unfold gC
    by_cases h1 : o.1 ≤ 1
    · rw [if_pos h1, if_pos h1]
    · rw [if_neg h1, if_neg h1]
      by_cases h2 : o.1 = 2
      · rw [if_pos h2, if_pos h2]
      · rw [if_neg h2, if_neg h2]
        have e : (fun i => if i < o.2.1 then some (u (o.2.2 + i)) else none) = (fun i => if i < o.2.1 then some (v (o.2.2 + i)) else none) := by
          funext i
          by_cases h3 : i < o.2.1
          · rw [if_pos h3, if_pos h3, h (o.2.2 + i) (by
              show o.2.2 + i ∈ (if 2 < o.1 then (List.range o.2.1).map (fun i => o.2.2 + i) else [])
              rw [if_pos (by omega)]
              exact List.mem_map.mpr ⟨i, List.mem_range.mpr h3, rfl⟩)]
          · rw [if_neg h3, if_neg h3]
        rw [e]
theorem PW_GG {D : va_G} {cy : Nat → ClassId} {A : Nat → Prop} {s : State} {H : Heap} {locs : List Loc} {u : Nat → Nat} {E : Nat → va_E} {ks : List Nat} (hall : ∀ k, k < 92 → k ∈ ks) (hE : ∀ k ∈ ks, E k = gE u cy zI zJ zI zL k) (G : PP D ks u cy E A s H locs) : GG D u cy A s zI zJ zI zL H locs := by
  obtain ⟨hK, hP, hD, hS, hA⟩ := G
  rw [PW_congr (ad := u) (E := gE u cy zI zJ zI zL) (fun _ _ => rfl) hE] at hP hD
  have hpos : ∀ k, k < 92 → ∃ p : Nat, ks[p]? = some k := fun k hk => List.mem_iff_getElem?.mp (hall k hk)
  refine ⟨hK, fun k q hq => ?_, ⟨fun i j q r hi hj e => ?_, fun k q hq => ?_⟩, hS, hA⟩
  · obtain ⟨h1, rfl⟩ := gWl_in hq
    obtain ⟨p, hp⟩ := hpos k h1
    exact hP p _ (PW_get hp)
  · obtain ⟨h1, rfl⟩ := gWl_in hi
    obtain ⟨h2, rfl⟩ := gWl_in hj
    obtain ⟨p1, hp1⟩ := hpos i h1
    obtain ⟨p2, hp2⟩ := hpos j h2
    have e2 : p1 = p2 := hD.1 p1 p2 _ _ (PW_get hp1) (PW_get hp2) e
    rw [e2, hp2] at hp1
    exact (Option.some.inj hp1).symm
  · obtain ⟨h1, rfl⟩ := gWl_in hq
    obtain ⟨p, hp⟩ := hpos k h1
    exact hD.2 p _ (PW_get hp)
theorem b_blind3 {D : va_G} {ad : Nat → Nat} {cy : Nat → ClassId} {E : Nat → va_E} {As : List Value} {ks : List Nat} {sz : Nat} {o o2 : String} {i i2 : Nat} {y y2 : MethodName} {h h2 : String} : FrameBlind (va_Pc As (fun U => bPre D cy ks ad E sz U ∧ va_Nw (.methodLinkNest o i y h) U ∧ va_Nw (.methodLinkNest o2 i2 y2 h2) U)) := fun a' U g mk q => by
  obtain ⟨q0, q1, q2, q3⟩ := q
  exact ⟨q0, (b_blind (As := As) a' U g mk ⟨q0, q1⟩).2, va_Nw.same rfl (u := U) (U := U.calling g mk a') rfl q2, va_Nw.same rfl (u := U) (U := U.calling g mk a') rfl q3⟩
theorem ks_all : ∀ k, k < 92 → k ∈ ([] ++ ksX4) ++ ksX5 := by decide +kernel
theorem ks_r4 : ∀ k ∈ ksX4, ksX5.contains k = false ∧ k ≠ 5 ∧ ∀ c ∈ gRefs (gsh k), c ∈ ksX4 := by decide +kernel
theorem ks_r5 : ∀ k ∈ ksX5, ∀ c ∈ gRefs (gsh k), c ∈ ksX5 := by decide +kernel
theorem lw_world {u0 u5 ad0 : Nat → Nat} {q5 : Nat} {cy : Nat → ClassId} {E0 : Nat → va_E} {e5 : va_E} : ∀ k ∈ ([] ++ ksX4) ++ ksX5, mxE ksX5 u5 cy (va_up (mxE ksX4 u0 cy E0) 5 e5) k = gE (mxA ksX5 u5 (va_up (mxA ksX4 u0 ad0) 5 q5)) cy zI zJ zI zL k := by
  intro k hk
  rcases List.mem_append.mp hk with hk | hk
  · have hk : k ∈ ksX4 := hk
    obtain ⟨h1, h2, h3⟩ := ks_r4 k hk
    have e1 : mxE ksX5 u5 cy (va_up (mxE ksX4 u0 cy E0) 5 e5) k = gE u0 cy zI zJ zI zL k := by
      unfold mxE
      rw [if_neg (by rw [h1]; decide), va_up_ne _ _ h2, if_pos (by simpa using hk)]
    rw [e1]
    refine gE_agree (fun c hc => ?_)
    obtain ⟨h4, h5, -⟩ := ks_r4 c (h3 c hc)
    unfold mxA
    rw [if_neg (by rw [h4]; decide), va_up_ne _ _ h5, if_pos (by simpa using h3 c hc)]
  · have e1 : mxE ksX5 u5 cy (va_up (mxE ksX4 u0 cy E0) 5 e5) k = gE u5 cy zI zJ zI zL k := by
      unfold mxE
      rw [if_pos (by simpa using hk)]
    rw [e1]
    refine gE_agree (fun c hc => ?_)
    unfold mxA
    rw [if_pos (by simpa using ks_r5 k hk c hc)]
