/-! A constructor that is called while the world is built -/
def mxA (ks : List Nat) (u ad : Nat → Nat) : Nat → Nat := fun k => if ks.contains k = true then u k else ad k
def mxE (ks : List Nat) (u : Nat → Nat) (cy : Nat → ClassId) (E : Nat → va_E) : Nat → va_E := fun k => if ks.contains k = true then gE u cy zI zJ zI zL k else E k
theorem PW_mix {kR kC : List Nat} {u ad : Nat → Nat} {cy : Nat → ClassId} {E : Nat → va_E} (h : ∀ j ∈ kR, kC.contains j = false) : PW kR ad E ++ PW kC u (gE u cy zI zJ zI zL) = PW (kR ++ kC) (mxA kC u ad) (mxE kC u cy E) := by
  rw [PW_app, PW_congr (ks := kR) (ad := ad) (E := E) (ad2 := mxA kC u ad) (E2 := mxE kC u cy E) (fun j hj => by unfold mxA; rw [h j hj]; rfl) (fun j hj => by unfold mxE; rw [h j hj]; rfl)]
  rw [PW_congr (ks := kC) (ad := u) (E := gE u cy zI zJ zI zL) (ad2 := mxA kC u ad) (E2 := mxE kC u cy E) (fun j hj => by unfold mxA; rw [if_pos (by simpa using hj)]) (fun j hj => by unfold mxE; rw [if_pos (by simpa using hj)])]
theorem bA_va {k sz : Nat} {ad : Nat → Nat} {E : Nat → va_E} (q : Nat) : va_A (PW [k] ad E) sz q ↔ bA (ad k) sz q := by
  constructor
  · rintro (⟨i, e, h⟩ | h)
    · exact bA_in h
    · exact Or.inr h
  · rintro (h | h)
    · exact Or.inl ⟨0, E k, by rw [h]; rfl⟩
    · exact Or.inr h
section CY
variable {p : Program} {l : Launch} {e : Env} {R : Room} {s : State} {m : MethodId} {args : Array Value} {below : List Frame} {meth : Method} {c : Code} {H : Heap} {locs : List Loc} {cells slots : Nat} {Q : State → Prop}
variable {pc : Nat} {ls : Array Slot} {rest st0 : List Value} {D : va_G} {ad : Nat → Nat} {cy : Nat → ClassId} {A : Nat → Prop} {E : Nat → va_E} {kR kC : List Nat} {k mc ms : Nat} {a' : Array Value} {post : (Nat → Nat) → Prop}
theorem cx_callI (G : PP D (kR ++ [k]) ad cy E A s H locs) (hr : va_Run p l e R s m args below meth c H locs cells slots mc ms (F0 m pc ls st0) rest (va_Qv post (bAt D cy kC (bA (ad k) H.size)) (bA (ad k) H.size) a') (bA (ad k) H.size)) (hdis : ∀ j ∈ kR, kC.contains j = false) (hnd : va_nd (List.range kR.length) = true)
    (kk : ∀ (u : Nat → Nat) (H1 : Heap) (locs1 : List Loc), post u → PP D (kR ++ kC) (mxA kC u ad) cy (mxE kC u cy E) A s H1 locs1 → W p l e R s m args below meth c H1 locs1 (cells + mc) (slots + ms) Q (F0 m (pc + 3) ls rest)) : W p l e R s m args below meth c H locs cells slots Q (F0 m pc ls st0) := by
  have hlen : (PW kR ad E).length = kR.length := by simp [PW]
  have hkA : A (ad k) := G.2.2.1.2 kR.length (ad k, E k) (PW_get (by simp))
  have hF : ∀ q, bA (ad k) H.size q → A q := fun q h => h.elim (fun e => e ▸ hkA) (fun h => G.2.2.2.2 q (Nat.le_trans G.2.2.2.1.1 h))
  refine va_callv hr G.2.2.2.1 (fun q _ h => hF q h) hF (fun u t H1 locs1 ht hvm hw hB hz hk1 hS => ?_)
  obtain ⟨hP1, hK1, hD1⟩ := hB
  rw [ht] at hP1
  obtain ⟨hP, hD⟩ := va_join (wc := PW [k] ad E) (wr := PW kR ad E) (w1 := PW kC u (gE u cy zI zJ zI zL)) G.2.1 G.2.2.1 [kR.length] (List.range kR.length) (by simp [PW]) (by
      apply List.ext_getElem?
      intro i
      rw [PW_app]
      by_cases hi : i < kR.length
      · simp only [List.getElem?_map, List.getElem?_range hi, Option.map_some]
        rw [List.getElem?_append_left (by rw [hlen]; exact hi)]
        simp only [PW, List.getElem?_map]
        rw [List.getElem?_eq_getElem hi]
        rfl
      · rw [List.getElem?_eq_none (by simp; omega), List.getElem?_eq_none (by simp [PW]; omega)]) hnd (fun i hi h => by
      have := List.mem_range.mp hi
      simp at h
      omega) (fun q h1 h2 => hk1 q h1 (fun h3 => h2 ((bA_va q).mpr h3))) (fun q h => hF q ((bA_va q).mp h)) hP1 ⟨hD1.1, fun k9 q hq => (bA_va _).mpr (hD1.2 k9 q hq)⟩
  rw [PW_mix hdis] at hP hD
  exact kk u H1 locs1 hw ⟨va_K.moved hvm.symm hK1, hP, hD, hS, G.2.2.2.2⟩
theorem b_blind {As : List Value} {ks : List Nat} {sz : Nat} : FrameBlind (va_Pc As (bPre D cy ks ad E sz)) := fun a' U g mk q => by
  obtain ⟨q0, q1, qP, qK, qD, q5, q6⟩ := q
  exact ⟨q0, q1, qP, va_K.moved (u := U) (U := U.calling g mk a') (Vm.Alike.refl U.vm) qK, qD, va_AOA.moved (u := U) (U := U.calling g mk a') (Vm.Alike.refl U.vm) q5, va_AOA.moved (u := U) (U := U.calling g mk a') (Vm.Alike.refl U.vm) q6⟩
theorem b_pre {As : List Value} (G : PP D (kR ++ [k]) ad cy E A s H locs) (h1 : va_AOA .int s) (h2 : va_AOA .long s) : ∀ U : State, U.heap = H → s.WarmedH U.vm → va_Pc As (bPre D cy [k] ad E H.size) As.toArray U := fun U hU hW => by
  have hP : va_P D vwCl (PW [k] ad E) H := by
    intro i q hq
    have hi : i = 0 := by
      have := (List.getElem?_eq_some_iff.mp hq).1
      simpa [PW] using this
    subst hi
    have hg : (PW (kR ++ [k]) ad E)[kR.length]? = some (ad k, E k) := PW_get (by simp)
    have hq2 : q = (ad k, E k) := by simpa [PW] using hq.symm
    rw [hq2]
    exact G.2.1 kR.length _ hg
  refine ⟨rfl, by rw [hU], by rw [hU]; exact hP, va_K.moved hW.alike G.1, ⟨fun i j x y hi hj _ => ?_, fun _ _ _ => trivial⟩, va_AOA.moved hW.alike h1, va_AOA.moved hW.alike h2⟩
  have h3 := (List.getElem?_eq_some_iff.mp hi).1
  have h4 := (List.getElem?_eq_some_iff.mp hj).1
  simp [PW] at h3 h4
  omega
end CY
