set_option maxHeartbeats 8000000 in
set_option maxRecDepth 100000 in
/-- the law's loop: from its head, with i ints of the script done -/
theorem lw_loop {p : Program} {l : Launch} {e : Env} {s : State} {m : MethodId} {below : List Frame} {meth : Method} {c : Code} {D : va_G} {ad : Nat → Nat} {cy : Nat → ClassId} {b L : Nat} {xs : Nat → Int32} (S : lwS p s m c b L xs) (hret : meth.sig.returnType = ret) (hlocks : meth.locks = false) : ∀ (n i : Nat) (x : gS) (ls : Array Slot) (H : Heap) (locs : List Loc), L - i < n → i ≤ L → lv_has ls 4 [(3, .int (nI i)), (2, .ref (ad 5)), (1, .ref (ad 0)), (0, .ref b)] → ma_INV x → GX D ad cy (fun q => s.heap.size ≤ q) s x H locs → W p l e room_1 s m #[Value.ref b] below meth c H locs 92 727 (lw_Z below #[Value.ref b] s) (F0 m 18 ls []) := by
  intro n
  induction n with
  | zero => intro i x ls H locs h; omega
  | succ n ih =>
    intro i x ls H locs hn hi hl hv G
    have S0 := S
    obtain ⟨hx, hb, hml, hown, hts, hX, hbl, hL⟩ := S0
    refine lv_iload_n hx hb dL_law_18 rfl (lv_at hl 0 rfl) ?_
    refine lv_aload_n hx hb dL_law_19 rfl (lv_at hl 3 rfl) ?_
    refine va_slen (A := fun q => s.heap.size ≤ q) hx hb hX hbl (Nat.not_le.mpr hbl) G.2.2.2.1 dL_law_20 ?_
    refine lv_iconst (v := 4) hx hb dL_law_21 (by decide) ?_
    refine lv_isub hx hb dL_law_22 ?_
    refine lv_icmp_gt hx hb dL_law_23 rfl (fun _ => ?_) (fun h => ?_)
    · refine lv_iconst (v := 1) hx hb dL_law_661 (by decide) ?_
      refine va_forget (fun q hq => G.2.2.2.1.2.2 q hq) ?_
      refine W.widen (k := 600000) (n := 7302250) (Nat.le_of_ble_eq_true rfl) (Nat.le_of_ble_eq_true rfl) ?_
      exact lw_ret hx hb hret hlocks dL_law_662
    · have hi4 : i + 4 ≤ L := by
        have h2 : ¬ (nI L - nI 4).toInt < (nI i).toInt := fun q => h (Int32.lt_iff_toInt_lt.mpr q)
        rw [pk_sub_toInt (by omega) (by omega), nI_toInt (by omega)] at h2
        omega
      refine lv_aload_n hx hb dL_law_26 rfl (lv_at hl 3 rfl) ?_
      refine lv_iload_n hx hb dL_law_27 rfl (lv_at hl 0 rfl) ?_
      refine va_sld (A := fun q => s.heap.size ≤ q) hx hb hX hbl (Nat.not_le.mpr hbl) G.2.2.2.1 (vp_in_nI (by omega) (by omega)) dL_law_28 ?_
      refine lv_bipush (v := 31) hx hb dL_law_29 (by decide) ?_
      refine lv_iand hx hb dL_law_31 ?_
      have kk : ∀ (y : gS) (H1 : Heap) (locs1 : List Loc), ma_INV y → GX D ad cy (fun q => s.heap.size ≤ q) s y H1 locs1 → W p l e room_1 s m #[Value.ref b] below meth c H1 locs1 92 727 (lw_Z below #[Value.ref b] s) (F0 m 655 ls []) := fun y H1 locs1 hy G1 => by
        refine lv_iinc (k := 0) (v := nI (i + 4)) (lv' := [(3, .int (nI (i + 4))), (2, .ref (ad 5)), (1, .ref (ad 0)), (0, .ref b)]) hx hb dL_law_655 hl rfl (by rw [show Int32.ofInt 4 = nI 4 from by decide, nI_add]) (by decide) rfl (fun ls1 hl1 => ?_)
        refine lv_goto hx hb dL_law_658 rfl ?_
        exact ih (i + 4) y ls1 H1 locs1 (by omega) (by omega) hl1 hy G1
      generalize xs (nI i).toNatClampNeg &&& 31 = v
      have hc : v.toInt < 0 ∨ 18 < v.toInt ∨ v.toInt = 0 ∨ v.toInt = 1 ∨ v.toInt = 2 ∨ v.toInt = 3 ∨ v.toInt = 4 ∨ v.toInt = 5 ∨ v.toInt = 6 ∨ v.toInt = 7 ∨ v.toInt = 8 ∨ v.toInt = 9 ∨ v.toInt = 10 ∨ v.toInt = 11 ∨ v.toInt = 12 ∨ v.toInt = 13 ∨ v.toInt = 14 ∨ v.toInt = 15 ∨ v.toInt = 16 ∨ v.toInt = 17 ∨ v.toInt = 18 := by omega
      rcases hc with h | h | h | h | h | h | h | h | h | h | h | h | h | h | h | h | h | h | h | h | h
      · exact lv_tableOut hx hb dL_law_32 (Or.inl h) rfl (kk x H locs hv G)
      · exact lv_tableOut hx hb dL_law_32 (Or.inr h) rfl (kk x H locs hv G)
      · exact lv_tableIn (off := 92) hx hb dL_law_32 (by rw [h]; decide) (by rw [h]; decide) (by rw [h]; rfl) rfl (lw_case_name S hi4 hl hv G kk)
      · exact lv_tableIn (off := 125) hx hb dL_law_32 (by rw [h]; decide) (by rw [h]; decide) (by rw [h]; rfl) rfl (lw_case_span S hi4 hl hv G kk)
      · exact lv_tableIn (off := 168) hx hb dL_law_32 (by rw [h]; decide) (by rw [h]; decide) (by rw [h]; rfl) rfl (lw_case_cost S hi4 hl hv G kk)
      · exact lv_tableIn (off := 201) hx hb dL_law_32 (by rw [h]; decide) (by rw [h]; decide) (by rw [h]; rfl) rfl (lw_case_row S hi4 hl hv G kk)
      · exact lv_tableIn (off := 234) hx hb dL_law_32 (by rw [h]; decide) (by rw [h]; decide) (by rw [h]; rfl) rfl (lw_case_right S hi4 hl hv G kk)
      · exact lv_tableIn (off := 267) hx hb dL_law_32 (by rw [h]; decide) (by rw [h]; decide) (by rw [h]; rfl) rfl (lw_case_factor S hi4 hl hv G kk)
      · exact lv_tableIn (off := 310) hx hb dL_law_32 (by rw [h]; decide) (by rw [h]; decide) (by rw [h]; rfl) rfl (lw_case_drop S hi4 hl hv G kk)
      · exact lv_tableIn (off := 333) hx hb dL_law_32 (by rw [h]; decide) (by rw [h]; decide) (by rw [h]; rfl) rfl (lw_case_clear S hi4 hl hv G kk)
      · exact lv_tableIn (off := 346) hx hb dL_law_32 (by rw [h]; decide) (by rw [h]; decide) (by rw [h]; rfl) rfl (lw_case_run S hi4 hl hv G kk)
      · exact lv_tableIn (off := 359) hx hb dL_law_32 (by rw [h]; decide) (by rw [h]; decide) (by rw [h]; rfl) rfl (lw_case_least S hi4 hl hv G kk)
      · exact lv_tableIn (off := 383) hx hb dL_law_32 (by rw [h]; decide) (by rw [h]; decide) (by rw [h]; rfl) rfl (lw_case_value S hi4 hl hv G kk)
      · exact lv_tableIn (off := 417) hx hb dL_law_32 (by rw [h]; decide) (by rw [h]; decide) (by rw [h]; rfl) rfl (lw_case_tight S hi4 hl hv G kk)
      · exact lv_tableIn (off := 440) hx hb dL_law_32 (by rw [h]; decide) (by rw [h]; decide) (by rw [h]; rfl) rfl (lw_case_reach S hi4 hl hv G kk)
      · exact lv_tableIn (off := 484) hx hb dL_law_32 (by rw [h]; decide) (by rw [h]; decide) (by rw [h]; rfl) rfl (lw_case_far S hi4 hl hv G kk)
      · exact lv_tableIn (off := 528) hx hb dL_law_32 (by rw [h]; decide) (by rw [h]; decide) (by rw [h]; rfl) rfl (lw_case_barred S hi4 hl hv G kk)
      · exact lv_tableIn (off := 551) hx hb dL_law_32 (by rw [h]; decide) (by rw [h]; decide) (by rw [h]; rfl) rfl (lw_case_whole S hi4 hl hv G kk)
      · exact lv_tableIn (off := 564) hx hb dL_law_32 (by rw [h]; decide) (by rw [h]; decide) (by rw [h]; rfl) rfl (lw_case_wholeValue S hi4 hl hv G kk)
      · exact lv_tableIn (off := 587) hx hb dL_law_32 (by rw [h]; decide) (by rw [h]; decide) (by rw [h]; rfl) rfl (lw_case_isWhole S hi4 hl hv G kk)
      · exact lv_tableIn (off := 600) hx hb dL_law_32 (by rw [h]; decide) (by rw [h]; decide) (by rw [h]; rfl) rfl (lw_case_told S hi4 hl hv G kk)
