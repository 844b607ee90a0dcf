section
-- ===== PART A: goes FIRST, ahead of the names: the tables' words, and 'selects' of the private methods out of them =====
/-- a private method of a class that the tables say can be made, by its rows of tables_1 -/
def lw_okq (q : MethodName × Nat) : Prop := (q.1.cls ≠ "java/lang/invoke/MethodHandle" ∧ q.1.cls ≠ "java/lang/invoke/VarHandle") ∧ Cond.instantiable q.1.cls q.2 ∈ tables_1 ∧ Cond.privateMethod q.1 ∈ tables_1 ∧ Cond.instanceMethod q.1 ∈ tables_1
theorem lw_p0 : lw_okq (⟨"ExactSimplex", "forgetAnswers", "()V"⟩, 3) := ⟨⟨by decide +kernel, by decide +kernel⟩, List.mem_of_getElem? (i := 9) (by decide +kernel), List.mem_of_getElem? (i := 210) (by decide +kernel), List.mem_of_getElem? (i := 211) (by decide +kernel)⟩
theorem lw_p1 : lw_okq (⟨"ExactSimplex$Solver", "allRows", "()I"⟩, 10) := ⟨⟨by decide +kernel, by decide +kernel⟩, List.mem_of_getElem? (i := 78) (by decide +kernel), List.mem_of_getElem? (i := 278) (by decide +kernel), List.mem_of_getElem? (i := 279) (by decide +kernel)⟩
theorem lw_p2 : lw_okq (⟨"ExactSimplex$Solver", "canKeep", "(I)Z"⟩, 10) := ⟨⟨by decide +kernel, by decide +kernel⟩, List.mem_of_getElem? (i := 78) (by decide +kernel), List.mem_of_getElem? (i := 282) (by decide +kernel), List.mem_of_getElem? (i := 283) (by decide +kernel)⟩
theorem lw_p3 : lw_okq (⟨"ExactSimplex$Solver", "aimAt", "(II)V"⟩, 10) := ⟨⟨by decide +kernel, by decide +kernel⟩, List.mem_of_getElem? (i := 78) (by decide +kernel), List.mem_of_getElem? (i := 297) (by decide +kernel), List.mem_of_getElem? (i := 298) (by decide +kernel)⟩
theorem lw_p4 : lw_okq (⟨"ExactSimplex$Solver", "addRow", "(I)V"⟩, 10) := ⟨⟨by decide +kernel, by decide +kernel⟩, List.mem_of_getElem? (i := 78) (by decide +kernel), List.mem_of_getElem? (i := 305) (by decide +kernel), List.mem_of_getElem? (i := 306) (by decide +kernel)⟩
theorem lw_p5 : lw_okq (⟨"ExactSimplex$Dictionary", "brokenLine", "()I"⟩, 9) := ⟨⟨by decide +kernel, by decide +kernel⟩, List.mem_of_getElem? (i := 84) (by decide +kernel), List.mem_of_getElem? (i := 322) (by decide +kernel), List.mem_of_getElem? (i := 323) (by decide +kernel)⟩
theorem lw_p6 : lw_okq (⟨"ExactSimplex$Dictionary", "mendingColumn", "(I)I"⟩, 9) := ⟨⟨by decide +kernel, by decide +kernel⟩, List.mem_of_getElem? (i := 84) (by decide +kernel), List.mem_of_getElem? (i := 326) (by decide +kernel), List.mem_of_getElem? (i := 327) (by decide +kernel)⟩
theorem lw_p7 : lw_okq (⟨"ExactSimplex$Dictionary", "pivot", "(II)V"⟩, 9) := ⟨⟨by decide +kernel, by decide +kernel⟩, List.mem_of_getElem? (i := 84) (by decide +kernel), List.mem_of_getElem? (i := 330) (by decide +kernel), List.mem_of_getElem? (i := 331) (by decide +kernel)⟩
theorem lw_p8 : lw_okq (⟨"ExactSimplex$Dictionary", "sweepLine", "(IIIJ)V"⟩, 9) := ⟨⟨by decide +kernel, by decide +kernel⟩, List.mem_of_getElem? (i := 84) (by decide +kernel), List.mem_of_getElem? (i := 334) (by decide +kernel), List.mem_of_getElem? (i := 335) (by decide +kernel)⟩
theorem lw_p9 : lw_okq (⟨"ExactSimplex$Dictionary", "turnLine", "(I)V"⟩, 9) := ⟨⟨by decide +kernel, by decide +kernel⟩, List.mem_of_getElem? (i := 84) (by decide +kernel), List.mem_of_getElem? (i := 338) (by decide +kernel), List.mem_of_getElem? (i := 339) (by decide +kernel)⟩
theorem lw_p10 : lw_okq (⟨"ExactSimplex$Solver", "findFirstBest", "()V"⟩, 10) := ⟨⟨by decide +kernel, by decide +kernel⟩, List.mem_of_getElem? (i := 78) (by decide +kernel), List.mem_of_getElem? (i := 358) (by decide +kernel), List.mem_of_getElem? (i := 359) (by decide +kernel)⟩
theorem lw_p11 : lw_okq (⟨"ExactSimplex$Solver", "keepToBest", "()V"⟩, 10) := ⟨⟨by decide +kernel, by decide +kernel⟩, List.mem_of_getElem? (i := 78) (by decide +kernel), List.mem_of_getElem? (i := 363) (by decide +kernel), List.mem_of_getElem? (i := 364) (by decide +kernel)⟩
theorem lw_p12 : lw_okq (⟨"ExactSimplex$Dictionary", "findSlopes", "([I)V"⟩, 9) := ⟨⟨by decide +kernel, by decide +kernel⟩, List.mem_of_getElem? (i := 84) (by decide +kernel), List.mem_of_getElem? (i := 371) (by decide +kernel), List.mem_of_getElem? (i := 372) (by decide +kernel)⟩
theorem lw_p13 : lw_okq (⟨"ExactSimplex$Dictionary", "fallingColumn", "()I"⟩, 9) := ⟨⟨by decide +kernel, by decide +kernel⟩, List.mem_of_getElem? (i := 84) (by decide +kernel), List.mem_of_getElem? (i := 375) (by decide +kernel), List.mem_of_getElem? (i := 376) (by decide +kernel)⟩
theorem lw_p14 : lw_okq (⟨"ExactSimplex$Dictionary", "firstStop", "(I)I"⟩, 9) := ⟨⟨by decide +kernel, by decide +kernel⟩, List.mem_of_getElem? (i := 84) (by decide +kernel), List.mem_of_getElem? (i := 379) (by decide +kernel), List.mem_of_getElem? (i := 380) (by decide +kernel)⟩
theorem lw_p15 : lw_okq (⟨"ExactSimplex$Dictionary", "stopsBefore", "(III)Z"⟩, 9) := ⟨⟨by decide +kernel, by decide +kernel⟩, List.mem_of_getElem? (i := 84) (by decide +kernel), List.mem_of_getElem? (i := 383) (by decide +kernel), List.mem_of_getElem? (i := 384) (by decide +kernel)⟩
def lw_privs_1 : List (MethodName × Nat) := [(⟨"ExactSimplex", "forgetAnswers", "()V"⟩, 3), (⟨"ExactSimplex$Solver", "allRows", "()I"⟩, 10), (⟨"ExactSimplex$Solver", "canKeep", "(I)Z"⟩, 10), (⟨"ExactSimplex$Solver", "aimAt", "(II)V"⟩, 10), (⟨"ExactSimplex$Solver", "addRow", "(I)V"⟩, 10), (⟨"ExactSimplex$Dictionary", "brokenLine", "()I"⟩, 9), (⟨"ExactSimplex$Dictionary", "mendingColumn", "(I)I"⟩, 9), (⟨"ExactSimplex$Dictionary", "pivot", "(II)V"⟩, 9), (⟨"ExactSimplex$Dictionary", "sweepLine", "(IIIJ)V"⟩, 9), (⟨"ExactSimplex$Dictionary", "turnLine", "(I)V"⟩, 9), (⟨"ExactSimplex$Solver", "findFirstBest", "()V"⟩, 10), (⟨"ExactSimplex$Solver", "keepToBest", "()V"⟩, 10), (⟨"ExactSimplex$Dictionary", "findSlopes", "([I)V"⟩, 9), (⟨"ExactSimplex$Dictionary", "fallingColumn", "()I"⟩, 9), (⟨"ExactSimplex$Dictionary", "firstStop", "(I)I"⟩, 9), (⟨"ExactSimplex$Dictionary", "stopsBefore", "(III)Z"⟩, 9)]
theorem lw_r1 : ∀ q ∈ lw_privs_1, lw_okq q := List.forall_mem_cons.mpr ⟨lw_p0, List.forall_mem_cons.mpr ⟨lw_p1, List.forall_mem_cons.mpr ⟨lw_p2, List.forall_mem_cons.mpr ⟨lw_p3, List.forall_mem_cons.mpr ⟨lw_p4, List.forall_mem_cons.mpr ⟨lw_p5, List.forall_mem_cons.mpr ⟨lw_p6, List.forall_mem_cons.mpr ⟨lw_p7, List.forall_mem_cons.mpr ⟨lw_p8, List.forall_mem_cons.mpr ⟨lw_p9, List.forall_mem_cons.mpr ⟨lw_p10, List.forall_mem_cons.mpr ⟨lw_p11, List.forall_mem_cons.mpr ⟨lw_p12, List.forall_mem_cons.mpr ⟨lw_p13, List.forall_mem_cons.mpr ⟨lw_p14, List.forall_mem_cons.mpr ⟨lw_p15, fun _ h => absurd h List.not_mem_nil⟩⟩⟩⟩⟩⟩⟩⟩⟩⟩⟩⟩⟩⟩⟩⟩
theorem lw_p16 : lw_okq (⟨"ExactSimplex$Solver", "numeratorOf", "(I)J"⟩, 10) := ⟨⟨by decide +kernel, by decide +kernel⟩, List.mem_of_getElem? (i := 78) (by decide +kernel), List.mem_of_getElem? (i := 391) (by decide +kernel), List.mem_of_getElem? (i := 392) (by decide +kernel)⟩
theorem lw_p17 : lw_okq (⟨"ExactSimplex", "refusalOfEnd", "(III)I"⟩, 3) := ⟨⟨by decide +kernel, by decide +kernel⟩, List.mem_of_getElem? (i := 9) (by decide +kernel), List.mem_of_getElem? (i := 431) (by decide +kernel), List.mem_of_getElem? (i := 432) (by decide +kernel)⟩
theorem lw_p18 : lw_okq (⟨"ExactSimplex$Solver", "endFromHere", "(III)J"⟩, 10) := ⟨⟨by decide +kernel, by decide +kernel⟩, List.mem_of_getElem? (i := 78) (by decide +kernel), List.mem_of_getElem? (i := 439) (by decide +kernel), List.mem_of_getElem? (i := 440) (by decide +kernel)⟩
theorem lw_p19 : lw_okq (⟨"ExactSimplex$Solver", "findBarred", "()V"⟩, 10) := ⟨⟨by decide +kernel, by decide +kernel⟩, List.mem_of_getElem? (i := 78) (by decide +kernel), List.mem_of_getElem? (i := 459) (by decide +kernel), List.mem_of_getElem? (i := 460) (by decide +kernel)⟩
theorem lw_p20 : lw_okq (⟨"ExactSimplex", "refusalOfWhole", "()I"⟩, 3) := ⟨⟨by decide +kernel, by decide +kernel⟩, List.mem_of_getElem? (i := 9) (by decide +kernel), List.mem_of_getElem? (i := 467) (by decide +kernel), List.mem_of_getElem? (i := 468) (by decide +kernel)⟩
theorem lw_p21 : lw_okq (⟨"ExactSimplex$WholeSearch", "weighOthers", "()V"⟩, 10) := ⟨⟨by decide +kernel, by decide +kernel⟩, List.mem_of_getElem? (i := 152) (by decide +kernel), List.mem_of_getElem? (i := 480) (by decide +kernel), List.mem_of_getElem? (i := 481) (by decide +kernel)⟩
theorem lw_p22 : lw_okq (⟨"ExactSimplex$WholeSearch", "weight", "(II)I"⟩, 10) := ⟨⟨by decide +kernel, by decide +kernel⟩, List.mem_of_getElem? (i := 152) (by decide +kernel), List.mem_of_getElem? (i := 484) (by decide +kernel), List.mem_of_getElem? (i := 485) (by decide +kernel)⟩
theorem lw_p23 : lw_okq (⟨"ExactSimplex$WholeSearch", "openName", "(I)V"⟩, 10) := ⟨⟨by decide +kernel, by decide +kernel⟩, List.mem_of_getElem? (i := 152) (by decide +kernel), List.mem_of_getElem? (i := 492) (by decide +kernel), List.mem_of_getElem? (i := 493) (by decide +kernel)⟩
theorem lw_p24 : lw_okq (⟨"ExactSimplex$WholeSearch", "narrowByRow", "(II)V"⟩, 10) := ⟨⟨by decide +kernel, by decide +kernel⟩, List.mem_of_getElem? (i := 152) (by decide +kernel), List.mem_of_getElem? (i := 497) (by decide +kernel), List.mem_of_getElem? (i := 498) (by decide +kernel)⟩
theorem lw_p25 : lw_okq (⟨"ExactSimplex$WholeSearch", "narrow", "(III)V"⟩, 10) := ⟨⟨by decide +kernel, by decide +kernel⟩, List.mem_of_getElem? (i := 152) (by decide +kernel), List.mem_of_getElem? (i := 502) (by decide +kernel), List.mem_of_getElem? (i := 503) (by decide +kernel)⟩
theorem lw_p26 : lw_okq (⟨"ExactSimplex$WholeSearch", "keepCheapest", "(I)V"⟩, 10) := ⟨⟨by decide +kernel, by decide +kernel⟩, List.mem_of_getElem? (i := 152) (by decide +kernel), List.mem_of_getElem? (i := 510) (by decide +kernel), List.mem_of_getElem? (i := 511) (by decide +kernel)⟩
theorem lw_p27 : lw_okq (⟨"ExactSimplex$WholeSearch", "takePoint", "()V"⟩, 10) := ⟨⟨by decide +kernel, by decide +kernel⟩, List.mem_of_getElem? (i := 152) (by decide +kernel), List.mem_of_getElem? (i := 515) (by decide +kernel), List.mem_of_getElem? (i := 516) (by decide +kernel)⟩
theorem lw_p28 : lw_okq (⟨"ExactSimplex$WholeSearch", "keepsRows", "()Z"⟩, 10) := ⟨⟨by decide +kernel, by decide +kernel⟩, List.mem_of_getElem? (i := 152) (by decide +kernel), List.mem_of_getElem? (i := 519) (by decide +kernel), List.mem_of_getElem? (i := 520) (by decide +kernel)⟩
theorem lw_p29 : lw_okq (⟨"ExactSimplex$WholeSearch", "mayBeCheaper", "(I)Z"⟩, 10) := ⟨⟨by decide +kernel, by decide +kernel⟩, List.mem_of_getElem? (i := 152) (by decide +kernel), List.mem_of_getElem? (i := 523) (by decide +kernel), List.mem_of_getElem? (i := 524) (by decide +kernel)⟩
theorem lw_p30 : lw_okq (⟨"ExactSimplex$WholeSearch", "addUp", "(I)V"⟩, 10) := ⟨⟨by decide +kernel, by decide +kernel⟩, List.mem_of_getElem? (i := 152) (by decide +kernel), List.mem_of_getElem? (i := 527) (by decide +kernel), List.mem_of_getElem? (i := 528) (by decide +kernel)⟩
theorem lw_p31 : lw_okq (⟨"ExactSimplexModel", "isName", "(I)Z"⟩, 28) := ⟨⟨by decide +kernel, by decide +kernel⟩, List.mem_of_getElem? (i := 551) (by decide +kernel), List.mem_of_getElem? (i := 653) (by decide +kernel), List.mem_of_getElem? (i := 654) (by decide +kernel)⟩
def lw_privs_2 : List (MethodName × Nat) := [(⟨"ExactSimplex$Solver", "numeratorOf", "(I)J"⟩, 10), (⟨"ExactSimplex", "refusalOfEnd", "(III)I"⟩, 3), (⟨"ExactSimplex$Solver", "endFromHere", "(III)J"⟩, 10), (⟨"ExactSimplex$Solver", "findBarred", "()V"⟩, 10), (⟨"ExactSimplex", "refusalOfWhole", "()I"⟩, 3), (⟨"ExactSimplex$WholeSearch", "weighOthers", "()V"⟩, 10), (⟨"ExactSimplex$WholeSearch", "weight", "(II)I"⟩, 10), (⟨"ExactSimplex$WholeSearch", "openName", "(I)V"⟩, 10), (⟨"ExactSimplex$WholeSearch", "narrowByRow", "(II)V"⟩, 10), (⟨"ExactSimplex$WholeSearch", "narrow", "(III)V"⟩, 10), (⟨"ExactSimplex$WholeSearch", "keepCheapest", "(I)V"⟩, 10), (⟨"ExactSimplex$WholeSearch", "takePoint", "()V"⟩, 10), (⟨"ExactSimplex$WholeSearch", "keepsRows", "()Z"⟩, 10), (⟨"ExactSimplex$WholeSearch", "mayBeCheaper", "(I)Z"⟩, 10), (⟨"ExactSimplex$WholeSearch", "addUp", "(I)V"⟩, 10), (⟨"ExactSimplexModel", "isName", "(I)Z"⟩, 28)]
theorem lw_r2 : ∀ q ∈ lw_privs_2, lw_okq q := List.forall_mem_cons.mpr ⟨lw_p16, List.forall_mem_cons.mpr ⟨lw_p17, List.forall_mem_cons.mpr ⟨lw_p18, List.forall_mem_cons.mpr ⟨lw_p19, List.forall_mem_cons.mpr ⟨lw_p20, List.forall_mem_cons.mpr ⟨lw_p21, List.forall_mem_cons.mpr ⟨lw_p22, List.forall_mem_cons.mpr ⟨lw_p23, List.forall_mem_cons.mpr ⟨lw_p24, List.forall_mem_cons.mpr ⟨lw_p25, List.forall_mem_cons.mpr ⟨lw_p26, List.forall_mem_cons.mpr ⟨lw_p27, List.forall_mem_cons.mpr ⟨lw_p28, List.forall_mem_cons.mpr ⟨lw_p29, List.forall_mem_cons.mpr ⟨lw_p30, List.forall_mem_cons.mpr ⟨lw_p31, fun _ h => absurd h List.not_mem_nil⟩⟩⟩⟩⟩⟩⟩⟩⟩⟩⟩⟩⟩⟩⟩⟩
theorem lw_p32 : lw_okq (⟨"ExactSimplexModel", "isRow", "(I)Z"⟩, 28) := ⟨⟨by decide +kernel, by decide +kernel⟩, List.mem_of_getElem? (i := 551) (by decide +kernel), List.mem_of_getElem? (i := 669) (by decide +kernel), List.mem_of_getElem? (i := 670) (by decide +kernel)⟩
theorem lw_p33 : lw_okq (⟨"ExactSimplexModel", "rowCount", "()I"⟩, 28) := ⟨⟨by decide +kernel, by decide +kernel⟩, List.mem_of_getElem? (i := 551) (by decide +kernel), List.mem_of_getElem? (i := 681) (by decide +kernel), List.mem_of_getElem? (i := 682) (by decide +kernel)⟩
theorem lw_p34 : lw_okq (⟨"ExactSimplexModel", "know", "()V"⟩, 28) := ⟨⟨by decide +kernel, by decide +kernel⟩, List.mem_of_getElem? (i := 551) (by decide +kernel), List.mem_of_getElem? (i := 693) (by decide +kernel), List.mem_of_getElem? (i := 694) (by decide +kernel)⟩
theorem lw_p35 : lw_okq (⟨"ExactSimplexModel", "all", "()I"⟩, 28) := ⟨⟨by decide +kernel, by decide +kernel⟩, List.mem_of_getElem? (i := 551) (by decide +kernel), List.mem_of_getElem? (i := 697) (by decide +kernel), List.mem_of_getElem? (i := 698) (by decide +kernel)⟩
theorem lw_p36 : lw_okq (⟨"ExactSimplexModel", "corners", "(IZ)Z"⟩, 28) := ⟨⟨by decide +kernel, by decide +kernel⟩, List.mem_of_getElem? (i := 551) (by decide +kernel), List.mem_of_getElem? (i := 701) (by decide +kernel), List.mem_of_getElem? (i := 702) (by decide +kernel)⟩
theorem lw_p37 : lw_okq (⟨"ExactSimplexModel", "keeps", "(I)Z"⟩, 28) := ⟨⟨by decide +kernel, by decide +kernel⟩, List.mem_of_getElem? (i := 551) (by decide +kernel), List.mem_of_getElem? (i := 705) (by decide +kernel), List.mem_of_getElem? (i := 706) (by decide +kernel)⟩
theorem lw_p38 : lw_okq (⟨"ExactSimplexModel", "take", "()V"⟩, 28) := ⟨⟨by decide +kernel, by decide +kernel⟩, List.mem_of_getElem? (i := 551) (by decide +kernel), List.mem_of_getElem? (i := 709) (by decide +kernel), List.mem_of_getElem? (i := 710) (by decide +kernel)⟩
theorem lw_p39 : lw_okq (⟨"ExactSimplexModel", "after", "(II)I"⟩, 28) := ⟨⟨by decide +kernel, by decide +kernel⟩, List.mem_of_getElem? (i := 551) (by decide +kernel), List.mem_of_getElem? (i := 716) (by decide +kernel), List.mem_of_getElem? (i := 717) (by decide +kernel)⟩
theorem lw_p40 : lw_okq (⟨"ExactSimplexModel", "isThere", "(II)Z"⟩, 28) := ⟨⟨by decide +kernel, by decide +kernel⟩, List.mem_of_getElem? (i := 551) (by decide +kernel), List.mem_of_getElem? (i := 720) (by decide +kernel), List.mem_of_getElem? (i := 721) (by decide +kernel)⟩
theorem lw_p41 : lw_okq (⟨"ExactSimplexModel", "solve", "()Z"⟩, 28) := ⟨⟨by decide +kernel, by decide +kernel⟩, List.mem_of_getElem? (i := 551) (by decide +kernel), List.mem_of_getElem? (i := 724) (by decide +kernel), List.mem_of_getElem? (i := 725) (by decide +kernel)⟩
theorem lw_p42 : lw_okq (⟨"ExactSimplexModel", "part", "(II)J"⟩, 28) := ⟨⟨by decide +kernel, by decide +kernel⟩, List.mem_of_getElem? (i := 551) (by decide +kernel), List.mem_of_getElem? (i := 728) (by decide +kernel), List.mem_of_getElem? (i := 729) (by decide +kernel)⟩
theorem lw_p43 : lw_okq (⟨"ExactSimplexModel", "isLarge", "()Z"⟩, 28) := ⟨⟨by decide +kernel, by decide +kernel⟩, List.mem_of_getElem? (i := 551) (by decide +kernel), List.mem_of_getElem? (i := 769) (by decide +kernel), List.mem_of_getElem? (i := 770) (by decide +kernel)⟩
theorem lw_p44 : lw_okq (⟨"ExactSimplexModel", "findWhole", "()Z"⟩, 28) := ⟨⟨by decide +kernel, by decide +kernel⟩, List.mem_of_getElem? (i := 551) (by decide +kernel), List.mem_of_getElem? (i := 774) (by decide +kernel), List.mem_of_getElem? (i := 775) (by decide +kernel)⟩
theorem lw_p45 : lw_okq (⟨"ExactSimplexModel", "keepsWhole", "()Z"⟩, 28) := ⟨⟨by decide +kernel, by decide +kernel⟩, List.mem_of_getElem? (i := 551) (by decide +kernel), List.mem_of_getElem? (i := 778) (by decide +kernel), List.mem_of_getElem? (i := 779) (by decide +kernel)⟩
def lw_privs_3 : List (MethodName × Nat) := [(⟨"ExactSimplexModel", "isRow", "(I)Z"⟩, 28), (⟨"ExactSimplexModel", "rowCount", "()I"⟩, 28), (⟨"ExactSimplexModel", "know", "()V"⟩, 28), (⟨"ExactSimplexModel", "all", "()I"⟩, 28), (⟨"ExactSimplexModel", "corners", "(IZ)Z"⟩, 28), (⟨"ExactSimplexModel", "keeps", "(I)Z"⟩, 28), (⟨"ExactSimplexModel", "take", "()V"⟩, 28), (⟨"ExactSimplexModel", "after", "(II)I"⟩, 28), (⟨"ExactSimplexModel", "isThere", "(II)Z"⟩, 28), (⟨"ExactSimplexModel", "solve", "()Z"⟩, 28), (⟨"ExactSimplexModel", "part", "(II)J"⟩, 28), (⟨"ExactSimplexModel", "isLarge", "()Z"⟩, 28), (⟨"ExactSimplexModel", "findWhole", "()Z"⟩, 28), (⟨"ExactSimplexModel", "keepsWhole", "()Z"⟩, 28)]
theorem lw_r3 : ∀ q ∈ lw_privs_3, lw_okq q := List.forall_mem_cons.mpr ⟨lw_p32, List.forall_mem_cons.mpr ⟨lw_p33, List.forall_mem_cons.mpr ⟨lw_p34, List.forall_mem_cons.mpr ⟨lw_p35, List.forall_mem_cons.mpr ⟨lw_p36, List.forall_mem_cons.mpr ⟨lw_p37, List.forall_mem_cons.mpr ⟨lw_p38, List.forall_mem_cons.mpr ⟨lw_p39, List.forall_mem_cons.mpr ⟨lw_p40, List.forall_mem_cons.mpr ⟨lw_p41, List.forall_mem_cons.mpr ⟨lw_p42, List.forall_mem_cons.mpr ⟨lw_p43, List.forall_mem_cons.mpr ⟨lw_p44, List.forall_mem_cons.mpr ⟨lw_p45, fun _ h => absurd h List.not_mem_nil⟩⟩⟩⟩⟩⟩⟩⟩⟩⟩⟩⟩⟩⟩
def lw_privs : List (MethodName × Nat) := lw_privs_1 ++ (lw_privs_2 ++ (lw_privs_3))
def lw_tbl : List Cond := k2_sels lw_privs ++ tables_1
theorem lw_privs_ok : ∀ q ∈ lw_privs, lw_okq q := by
  show ∀ q ∈ lw_privs_1 ++ (lw_privs_2 ++ (lw_privs_3)), lw_okq q
  exact List.forall_mem_append.mpr ⟨lw_r1, List.forall_mem_append.mpr ⟨lw_r2, lw_r3⟩⟩
end
section
/-! ===== BEGIN words of one list among another's, by their places ===== -/
theorem goodIn_r {big : List Cond} (ws : List Cond) (ps : List Nat) (hp : ws = ps.filterMap (fun i => big[i]?)) (h : ws.all goodWord = true) : GoodIn big ws := by
  intro w hw
  have h1 := List.all_eq_true.mp h w hw
  rw [hp] at hw
  obtain ⟨i, -, hi⟩ := List.mem_filterMap.mp hw
  have hm : w ∈ big := by first | exact List.mem_of_getElem? hi | exact List.getElem?_mem hi
  exact ⟨hm, good_of_word h1⟩
theorem goodIn_app {big a b : List Cond} (ha : GoodIn big a) (hb : GoodIn big b) : GoodIn big (a ++ b) := fun w h => (List.mem_append.mp h).elim (ha w) (hb w)
theorem goodIn_ca {big a b : List Cond} {c : Cond} (ha : GoodIn big (c :: a)) (hb : GoodIn big b) : GoodIn big (c :: (a ++ b)) := fun w h => (List.mem_cons.mp h).elim (fun e => ha w (List.mem_cons.mpr (Or.inl e))) (fun h => (List.mem_append.mp h).elim (fun h => ha w (List.mem_cons.mpr (Or.inr h))) (hb w))
theorem goodIn_sub {big ws : List Cond} (hm : ∀ w ∈ ws, w ∈ big) (h : ws.all goodWord = true) : GoodIn big ws := fun w hw => ⟨hm w hw, good_of_word (List.all_eq_true.mp h w hw)⟩
/-! ===== END ===== -/


/-! ===== BEGIN printed: names, fields, word lists, decode rows ===== -/
def RX0 : String := "ExactSimplex$Dictionary"
def TX0 : u_T := fun k => match k with
  | 0 => ("ExactSimplex$Dictionary", "table", "[[J", true)
  | 1 => ("ExactSimplex$Dictionary", "rests", "[J", true)
  | 2 => ("ExactSimplex$Dictionary", "basic", "[I", true)
  | 3 => ("ExactSimplex$Dictionary", "outside", "[I", true)
  | 4 => ("ExactSimplex$Dictionary", "frozen", "[Z", true)
  | 5 => ("ExactSimplex$Dictionary", "slopes", "[J", true)
  | 6 => ("ExactSimplex$Dictionary", "under", "J", false)
  | 7 => ("ExactSimplex$Dictionary", "lines", "I", false)
  | _ => ("ExactSimplex$Dictionary", "columns", "I", false)
def tyX0 : Nat → FieldType := fun k => match k with
  | 0 => .array (.array .long)
  | 1 => .array .long
  | 2 => .array .int
  | 3 => .array .int
  | 4 => .array .boolean
  | 5 => .array .long
  | 6 => .long
  | 7 => .int
  | _ => .int
abbrev wsX00 : List Cond := u_ws RX0 TX0 9
theorem nmX0 : ∀ a, a < 9 → ∀ b, b < 9 → a ≠ b → (TX0 a).2.1 ≠ (TX0 b).2.1 := by decide +kernel
theorem tyX0_ok : ∀ k, k < 9 → parseFieldDescriptor (TX0 k).2.2.1 = some (tyX0 k) := by decide +kernel
abbrev cX0_init : ByteArray := prog_2_method_1_code
def yX0_init : MethodName := ⟨RX0, "<init>", "()V"⟩
abbrev cX0_begin : ByteArray := prog_2_method_2_code
def yX0_begin : MethodName := ⟨RX0, "begin", "(I)V"⟩
abbrev cX0_addAtMost : ByteArray := prog_2_method_3_code
def yX0_addAtMost : MethodName := ⟨RX0, "addAtMost", "([III)V"⟩
abbrev cX0_denominator : ByteArray := prog_2_method_4_code
def yX0_denominator : MethodName := ⟨RX0, "denominator", "()J"⟩
abbrev cX0_numerator : ByteArray := prog_2_method_5_code
def yX0_numerator : MethodName := ⟨RX0, "numerator", "(I)J"⟩
abbrev cX0_findPoint : ByteArray := prog_2_method_6_code
def yX0_findPoint : MethodName := ⟨RX0, "findPoint", "()Z"⟩
abbrev cX0_minimise : ByteArray := prog_2_method_7_code
def yX0_minimise : MethodName := ⟨RX0, "minimise", "([I)V"⟩
abbrev cX0_freezeDear : ByteArray := prog_2_method_8_code
def yX0_freezeDear : MethodName := ⟨RX0, "freezeDear", "()V"⟩
abbrev cX0_thawAll : ByteArray := prog_2_method_9_code
def yX0_thawAll : MethodName := ⟨RX0, "thawAll", "()V"⟩
abbrev cX0_brokenLine : ByteArray := prog_2_method_10_code
def yX0_brokenLine : MethodName := ⟨RX0, "brokenLine", "()I"⟩
abbrev cX0_mendingColumn : ByteArray := prog_2_method_11_code
def yX0_mendingColumn : MethodName := ⟨RX0, "mendingColumn", "(I)I"⟩
abbrev cX0_findSlopes : ByteArray := prog_2_method_12_code
def yX0_findSlopes : MethodName := ⟨RX0, "findSlopes", "([I)V"⟩
abbrev cX0_fallingColumn : ByteArray := prog_2_method_13_code
def yX0_fallingColumn : MethodName := ⟨RX0, "fallingColumn", "()I"⟩
abbrev cX0_firstStop : ByteArray := prog_2_method_14_code
def yX0_firstStop : MethodName := ⟨RX0, "firstStop", "(I)I"⟩
abbrev cX0_stopsBefore : ByteArray := prog_2_method_15_code
def yX0_stopsBefore : MethodName := ⟨RX0, "stopsBefore", "(III)Z"⟩
abbrev cX0_pivot : ByteArray := prog_2_method_16_code
def yX0_pivot : MethodName := ⟨RX0, "pivot", "(II)V"⟩
abbrev cX0_sweepLine : ByteArray := prog_2_method_17_code
def yX0_sweepLine : MethodName := ⟨RX0, "sweepLine", "(IIIJ)V"⟩
abbrev cX0_turnLine : ByteArray := prog_2_method_18_code
def yX0_turnLine : MethodName := ⟨RX0, "turnLine", "(I)V"⟩
def RX1 : String := "ExactSimplex$Problem"
def TX1 : u_T := fun k => match k with
  | 0 => ("ExactSimplex$Problem", "lows", "[I", true)
  | 1 => ("ExactSimplex$Problem", "highs", "[I", true)
  | 2 => ("ExactSimplex$Problem", "costs", "[I", true)
  | 3 => ("ExactSimplex$Problem", "senses", "[I", true)
  | 4 => ("ExactSimplex$Problem", "rights", "[I", true)
  | 5 => ("ExactSimplex$Problem", "factors", "[[I", true)
  | 6 => ("ExactSimplex$Problem", "there", "[Z", true)
  | 7 => ("ExactSimplex$Problem", "names", "I", false)
  | _ => ("ExactSimplex$Problem", "rows", "I", false)
def tyX1 : Nat → FieldType := fun k => match k with
  | 0 => .array .int
  | 1 => .array .int
  | 2 => .array .int
  | 3 => .array .int
  | 4 => .array .int
  | 5 => .array (.array .int)
  | 6 => .array .boolean
  | 7 => .int
  | _ => .int
abbrev wsX10 : List Cond := u_ws RX1 TX1 9
theorem nmX1 : ∀ a, a < 9 → ∀ b, b < 9 → a ≠ b → (TX1 a).2.1 ≠ (TX1 b).2.1 := by decide +kernel
theorem tyX1_ok : ∀ k, k < 9 → parseFieldDescriptor (TX1 k).2.2.1 = some (tyX1 k) := by decide +kernel
abbrev cX1_init : ByteArray := prog_3_method_1_code
def yX1_init : MethodName := ⟨RX1, "<init>", "()V"⟩
abbrev cX1_hasName : ByteArray := prog_3_method_2_code
def yX1_hasName : MethodName := ⟨RX1, "hasName", "(I)Z"⟩
abbrev cX1_hasRow : ByteArray := prog_3_method_3_code
def yX1_hasRow : MethodName := ⟨RX1, "hasRow", "(I)Z"⟩
abbrev cX1_addName : ByteArray := prog_3_method_4_code
def yX1_addName : MethodName := ⟨RX1, "addName", "(II)I"⟩
abbrev cX1_addRow : ByteArray := prog_3_method_5_code
def yX1_addRow : MethodName := ⟨RX1, "addRow", "(II)I"⟩
abbrev cX1_countRows : ByteArray := prog_3_method_6_code
def yX1_countRows : MethodName := ⟨RX1, "countRows", "()I"⟩
abbrev cX1_countWhole : ByteArray := prog_3_method_7_code
def yX1_countWhole : MethodName := ⟨RX1, "countWhole", "()J"⟩
abbrev cX1_limitsFromAbove : ByteArray := prog_3_method_8_code
def yX1_limitsFromAbove : MethodName := ⟨RX1, "limitsFromAbove", "(I)Z"⟩
abbrev cX1_limitsFromBelow : ByteArray := prog_3_method_9_code
def yX1_limitsFromBelow : MethodName := ⟨RX1, "limitsFromBelow", "(I)Z"⟩
def RX2 : String := "ExactSimplex$Solver"
def TX2 : u_T := fun k => match k with
  | 0 => ("ExactSimplex$Solver", "problem", "LExactSimplex$Problem;", true)
  | 1 => ("ExactSimplex$Solver", "dictionary", "LExactSimplex$Dictionary;", true)
  | 2 => ("ExactSimplex$Solver", "goal", "[I", true)
  | 3 => ("ExactSimplex$Solver", "firstBest", "[J", true)
  | 4 => ("ExactSimplex$Solver", "firstBestUnder", "J", false)
  | 5 => ("ExactSimplex$Solver", "pointSought", "Z", false)
  | 6 => ("ExactSimplex$Solver", "pointThere", "Z", false)
  | 7 => ("ExactSimplex$Solver", "firstBestKnown", "Z", false)
  | 8 => ("ExactSimplex$Solver", "barredKnown", "Z", false)
  | _ => ("ExactSimplex$Solver", "barredSet", "I", false)
def tyX2 : Nat → FieldType := fun k => match k with
  | 0 => .object "ExactSimplex$Problem"
  | 1 => .object "ExactSimplex$Dictionary"
  | 2 => .array .int
  | 3 => .array .long
  | 4 => .long
  | 5 => .boolean
  | 6 => .boolean
  | 7 => .boolean
  | 8 => .boolean
  | _ => .int
abbrev wsX20 : List Cond := u_ws RX2 TX2 10
theorem nmX2 : ∀ a, a < 10 → ∀ b, b < 10 → a ≠ b → (TX2 a).2.1 ≠ (TX2 b).2.1 := by decide +kernel
theorem tyX2_ok : ∀ k, k < 10 → parseFieldDescriptor (TX2 k).2.2.1 = some (tyX2 k) := by decide +kernel
abbrev cX2_init : ByteArray := prog_4_method_1_code
def yX2_init : MethodName := ⟨RX2, "<init>", "(LExactSimplex$Problem;)V"⟩
abbrev cX2_forget : ByteArray := prog_4_method_2_code
def yX2_forget : MethodName := ⟨RX2, "forget", "()V"⟩
abbrev cX2_hasPoint : ByteArray := prog_4_method_3_code
def yX2_hasPoint : MethodName := ⟨RX2, "hasPoint", "()Z"⟩
abbrev cX2_leastCost : ByteArray := prog_4_method_4_code
def yX2_leastCost : MethodName := ⟨RX2, "leastCost", "(I)J"⟩
abbrev cX2_firstBestOf : ByteArray := prog_4_method_5_code
def yX2_firstBestOf : MethodName := ⟨RX2, "firstBestOf", "(II)J"⟩
abbrev cX2_isTight : ByteArray := prog_4_method_6_code
def yX2_isTight : MethodName := ⟨RX2, "isTight", "(I)Z"⟩
abbrev cX2_endAmongBest : ByteArray := prog_4_method_7_code
def yX2_endAmongBest : MethodName := ⟨RX2, "endAmongBest", "(III)J"⟩
abbrev cX2_endAmongAll : ByteArray := prog_4_method_8_code
def yX2_endAmongAll : MethodName := ⟨RX2, "endAmongAll", "(III)J"⟩
abbrev cX2_barredRow : ByteArray := prog_4_method_9_code
def yX2_barredRow : MethodName := ⟨RX2, "barredRow", "(I)I"⟩
abbrev cX2_endFromHere : ByteArray := prog_4_method_10_code
def yX2_endFromHere : MethodName := ⟨RX2, "endFromHere", "(III)J"⟩
abbrev cX2_findFirstBest : ByteArray := prog_4_method_11_code
def yX2_findFirstBest : MethodName := ⟨RX2, "findFirstBest", "()V"⟩
abbrev cX2_keepToBest : ByteArray := prog_4_method_12_code
def yX2_keepToBest : MethodName := ⟨RX2, "keepToBest", "()V"⟩
abbrev cX2_aimAt : ByteArray := prog_4_method_13_code
def yX2_aimAt : MethodName := ⟨RX2, "aimAt", "(II)V"⟩
abbrev cX2_numeratorOf : ByteArray := prog_4_method_14_code
def yX2_numeratorOf : MethodName := ⟨RX2, "numeratorOf", "(I)J"⟩
abbrev cX2_findBarred : ByteArray := prog_4_method_15_code
def yX2_findBarred : MethodName := ⟨RX2, "findBarred", "()V"⟩
abbrev cX2_allRows : ByteArray := prog_4_method_16_code
def yX2_allRows : MethodName := ⟨RX2, "allRows", "()I"⟩
abbrev cX2_canKeep : ByteArray := prog_4_method_17_code
def yX2_canKeep : MethodName := ⟨RX2, "canKeep", "(I)Z"⟩
abbrev cX2_addRow : ByteArray := prog_4_method_18_code
def yX2_addRow : MethodName := ⟨RX2, "addRow", "(I)V"⟩
abbrev cX2_partOf : ByteArray := prog_4_method_19_code
def yX2_partOf : MethodName := ⟨RX2, "partOf", "(JJI)J"⟩
abbrev cX2_greatestDivisor : ByteArray := prog_4_method_20_code
def yX2_greatestDivisor : MethodName := ⟨RX2, "greatestDivisor", "(JJ)J"⟩
def RX3 : String := "ExactSimplex$WholeSearch"
def TX3 : u_T := fun k => match k with
  | 0 => ("ExactSimplex$WholeSearch", "problem", "LExactSimplex$Problem;", true)
  | 1 => ("ExactSimplex$WholeSearch", "point", "[I", true)
  | 2 => ("ExactSimplex$WholeSearch", "ends", "[I", true)
  | 3 => ("ExactSimplex$WholeSearch", "firstBest", "[I", true)
  | 4 => ("ExactSimplex$WholeSearch", "sums", "[[I", true)
  | 5 => ("ExactSimplex$WholeSearch", "leastMore", "[[I", true)
  | 6 => ("ExactSimplex$WholeSearch", "mostMore", "[[I", true)
  | 7 => ("ExactSimplex$WholeSearch", "bestCost", "I", false)
  | 8 => ("ExactSimplex$WholeSearch", "found", "Z", false)
  | _ => ("ExactSimplex$WholeSearch", "sought", "Z", false)
def tyX3 : Nat → FieldType := fun k => match k with
  | 0 => .object "ExactSimplex$Problem"
  | 1 => .array .int
  | 2 => .array .int
  | 3 => .array .int
  | 4 => .array (.array .int)
  | 5 => .array (.array .int)
  | 6 => .array (.array .int)
  | 7 => .int
  | 8 => .boolean
  | _ => .boolean
abbrev wsX30 : List Cond := u_ws RX3 TX3 10
theorem nmX3 : ∀ a, a < 10 → ∀ b, b < 10 → a ≠ b → (TX3 a).2.1 ≠ (TX3 b).2.1 := by decide +kernel
theorem tyX3_ok : ∀ k, k < 10 → parseFieldDescriptor (TX3 k).2.2.1 = some (tyX3 k) := by decide +kernel
abbrev cX3_init : ByteArray := prog_5_method_1_code
def yX3_init : MethodName := ⟨RX3, "<init>", "(LExactSimplex$Problem;)V"⟩
abbrev cX3_forget : ByteArray := prog_5_method_2_code
def yX3_forget : MethodName := ⟨RX3, "forget", "()V"⟩
abbrev cX3_hasPoint : ByteArray := prog_5_method_3_code
def yX3_hasPoint : MethodName := ⟨RX3, "hasPoint", "()Z"⟩
abbrev cX3_leastCost : ByteArray := prog_5_method_4_code
def yX3_leastCost : MethodName := ⟨RX3, "leastCost", "()I"⟩
abbrev cX3_firstBestOf : ByteArray := prog_5_method_5_code
def yX3_firstBestOf : MethodName := ⟨RX3, "firstBestOf", "(I)I"⟩
abbrev cX3_weighOthers : ByteArray := prog_5_method_6_code
def yX3_weighOthers : MethodName := ⟨RX3, "weighOthers", "()V"⟩
abbrev cX3_weight : ByteArray := prog_5_method_7_code
def yX3_weight : MethodName := ⟨RX3, "weight", "(II)I"⟩
abbrev cX3_openName : ByteArray := prog_5_method_8_code
def yX3_openName : MethodName := ⟨RX3, "openName", "(I)V"⟩
abbrev cX3_narrowByRow : ByteArray := prog_5_method_9_code
def yX3_narrowByRow : MethodName := ⟨RX3, "narrowByRow", "(II)V"⟩
abbrev cX3_narrow : ByteArray := prog_5_method_10_code
def yX3_narrow : MethodName := ⟨RX3, "narrow", "(III)V"⟩
abbrev cX3_keepCheapest : ByteArray := prog_5_method_11_code
def yX3_keepCheapest : MethodName := ⟨RX3, "keepCheapest", "(I)V"⟩
abbrev cX3_addUp : ByteArray := prog_5_method_12_code
def yX3_addUp : MethodName := ⟨RX3, "addUp", "(I)V"⟩
abbrev cX3_mayBeCheaper : ByteArray := prog_5_method_13_code
def yX3_mayBeCheaper : MethodName := ⟨RX3, "mayBeCheaper", "(I)Z"⟩
abbrev cX3_takePoint : ByteArray := prog_5_method_14_code
def yX3_takePoint : MethodName := ⟨RX3, "takePoint", "()V"⟩
abbrev cX3_keepsRows : ByteArray := prog_5_method_15_code
def yX3_keepsRows : MethodName := ⟨RX3, "keepsRows", "()Z"⟩
def RX4 : String := "ExactSimplex"
def TX4 : u_T := fun k => match k with
  | 0 => ("ExactSimplex", "problem", "LExactSimplex$Problem;", true)
  | 1 => ("ExactSimplex", "solver", "LExactSimplex$Solver;", true)
  | _ => ("ExactSimplex", "search", "LExactSimplex$WholeSearch;", true)
def tyX4 : Nat → FieldType := fun k => match k with
  | 0 => .object "ExactSimplex$Problem"
  | 1 => .object "ExactSimplex$Solver"
  | _ => .object "ExactSimplex$WholeSearch"
abbrev wsX40 : List Cond := u_ws RX4 TX4 3
theorem nmX4 : ∀ a, a < 3 → ∀ b, b < 3 → a ≠ b → (TX4 a).2.1 ≠ (TX4 b).2.1 := by decide +kernel
theorem tyX4_ok : ∀ k, k < 3 → parseFieldDescriptor (TX4 k).2.2.1 = some (tyX4 k) := by decide +kernel
abbrev cX4_init : ByteArray := prog_1_method_1_code
def yX4_init : MethodName := ⟨RX4, "<init>", "()V"⟩
abbrev cX4_name : ByteArray := prog_1_method_2_code
def yX4_name : MethodName := ⟨RX4, "name", "(II)I"⟩
abbrev cX4_span : ByteArray := prog_1_method_3_code
def yX4_span : MethodName := ⟨RX4, "span", "(III)I"⟩
abbrev cX4_cost : ByteArray := prog_1_method_4_code
def yX4_cost : MethodName := ⟨RX4, "cost", "(II)I"⟩
abbrev cX4_row : ByteArray := prog_1_method_5_code
def yX4_row : MethodName := ⟨RX4, "row", "(II)I"⟩
abbrev cX4_right : ByteArray := prog_1_method_6_code
def yX4_right : MethodName := ⟨RX4, "right", "(II)I"⟩
abbrev cX4_factor : ByteArray := prog_1_method_7_code
def yX4_factor : MethodName := ⟨RX4, "factor", "(III)I"⟩
abbrev cX4_drop : ByteArray := prog_1_method_8_code
def yX4_drop : MethodName := ⟨RX4, "drop", "(I)I"⟩
abbrev cX4_clear : ByteArray := prog_1_method_9_code
def yX4_clear : MethodName := ⟨RX4, "clear", "()I"⟩
abbrev cX4_run : ByteArray := prog_1_method_10_code
def yX4_run : MethodName := ⟨RX4, "run", "()I"⟩
abbrev cX4_least : ByteArray := prog_1_method_11_code
def yX4_least : MethodName := ⟨RX4, "least", "(I)J"⟩
abbrev cX4_value : ByteArray := prog_1_method_12_code
def yX4_value : MethodName := ⟨RX4, "value", "(II)J"⟩
abbrev cX4_tight : ByteArray := prog_1_method_13_code
def yX4_tight : MethodName := ⟨RX4, "tight", "(I)I"⟩
abbrev cX4_reach : ByteArray := prog_1_method_14_code
def yX4_reach : MethodName := ⟨RX4, "reach", "(III)J"⟩
abbrev cX4_far : ByteArray := prog_1_method_15_code
def yX4_far : MethodName := ⟨RX4, "far", "(III)J"⟩
abbrev cX4_barred : ByteArray := prog_1_method_16_code
def yX4_barred : MethodName := ⟨RX4, "barred", "(I)I"⟩
abbrev cX4_whole : ByteArray := prog_1_method_17_code
def yX4_whole : MethodName := ⟨RX4, "whole", "()I"⟩
abbrev cX4_wholeValue : ByteArray := prog_1_method_18_code
def yX4_wholeValue : MethodName := ⟨RX4, "wholeValue", "(I)I"⟩
abbrev cX4_isWhole : ByteArray := prog_1_method_19_code
def yX4_isWhole : MethodName := ⟨RX4, "isWhole", "()I"⟩
abbrev cX4_told : ByteArray := prog_1_method_20_code
def yX4_told : MethodName := ⟨RX4, "told", "(I)I"⟩
abbrev cX4_forgetAnswers : ByteArray := prog_1_method_21_code
def yX4_forgetAnswers : MethodName := ⟨RX4, "forgetAnswers", "()V"⟩
abbrev cX4_refusalOfEnd : ByteArray := prog_1_method_22_code
def yX4_refusalOfEnd : MethodName := ⟨RX4, "refusalOfEnd", "(III)I"⟩
abbrev cX4_refusalOfWhole : ByteArray := prog_1_method_23_code
def yX4_refusalOfWhole : MethodName := ⟨RX4, "refusalOfWhole", "()I"⟩
abbrev cX4_isSpan : ByteArray := prog_1_method_24_code
def yX4_isSpan : MethodName := ⟨RX4, "isSpan", "(II)Z"⟩
abbrev cX4_isWithin : ByteArray := prog_1_method_25_code
def yX4_isWithin : MethodName := ⟨RX4, "isWithin", "(II)Z"⟩
abbrev cX4_isZeroOrOne : ByteArray := prog_1_method_26_code
def yX4_isZeroOrOne : MethodName := ⟨RX4, "isZeroOrOne", "(I)Z"⟩
def RX5 : String := "ExactSimplexModel"
def TX5 : u_T := fun k => match k with
  | 0 => ("ExactSimplexModel", "names", "I", false)
  | 1 => ("ExactSimplexModel", "rows", "I", false)
  | 2 => ("ExactSimplexModel", "low", "[I", true)
  | 3 => ("ExactSimplexModel", "high", "[I", true)
  | 4 => ("ExactSimplexModel", "costs", "[I", true)
  | 5 => ("ExactSimplexModel", "sense", "[I", true)
  | 6 => ("ExactSimplexModel", "rights", "[I", true)
  | 7 => ("ExactSimplexModel", "factors", "[I", true)
  | 8 => ("ExactSimplexModel", "alive", "[Z", true)
  | 9 => ("ExactSimplexModel", "known", "Z", false)
  | 10 => ("ExactSimplexModel", "has", "Z", false)
  | 11 => ("ExactSimplexModel", "costOver", "J", false)
  | 12 => ("ExactSimplexModel", "costUnder", "J", false)
  | 13 => ("ExactSimplexModel", "bestOver", "[J", true)
  | 14 => ("ExactSimplexModel", "bestUnder", "J", false)
  | 15 => ("ExactSimplexModel", "reachOver", "[J", true)
  | 16 => ("ExactSimplexModel", "reachUnder", "[J", true)
  | 17 => ("ExactSimplexModel", "farOver", "[J", true)
  | 18 => ("ExactSimplexModel", "farUnder", "[J", true)
  | 19 => ("ExactSimplexModel", "isBarred", "[Z", true)
  | 20 => ("ExactSimplexModel", "matrix", "[J", true)
  | 21 => ("ExactSimplexModel", "pick", "[I", true)
  | 22 => ("ExactSimplexModel", "over", "[J", true)
  | 23 => ("ExactSimplexModel", "under", "J", false)
  | 24 => ("ExactSimplexModel", "any", "Z", false)
  | 25 => ("ExactSimplexModel", "point", "[I", true)
  | 26 => ("ExactSimplexModel", "wholeBest", "[I", true)
  | _ => ("ExactSimplexModel", "wholeCost", "I", false)
def tyX5 : Nat → FieldType := fun k => match k with
  | 0 => .int
  | 1 => .int
  | 2 => .array .int
  | 3 => .array .int
  | 4 => .array .int
  | 5 => .array .int
  | 6 => .array .int
  | 7 => .array .int
  | 8 => .array .boolean
  | 9 => .boolean
  | 10 => .boolean
  | 11 => .long
  | 12 => .long
  | 13 => .array .long
  | 14 => .long
  | 15 => .array .long
  | 16 => .array .long
  | 17 => .array .long
  | 18 => .array .long
  | 19 => .array .boolean
  | 20 => .array .long
  | 21 => .array .int
  | 22 => .array .long
  | 23 => .long
  | 24 => .boolean
  | 25 => .array .int
  | 26 => .array .int
  | _ => .int
abbrev wsX50 : List Cond := u_ws RX5 TX5 28
theorem nmX5 : ∀ a, a < 28 → ∀ b, b < 28 → a ≠ b → (TX5 a).2.1 ≠ (TX5 b).2.1 := by decide +kernel
theorem tyX5_ok : ∀ k, k < 28 → parseFieldDescriptor (TX5 k).2.2.1 = some (tyX5 k) := by decide +kernel
abbrev cX5_init : ByteArray := prog_7_method_1_code
def yX5_init : MethodName := ⟨RX5, "<init>", "()V"⟩
abbrev cX5_part : ByteArray := prog_7_method_2_code
def yX5_part : MethodName := ⟨RX5, "part", "(II)J"⟩
abbrev cX5_solve : ByteArray := prog_7_method_3_code
def yX5_solve : MethodName := ⟨RX5, "solve", "()Z"⟩
abbrev cX5_keeps : ByteArray := prog_7_method_4_code
def yX5_keeps : MethodName := ⟨RX5, "keeps", "(I)Z"⟩
abbrev cX5_isThere : ByteArray := prog_7_method_5_code
def yX5_isThere : MethodName := ⟨RX5, "isThere", "(II)Z"⟩
abbrev cX5_after : ByteArray := prog_7_method_6_code
def yX5_after : MethodName := ⟨RX5, "after", "(II)I"⟩
abbrev cX5_corners : ByteArray := prog_7_method_7_code
def yX5_corners : MethodName := ⟨RX5, "corners", "(IZ)Z"⟩
abbrev cX5_compare : ByteArray := prog_7_method_8_code
def yX5_compare : MethodName := ⟨RX5, "compare", "(JJJJ)I"⟩
abbrev cX5_take : ByteArray := prog_7_method_9_code
def yX5_take : MethodName := ⟨RX5, "take", "()V"⟩
abbrev cX5_all : ByteArray := prog_7_method_10_code
def yX5_all : MethodName := ⟨RX5, "all", "()I"⟩
abbrev cX5_know : ByteArray := prog_7_method_11_code
def yX5_know : MethodName := ⟨RX5, "know", "()V"⟩
abbrev cX5_lowest : ByteArray := prog_7_method_12_code
def yX5_lowest : MethodName := ⟨RX5, "lowest", "(JJI)J"⟩
abbrev cX5_isName : ByteArray := prog_7_method_13_code
def yX5_isName : MethodName := ⟨RX5, "isName", "(I)Z"⟩
abbrev cX5_isRow : ByteArray := prog_7_method_14_code
def yX5_isRow : MethodName := ⟨RX5, "isRow", "(I)Z"⟩
abbrev cX5_isSpan : ByteArray := prog_7_method_15_code
def yX5_isSpan : MethodName := ⟨RX5, "isSpan", "(II)Z"⟩
abbrev cX5_name : ByteArray := prog_7_method_16_code
def yX5_name : MethodName := ⟨RX5, "name", "(II)I"⟩
abbrev cX5_span : ByteArray := prog_7_method_17_code
def yX5_span : MethodName := ⟨RX5, "span", "(III)I"⟩
abbrev cX5_cost : ByteArray := prog_7_method_18_code
def yX5_cost : MethodName := ⟨RX5, "cost", "(II)I"⟩
abbrev cX5_row : ByteArray := prog_7_method_19_code
def yX5_row : MethodName := ⟨RX5, "row", "(II)I"⟩
abbrev cX5_right : ByteArray := prog_7_method_20_code
def yX5_right : MethodName := ⟨RX5, "right", "(II)I"⟩
abbrev cX5_factor : ByteArray := prog_7_method_21_code
def yX5_factor : MethodName := ⟨RX5, "factor", "(III)I"⟩
abbrev cX5_rowCount : ByteArray := prog_7_method_22_code
def yX5_rowCount : MethodName := ⟨RX5, "rowCount", "()I"⟩
abbrev cX5_drop : ByteArray := prog_7_method_23_code
def yX5_drop : MethodName := ⟨RX5, "drop", "(I)I"⟩
abbrev cX5_clear : ByteArray := prog_7_method_24_code
def yX5_clear : MethodName := ⟨RX5, "clear", "()I"⟩
abbrev cX5_run : ByteArray := prog_7_method_25_code
def yX5_run : MethodName := ⟨RX5, "run", "()I"⟩
abbrev cX5_isPart : ByteArray := prog_7_method_26_code
def yX5_isPart : MethodName := ⟨RX5, "isPart", "(I)Z"⟩
abbrev cX5_least : ByteArray := prog_7_method_27_code
def yX5_least : MethodName := ⟨RX5, "least", "(I)J"⟩
abbrev cX5_value : ByteArray := prog_7_method_28_code
def yX5_value : MethodName := ⟨RX5, "value", "(II)J"⟩
abbrev cX5_tight : ByteArray := prog_7_method_29_code
def yX5_tight : MethodName := ⟨RX5, "tight", "(I)I"⟩
abbrev cX5_reach : ByteArray := prog_7_method_30_code
def yX5_reach : MethodName := ⟨RX5, "reach", "(III)J"⟩
abbrev cX5_far : ByteArray := prog_7_method_31_code
def yX5_far : MethodName := ⟨RX5, "far", "(III)J"⟩
abbrev cX5_barred : ByteArray := prog_7_method_32_code
def yX5_barred : MethodName := ⟨RX5, "barred", "(I)I"⟩
abbrev cX5_isLarge : ByteArray := prog_7_method_33_code
def yX5_isLarge : MethodName := ⟨RX5, "isLarge", "()Z"⟩
abbrev cX5_keepsWhole : ByteArray := prog_7_method_34_code
def yX5_keepsWhole : MethodName := ⟨RX5, "keepsWhole", "()Z"⟩
abbrev cX5_findWhole : ByteArray := prog_7_method_35_code
def yX5_findWhole : MethodName := ⟨RX5, "findWhole", "()Z"⟩
abbrev cX5_whole : ByteArray := prog_7_method_36_code
def yX5_whole : MethodName := ⟨RX5, "whole", "()I"⟩
abbrev cX5_wholeValue : ByteArray := prog_7_method_37_code
def yX5_wholeValue : MethodName := ⟨RX5, "wholeValue", "(I)I"⟩
abbrev cX5_isWhole : ByteArray := prog_7_method_38_code
def yX5_isWhole : MethodName := ⟨RX5, "isWhole", "()I"⟩
abbrev cX5_told : ByteArray := prog_7_method_39_code
def yX5_told : MethodName := ⟨RX5, "told", "(I)I"⟩
def RJ9 : String := "java/lang/Math"
def TJ9 : u_T := fun k => match k with
  | _ => ("", "", "", false)
def tyJ9 : Nat → FieldType := fun k => match k with
  | _ => .int
abbrev wsJ90 : List Cond := u_ws RJ9 TJ9 0
theorem nmJ9 : ∀ a, a < 0 → ∀ b, b < 0 → a ≠ b → (TJ9 a).2.1 ≠ (TJ9 b).2.1 := by decide +kernel
theorem tyJ9_ok : ∀ k, k < 0 → parseFieldDescriptor (TJ9 k).2.2.1 = some (tyJ9 k) := by decide +kernel
abbrev cJ9_floorDiv_7cf53 : ByteArray := prog_8_method_47_code
def yJ9_floorDiv_7cf53 : MethodName := ⟨RJ9, "floorDiv", "(II)I"⟩
abbrev cJ9_abs_067f4 : ByteArray := prog_8_method_61_code
def yJ9_abs_067f4 : MethodName := ⟨RJ9, "abs", "(J)J"⟩
abbrev cJ9_max_7cf53 : ByteArray := prog_8_method_65_code
def yJ9_max_7cf53 : MethodName := ⟨RJ9, "max", "(II)I"⟩
abbrev cJ9_min_7cf53 : ByteArray := prog_8_method_69_code
def yJ9_min_7cf53 : MethodName := ⟨RJ9, "min", "(II)I"⟩
def RL : String := "ExactSimplexLaw"
abbrev cL_law : ByteArray := code
def yL_law : MethodName := ⟨RL, "law", "([I)Z"⟩
def wsX0_init : List Cond := .code yX0_init cX0_init 1 none :: ([.methodLink RX0 3 objectInit, .instanceMethod objectInit, .code objectInit ⟨#[0xb1]⟩ 1 none, .classLink RX0 11 "[[J", .arrayClass .long, .fieldLink RX0 13 "ExactSimplex$Dictionary" "table" "[[J", .fieldLink RX0 16 "ExactSimplex$Dictionary" "rests" "[J", .arrayClass .int, .fieldLink RX0 20 "ExactSimplex$Dictionary" "basic" "[I", .fieldLink RX0 24 "ExactSimplex$Dictionary" "outside" "[I", .arrayClass .boolean, .fieldLink RX0 27 "ExactSimplex$Dictionary" "frozen" "[Z", .fieldLink RX0 31 "ExactSimplex$Dictionary" "slopes" "[J", .fieldLink RX0 34 "ExactSimplex$Dictionary" "under" "J"] ++ wsX00)
def wsX0_thawAll : List Cond := .code yX0_thawAll cX0_thawAll 2 none :: ([.fieldLink RX0 44 "ExactSimplex$Dictionary" "columns" "I", .fieldLink RX0 27 "ExactSimplex$Dictionary" "frozen" "[Z"] ++ wsX00)
def wsX0_begin : List Cond := .code yX0_begin cX0_begin 3 none :: ([.methodLink RX0 38 Lib.Math.min.name, .static Lib.Math.min.name, .initialized "java/lang/Math", .code Lib.Math.min.name Lib.Math.min.code 2 (some .int), .fieldLink RX0 44 "ExactSimplex$Dictionary" "columns" "I", .fieldLink RX0 48 "ExactSimplex$Dictionary" "lines" "I", .fieldLink RX0 34 "ExactSimplex$Dictionary" "under" "J", .fieldLink RX0 24 "ExactSimplex$Dictionary" "outside" "[I", .methodLink RX0 51 yX0_thawAll, .instanceMethod yX0_thawAll, .selects RX0 yX0_thawAll yX0_thawAll, .initialized RX0, .code yX0_thawAll cX0_thawAll 2 none, .fieldLink RX0 27 "ExactSimplex$Dictionary" "frozen" "[Z"] ++ wsX00)
def wsX0_addAtMost : List Cond := .code yX0_addAtMost cX0_addAtMost 5 none :: ([.fieldLink RX0 48 "ExactSimplex$Dictionary" "lines" "I", .fieldLink RX0 44 "ExactSimplex$Dictionary" "columns" "I", .fieldLink RX0 13 "ExactSimplex$Dictionary" "table" "[[J", .fieldLink RX0 16 "ExactSimplex$Dictionary" "rests" "[J", .fieldLink RX0 20 "ExactSimplex$Dictionary" "basic" "[I"] ++ wsX00)
def wsX0_denominator : List Cond := .code yX0_denominator cX0_denominator 1 (some .long) :: ([.fieldLink RX0 34 "ExactSimplex$Dictionary" "under" "J"] ++ wsX00)
def wsX0_numerator : List Cond := .code yX0_numerator cX0_numerator 3 (some .long) :: ([.fieldLink RX0 48 "ExactSimplex$Dictionary" "lines" "I", .fieldLink RX0 20 "ExactSimplex$Dictionary" "basic" "[I", .fieldLink RX0 16 "ExactSimplex$Dictionary" "rests" "[J"] ++ wsX00)
def wsX0_brokenLine : List Cond := .code yX0_brokenLine cX0_brokenLine 3 (some .int) :: ([.fieldLink RX0 48 "ExactSimplex$Dictionary" "lines" "I", .fieldLink RX0 16 "ExactSimplex$Dictionary" "rests" "[J", .fieldLink RX0 20 "ExactSimplex$Dictionary" "basic" "[I"] ++ wsX00)
def wsX0_mendingColumn : List Cond := .code yX0_mendingColumn cX0_mendingColumn 4 (some .int) :: ([.fieldLink RX0 44 "ExactSimplex$Dictionary" "columns" "I", .fieldLink RX0 13 "ExactSimplex$Dictionary" "table" "[[J", .fieldLink RX0 24 "ExactSimplex$Dictionary" "outside" "[I"] ++ wsX00)
def wsX0_sweepLine : List Cond := .code yX0_sweepLine cX0_sweepLine 11 none :: ([.fieldLink RX0 13 "ExactSimplex$Dictionary" "table" "[[J", .fieldLink RX0 44 "ExactSimplex$Dictionary" "columns" "I", .fieldLink RX0 16 "ExactSimplex$Dictionary" "rests" "[J"] ++ wsX00)
def wsX0_turnLine : List Cond := .code yX0_turnLine cX0_turnLine 3 none :: ([.fieldLink RX0 44 "ExactSimplex$Dictionary" "columns" "I", .fieldLink RX0 13 "ExactSimplex$Dictionary" "table" "[[J", .fieldLink RX0 16 "ExactSimplex$Dictionary" "rests" "[J"] ++ wsX00)
def wsX0_pivot : List Cond := .code yX0_pivot cX0_pivot 8 none :: ([.fieldLink RX0 13 "ExactSimplex$Dictionary" "table" "[[J", .fieldLink RX0 34 "ExactSimplex$Dictionary" "under" "J", .fieldLink RX0 48 "ExactSimplex$Dictionary" "lines" "I", .methodLink RX0 89 Lib.MathLoose.abs_long.x, .static Lib.MathLoose.abs_long.x, .initialized "java/lang/Math", .code Lib.MathLoose.abs_long.x Lib.MathLoose.abs_long.code 2 (some .long), .fieldLink RX0 20 "ExactSimplex$Dictionary" "basic" "[I", .fieldLink RX0 24 "ExactSimplex$Dictionary" "outside" "[I", .methodLink RX0 81 yX0_sweepLine, .instanceMethod yX0_sweepLine, .selects RX0 yX0_sweepLine yX0_sweepLine, .initialized RX0, .code yX0_sweepLine cX0_sweepLine 11 none, .fieldLink RX0 44 "ExactSimplex$Dictionary" "columns" "I", .fieldLink RX0 16 "ExactSimplex$Dictionary" "rests" "[J", .methodLink RX0 85 yX0_turnLine, .instanceMethod yX0_turnLine, .selects RX0 yX0_turnLine yX0_turnLine, .code yX0_turnLine cX0_turnLine 3 none] ++ wsX00)
def wsX0_findPoint_r1 : List Cond := [Cond.constant RX0 54 (100000), Cond.methodLink RX0 55 yX0_brokenLine, Cond.instanceMethod yX0_brokenLine, Cond.selects RX0 yX0_brokenLine yX0_brokenLine, Cond.initialized RX0, Cond.code yX0_brokenLine cX0_brokenLine 3 (some .int), Cond.fieldLink RX0 48 "ExactSimplex$Dictionary" "lines" "I", Cond.fieldLink RX0 16 "ExactSimplex$Dictionary" "rests" "[J", Cond.fieldLink RX0 20 "ExactSimplex$Dictionary" "basic" "[I", Cond.methodLink RX0 59 yX0_mendingColumn, Cond.instanceMethod yX0_mendingColumn, Cond.selects RX0 yX0_mendingColumn yX0_mendingColumn, Cond.code yX0_mendingColumn cX0_mendingColumn 4 (some .int), Cond.fieldLink RX0 44 "ExactSimplex$Dictionary" "columns" "I", Cond.fieldLink RX0 13 "ExactSimplex$Dictionary" "table" "[[J", Cond.fieldLink RX0 24 "ExactSimplex$Dictionary" "outside" "[I", Cond.methodLink RX0 63 yX0_pivot, Cond.instanceMethod yX0_pivot, Cond.selects RX0 yX0_pivot yX0_pivot, Cond.code yX0_pivot cX0_pivot 8 none, Cond.fieldLink RX0 34 "ExactSimplex$Dictionary" "under" "J", Cond.methodLink RX0 89 Lib.MathLoose.abs_long.x, Cond.static Lib.MathLoose.abs_long.x, Cond.initialized "java/lang/Math"]
def wsX0_findPoint_r2 : List Cond := [Cond.code Lib.MathLoose.abs_long.x Lib.MathLoose.abs_long.code 2 (some .long), Cond.methodLink RX0 81 yX0_sweepLine, Cond.instanceMethod yX0_sweepLine, Cond.selects RX0 yX0_sweepLine yX0_sweepLine, Cond.code yX0_sweepLine cX0_sweepLine 11 none, Cond.methodLink RX0 85 yX0_turnLine, Cond.instanceMethod yX0_turnLine, Cond.selects RX0 yX0_turnLine yX0_turnLine, Cond.code yX0_turnLine cX0_turnLine 3 none]
def wsX0_findPoint : List Cond := .code yX0_findPoint cX0_findPoint 4 (some .boolean) :: ((wsX0_findPoint_r1 ++ wsX0_findPoint_r2) ++ wsX00)
def wsX0_findSlopes : List Cond := .code yX0_findSlopes cX0_findSlopes 5 none :: ([.fieldLink RX0 44 "ExactSimplex$Dictionary" "columns" "I", .fieldLink RX0 31 "ExactSimplex$Dictionary" "slopes" "[J", .fieldLink RX0 24 "ExactSimplex$Dictionary" "outside" "[I", .fieldLink RX0 34 "ExactSimplex$Dictionary" "under" "J", .fieldLink RX0 48 "ExactSimplex$Dictionary" "lines" "I", .fieldLink RX0 20 "ExactSimplex$Dictionary" "basic" "[I", .fieldLink RX0 13 "ExactSimplex$Dictionary" "table" "[[J"] ++ wsX00)
def wsX0_fallingColumn : List Cond := .code yX0_fallingColumn cX0_fallingColumn 3 (some .int) :: ([.fieldLink RX0 44 "ExactSimplex$Dictionary" "columns" "I", .fieldLink RX0 27 "ExactSimplex$Dictionary" "frozen" "[Z", .fieldLink RX0 31 "ExactSimplex$Dictionary" "slopes" "[J", .fieldLink RX0 24 "ExactSimplex$Dictionary" "outside" "[I"] ++ wsX00)
def wsX0_stopsBefore : List Cond := .code yX0_stopsBefore cX0_stopsBefore 8 (some .boolean) :: ([.fieldLink RX0 16 "ExactSimplex$Dictionary" "rests" "[J", .fieldLink RX0 13 "ExactSimplex$Dictionary" "table" "[[J", .fieldLink RX0 20 "ExactSimplex$Dictionary" "basic" "[I"] ++ wsX00)
def wsX0_firstStop : List Cond := .code yX0_firstStop cX0_firstStop 4 (some .int) :: ([.fieldLink RX0 48 "ExactSimplex$Dictionary" "lines" "I", .fieldLink RX0 13 "ExactSimplex$Dictionary" "table" "[[J", .methodLink RX0 77 yX0_stopsBefore, .instanceMethod yX0_stopsBefore, .selects RX0 yX0_stopsBefore yX0_stopsBefore, .initialized RX0, .code yX0_stopsBefore cX0_stopsBefore 8 (some .boolean), .fieldLink RX0 16 "ExactSimplex$Dictionary" "rests" "[J", .fieldLink RX0 20 "ExactSimplex$Dictionary" "basic" "[I"] ++ wsX00)
def wsX0_minimise_r1 : List Cond := [Cond.fieldLink RX0 44 "ExactSimplex$Dictionary" "columns" "I", Cond.constant RX0 54 (100000), Cond.methodLink RX0 67 yX0_findSlopes, Cond.instanceMethod yX0_findSlopes, Cond.selects RX0 yX0_findSlopes yX0_findSlopes, Cond.initialized RX0, Cond.code yX0_findSlopes cX0_findSlopes 5 none, Cond.fieldLink RX0 31 "ExactSimplex$Dictionary" "slopes" "[J", Cond.fieldLink RX0 24 "ExactSimplex$Dictionary" "outside" "[I", Cond.fieldLink RX0 34 "ExactSimplex$Dictionary" "under" "J", Cond.fieldLink RX0 48 "ExactSimplex$Dictionary" "lines" "I", Cond.fieldLink RX0 20 "ExactSimplex$Dictionary" "basic" "[I", Cond.fieldLink RX0 13 "ExactSimplex$Dictionary" "table" "[[J", Cond.methodLink RX0 71 yX0_fallingColumn, Cond.instanceMethod yX0_fallingColumn, Cond.selects RX0 yX0_fallingColumn yX0_fallingColumn, Cond.code yX0_fallingColumn cX0_fallingColumn 3 (some .int), Cond.fieldLink RX0 27 "ExactSimplex$Dictionary" "frozen" "[Z", Cond.methodLink RX0 74 yX0_firstStop, Cond.instanceMethod yX0_firstStop, Cond.selects RX0 yX0_firstStop yX0_firstStop, Cond.code yX0_firstStop cX0_firstStop 4 (some .int), Cond.methodLink RX0 77 yX0_stopsBefore, Cond.instanceMethod yX0_stopsBefore]
def wsX0_minimise_r2 : List Cond := [Cond.selects RX0 yX0_stopsBefore yX0_stopsBefore, Cond.code yX0_stopsBefore cX0_stopsBefore 8 (some .boolean), Cond.fieldLink RX0 16 "ExactSimplex$Dictionary" "rests" "[J", Cond.methodLink RX0 63 yX0_pivot, Cond.instanceMethod yX0_pivot, Cond.selects RX0 yX0_pivot yX0_pivot, Cond.code yX0_pivot cX0_pivot 8 none, Cond.methodLink RX0 89 Lib.MathLoose.abs_long.x, Cond.static Lib.MathLoose.abs_long.x, Cond.initialized "java/lang/Math", Cond.code Lib.MathLoose.abs_long.x Lib.MathLoose.abs_long.code 2 (some .long), Cond.methodLink RX0 81 yX0_sweepLine, Cond.instanceMethod yX0_sweepLine, Cond.selects RX0 yX0_sweepLine yX0_sweepLine, Cond.code yX0_sweepLine cX0_sweepLine 11 none, Cond.methodLink RX0 85 yX0_turnLine, Cond.instanceMethod yX0_turnLine, Cond.selects RX0 yX0_turnLine yX0_turnLine, Cond.code yX0_turnLine cX0_turnLine 3 none]
def wsX0_minimise : List Cond := .code yX0_minimise cX0_minimise 5 none :: ((wsX0_minimise_r1 ++ wsX0_minimise_r2) ++ wsX00)
def wsX0_freezeDear : List Cond := .code yX0_freezeDear cX0_freezeDear 2 none :: ([.fieldLink RX0 44 "ExactSimplex$Dictionary" "columns" "I", .fieldLink RX0 31 "ExactSimplex$Dictionary" "slopes" "[J", .fieldLink RX0 27 "ExactSimplex$Dictionary" "frozen" "[Z"] ++ wsX00)
def wsX1_init : List Cond := .code yX1_init cX1_init 1 none :: ([.methodLink RX1 3 objectInit, .instanceMethod objectInit, .code objectInit ⟨#[0xb1]⟩ 1 none, .arrayClass .int, .fieldLink RX1 9 "ExactSimplex$Problem" "lows" "[I", .fieldLink RX1 15 "ExactSimplex$Problem" "highs" "[I", .fieldLink RX1 18 "ExactSimplex$Problem" "costs" "[I", .fieldLink RX1 21 "ExactSimplex$Problem" "senses" "[I", .fieldLink RX1 24 "ExactSimplex$Problem" "rights" "[I", .classLink RX1 27 "[[I", .fieldLink RX1 29 "ExactSimplex$Problem" "factors" "[[I", .arrayClass .boolean, .fieldLink RX1 32 "ExactSimplex$Problem" "there" "[Z"] ++ wsX10)
def wsX1_hasName : List Cond := .code yX1_hasName cX1_hasName 2 (some .boolean) :: ([.fieldLink RX1 36 "ExactSimplex$Problem" "names" "I"] ++ wsX10)
def wsX1_hasRow : List Cond := .code yX1_hasRow cX1_hasRow 2 (some .boolean) :: ([.fieldLink RX1 40 "ExactSimplex$Problem" "rows" "I", .fieldLink RX1 32 "ExactSimplex$Problem" "there" "[Z"] ++ wsX10)
def wsX1_addName : List Cond := .code yX1_addName cX1_addName 4 (some .int) :: ([.fieldLink RX1 36 "ExactSimplex$Problem" "names" "I", .fieldLink RX1 9 "ExactSimplex$Problem" "lows" "[I", .fieldLink RX1 15 "ExactSimplex$Problem" "highs" "[I", .fieldLink RX1 18 "ExactSimplex$Problem" "costs" "[I"] ++ wsX10)
def wsX1_addRow : List Cond := .code yX1_addRow cX1_addRow 5 (some .int) :: ([.fieldLink RX1 40 "ExactSimplex$Problem" "rows" "I", .fieldLink RX1 21 "ExactSimplex$Problem" "senses" "[I", .fieldLink RX1 24 "ExactSimplex$Problem" "rights" "[I", .fieldLink RX1 32 "ExactSimplex$Problem" "there" "[Z", .fieldLink RX1 29 "ExactSimplex$Problem" "factors" "[[I"] ++ wsX10)
def wsX1_countRows : List Cond := .code yX1_countRows cX1_countRows 3 (some .int) :: ([.fieldLink RX1 40 "ExactSimplex$Problem" "rows" "I", .fieldLink RX1 32 "ExactSimplex$Problem" "there" "[Z"] ++ wsX10)
def wsX1_countWhole : List Cond := .code yX1_countWhole cX1_countWhole 4 (some .long) :: ([.fieldLink RX1 36 "ExactSimplex$Problem" "names" "I", .fieldLink RX1 15 "ExactSimplex$Problem" "highs" "[I", .fieldLink RX1 9 "ExactSimplex$Problem" "lows" "[I"] ++ wsX10)
def wsX1_limitsFromAbove : List Cond := .code yX1_limitsFromAbove cX1_limitsFromAbove 2 (some .boolean) :: ([.fieldLink RX1 21 "ExactSimplex$Problem" "senses" "[I"] ++ wsX10)
def wsX1_limitsFromBelow : List Cond := .code yX1_limitsFromBelow cX1_limitsFromBelow 2 (some .boolean) :: ([.fieldLink RX1 21 "ExactSimplex$Problem" "senses" "[I"] ++ wsX10)
def wsX2_init_r1 : List Cond := [Cond.methodLink RX2 3 objectInit, Cond.instanceMethod objectInit, Cond.code objectInit ⟨#[0xb1]⟩ 1 none, Cond.classLink RX2 9 RX0, Cond.instantiable RX0 9, Cond.initialized RX0, Cond.fieldLink RX2 12 "ExactSimplex$Solver" "dictionary" "LExactSimplex$Dictionary;", Cond.arrayClass .int, Cond.fieldLink RX2 18 "ExactSimplex$Solver" "goal" "[I", Cond.arrayClass .long, Cond.fieldLink RX2 22 "ExactSimplex$Solver" "firstBest" "[J", Cond.fieldLink RX2 26 "ExactSimplex$Solver" "firstBestUnder" "J", Cond.fieldLink RX2 30 "ExactSimplex$Solver" "problem" "LExactSimplex$Problem;", Cond.instanceMethod yX0_init, Cond.code yX0_init cX0_init 1 none, Cond.methodLink RX0 3 objectInit, Cond.classLink RX0 11 "[[J", Cond.fieldLink RX0 13 "ExactSimplex$Dictionary" "table" "[[J", Cond.fieldLink RX0 16 "ExactSimplex$Dictionary" "rests" "[J", Cond.fieldLink RX0 20 "ExactSimplex$Dictionary" "basic" "[I", Cond.fieldLink RX0 24 "ExactSimplex$Dictionary" "outside" "[I", Cond.arrayClass .boolean, Cond.fieldLink RX0 27 "ExactSimplex$Dictionary" "frozen" "[Z", Cond.fieldLink RX0 31 "ExactSimplex$Dictionary" "slopes" "[J"]
def wsX2_init_r2 : List Cond := [Cond.fieldLink RX0 34 "ExactSimplex$Dictionary" "under" "J"]
def wsX2_init : List Cond := .code yX2_init cX2_init 2 none :: ((wsX2_init_r1 ++ wsX2_init_r2) ++ wsX00 ++ wsX20)
def wsX2_forget : List Cond := .code yX2_forget cX2_forget 1 none :: ([.fieldLink RX2 34 "ExactSimplex$Solver" "pointSought" "Z", .fieldLink RX2 38 "ExactSimplex$Solver" "firstBestKnown" "Z", .fieldLink RX2 41 "ExactSimplex$Solver" "barredKnown" "Z"] ++ wsX20)
def wsX2_allRows : List Cond := .code yX2_allRows cX2_allRows 3 (some .int) :: ([.fieldLink RX2 30 "ExactSimplex$Solver" "problem" "LExactSimplex$Problem;", .fieldLink RX2 91 "ExactSimplex$Problem" "rows" "I", .fieldLink RX2 122 "ExactSimplex$Problem" "there" "[Z"] ++ wsX20 ++ wsX10)
def wsX2_aimAt : List Cond := .code yX2_aimAt cX2_aimAt 4 none :: ([.fieldLink RX2 18 "ExactSimplex$Solver" "goal" "[I"] ++ wsX20)
def wsX2_addRow_r1 : List Cond := [Cond.fieldLink RX2 30 "ExactSimplex$Solver" "problem" "LExactSimplex$Problem;", Cond.fieldLink RX2 71 "ExactSimplex$Problem" "factors" "[[I", Cond.fieldLink RX2 75 "ExactSimplex$Problem" "rights" "[I", Cond.fieldLink RX2 58 "ExactSimplex$Problem" "names" "I", Cond.fieldLink RX2 116 "ExactSimplex$Problem" "lows" "[I", Cond.fieldLink RX2 12 "ExactSimplex$Solver" "dictionary" "LExactSimplex$Dictionary;", Cond.methodLink RX2 144 yX1_limitsFromAbove, Cond.instanceMethod yX1_limitsFromAbove, Cond.selects RX1 yX1_limitsFromAbove yX1_limitsFromAbove, Cond.initialized RX1, Cond.code yX1_limitsFromAbove cX1_limitsFromAbove 2 (some .boolean), Cond.fieldLink RX1 21 "ExactSimplex$Problem" "senses" "[I", Cond.methodLink RX2 133 yX0_addAtMost, Cond.instanceMethod yX0_addAtMost, Cond.selects RX0 yX0_addAtMost yX0_addAtMost, Cond.initialized RX0, Cond.code yX0_addAtMost cX0_addAtMost 5 none, Cond.fieldLink RX0 48 "ExactSimplex$Dictionary" "lines" "I", Cond.fieldLink RX0 44 "ExactSimplex$Dictionary" "columns" "I", Cond.fieldLink RX0 13 "ExactSimplex$Dictionary" "table" "[[J", Cond.fieldLink RX0 16 "ExactSimplex$Dictionary" "rests" "[J", Cond.fieldLink RX0 20 "ExactSimplex$Dictionary" "basic" "[I", Cond.methodLink RX2 147 yX1_limitsFromBelow, Cond.instanceMethod yX1_limitsFromBelow]
def wsX2_addRow_r2 : List Cond := [Cond.selects RX1 yX1_limitsFromBelow yX1_limitsFromBelow, Cond.code yX1_limitsFromBelow cX1_limitsFromBelow 2 (some .boolean)]
def wsX2_addRow : List Cond := .code yX2_addRow cX2_addRow 5 none :: ((wsX2_addRow_r1 ++ wsX2_addRow_r2) ++ wsX20 ++ wsX10 ++ wsX00)
def wsX2_canKeep_r1 : List Cond := [Cond.fieldLink RX2 12 "ExactSimplex$Solver" "dictionary" "LExactSimplex$Dictionary;", Cond.fieldLink RX2 30 "ExactSimplex$Solver" "problem" "LExactSimplex$Problem;", Cond.fieldLink RX2 58 "ExactSimplex$Problem" "names" "I", Cond.fieldLink RX2 18 "ExactSimplex$Solver" "goal" "[I", Cond.fieldLink RX2 130 "ExactSimplex$Problem" "highs" "[I", Cond.fieldLink RX2 116 "ExactSimplex$Problem" "lows" "[I", Cond.fieldLink RX2 91 "ExactSimplex$Problem" "rows" "I", Cond.methodLink RX2 126 yX0_begin, Cond.instanceMethod yX0_begin, Cond.selects RX0 yX0_begin yX0_begin, Cond.initialized RX0, Cond.code yX0_begin cX0_begin 3 none, Cond.methodLink RX0 38 Lib.Math.min.name, Cond.static Lib.Math.min.name, Cond.initialized "java/lang/Math", Cond.code Lib.Math.min.name Lib.Math.min.code 2 (some .int), Cond.fieldLink RX0 44 "ExactSimplex$Dictionary" "columns" "I", Cond.fieldLink RX0 48 "ExactSimplex$Dictionary" "lines" "I", Cond.fieldLink RX0 34 "ExactSimplex$Dictionary" "under" "J", Cond.fieldLink RX0 24 "ExactSimplex$Dictionary" "outside" "[I", Cond.methodLink RX0 51 yX0_thawAll, Cond.instanceMethod yX0_thawAll, Cond.selects RX0 yX0_thawAll yX0_thawAll, Cond.code yX0_thawAll cX0_thawAll 2 none]
def wsX2_canKeep_r2 : List Cond := [Cond.fieldLink RX0 27 "ExactSimplex$Dictionary" "frozen" "[Z", Cond.methodLink RX2 97 yX2_aimAt, Cond.instanceMethod yX2_aimAt, Cond.selects RX2 yX2_aimAt yX2_aimAt, Cond.initialized RX2, Cond.code yX2_aimAt cX2_aimAt 4 none, Cond.methodLink RX2 133 yX0_addAtMost, Cond.instanceMethod yX0_addAtMost, Cond.selects RX0 yX0_addAtMost yX0_addAtMost, Cond.code yX0_addAtMost cX0_addAtMost 5 none, Cond.fieldLink RX0 13 "ExactSimplex$Dictionary" "table" "[[J", Cond.fieldLink RX0 16 "ExactSimplex$Dictionary" "rests" "[J", Cond.fieldLink RX0 20 "ExactSimplex$Dictionary" "basic" "[I", Cond.methodLink RX2 137 yX2_addRow, Cond.instanceMethod yX2_addRow, Cond.selects RX2 yX2_addRow yX2_addRow, Cond.code yX2_addRow cX2_addRow 5 none, Cond.fieldLink RX2 71 "ExactSimplex$Problem" "factors" "[[I", Cond.fieldLink RX2 75 "ExactSimplex$Problem" "rights" "[I", Cond.methodLink RX2 144 yX1_limitsFromAbove, Cond.instanceMethod yX1_limitsFromAbove, Cond.selects RX1 yX1_limitsFromAbove yX1_limitsFromAbove, Cond.initialized RX1, Cond.code yX1_limitsFromAbove cX1_limitsFromAbove 2 (some .boolean)]
def wsX2_canKeep_r3 : List Cond := [Cond.fieldLink RX1 21 "ExactSimplex$Problem" "senses" "[I", Cond.methodLink RX2 147 yX1_limitsFromBelow, Cond.instanceMethod yX1_limitsFromBelow, Cond.selects RX1 yX1_limitsFromBelow yX1_limitsFromBelow, Cond.code yX1_limitsFromBelow cX1_limitsFromBelow 2 (some .boolean), Cond.methodLink RX2 140 yX0_findPoint, Cond.instanceMethod yX0_findPoint, Cond.selects RX0 yX0_findPoint yX0_findPoint, Cond.code yX0_findPoint cX0_findPoint 4 (some .boolean), Cond.constant RX0 54 (100000), Cond.methodLink RX0 55 yX0_brokenLine, Cond.instanceMethod yX0_brokenLine, Cond.selects RX0 yX0_brokenLine yX0_brokenLine, Cond.code yX0_brokenLine cX0_brokenLine 3 (some .int), Cond.methodLink RX0 59 yX0_mendingColumn, Cond.instanceMethod yX0_mendingColumn, Cond.selects RX0 yX0_mendingColumn yX0_mendingColumn, Cond.code yX0_mendingColumn cX0_mendingColumn 4 (some .int), Cond.methodLink RX0 63 yX0_pivot, Cond.instanceMethod yX0_pivot, Cond.selects RX0 yX0_pivot yX0_pivot, Cond.code yX0_pivot cX0_pivot 8 none, Cond.methodLink RX0 89 Lib.MathLoose.abs_long.x, Cond.static Lib.MathLoose.abs_long.x]
def wsX2_canKeep_r4 : List Cond := [Cond.code Lib.MathLoose.abs_long.x Lib.MathLoose.abs_long.code 2 (some .long), Cond.methodLink RX0 81 yX0_sweepLine, Cond.instanceMethod yX0_sweepLine, Cond.selects RX0 yX0_sweepLine yX0_sweepLine, Cond.code yX0_sweepLine cX0_sweepLine 11 none, Cond.methodLink RX0 85 yX0_turnLine, Cond.instanceMethod yX0_turnLine, Cond.selects RX0 yX0_turnLine yX0_turnLine, Cond.code yX0_turnLine cX0_turnLine 3 none]
def wsX2_canKeep : List Cond := .code yX2_canKeep cX2_canKeep 3 (some .boolean) :: ((wsX2_canKeep_r1 ++ (wsX2_canKeep_r2 ++ (wsX2_canKeep_r3 ++ wsX2_canKeep_r4))) ++ wsX20 ++ wsX10 ++ wsX00)
def wsX2_hasPoint_r1 : List Cond := [Cond.fieldLink RX2 34 "ExactSimplex$Solver" "pointSought" "Z", Cond.fieldLink RX2 52 "ExactSimplex$Solver" "pointThere" "Z", Cond.methodLink RX2 44 yX2_allRows, Cond.instanceMethod yX2_allRows, Cond.selects RX2 yX2_allRows yX2_allRows, Cond.initialized RX2, Cond.code yX2_allRows cX2_allRows 3 (some .int), Cond.fieldLink RX2 30 "ExactSimplex$Solver" "problem" "LExactSimplex$Problem;", Cond.fieldLink RX2 91 "ExactSimplex$Problem" "rows" "I", Cond.fieldLink RX2 122 "ExactSimplex$Problem" "there" "[Z", Cond.methodLink RX2 48 yX2_canKeep, Cond.instanceMethod yX2_canKeep, Cond.selects RX2 yX2_canKeep yX2_canKeep, Cond.code yX2_canKeep cX2_canKeep 3 (some .boolean), Cond.fieldLink RX2 12 "ExactSimplex$Solver" "dictionary" "LExactSimplex$Dictionary;", Cond.fieldLink RX2 58 "ExactSimplex$Problem" "names" "I", Cond.fieldLink RX2 18 "ExactSimplex$Solver" "goal" "[I", Cond.fieldLink RX2 130 "ExactSimplex$Problem" "highs" "[I", Cond.fieldLink RX2 116 "ExactSimplex$Problem" "lows" "[I", Cond.methodLink RX2 126 yX0_begin, Cond.instanceMethod yX0_begin, Cond.selects RX0 yX0_begin yX0_begin, Cond.initialized RX0, Cond.code yX0_begin cX0_begin 3 none]
def wsX2_hasPoint_r2 : List Cond := [Cond.methodLink RX0 38 Lib.Math.min.name, Cond.static Lib.Math.min.name, Cond.initialized "java/lang/Math", Cond.code Lib.Math.min.name Lib.Math.min.code 2 (some .int), Cond.fieldLink RX0 44 "ExactSimplex$Dictionary" "columns" "I", Cond.fieldLink RX0 48 "ExactSimplex$Dictionary" "lines" "I", Cond.fieldLink RX0 34 "ExactSimplex$Dictionary" "under" "J", Cond.fieldLink RX0 24 "ExactSimplex$Dictionary" "outside" "[I", Cond.methodLink RX0 51 yX0_thawAll, Cond.instanceMethod yX0_thawAll, Cond.selects RX0 yX0_thawAll yX0_thawAll, Cond.code yX0_thawAll cX0_thawAll 2 none, Cond.fieldLink RX0 27 "ExactSimplex$Dictionary" "frozen" "[Z", Cond.methodLink RX2 97 yX2_aimAt, Cond.instanceMethod yX2_aimAt, Cond.selects RX2 yX2_aimAt yX2_aimAt, Cond.code yX2_aimAt cX2_aimAt 4 none, Cond.methodLink RX2 133 yX0_addAtMost, Cond.instanceMethod yX0_addAtMost, Cond.selects RX0 yX0_addAtMost yX0_addAtMost, Cond.code yX0_addAtMost cX0_addAtMost 5 none, Cond.fieldLink RX0 13 "ExactSimplex$Dictionary" "table" "[[J", Cond.fieldLink RX0 16 "ExactSimplex$Dictionary" "rests" "[J", Cond.fieldLink RX0 20 "ExactSimplex$Dictionary" "basic" "[I"]
def wsX2_hasPoint_r3 : List Cond := [Cond.methodLink RX2 137 yX2_addRow, Cond.instanceMethod yX2_addRow, Cond.selects RX2 yX2_addRow yX2_addRow, Cond.code yX2_addRow cX2_addRow 5 none, Cond.fieldLink RX2 71 "ExactSimplex$Problem" "factors" "[[I", Cond.fieldLink RX2 75 "ExactSimplex$Problem" "rights" "[I", Cond.methodLink RX2 144 yX1_limitsFromAbove, Cond.instanceMethod yX1_limitsFromAbove, Cond.selects RX1 yX1_limitsFromAbove yX1_limitsFromAbove, Cond.initialized RX1, Cond.code yX1_limitsFromAbove cX1_limitsFromAbove 2 (some .boolean), Cond.fieldLink RX1 21 "ExactSimplex$Problem" "senses" "[I", Cond.methodLink RX2 147 yX1_limitsFromBelow, Cond.instanceMethod yX1_limitsFromBelow, Cond.selects RX1 yX1_limitsFromBelow yX1_limitsFromBelow, Cond.code yX1_limitsFromBelow cX1_limitsFromBelow 2 (some .boolean), Cond.methodLink RX2 140 yX0_findPoint, Cond.instanceMethod yX0_findPoint, Cond.selects RX0 yX0_findPoint yX0_findPoint, Cond.code yX0_findPoint cX0_findPoint 4 (some .boolean), Cond.constant RX0 54 (100000), Cond.methodLink RX0 55 yX0_brokenLine, Cond.instanceMethod yX0_brokenLine, Cond.selects RX0 yX0_brokenLine yX0_brokenLine]
def wsX2_hasPoint_r4 : List Cond := [Cond.code yX0_brokenLine cX0_brokenLine 3 (some .int), Cond.methodLink RX0 59 yX0_mendingColumn, Cond.instanceMethod yX0_mendingColumn, Cond.selects RX0 yX0_mendingColumn yX0_mendingColumn, Cond.code yX0_mendingColumn cX0_mendingColumn 4 (some .int), Cond.methodLink RX0 63 yX0_pivot, Cond.instanceMethod yX0_pivot, Cond.selects RX0 yX0_pivot yX0_pivot, Cond.code yX0_pivot cX0_pivot 8 none, Cond.methodLink RX0 89 Lib.MathLoose.abs_long.x, Cond.static Lib.MathLoose.abs_long.x, Cond.code Lib.MathLoose.abs_long.x Lib.MathLoose.abs_long.code 2 (some .long), Cond.methodLink RX0 81 yX0_sweepLine, Cond.instanceMethod yX0_sweepLine, Cond.selects RX0 yX0_sweepLine yX0_sweepLine, Cond.code yX0_sweepLine cX0_sweepLine 11 none, Cond.methodLink RX0 85 yX0_turnLine, Cond.instanceMethod yX0_turnLine, Cond.selects RX0 yX0_turnLine yX0_turnLine, Cond.code yX0_turnLine cX0_turnLine 3 none]
def wsX2_hasPoint : List Cond := .code yX2_hasPoint cX2_hasPoint 1 (some .boolean) :: ((wsX2_hasPoint_r1 ++ (wsX2_hasPoint_r2 ++ (wsX2_hasPoint_r3 ++ wsX2_hasPoint_r4))) ++ wsX20 ++ wsX10 ++ wsX00)
def wsX2_keepToBest_r1 : List Cond := [Cond.fieldLink RX2 12 "ExactSimplex$Solver" "dictionary" "LExactSimplex$Dictionary;", Cond.fieldLink RX2 30 "ExactSimplex$Solver" "problem" "LExactSimplex$Problem;", Cond.fieldLink RX2 64 "ExactSimplex$Problem" "costs" "[I", Cond.methodLink RX2 101 yX0_minimise, Cond.instanceMethod yX0_minimise, Cond.selects RX0 yX0_minimise yX0_minimise, Cond.initialized RX0, Cond.code yX0_minimise cX0_minimise 5 none, Cond.fieldLink RX0 44 "ExactSimplex$Dictionary" "columns" "I", Cond.constant RX0 54 (100000), Cond.methodLink RX0 67 yX0_findSlopes, Cond.instanceMethod yX0_findSlopes, Cond.selects RX0 yX0_findSlopes yX0_findSlopes, Cond.code yX0_findSlopes cX0_findSlopes 5 none, Cond.fieldLink RX0 31 "ExactSimplex$Dictionary" "slopes" "[J", Cond.fieldLink RX0 24 "ExactSimplex$Dictionary" "outside" "[I", Cond.fieldLink RX0 34 "ExactSimplex$Dictionary" "under" "J", Cond.fieldLink RX0 48 "ExactSimplex$Dictionary" "lines" "I", Cond.fieldLink RX0 20 "ExactSimplex$Dictionary" "basic" "[I", Cond.fieldLink RX0 13 "ExactSimplex$Dictionary" "table" "[[J", Cond.methodLink RX0 71 yX0_fallingColumn, Cond.instanceMethod yX0_fallingColumn, Cond.selects RX0 yX0_fallingColumn yX0_fallingColumn, Cond.code yX0_fallingColumn cX0_fallingColumn 3 (some .int)]
def wsX2_keepToBest_r2 : List Cond := [Cond.fieldLink RX0 27 "ExactSimplex$Dictionary" "frozen" "[Z", Cond.methodLink RX0 74 yX0_firstStop, Cond.instanceMethod yX0_firstStop, Cond.selects RX0 yX0_firstStop yX0_firstStop, Cond.code yX0_firstStop cX0_firstStop 4 (some .int), Cond.methodLink RX0 77 yX0_stopsBefore, Cond.instanceMethod yX0_stopsBefore, Cond.selects RX0 yX0_stopsBefore yX0_stopsBefore, Cond.code yX0_stopsBefore cX0_stopsBefore 8 (some .boolean), Cond.fieldLink RX0 16 "ExactSimplex$Dictionary" "rests" "[J", Cond.methodLink RX0 63 yX0_pivot, Cond.instanceMethod yX0_pivot, Cond.selects RX0 yX0_pivot yX0_pivot, Cond.code yX0_pivot cX0_pivot 8 none, Cond.methodLink RX0 89 Lib.MathLoose.abs_long.x, Cond.static Lib.MathLoose.abs_long.x, Cond.initialized "java/lang/Math", Cond.code Lib.MathLoose.abs_long.x Lib.MathLoose.abs_long.code 2 (some .long), Cond.methodLink RX0 81 yX0_sweepLine, Cond.instanceMethod yX0_sweepLine, Cond.selects RX0 yX0_sweepLine yX0_sweepLine, Cond.code yX0_sweepLine cX0_sweepLine 11 none, Cond.methodLink RX0 85 yX0_turnLine, Cond.instanceMethod yX0_turnLine]
def wsX2_keepToBest_r3 : List Cond := [Cond.selects RX0 yX0_turnLine yX0_turnLine, Cond.code yX0_turnLine cX0_turnLine 3 none, Cond.methodLink RX2 113 yX0_freezeDear, Cond.instanceMethod yX0_freezeDear, Cond.selects RX0 yX0_freezeDear yX0_freezeDear, Cond.code yX0_freezeDear cX0_freezeDear 2 none]
def wsX2_keepToBest : List Cond := .code yX2_keepToBest cX2_keepToBest 1 none :: ((wsX2_keepToBest_r1 ++ (wsX2_keepToBest_r2 ++ wsX2_keepToBest_r3)) ++ wsX20 ++ wsX10 ++ wsX00)
def wsX2_numeratorOf : List Cond := .code yX2_numeratorOf cX2_numeratorOf 2 (some .long) :: ([.fieldLink RX2 30 "ExactSimplex$Solver" "problem" "LExactSimplex$Problem;", .fieldLink RX2 116 "ExactSimplex$Problem" "lows" "[I", .fieldLink RX2 12 "ExactSimplex$Solver" "dictionary" "LExactSimplex$Dictionary;", .methodLink RX2 109 yX0_denominator, .instanceMethod yX0_denominator, .selects RX0 yX0_denominator yX0_denominator, .initialized RX0, .code yX0_denominator cX0_denominator 1 (some .long), .fieldLink RX0 34 "ExactSimplex$Dictionary" "under" "J", .methodLink RX2 119 yX0_numerator, .instanceMethod yX0_numerator, .selects RX0 yX0_numerator yX0_numerator, .code yX0_numerator cX0_numerator 3 (some .long), .fieldLink RX0 48 "ExactSimplex$Dictionary" "lines" "I", .fieldLink RX0 20 "ExactSimplex$Dictionary" "basic" "[I", .fieldLink RX0 16 "ExactSimplex$Dictionary" "rests" "[J"] ++ wsX20 ++ wsX10 ++ wsX00)
def wsX2_findFirstBest_r1 : List Cond := [Cond.fieldLink RX2 38 "ExactSimplex$Solver" "firstBestKnown" "Z", Cond.fieldLink RX2 12 "ExactSimplex$Solver" "dictionary" "LExactSimplex$Dictionary;", Cond.fieldLink RX2 30 "ExactSimplex$Solver" "problem" "LExactSimplex$Problem;", Cond.fieldLink RX2 58 "ExactSimplex$Problem" "names" "I", Cond.fieldLink RX2 18 "ExactSimplex$Solver" "goal" "[I", Cond.fieldLink RX2 22 "ExactSimplex$Solver" "firstBest" "[J", Cond.fieldLink RX2 26 "ExactSimplex$Solver" "firstBestUnder" "J", Cond.methodLink RX2 78 yX0_thawAll, Cond.instanceMethod yX0_thawAll, Cond.selects RX0 yX0_thawAll yX0_thawAll, Cond.initialized RX0, Cond.code yX0_thawAll cX0_thawAll 2 none, Cond.fieldLink RX0 44 "ExactSimplex$Dictionary" "columns" "I", Cond.fieldLink RX0 27 "ExactSimplex$Dictionary" "frozen" "[Z", Cond.methodLink RX2 81 yX2_keepToBest, Cond.instanceMethod yX2_keepToBest, Cond.selects RX2 yX2_keepToBest yX2_keepToBest, Cond.initialized RX2, Cond.code yX2_keepToBest cX2_keepToBest 1 none, Cond.fieldLink RX2 64 "ExactSimplex$Problem" "costs" "[I", Cond.methodLink RX2 101 yX0_minimise, Cond.instanceMethod yX0_minimise, Cond.selects RX0 yX0_minimise yX0_minimise, Cond.code yX0_minimise cX0_minimise 5 none]
def wsX2_findFirstBest_r2 : List Cond := [Cond.constant RX0 54 (100000), Cond.methodLink RX0 67 yX0_findSlopes, Cond.instanceMethod yX0_findSlopes, Cond.selects RX0 yX0_findSlopes yX0_findSlopes, Cond.code yX0_findSlopes cX0_findSlopes 5 none, Cond.fieldLink RX0 31 "ExactSimplex$Dictionary" "slopes" "[J", Cond.fieldLink RX0 24 "ExactSimplex$Dictionary" "outside" "[I", Cond.fieldLink RX0 34 "ExactSimplex$Dictionary" "under" "J", Cond.fieldLink RX0 48 "ExactSimplex$Dictionary" "lines" "I", Cond.fieldLink RX0 20 "ExactSimplex$Dictionary" "basic" "[I", Cond.fieldLink RX0 13 "ExactSimplex$Dictionary" "table" "[[J", Cond.methodLink RX0 71 yX0_fallingColumn, Cond.instanceMethod yX0_fallingColumn, Cond.selects RX0 yX0_fallingColumn yX0_fallingColumn, Cond.code yX0_fallingColumn cX0_fallingColumn 3 (some .int), Cond.methodLink RX0 74 yX0_firstStop, Cond.instanceMethod yX0_firstStop, Cond.selects RX0 yX0_firstStop yX0_firstStop, Cond.code yX0_firstStop cX0_firstStop 4 (some .int), Cond.methodLink RX0 77 yX0_stopsBefore, Cond.instanceMethod yX0_stopsBefore, Cond.selects RX0 yX0_stopsBefore yX0_stopsBefore, Cond.code yX0_stopsBefore cX0_stopsBefore 8 (some .boolean), Cond.fieldLink RX0 16 "ExactSimplex$Dictionary" "rests" "[J"]
def wsX2_findFirstBest_r3 : List Cond := [Cond.methodLink RX0 63 yX0_pivot, Cond.instanceMethod yX0_pivot, Cond.selects RX0 yX0_pivot yX0_pivot, Cond.code yX0_pivot cX0_pivot 8 none, Cond.methodLink RX0 89 Lib.MathLoose.abs_long.x, Cond.static Lib.MathLoose.abs_long.x, Cond.initialized "java/lang/Math", Cond.code Lib.MathLoose.abs_long.x Lib.MathLoose.abs_long.code 2 (some .long), Cond.methodLink RX0 81 yX0_sweepLine, Cond.instanceMethod yX0_sweepLine, Cond.selects RX0 yX0_sweepLine yX0_sweepLine, Cond.code yX0_sweepLine cX0_sweepLine 11 none, Cond.methodLink RX0 85 yX0_turnLine, Cond.instanceMethod yX0_turnLine, Cond.selects RX0 yX0_turnLine yX0_turnLine, Cond.code yX0_turnLine cX0_turnLine 3 none, Cond.methodLink RX2 113 yX0_freezeDear, Cond.instanceMethod yX0_freezeDear, Cond.selects RX0 yX0_freezeDear yX0_freezeDear, Cond.code yX0_freezeDear cX0_freezeDear 2 none, Cond.methodLink RX2 97 yX2_aimAt, Cond.instanceMethod yX2_aimAt, Cond.selects RX2 yX2_aimAt yX2_aimAt, Cond.code yX2_aimAt cX2_aimAt 4 none]
def wsX2_findFirstBest_r4 : List Cond := [Cond.methodLink RX2 105 yX2_numeratorOf, Cond.instanceMethod yX2_numeratorOf, Cond.selects RX2 yX2_numeratorOf yX2_numeratorOf, Cond.code yX2_numeratorOf cX2_numeratorOf 2 (some .long), Cond.fieldLink RX2 116 "ExactSimplex$Problem" "lows" "[I", Cond.methodLink RX2 109 yX0_denominator, Cond.instanceMethod yX0_denominator, Cond.selects RX0 yX0_denominator yX0_denominator, Cond.code yX0_denominator cX0_denominator 1 (some .long), Cond.methodLink RX2 119 yX0_numerator, Cond.instanceMethod yX0_numerator, Cond.selects RX0 yX0_numerator yX0_numerator, Cond.code yX0_numerator cX0_numerator 3 (some .long)]
def wsX2_findFirstBest : List Cond := .code yX2_findFirstBest cX2_findFirstBest 2 none :: ((wsX2_findFirstBest_r1 ++ (wsX2_findFirstBest_r2 ++ (wsX2_findFirstBest_r3 ++ wsX2_findFirstBest_r4))) ++ wsX20 ++ wsX10 ++ wsX00)
def wsX2_greatestDivisor : List Cond := .code yX2_greatestDivisor cX2_greatestDivisor 11 (some .long) :: ([.methodLink RX2 154 Lib.MathLoose.abs_long.x, .static Lib.MathLoose.abs_long.x, .initialized "java/lang/Math", .code Lib.MathLoose.abs_long.x Lib.MathLoose.abs_long.code 2 (some .long)])
def wsX2_partOf : List Cond := .code yX2_partOf cX2_partOf 7 (some .long) :: ([.methodLink RX2 150 yX2_greatestDivisor, .static yX2_greatestDivisor, .initialized RX2, .code yX2_greatestDivisor cX2_greatestDivisor 11 (some .long), .methodLink RX2 154 Lib.MathLoose.abs_long.x, .static Lib.MathLoose.abs_long.x, .initialized "java/lang/Math", .code Lib.MathLoose.abs_long.x Lib.MathLoose.abs_long.code 2 (some .long)])
def wsX2_leastCost_r1 : List Cond := [Cond.fieldLink RX2 30 "ExactSimplex$Solver" "problem" "LExactSimplex$Problem;", Cond.fieldLink RX2 58 "ExactSimplex$Problem" "names" "I", Cond.fieldLink RX2 64 "ExactSimplex$Problem" "costs" "[I", Cond.fieldLink RX2 22 "ExactSimplex$Solver" "firstBest" "[J", Cond.fieldLink RX2 26 "ExactSimplex$Solver" "firstBestUnder" "J", Cond.methodLink RX2 55 yX2_findFirstBest, Cond.instanceMethod yX2_findFirstBest, Cond.selects RX2 yX2_findFirstBest yX2_findFirstBest, Cond.initialized RX2, Cond.code yX2_findFirstBest cX2_findFirstBest 2 none, Cond.fieldLink RX2 38 "ExactSimplex$Solver" "firstBestKnown" "Z", Cond.fieldLink RX2 12 "ExactSimplex$Solver" "dictionary" "LExactSimplex$Dictionary;", Cond.fieldLink RX2 18 "ExactSimplex$Solver" "goal" "[I", Cond.methodLink RX2 78 yX0_thawAll, Cond.instanceMethod yX0_thawAll, Cond.selects RX0 yX0_thawAll yX0_thawAll, Cond.initialized RX0, Cond.code yX0_thawAll cX0_thawAll 2 none, Cond.fieldLink RX0 44 "ExactSimplex$Dictionary" "columns" "I", Cond.fieldLink RX0 27 "ExactSimplex$Dictionary" "frozen" "[Z", Cond.methodLink RX2 81 yX2_keepToBest, Cond.instanceMethod yX2_keepToBest, Cond.selects RX2 yX2_keepToBest yX2_keepToBest, Cond.code yX2_keepToBest cX2_keepToBest 1 none]
def wsX2_leastCost_r2 : List Cond := [Cond.methodLink RX2 101 yX0_minimise, Cond.instanceMethod yX0_minimise, Cond.selects RX0 yX0_minimise yX0_minimise, Cond.code yX0_minimise cX0_minimise 5 none, Cond.constant RX0 54 (100000), Cond.methodLink RX0 67 yX0_findSlopes, Cond.instanceMethod yX0_findSlopes, Cond.selects RX0 yX0_findSlopes yX0_findSlopes, Cond.code yX0_findSlopes cX0_findSlopes 5 none, Cond.fieldLink RX0 31 "ExactSimplex$Dictionary" "slopes" "[J", Cond.fieldLink RX0 24 "ExactSimplex$Dictionary" "outside" "[I", Cond.fieldLink RX0 34 "ExactSimplex$Dictionary" "under" "J", Cond.fieldLink RX0 48 "ExactSimplex$Dictionary" "lines" "I", Cond.fieldLink RX0 20 "ExactSimplex$Dictionary" "basic" "[I", Cond.fieldLink RX0 13 "ExactSimplex$Dictionary" "table" "[[J", Cond.methodLink RX0 71 yX0_fallingColumn, Cond.instanceMethod yX0_fallingColumn, Cond.selects RX0 yX0_fallingColumn yX0_fallingColumn, Cond.code yX0_fallingColumn cX0_fallingColumn 3 (some .int), Cond.methodLink RX0 74 yX0_firstStop, Cond.instanceMethod yX0_firstStop, Cond.selects RX0 yX0_firstStop yX0_firstStop, Cond.code yX0_firstStop cX0_firstStop 4 (some .int), Cond.methodLink RX0 77 yX0_stopsBefore]
def wsX2_leastCost_r3 : List Cond := [Cond.instanceMethod yX0_stopsBefore, Cond.selects RX0 yX0_stopsBefore yX0_stopsBefore, Cond.code yX0_stopsBefore cX0_stopsBefore 8 (some .boolean), Cond.fieldLink RX0 16 "ExactSimplex$Dictionary" "rests" "[J", Cond.methodLink RX0 63 yX0_pivot, Cond.instanceMethod yX0_pivot, Cond.selects RX0 yX0_pivot yX0_pivot, Cond.code yX0_pivot cX0_pivot 8 none, Cond.methodLink RX0 89 Lib.MathLoose.abs_long.x, Cond.static Lib.MathLoose.abs_long.x, Cond.initialized "java/lang/Math", Cond.code Lib.MathLoose.abs_long.x Lib.MathLoose.abs_long.code 2 (some .long), Cond.methodLink RX0 81 yX0_sweepLine, Cond.instanceMethod yX0_sweepLine, Cond.selects RX0 yX0_sweepLine yX0_sweepLine, Cond.code yX0_sweepLine cX0_sweepLine 11 none, Cond.methodLink RX0 85 yX0_turnLine, Cond.instanceMethod yX0_turnLine, Cond.selects RX0 yX0_turnLine yX0_turnLine, Cond.code yX0_turnLine cX0_turnLine 3 none, Cond.methodLink RX2 113 yX0_freezeDear, Cond.instanceMethod yX0_freezeDear, Cond.selects RX0 yX0_freezeDear yX0_freezeDear, Cond.code yX0_freezeDear cX0_freezeDear 2 none]
def wsX2_leastCost_r4 : List Cond := [Cond.methodLink RX2 97 yX2_aimAt, Cond.instanceMethod yX2_aimAt, Cond.selects RX2 yX2_aimAt yX2_aimAt, Cond.code yX2_aimAt cX2_aimAt 4 none, Cond.methodLink RX2 105 yX2_numeratorOf, Cond.instanceMethod yX2_numeratorOf, Cond.selects RX2 yX2_numeratorOf yX2_numeratorOf, Cond.code yX2_numeratorOf cX2_numeratorOf 2 (some .long), Cond.fieldLink RX2 116 "ExactSimplex$Problem" "lows" "[I", Cond.methodLink RX2 109 yX0_denominator, Cond.instanceMethod yX0_denominator, Cond.selects RX0 yX0_denominator yX0_denominator, Cond.code yX0_denominator cX0_denominator 1 (some .long), Cond.methodLink RX2 119 yX0_numerator, Cond.instanceMethod yX0_numerator, Cond.selects RX0 yX0_numerator yX0_numerator, Cond.code yX0_numerator cX0_numerator 3 (some .long), Cond.methodLink RX2 67 yX2_partOf, Cond.static yX2_partOf, Cond.code yX2_partOf cX2_partOf 7 (some .long), Cond.methodLink RX2 150 yX2_greatestDivisor, Cond.static yX2_greatestDivisor, Cond.code yX2_greatestDivisor cX2_greatestDivisor 11 (some .long), Cond.methodLink RX2 154 Lib.MathLoose.abs_long.x]
def wsX2_leastCost : List Cond := .code yX2_leastCost cX2_leastCost 5 (some .long) :: ((wsX2_leastCost_r1 ++ (wsX2_leastCost_r2 ++ (wsX2_leastCost_r3 ++ wsX2_leastCost_r4))) ++ wsX20 ++ wsX10 ++ wsX00)
def wsX2_firstBestOf_r1 : List Cond := [Cond.fieldLink RX2 22 "ExactSimplex$Solver" "firstBest" "[J", Cond.fieldLink RX2 26 "ExactSimplex$Solver" "firstBestUnder" "J", Cond.methodLink RX2 55 yX2_findFirstBest, Cond.instanceMethod yX2_findFirstBest, Cond.selects RX2 yX2_findFirstBest yX2_findFirstBest, Cond.initialized RX2, Cond.code yX2_findFirstBest cX2_findFirstBest 2 none, Cond.fieldLink RX2 38 "ExactSimplex$Solver" "firstBestKnown" "Z", Cond.fieldLink RX2 12 "ExactSimplex$Solver" "dictionary" "LExactSimplex$Dictionary;", Cond.fieldLink RX2 30 "ExactSimplex$Solver" "problem" "LExactSimplex$Problem;", Cond.fieldLink RX2 58 "ExactSimplex$Problem" "names" "I", Cond.fieldLink RX2 18 "ExactSimplex$Solver" "goal" "[I", Cond.methodLink RX2 78 yX0_thawAll, Cond.instanceMethod yX0_thawAll, Cond.selects RX0 yX0_thawAll yX0_thawAll, Cond.initialized RX0, Cond.code yX0_thawAll cX0_thawAll 2 none, Cond.fieldLink RX0 44 "ExactSimplex$Dictionary" "columns" "I", Cond.fieldLink RX0 27 "ExactSimplex$Dictionary" "frozen" "[Z", Cond.methodLink RX2 81 yX2_keepToBest, Cond.instanceMethod yX2_keepToBest, Cond.selects RX2 yX2_keepToBest yX2_keepToBest, Cond.code yX2_keepToBest cX2_keepToBest 1 none, Cond.fieldLink RX2 64 "ExactSimplex$Problem" "costs" "[I"]
def wsX2_firstBestOf_r2 : List Cond := [Cond.methodLink RX2 101 yX0_minimise, Cond.instanceMethod yX0_minimise, Cond.selects RX0 yX0_minimise yX0_minimise, Cond.code yX0_minimise cX0_minimise 5 none, Cond.constant RX0 54 (100000), Cond.methodLink RX0 67 yX0_findSlopes, Cond.instanceMethod yX0_findSlopes, Cond.selects RX0 yX0_findSlopes yX0_findSlopes, Cond.code yX0_findSlopes cX0_findSlopes 5 none, Cond.fieldLink RX0 31 "ExactSimplex$Dictionary" "slopes" "[J", Cond.fieldLink RX0 24 "ExactSimplex$Dictionary" "outside" "[I", Cond.fieldLink RX0 34 "ExactSimplex$Dictionary" "under" "J", Cond.fieldLink RX0 48 "ExactSimplex$Dictionary" "lines" "I", Cond.fieldLink RX0 20 "ExactSimplex$Dictionary" "basic" "[I", Cond.fieldLink RX0 13 "ExactSimplex$Dictionary" "table" "[[J", Cond.methodLink RX0 71 yX0_fallingColumn, Cond.instanceMethod yX0_fallingColumn, Cond.selects RX0 yX0_fallingColumn yX0_fallingColumn, Cond.code yX0_fallingColumn cX0_fallingColumn 3 (some .int), Cond.methodLink RX0 74 yX0_firstStop, Cond.instanceMethod yX0_firstStop, Cond.selects RX0 yX0_firstStop yX0_firstStop, Cond.code yX0_firstStop cX0_firstStop 4 (some .int), Cond.methodLink RX0 77 yX0_stopsBefore]
def wsX2_firstBestOf_r3 : List Cond := [Cond.instanceMethod yX0_stopsBefore, Cond.selects RX0 yX0_stopsBefore yX0_stopsBefore, Cond.code yX0_stopsBefore cX0_stopsBefore 8 (some .boolean), Cond.fieldLink RX0 16 "ExactSimplex$Dictionary" "rests" "[J", Cond.methodLink RX0 63 yX0_pivot, Cond.instanceMethod yX0_pivot, Cond.selects RX0 yX0_pivot yX0_pivot, Cond.code yX0_pivot cX0_pivot 8 none, Cond.methodLink RX0 89 Lib.MathLoose.abs_long.x, Cond.static Lib.MathLoose.abs_long.x, Cond.initialized "java/lang/Math", Cond.code Lib.MathLoose.abs_long.x Lib.MathLoose.abs_long.code 2 (some .long), Cond.methodLink RX0 81 yX0_sweepLine, Cond.instanceMethod yX0_sweepLine, Cond.selects RX0 yX0_sweepLine yX0_sweepLine, Cond.code yX0_sweepLine cX0_sweepLine 11 none, Cond.methodLink RX0 85 yX0_turnLine, Cond.instanceMethod yX0_turnLine, Cond.selects RX0 yX0_turnLine yX0_turnLine, Cond.code yX0_turnLine cX0_turnLine 3 none, Cond.methodLink RX2 113 yX0_freezeDear, Cond.instanceMethod yX0_freezeDear, Cond.selects RX0 yX0_freezeDear yX0_freezeDear, Cond.code yX0_freezeDear cX0_freezeDear 2 none]
def wsX2_firstBestOf_r4 : List Cond := [Cond.methodLink RX2 97 yX2_aimAt, Cond.instanceMethod yX2_aimAt, Cond.selects RX2 yX2_aimAt yX2_aimAt, Cond.code yX2_aimAt cX2_aimAt 4 none, Cond.methodLink RX2 105 yX2_numeratorOf, Cond.instanceMethod yX2_numeratorOf, Cond.selects RX2 yX2_numeratorOf yX2_numeratorOf, Cond.code yX2_numeratorOf cX2_numeratorOf 2 (some .long), Cond.fieldLink RX2 116 "ExactSimplex$Problem" "lows" "[I", Cond.methodLink RX2 109 yX0_denominator, Cond.instanceMethod yX0_denominator, Cond.selects RX0 yX0_denominator yX0_denominator, Cond.code yX0_denominator cX0_denominator 1 (some .long), Cond.methodLink RX2 119 yX0_numerator, Cond.instanceMethod yX0_numerator, Cond.selects RX0 yX0_numerator yX0_numerator, Cond.code yX0_numerator cX0_numerator 3 (some .long), Cond.methodLink RX2 67 yX2_partOf, Cond.static yX2_partOf, Cond.code yX2_partOf cX2_partOf 7 (some .long), Cond.methodLink RX2 150 yX2_greatestDivisor, Cond.static yX2_greatestDivisor, Cond.code yX2_greatestDivisor cX2_greatestDivisor 11 (some .long), Cond.methodLink RX2 154 Lib.MathLoose.abs_long.x]
def wsX2_firstBestOf : List Cond := .code yX2_firstBestOf cX2_firstBestOf 3 (some .long) :: ((wsX2_firstBestOf_r1 ++ (wsX2_firstBestOf_r2 ++ (wsX2_firstBestOf_r3 ++ wsX2_firstBestOf_r4))) ++ wsX20 ++ wsX10 ++ wsX00)
def wsX2_isTight_r1 : List Cond := [Cond.fieldLink RX2 30 "ExactSimplex$Solver" "problem" "LExactSimplex$Problem;", Cond.fieldLink RX2 58 "ExactSimplex$Problem" "names" "I", Cond.fieldLink RX2 71 "ExactSimplex$Problem" "factors" "[[I", Cond.fieldLink RX2 22 "ExactSimplex$Solver" "firstBest" "[J", Cond.fieldLink RX2 75 "ExactSimplex$Problem" "rights" "[I", Cond.fieldLink RX2 26 "ExactSimplex$Solver" "firstBestUnder" "J", Cond.methodLink RX2 55 yX2_findFirstBest, Cond.instanceMethod yX2_findFirstBest, Cond.selects RX2 yX2_findFirstBest yX2_findFirstBest, Cond.initialized RX2, Cond.code yX2_findFirstBest cX2_findFirstBest 2 none, Cond.fieldLink RX2 38 "ExactSimplex$Solver" "firstBestKnown" "Z", Cond.fieldLink RX2 12 "ExactSimplex$Solver" "dictionary" "LExactSimplex$Dictionary;", Cond.fieldLink RX2 18 "ExactSimplex$Solver" "goal" "[I", Cond.methodLink RX2 78 yX0_thawAll, Cond.instanceMethod yX0_thawAll, Cond.selects RX0 yX0_thawAll yX0_thawAll, Cond.initialized RX0, Cond.code yX0_thawAll cX0_thawAll 2 none, Cond.fieldLink RX0 44 "ExactSimplex$Dictionary" "columns" "I", Cond.fieldLink RX0 27 "ExactSimplex$Dictionary" "frozen" "[Z", Cond.methodLink RX2 81 yX2_keepToBest, Cond.instanceMethod yX2_keepToBest, Cond.selects RX2 yX2_keepToBest yX2_keepToBest]
def wsX2_isTight_r2 : List Cond := [Cond.code yX2_keepToBest cX2_keepToBest 1 none, Cond.fieldLink RX2 64 "ExactSimplex$Problem" "costs" "[I", Cond.methodLink RX2 101 yX0_minimise, Cond.instanceMethod yX0_minimise, Cond.selects RX0 yX0_minimise yX0_minimise, Cond.code yX0_minimise cX0_minimise 5 none, Cond.constant RX0 54 (100000), Cond.methodLink RX0 67 yX0_findSlopes, Cond.instanceMethod yX0_findSlopes, Cond.selects RX0 yX0_findSlopes yX0_findSlopes, Cond.code yX0_findSlopes cX0_findSlopes 5 none, Cond.fieldLink RX0 31 "ExactSimplex$Dictionary" "slopes" "[J", Cond.fieldLink RX0 24 "ExactSimplex$Dictionary" "outside" "[I", Cond.fieldLink RX0 34 "ExactSimplex$Dictionary" "under" "J", Cond.fieldLink RX0 48 "ExactSimplex$Dictionary" "lines" "I", Cond.fieldLink RX0 20 "ExactSimplex$Dictionary" "basic" "[I", Cond.fieldLink RX0 13 "ExactSimplex$Dictionary" "table" "[[J", Cond.methodLink RX0 71 yX0_fallingColumn, Cond.instanceMethod yX0_fallingColumn, Cond.selects RX0 yX0_fallingColumn yX0_fallingColumn, Cond.code yX0_fallingColumn cX0_fallingColumn 3 (some .int), Cond.methodLink RX0 74 yX0_firstStop, Cond.instanceMethod yX0_firstStop, Cond.selects RX0 yX0_firstStop yX0_firstStop]
def wsX2_isTight_r3 : List Cond := [Cond.code yX0_firstStop cX0_firstStop 4 (some .int), Cond.methodLink RX0 77 yX0_stopsBefore, Cond.instanceMethod yX0_stopsBefore, Cond.selects RX0 yX0_stopsBefore yX0_stopsBefore, Cond.code yX0_stopsBefore cX0_stopsBefore 8 (some .boolean), Cond.fieldLink RX0 16 "ExactSimplex$Dictionary" "rests" "[J", Cond.methodLink RX0 63 yX0_pivot, Cond.instanceMethod yX0_pivot, Cond.selects RX0 yX0_pivot yX0_pivot, Cond.code yX0_pivot cX0_pivot 8 none, Cond.methodLink RX0 89 Lib.MathLoose.abs_long.x, Cond.static Lib.MathLoose.abs_long.x, Cond.initialized "java/lang/Math", Cond.code Lib.MathLoose.abs_long.x Lib.MathLoose.abs_long.code 2 (some .long), Cond.methodLink RX0 81 yX0_sweepLine, Cond.instanceMethod yX0_sweepLine, Cond.selects RX0 yX0_sweepLine yX0_sweepLine, Cond.code yX0_sweepLine cX0_sweepLine 11 none, Cond.methodLink RX0 85 yX0_turnLine, Cond.instanceMethod yX0_turnLine, Cond.selects RX0 yX0_turnLine yX0_turnLine, Cond.code yX0_turnLine cX0_turnLine 3 none, Cond.methodLink RX2 113 yX0_freezeDear, Cond.instanceMethod yX0_freezeDear]
def wsX2_isTight_r4 : List Cond := [Cond.selects RX0 yX0_freezeDear yX0_freezeDear, Cond.code yX0_freezeDear cX0_freezeDear 2 none, Cond.methodLink RX2 97 yX2_aimAt, Cond.instanceMethod yX2_aimAt, Cond.selects RX2 yX2_aimAt yX2_aimAt, Cond.code yX2_aimAt cX2_aimAt 4 none, Cond.methodLink RX2 105 yX2_numeratorOf, Cond.instanceMethod yX2_numeratorOf, Cond.selects RX2 yX2_numeratorOf yX2_numeratorOf, Cond.code yX2_numeratorOf cX2_numeratorOf 2 (some .long), Cond.fieldLink RX2 116 "ExactSimplex$Problem" "lows" "[I", Cond.methodLink RX2 109 yX0_denominator, Cond.instanceMethod yX0_denominator, Cond.selects RX0 yX0_denominator yX0_denominator, Cond.code yX0_denominator cX0_denominator 1 (some .long), Cond.methodLink RX2 119 yX0_numerator, Cond.instanceMethod yX0_numerator, Cond.selects RX0 yX0_numerator yX0_numerator, Cond.code yX0_numerator cX0_numerator 3 (some .long)]
def wsX2_isTight : List Cond := .code yX2_isTight cX2_isTight 5 (some .boolean) :: ((wsX2_isTight_r1 ++ (wsX2_isTight_r2 ++ (wsX2_isTight_r3 ++ wsX2_isTight_r4))) ++ wsX20 ++ wsX10 ++ wsX00)
def wsX2_endFromHere_r1 : List Cond := [Cond.fieldLink RX2 12 "ExactSimplex$Solver" "dictionary" "LExactSimplex$Dictionary;", Cond.fieldLink RX2 18 "ExactSimplex$Solver" "goal" "[I", Cond.methodLink RX2 97 yX2_aimAt, Cond.instanceMethod yX2_aimAt, Cond.selects RX2 yX2_aimAt yX2_aimAt, Cond.initialized RX2, Cond.code yX2_aimAt cX2_aimAt 4 none, Cond.methodLink RX2 101 yX0_minimise, Cond.instanceMethod yX0_minimise, Cond.selects RX0 yX0_minimise yX0_minimise, Cond.initialized RX0, Cond.code yX0_minimise cX0_minimise 5 none, Cond.fieldLink RX0 44 "ExactSimplex$Dictionary" "columns" "I", Cond.constant RX0 54 (100000), Cond.methodLink RX0 67 yX0_findSlopes, Cond.instanceMethod yX0_findSlopes, Cond.selects RX0 yX0_findSlopes yX0_findSlopes, Cond.code yX0_findSlopes cX0_findSlopes 5 none, Cond.fieldLink RX0 31 "ExactSimplex$Dictionary" "slopes" "[J", Cond.fieldLink RX0 24 "ExactSimplex$Dictionary" "outside" "[I", Cond.fieldLink RX0 34 "ExactSimplex$Dictionary" "under" "J", Cond.fieldLink RX0 48 "ExactSimplex$Dictionary" "lines" "I", Cond.fieldLink RX0 20 "ExactSimplex$Dictionary" "basic" "[I", Cond.fieldLink RX0 13 "ExactSimplex$Dictionary" "table" "[[J"]
def wsX2_endFromHere_r2 : List Cond := [Cond.methodLink RX0 71 yX0_fallingColumn, Cond.instanceMethod yX0_fallingColumn, Cond.selects RX0 yX0_fallingColumn yX0_fallingColumn, Cond.code yX0_fallingColumn cX0_fallingColumn 3 (some .int), Cond.fieldLink RX0 27 "ExactSimplex$Dictionary" "frozen" "[Z", Cond.methodLink RX0 74 yX0_firstStop, Cond.instanceMethod yX0_firstStop, Cond.selects RX0 yX0_firstStop yX0_firstStop, Cond.code yX0_firstStop cX0_firstStop 4 (some .int), Cond.methodLink RX0 77 yX0_stopsBefore, Cond.instanceMethod yX0_stopsBefore, Cond.selects RX0 yX0_stopsBefore yX0_stopsBefore, Cond.code yX0_stopsBefore cX0_stopsBefore 8 (some .boolean), Cond.fieldLink RX0 16 "ExactSimplex$Dictionary" "rests" "[J", Cond.methodLink RX0 63 yX0_pivot, Cond.instanceMethod yX0_pivot, Cond.selects RX0 yX0_pivot yX0_pivot, Cond.code yX0_pivot cX0_pivot 8 none, Cond.methodLink RX0 89 Lib.MathLoose.abs_long.x, Cond.static Lib.MathLoose.abs_long.x, Cond.initialized "java/lang/Math", Cond.code Lib.MathLoose.abs_long.x Lib.MathLoose.abs_long.code 2 (some .long), Cond.methodLink RX0 81 yX0_sweepLine, Cond.instanceMethod yX0_sweepLine]
def wsX2_endFromHere_r3 : List Cond := [Cond.selects RX0 yX0_sweepLine yX0_sweepLine, Cond.code yX0_sweepLine cX0_sweepLine 11 none, Cond.methodLink RX0 85 yX0_turnLine, Cond.instanceMethod yX0_turnLine, Cond.selects RX0 yX0_turnLine yX0_turnLine, Cond.code yX0_turnLine cX0_turnLine 3 none, Cond.methodLink RX2 105 yX2_numeratorOf, Cond.instanceMethod yX2_numeratorOf, Cond.selects RX2 yX2_numeratorOf yX2_numeratorOf, Cond.code yX2_numeratorOf cX2_numeratorOf 2 (some .long), Cond.fieldLink RX2 30 "ExactSimplex$Solver" "problem" "LExactSimplex$Problem;", Cond.fieldLink RX2 116 "ExactSimplex$Problem" "lows" "[I", Cond.methodLink RX2 109 yX0_denominator, Cond.instanceMethod yX0_denominator, Cond.selects RX0 yX0_denominator yX0_denominator, Cond.code yX0_denominator cX0_denominator 1 (some .long), Cond.methodLink RX2 119 yX0_numerator, Cond.instanceMethod yX0_numerator, Cond.selects RX0 yX0_numerator yX0_numerator, Cond.code yX0_numerator cX0_numerator 3 (some .long), Cond.methodLink RX2 67 yX2_partOf, Cond.static yX2_partOf, Cond.code yX2_partOf cX2_partOf 7 (some .long), Cond.methodLink RX2 150 yX2_greatestDivisor]
def wsX2_endFromHere_r4 : List Cond := [Cond.static yX2_greatestDivisor, Cond.code yX2_greatestDivisor cX2_greatestDivisor 11 (some .long), Cond.methodLink RX2 154 Lib.MathLoose.abs_long.x]
def wsX2_endFromHere : List Cond := .code yX2_endFromHere cX2_endFromHere 4 (some .long) :: ((wsX2_endFromHere_r1 ++ (wsX2_endFromHere_r2 ++ (wsX2_endFromHere_r3 ++ wsX2_endFromHere_r4))) ++ wsX20 ++ wsX00 ++ wsX10)
def wsX2_endAmongBest_r1 : List Cond := [Cond.fieldLink RX2 12 "ExactSimplex$Solver" "dictionary" "LExactSimplex$Dictionary;", Cond.methodLink RX2 78 yX0_thawAll, Cond.instanceMethod yX0_thawAll, Cond.selects RX0 yX0_thawAll yX0_thawAll, Cond.initialized RX0, Cond.code yX0_thawAll cX0_thawAll 2 none, Cond.fieldLink RX0 44 "ExactSimplex$Dictionary" "columns" "I", Cond.fieldLink RX0 27 "ExactSimplex$Dictionary" "frozen" "[Z", Cond.methodLink RX2 81 yX2_keepToBest, Cond.instanceMethod yX2_keepToBest, Cond.selects RX2 yX2_keepToBest yX2_keepToBest, Cond.initialized RX2, Cond.code yX2_keepToBest cX2_keepToBest 1 none, Cond.fieldLink RX2 30 "ExactSimplex$Solver" "problem" "LExactSimplex$Problem;", Cond.fieldLink RX2 64 "ExactSimplex$Problem" "costs" "[I", Cond.methodLink RX2 101 yX0_minimise, Cond.instanceMethod yX0_minimise, Cond.selects RX0 yX0_minimise yX0_minimise, Cond.code yX0_minimise cX0_minimise 5 none, Cond.constant RX0 54 (100000), Cond.methodLink RX0 67 yX0_findSlopes, Cond.instanceMethod yX0_findSlopes, Cond.selects RX0 yX0_findSlopes yX0_findSlopes, Cond.code yX0_findSlopes cX0_findSlopes 5 none]
def wsX2_endAmongBest_r2 : List Cond := [Cond.fieldLink RX0 31 "ExactSimplex$Dictionary" "slopes" "[J", Cond.fieldLink RX0 24 "ExactSimplex$Dictionary" "outside" "[I", Cond.fieldLink RX0 34 "ExactSimplex$Dictionary" "under" "J", Cond.fieldLink RX0 48 "ExactSimplex$Dictionary" "lines" "I", Cond.fieldLink RX0 20 "ExactSimplex$Dictionary" "basic" "[I", Cond.fieldLink RX0 13 "ExactSimplex$Dictionary" "table" "[[J", Cond.methodLink RX0 71 yX0_fallingColumn, Cond.instanceMethod yX0_fallingColumn, Cond.selects RX0 yX0_fallingColumn yX0_fallingColumn, Cond.code yX0_fallingColumn cX0_fallingColumn 3 (some .int), Cond.methodLink RX0 74 yX0_firstStop, Cond.instanceMethod yX0_firstStop, Cond.selects RX0 yX0_firstStop yX0_firstStop, Cond.code yX0_firstStop cX0_firstStop 4 (some .int), Cond.methodLink RX0 77 yX0_stopsBefore, Cond.instanceMethod yX0_stopsBefore, Cond.selects RX0 yX0_stopsBefore yX0_stopsBefore, Cond.code yX0_stopsBefore cX0_stopsBefore 8 (some .boolean), Cond.fieldLink RX0 16 "ExactSimplex$Dictionary" "rests" "[J", Cond.methodLink RX0 63 yX0_pivot, Cond.instanceMethod yX0_pivot, Cond.selects RX0 yX0_pivot yX0_pivot, Cond.code yX0_pivot cX0_pivot 8 none, Cond.methodLink RX0 89 Lib.MathLoose.abs_long.x]
def wsX2_endAmongBest_r3 : List Cond := [Cond.static Lib.MathLoose.abs_long.x, Cond.initialized "java/lang/Math", Cond.code Lib.MathLoose.abs_long.x Lib.MathLoose.abs_long.code 2 (some .long), Cond.methodLink RX0 81 yX0_sweepLine, Cond.instanceMethod yX0_sweepLine, Cond.selects RX0 yX0_sweepLine yX0_sweepLine, Cond.code yX0_sweepLine cX0_sweepLine 11 none, Cond.methodLink RX0 85 yX0_turnLine, Cond.instanceMethod yX0_turnLine, Cond.selects RX0 yX0_turnLine yX0_turnLine, Cond.code yX0_turnLine cX0_turnLine 3 none, Cond.methodLink RX2 113 yX0_freezeDear, Cond.instanceMethod yX0_freezeDear, Cond.selects RX0 yX0_freezeDear yX0_freezeDear, Cond.code yX0_freezeDear cX0_freezeDear 2 none, Cond.methodLink RX2 84 yX2_endFromHere, Cond.instanceMethod yX2_endFromHere, Cond.selects RX2 yX2_endFromHere yX2_endFromHere, Cond.code yX2_endFromHere cX2_endFromHere 4 (some .long), Cond.fieldLink RX2 18 "ExactSimplex$Solver" "goal" "[I", Cond.methodLink RX2 97 yX2_aimAt, Cond.instanceMethod yX2_aimAt, Cond.selects RX2 yX2_aimAt yX2_aimAt, Cond.code yX2_aimAt cX2_aimAt 4 none]
def wsX2_endAmongBest_r4 : List Cond := [Cond.methodLink RX2 105 yX2_numeratorOf, Cond.instanceMethod yX2_numeratorOf, Cond.selects RX2 yX2_numeratorOf yX2_numeratorOf, Cond.code yX2_numeratorOf cX2_numeratorOf 2 (some .long), Cond.fieldLink RX2 116 "ExactSimplex$Problem" "lows" "[I", Cond.methodLink RX2 109 yX0_denominator, Cond.instanceMethod yX0_denominator, Cond.selects RX0 yX0_denominator yX0_denominator, Cond.code yX0_denominator cX0_denominator 1 (some .long), Cond.methodLink RX2 119 yX0_numerator, Cond.instanceMethod yX0_numerator, Cond.selects RX0 yX0_numerator yX0_numerator, Cond.code yX0_numerator cX0_numerator 3 (some .long), Cond.methodLink RX2 67 yX2_partOf, Cond.static yX2_partOf, Cond.code yX2_partOf cX2_partOf 7 (some .long), Cond.methodLink RX2 150 yX2_greatestDivisor, Cond.static yX2_greatestDivisor, Cond.code yX2_greatestDivisor cX2_greatestDivisor 11 (some .long), Cond.methodLink RX2 154 Lib.MathLoose.abs_long.x]
def wsX2_endAmongBest : List Cond := .code yX2_endAmongBest cX2_endAmongBest 4 (some .long) :: ((wsX2_endAmongBest_r1 ++ (wsX2_endAmongBest_r2 ++ (wsX2_endAmongBest_r3 ++ wsX2_endAmongBest_r4))) ++ wsX20 ++ wsX00 ++ wsX10)
def wsX2_endAmongAll_r1 : List Cond := [Cond.fieldLink RX2 12 "ExactSimplex$Solver" "dictionary" "LExactSimplex$Dictionary;", Cond.methodLink RX2 78 yX0_thawAll, Cond.instanceMethod yX0_thawAll, Cond.selects RX0 yX0_thawAll yX0_thawAll, Cond.initialized RX0, Cond.code yX0_thawAll cX0_thawAll 2 none, Cond.fieldLink RX0 44 "ExactSimplex$Dictionary" "columns" "I", Cond.fieldLink RX0 27 "ExactSimplex$Dictionary" "frozen" "[Z", Cond.methodLink RX2 84 yX2_endFromHere, Cond.instanceMethod yX2_endFromHere, Cond.selects RX2 yX2_endFromHere yX2_endFromHere, Cond.initialized RX2, Cond.code yX2_endFromHere cX2_endFromHere 4 (some .long), Cond.fieldLink RX2 18 "ExactSimplex$Solver" "goal" "[I", Cond.methodLink RX2 97 yX2_aimAt, Cond.instanceMethod yX2_aimAt, Cond.selects RX2 yX2_aimAt yX2_aimAt, Cond.code yX2_aimAt cX2_aimAt 4 none, Cond.methodLink RX2 101 yX0_minimise, Cond.instanceMethod yX0_minimise, Cond.selects RX0 yX0_minimise yX0_minimise, Cond.code yX0_minimise cX0_minimise 5 none, Cond.constant RX0 54 (100000), Cond.methodLink RX0 67 yX0_findSlopes]
def wsX2_endAmongAll_r2 : List Cond := [Cond.instanceMethod yX0_findSlopes, Cond.selects RX0 yX0_findSlopes yX0_findSlopes, Cond.code yX0_findSlopes cX0_findSlopes 5 none, Cond.fieldLink RX0 31 "ExactSimplex$Dictionary" "slopes" "[J", Cond.fieldLink RX0 24 "ExactSimplex$Dictionary" "outside" "[I", Cond.fieldLink RX0 34 "ExactSimplex$Dictionary" "under" "J", Cond.fieldLink RX0 48 "ExactSimplex$Dictionary" "lines" "I", Cond.fieldLink RX0 20 "ExactSimplex$Dictionary" "basic" "[I", Cond.fieldLink RX0 13 "ExactSimplex$Dictionary" "table" "[[J", Cond.methodLink RX0 71 yX0_fallingColumn, Cond.instanceMethod yX0_fallingColumn, Cond.selects RX0 yX0_fallingColumn yX0_fallingColumn, Cond.code yX0_fallingColumn cX0_fallingColumn 3 (some .int), Cond.methodLink RX0 74 yX0_firstStop, Cond.instanceMethod yX0_firstStop, Cond.selects RX0 yX0_firstStop yX0_firstStop, Cond.code yX0_firstStop cX0_firstStop 4 (some .int), Cond.methodLink RX0 77 yX0_stopsBefore, Cond.instanceMethod yX0_stopsBefore, Cond.selects RX0 yX0_stopsBefore yX0_stopsBefore, Cond.code yX0_stopsBefore cX0_stopsBefore 8 (some .boolean), Cond.fieldLink RX0 16 "ExactSimplex$Dictionary" "rests" "[J", Cond.methodLink RX0 63 yX0_pivot, Cond.instanceMethod yX0_pivot]
def wsX2_endAmongAll_r3 : List Cond := [Cond.selects RX0 yX0_pivot yX0_pivot, Cond.code yX0_pivot cX0_pivot 8 none, Cond.methodLink RX0 89 Lib.MathLoose.abs_long.x, Cond.static Lib.MathLoose.abs_long.x, Cond.initialized "java/lang/Math", Cond.code Lib.MathLoose.abs_long.x Lib.MathLoose.abs_long.code 2 (some .long), Cond.methodLink RX0 81 yX0_sweepLine, Cond.instanceMethod yX0_sweepLine, Cond.selects RX0 yX0_sweepLine yX0_sweepLine, Cond.code yX0_sweepLine cX0_sweepLine 11 none, Cond.methodLink RX0 85 yX0_turnLine, Cond.instanceMethod yX0_turnLine, Cond.selects RX0 yX0_turnLine yX0_turnLine, Cond.code yX0_turnLine cX0_turnLine 3 none, Cond.methodLink RX2 105 yX2_numeratorOf, Cond.instanceMethod yX2_numeratorOf, Cond.selects RX2 yX2_numeratorOf yX2_numeratorOf, Cond.code yX2_numeratorOf cX2_numeratorOf 2 (some .long), Cond.fieldLink RX2 30 "ExactSimplex$Solver" "problem" "LExactSimplex$Problem;", Cond.fieldLink RX2 116 "ExactSimplex$Problem" "lows" "[I", Cond.methodLink RX2 109 yX0_denominator, Cond.instanceMethod yX0_denominator, Cond.selects RX0 yX0_denominator yX0_denominator, Cond.code yX0_denominator cX0_denominator 1 (some .long)]
def wsX2_endAmongAll_r4 : List Cond := [Cond.methodLink RX2 119 yX0_numerator, Cond.instanceMethod yX0_numerator, Cond.selects RX0 yX0_numerator yX0_numerator, Cond.code yX0_numerator cX0_numerator 3 (some .long), Cond.methodLink RX2 67 yX2_partOf, Cond.static yX2_partOf, Cond.code yX2_partOf cX2_partOf 7 (some .long), Cond.methodLink RX2 150 yX2_greatestDivisor, Cond.static yX2_greatestDivisor, Cond.code yX2_greatestDivisor cX2_greatestDivisor 11 (some .long), Cond.methodLink RX2 154 Lib.MathLoose.abs_long.x]
def wsX2_endAmongAll : List Cond := .code yX2_endAmongAll cX2_endAmongAll 4 (some .long) :: ((wsX2_endAmongAll_r1 ++ (wsX2_endAmongAll_r2 ++ (wsX2_endAmongAll_r3 ++ wsX2_endAmongAll_r4))) ++ wsX20 ++ wsX00 ++ wsX10)
def wsX2_findBarred_r1 : List Cond := [Cond.fieldLink RX2 41 "ExactSimplex$Solver" "barredKnown" "Z", Cond.fieldLink RX2 30 "ExactSimplex$Solver" "problem" "LExactSimplex$Problem;", Cond.fieldLink RX2 91 "ExactSimplex$Problem" "rows" "I", Cond.fieldLink RX2 94 "ExactSimplex$Solver" "barredSet" "I", Cond.methodLink RX2 44 yX2_allRows, Cond.instanceMethod yX2_allRows, Cond.selects RX2 yX2_allRows yX2_allRows, Cond.initialized RX2, Cond.code yX2_allRows cX2_allRows 3 (some .int), Cond.fieldLink RX2 122 "ExactSimplex$Problem" "there" "[Z", Cond.methodLink RX2 48 yX2_canKeep, Cond.instanceMethod yX2_canKeep, Cond.selects RX2 yX2_canKeep yX2_canKeep, Cond.code yX2_canKeep cX2_canKeep 3 (some .boolean), Cond.fieldLink RX2 12 "ExactSimplex$Solver" "dictionary" "LExactSimplex$Dictionary;", Cond.fieldLink RX2 58 "ExactSimplex$Problem" "names" "I", Cond.fieldLink RX2 18 "ExactSimplex$Solver" "goal" "[I", Cond.fieldLink RX2 130 "ExactSimplex$Problem" "highs" "[I", Cond.fieldLink RX2 116 "ExactSimplex$Problem" "lows" "[I", Cond.methodLink RX2 126 yX0_begin, Cond.instanceMethod yX0_begin, Cond.selects RX0 yX0_begin yX0_begin, Cond.initialized RX0, Cond.code yX0_begin cX0_begin 3 none]
def wsX2_findBarred_r2 : List Cond := [Cond.methodLink RX0 38 Lib.Math.min.name, Cond.static Lib.Math.min.name, Cond.initialized "java/lang/Math", Cond.code Lib.Math.min.name Lib.Math.min.code 2 (some .int), Cond.fieldLink RX0 44 "ExactSimplex$Dictionary" "columns" "I", Cond.fieldLink RX0 48 "ExactSimplex$Dictionary" "lines" "I", Cond.fieldLink RX0 34 "ExactSimplex$Dictionary" "under" "J", Cond.fieldLink RX0 24 "ExactSimplex$Dictionary" "outside" "[I", Cond.methodLink RX0 51 yX0_thawAll, Cond.instanceMethod yX0_thawAll, Cond.selects RX0 yX0_thawAll yX0_thawAll, Cond.code yX0_thawAll cX0_thawAll 2 none, Cond.fieldLink RX0 27 "ExactSimplex$Dictionary" "frozen" "[Z", Cond.methodLink RX2 97 yX2_aimAt, Cond.instanceMethod yX2_aimAt, Cond.selects RX2 yX2_aimAt yX2_aimAt, Cond.code yX2_aimAt cX2_aimAt 4 none, Cond.methodLink RX2 133 yX0_addAtMost, Cond.instanceMethod yX0_addAtMost, Cond.selects RX0 yX0_addAtMost yX0_addAtMost, Cond.code yX0_addAtMost cX0_addAtMost 5 none, Cond.fieldLink RX0 13 "ExactSimplex$Dictionary" "table" "[[J", Cond.fieldLink RX0 16 "ExactSimplex$Dictionary" "rests" "[J", Cond.fieldLink RX0 20 "ExactSimplex$Dictionary" "basic" "[I"]
def wsX2_findBarred_r3 : List Cond := [Cond.methodLink RX2 137 yX2_addRow, Cond.instanceMethod yX2_addRow, Cond.selects RX2 yX2_addRow yX2_addRow, Cond.code yX2_addRow cX2_addRow 5 none, Cond.fieldLink RX2 71 "ExactSimplex$Problem" "factors" "[[I", Cond.fieldLink RX2 75 "ExactSimplex$Problem" "rights" "[I", Cond.methodLink RX2 144 yX1_limitsFromAbove, Cond.instanceMethod yX1_limitsFromAbove, Cond.selects RX1 yX1_limitsFromAbove yX1_limitsFromAbove, Cond.initialized RX1, Cond.code yX1_limitsFromAbove cX1_limitsFromAbove 2 (some .boolean), Cond.fieldLink RX1 21 "ExactSimplex$Problem" "senses" "[I", Cond.methodLink RX2 147 yX1_limitsFromBelow, Cond.instanceMethod yX1_limitsFromBelow, Cond.selects RX1 yX1_limitsFromBelow yX1_limitsFromBelow, Cond.code yX1_limitsFromBelow cX1_limitsFromBelow 2 (some .boolean), Cond.methodLink RX2 140 yX0_findPoint, Cond.instanceMethod yX0_findPoint, Cond.selects RX0 yX0_findPoint yX0_findPoint, Cond.code yX0_findPoint cX0_findPoint 4 (some .boolean), Cond.constant RX0 54 (100000), Cond.methodLink RX0 55 yX0_brokenLine, Cond.instanceMethod yX0_brokenLine, Cond.selects RX0 yX0_brokenLine yX0_brokenLine]
def wsX2_findBarred_r4 : List Cond := [Cond.code yX0_brokenLine cX0_brokenLine 3 (some .int), Cond.methodLink RX0 59 yX0_mendingColumn, Cond.instanceMethod yX0_mendingColumn, Cond.selects RX0 yX0_mendingColumn yX0_mendingColumn, Cond.code yX0_mendingColumn cX0_mendingColumn 4 (some .int), Cond.methodLink RX0 63 yX0_pivot, Cond.instanceMethod yX0_pivot, Cond.selects RX0 yX0_pivot yX0_pivot, Cond.code yX0_pivot cX0_pivot 8 none, Cond.methodLink RX0 89 Lib.MathLoose.abs_long.x, Cond.static Lib.MathLoose.abs_long.x, Cond.code Lib.MathLoose.abs_long.x Lib.MathLoose.abs_long.code 2 (some .long), Cond.methodLink RX0 81 yX0_sweepLine, Cond.instanceMethod yX0_sweepLine, Cond.selects RX0 yX0_sweepLine yX0_sweepLine, Cond.code yX0_sweepLine cX0_sweepLine 11 none, Cond.methodLink RX0 85 yX0_turnLine, Cond.instanceMethod yX0_turnLine, Cond.selects RX0 yX0_turnLine yX0_turnLine, Cond.code yX0_turnLine cX0_turnLine 3 none]
def wsX2_findBarred : List Cond := .code yX2_findBarred cX2_findBarred 4 none :: ((wsX2_findBarred_r1 ++ (wsX2_findBarred_r2 ++ (wsX2_findBarred_r3 ++ wsX2_findBarred_r4))) ++ wsX20 ++ wsX10 ++ wsX00)
def wsX2_barredRow_r1 : List Cond := [Cond.fieldLink RX2 30 "ExactSimplex$Solver" "problem" "LExactSimplex$Problem;", Cond.fieldLink RX2 91 "ExactSimplex$Problem" "rows" "I", Cond.fieldLink RX2 94 "ExactSimplex$Solver" "barredSet" "I", Cond.methodLink RX2 88 yX2_findBarred, Cond.instanceMethod yX2_findBarred, Cond.selects RX2 yX2_findBarred yX2_findBarred, Cond.initialized RX2, Cond.code yX2_findBarred cX2_findBarred 4 none, Cond.fieldLink RX2 41 "ExactSimplex$Solver" "barredKnown" "Z", Cond.methodLink RX2 44 yX2_allRows, Cond.instanceMethod yX2_allRows, Cond.selects RX2 yX2_allRows yX2_allRows, Cond.code yX2_allRows cX2_allRows 3 (some .int), Cond.fieldLink RX2 122 "ExactSimplex$Problem" "there" "[Z", Cond.methodLink RX2 48 yX2_canKeep, Cond.instanceMethod yX2_canKeep, Cond.selects RX2 yX2_canKeep yX2_canKeep, Cond.code yX2_canKeep cX2_canKeep 3 (some .boolean), Cond.fieldLink RX2 12 "ExactSimplex$Solver" "dictionary" "LExactSimplex$Dictionary;", Cond.fieldLink RX2 58 "ExactSimplex$Problem" "names" "I", Cond.fieldLink RX2 18 "ExactSimplex$Solver" "goal" "[I", Cond.fieldLink RX2 130 "ExactSimplex$Problem" "highs" "[I", Cond.fieldLink RX2 116 "ExactSimplex$Problem" "lows" "[I", Cond.methodLink RX2 126 yX0_begin]
def wsX2_barredRow_r2 : List Cond := [Cond.instanceMethod yX0_begin, Cond.selects RX0 yX0_begin yX0_begin, Cond.initialized RX0, Cond.code yX0_begin cX0_begin 3 none, Cond.methodLink RX0 38 Lib.Math.min.name, Cond.static Lib.Math.min.name, Cond.initialized "java/lang/Math", Cond.code Lib.Math.min.name Lib.Math.min.code 2 (some .int), Cond.fieldLink RX0 44 "ExactSimplex$Dictionary" "columns" "I", Cond.fieldLink RX0 48 "ExactSimplex$Dictionary" "lines" "I", Cond.fieldLink RX0 34 "ExactSimplex$Dictionary" "under" "J", Cond.fieldLink RX0 24 "ExactSimplex$Dictionary" "outside" "[I", Cond.methodLink RX0 51 yX0_thawAll, Cond.instanceMethod yX0_thawAll, Cond.selects RX0 yX0_thawAll yX0_thawAll, Cond.code yX0_thawAll cX0_thawAll 2 none, Cond.fieldLink RX0 27 "ExactSimplex$Dictionary" "frozen" "[Z", Cond.methodLink RX2 97 yX2_aimAt, Cond.instanceMethod yX2_aimAt, Cond.selects RX2 yX2_aimAt yX2_aimAt, Cond.code yX2_aimAt cX2_aimAt 4 none, Cond.methodLink RX2 133 yX0_addAtMost, Cond.instanceMethod yX0_addAtMost, Cond.selects RX0 yX0_addAtMost yX0_addAtMost]
def wsX2_barredRow_r3 : List Cond := [Cond.code yX0_addAtMost cX0_addAtMost 5 none, Cond.fieldLink RX0 13 "ExactSimplex$Dictionary" "table" "[[J", Cond.fieldLink RX0 16 "ExactSimplex$Dictionary" "rests" "[J", Cond.fieldLink RX0 20 "ExactSimplex$Dictionary" "basic" "[I", Cond.methodLink RX2 137 yX2_addRow, Cond.instanceMethod yX2_addRow, Cond.selects RX2 yX2_addRow yX2_addRow, Cond.code yX2_addRow cX2_addRow 5 none, Cond.fieldLink RX2 71 "ExactSimplex$Problem" "factors" "[[I", Cond.fieldLink RX2 75 "ExactSimplex$Problem" "rights" "[I", Cond.methodLink RX2 144 yX1_limitsFromAbove, Cond.instanceMethod yX1_limitsFromAbove, Cond.selects RX1 yX1_limitsFromAbove yX1_limitsFromAbove, Cond.initialized RX1, Cond.code yX1_limitsFromAbove cX1_limitsFromAbove 2 (some .boolean), Cond.fieldLink RX1 21 "ExactSimplex$Problem" "senses" "[I", Cond.methodLink RX2 147 yX1_limitsFromBelow, Cond.instanceMethod yX1_limitsFromBelow, Cond.selects RX1 yX1_limitsFromBelow yX1_limitsFromBelow, Cond.code yX1_limitsFromBelow cX1_limitsFromBelow 2 (some .boolean), Cond.methodLink RX2 140 yX0_findPoint, Cond.instanceMethod yX0_findPoint, Cond.selects RX0 yX0_findPoint yX0_findPoint, Cond.code yX0_findPoint cX0_findPoint 4 (some .boolean)]
def wsX2_barredRow_r4 : List Cond := [Cond.constant RX0 54 (100000), Cond.methodLink RX0 55 yX0_brokenLine, Cond.instanceMethod yX0_brokenLine, Cond.selects RX0 yX0_brokenLine yX0_brokenLine, Cond.code yX0_brokenLine cX0_brokenLine 3 (some .int), Cond.methodLink RX0 59 yX0_mendingColumn, Cond.instanceMethod yX0_mendingColumn, Cond.selects RX0 yX0_mendingColumn yX0_mendingColumn, Cond.code yX0_mendingColumn cX0_mendingColumn 4 (some .int), Cond.methodLink RX0 63 yX0_pivot, Cond.instanceMethod yX0_pivot, Cond.selects RX0 yX0_pivot yX0_pivot, Cond.code yX0_pivot cX0_pivot 8 none, Cond.methodLink RX0 89 Lib.MathLoose.abs_long.x, Cond.static Lib.MathLoose.abs_long.x, Cond.code Lib.MathLoose.abs_long.x Lib.MathLoose.abs_long.code 2 (some .long), Cond.methodLink RX0 81 yX0_sweepLine, Cond.instanceMethod yX0_sweepLine, Cond.selects RX0 yX0_sweepLine yX0_sweepLine, Cond.code yX0_sweepLine cX0_sweepLine 11 none, Cond.methodLink RX0 85 yX0_turnLine, Cond.instanceMethod yX0_turnLine, Cond.selects RX0 yX0_turnLine yX0_turnLine, Cond.code yX0_turnLine cX0_turnLine 3 none]
def wsX2_barredRow : List Cond := .code yX2_barredRow cX2_barredRow 4 (some .int) :: ((wsX2_barredRow_r1 ++ (wsX2_barredRow_r2 ++ (wsX2_barredRow_r3 ++ wsX2_barredRow_r4))) ++ wsX20 ++ wsX10 ++ wsX00)
def wsX3_init : List Cond := .code yX3_init cX3_init 2 none :: ([.methodLink RX3 3 objectInit, .instanceMethod objectInit, .code objectInit ⟨#[0xb1]⟩ 1 none, .arrayClass .int, .fieldLink RX3 9 "ExactSimplex$WholeSearch" "point" "[I", .fieldLink RX3 15 "ExactSimplex$WholeSearch" "ends" "[I", .fieldLink RX3 18 "ExactSimplex$WholeSearch" "firstBest" "[I", .classLink RX3 21 "[[I", .fieldLink RX3 23 "ExactSimplex$WholeSearch" "sums" "[[I", .fieldLink RX3 26 "ExactSimplex$WholeSearch" "leastMore" "[[I", .fieldLink RX3 29 "ExactSimplex$WholeSearch" "mostMore" "[[I", .fieldLink RX3 32 "ExactSimplex$WholeSearch" "problem" "LExactSimplex$Problem;"] ++ wsX30)
def wsX3_forget : List Cond := .code yX3_forget cX3_forget 1 none :: ([.fieldLink RX3 36 "ExactSimplex$WholeSearch" "sought" "Z"] ++ wsX30)
def wsX3_weight : List Cond := .code yX3_weight cX3_weight 3 (some .int) :: ([.fieldLink RX3 32 "ExactSimplex$WholeSearch" "problem" "LExactSimplex$Problem;", .fieldLink RX3 88 "ExactSimplex$Problem" "costs" "[I", .fieldLink RX3 91 "ExactSimplex$Problem" "factors" "[[I"] ++ wsX30 ++ wsX10)
def wsX3_weighOthers : List Cond := .code yX3_weighOthers cX3_weighOthers 6 none :: ([.fieldLink RX3 32 "ExactSimplex$WholeSearch" "problem" "LExactSimplex$Problem;", .fieldLink RX3 51 "ExactSimplex$Problem" "names" "I", .fieldLink RX3 23 "ExactSimplex$WholeSearch" "sums" "[[I", .fieldLink RX3 26 "ExactSimplex$WholeSearch" "leastMore" "[[I", .fieldLink RX3 29 "ExactSimplex$WholeSearch" "mostMore" "[[I", .fieldLink RX3 74 "ExactSimplex$Problem" "lows" "[I", .fieldLink RX3 77 "ExactSimplex$Problem" "highs" "[I", .methodLink RX3 80 Lib.Math.min.name, .static Lib.Math.min.name, .initialized "java/lang/Math", .code Lib.Math.min.name Lib.Math.min.code 2 (some .int), .methodLink RX3 85 Lib.Math.max.name, .static Lib.Math.max.name, .code Lib.Math.max.name Lib.Math.max.code 2 (some .int), .methodLink RX3 70 yX3_weight, .instanceMethod yX3_weight, .selects RX3 yX3_weight yX3_weight, .initialized RX3, .code yX3_weight cX3_weight 3 (some .int), .fieldLink RX3 88 "ExactSimplex$Problem" "costs" "[I", .fieldLink RX3 91 "ExactSimplex$Problem" "factors" "[[I"] ++ wsX30 ++ wsX10)
def wsJ9_floorDiv_7cf53 : List Cond := .code yJ9_floorDiv_7cf53 cJ9_floorDiv_7cf53 3 (some .int) :: ([])
def wsX3_narrow : List Cond := .code yX3_narrow cX3_narrow 4 none :: ([.fieldLink RX3 15 "ExactSimplex$WholeSearch" "ends" "[I", .methodLink RX3 80 Lib.Math.min.name, .static Lib.Math.min.name, .initialized "java/lang/Math", .code Lib.Math.min.name Lib.Math.min.code 2 (some .int), .fieldLink RX3 9 "ExactSimplex$WholeSearch" "point" "[I", .methodLink RX3 85 Lib.Math.max.name, .static Lib.Math.max.name, .code Lib.Math.max.name Lib.Math.max.code 2 (some .int), .fieldLink RX3 32 "ExactSimplex$WholeSearch" "problem" "LExactSimplex$Problem;", .fieldLink RX3 74 "ExactSimplex$Problem" "lows" "[I", .methodLink RX3 120 yJ9_floorDiv_7cf53, .static yJ9_floorDiv_7cf53, .initialized RJ9, .code yJ9_floorDiv_7cf53 cJ9_floorDiv_7cf53 3 (some .int)] ++ wsX30 ++ wsX10)
def wsX3_narrowByRow_r1 : List Cond := [Cond.fieldLink RX3 32 "ExactSimplex$WholeSearch" "problem" "LExactSimplex$Problem;", Cond.fieldLink RX3 91 "ExactSimplex$Problem" "factors" "[[I", Cond.fieldLink RX3 111 "ExactSimplex$Problem" "rights" "[I", Cond.fieldLink RX3 23 "ExactSimplex$WholeSearch" "sums" "[[I", Cond.fieldLink RX3 26 "ExactSimplex$WholeSearch" "leastMore" "[[I", Cond.fieldLink RX3 29 "ExactSimplex$WholeSearch" "mostMore" "[[I", Cond.methodLink RX3 114 yX1_limitsFromAbove, Cond.instanceMethod yX1_limitsFromAbove, Cond.selects RX1 yX1_limitsFromAbove yX1_limitsFromAbove, Cond.initialized RX1, Cond.code yX1_limitsFromAbove cX1_limitsFromAbove 2 (some .boolean), Cond.fieldLink RX1 21 "ExactSimplex$Problem" "senses" "[I", Cond.methodLink RX3 104 yX3_narrow, Cond.instanceMethod yX3_narrow, Cond.selects RX3 yX3_narrow yX3_narrow, Cond.initialized RX3, Cond.code yX3_narrow cX3_narrow 4 none, Cond.fieldLink RX3 15 "ExactSimplex$WholeSearch" "ends" "[I", Cond.methodLink RX3 80 Lib.Math.min.name, Cond.static Lib.Math.min.name, Cond.initialized "java/lang/Math", Cond.code Lib.Math.min.name Lib.Math.min.code 2 (some .int), Cond.fieldLink RX3 9 "ExactSimplex$WholeSearch" "point" "[I", Cond.methodLink RX3 85 Lib.Math.max.name]
def wsX3_narrowByRow_r2 : List Cond := [Cond.static Lib.Math.max.name, Cond.code Lib.Math.max.name Lib.Math.max.code 2 (some .int), Cond.fieldLink RX3 74 "ExactSimplex$Problem" "lows" "[I", Cond.methodLink RX3 120 yJ9_floorDiv_7cf53, Cond.static yJ9_floorDiv_7cf53, Cond.initialized RJ9, Cond.code yJ9_floorDiv_7cf53 cJ9_floorDiv_7cf53 3 (some .int), Cond.methodLink RX3 117 yX1_limitsFromBelow, Cond.instanceMethod yX1_limitsFromBelow, Cond.selects RX1 yX1_limitsFromBelow yX1_limitsFromBelow, Cond.code yX1_limitsFromBelow cX1_limitsFromBelow 2 (some .boolean)]
def wsX3_narrowByRow : List Cond := .code yX3_narrowByRow cX3_narrowByRow 5 none :: ((wsX3_narrowByRow_r1 ++ wsX3_narrowByRow_r2) ++ wsX30 ++ wsX10)
def wsX3_keepCheapest : List Cond := .code yX3_keepCheapest cX3_keepCheapest 2 none :: ([.fieldLink RX3 32 "ExactSimplex$WholeSearch" "problem" "LExactSimplex$Problem;", .fieldLink RX3 88 "ExactSimplex$Problem" "costs" "[I", .fieldLink RX3 9 "ExactSimplex$WholeSearch" "point" "[I", .fieldLink RX3 15 "ExactSimplex$WholeSearch" "ends" "[I", .methodLink RX3 85 Lib.Math.max.name, .static Lib.Math.max.name, .initialized "java/lang/Math", .code Lib.Math.max.name Lib.Math.max.code 2 (some .int), .methodLink RX3 80 Lib.Math.min.name, .static Lib.Math.min.name, .code Lib.Math.min.name Lib.Math.min.code 2 (some .int)] ++ wsX30 ++ wsX10)
def wsX3_openName_r1 : List Cond := [Cond.fieldLink RX3 32 "ExactSimplex$WholeSearch" "problem" "LExactSimplex$Problem;", Cond.fieldLink RX3 51 "ExactSimplex$Problem" "names" "I", Cond.fieldLink RX3 9 "ExactSimplex$WholeSearch" "point" "[I", Cond.fieldLink RX3 74 "ExactSimplex$Problem" "lows" "[I", Cond.fieldLink RX3 15 "ExactSimplex$WholeSearch" "ends" "[I", Cond.fieldLink RX3 77 "ExactSimplex$Problem" "highs" "[I", Cond.fieldLink RX3 94 "ExactSimplex$Problem" "rows" "I", Cond.fieldLink RX3 40 "ExactSimplex$WholeSearch" "found" "Z", Cond.fieldLink RX3 67 "ExactSimplex$WholeSearch" "bestCost" "I", Cond.fieldLink RX3 23 "ExactSimplex$WholeSearch" "sums" "[[I", Cond.fieldLink RX3 26 "ExactSimplex$WholeSearch" "leastMore" "[[I", Cond.fieldLink RX3 88 "ExactSimplex$Problem" "costs" "[I", Cond.methodLink RX3 97 yX1_hasRow, Cond.instanceMethod yX1_hasRow, Cond.selects RX1 yX1_hasRow yX1_hasRow, Cond.initialized RX1, Cond.code yX1_hasRow cX1_hasRow 2 (some .boolean), Cond.fieldLink RX1 40 "ExactSimplex$Problem" "rows" "I", Cond.fieldLink RX1 32 "ExactSimplex$Problem" "there" "[Z", Cond.methodLink RX3 100 yX3_narrowByRow, Cond.instanceMethod yX3_narrowByRow, Cond.selects RX3 yX3_narrowByRow yX3_narrowByRow, Cond.initialized RX3, Cond.code yX3_narrowByRow cX3_narrowByRow 5 none]
def wsX3_openName_r2 : List Cond := [Cond.fieldLink RX3 91 "ExactSimplex$Problem" "factors" "[[I", Cond.fieldLink RX3 111 "ExactSimplex$Problem" "rights" "[I", Cond.fieldLink RX3 29 "ExactSimplex$WholeSearch" "mostMore" "[[I", Cond.methodLink RX3 114 yX1_limitsFromAbove, Cond.instanceMethod yX1_limitsFromAbove, Cond.selects RX1 yX1_limitsFromAbove yX1_limitsFromAbove, Cond.code yX1_limitsFromAbove cX1_limitsFromAbove 2 (some .boolean), Cond.fieldLink RX1 21 "ExactSimplex$Problem" "senses" "[I", Cond.methodLink RX3 104 yX3_narrow, Cond.instanceMethod yX3_narrow, Cond.selects RX3 yX3_narrow yX3_narrow, Cond.code yX3_narrow cX3_narrow 4 none, Cond.methodLink RX3 80 Lib.Math.min.name, Cond.static Lib.Math.min.name, Cond.initialized "java/lang/Math", Cond.code Lib.Math.min.name Lib.Math.min.code 2 (some .int), Cond.methodLink RX3 85 Lib.Math.max.name, Cond.static Lib.Math.max.name, Cond.code Lib.Math.max.name Lib.Math.max.code 2 (some .int), Cond.methodLink RX3 120 yJ9_floorDiv_7cf53, Cond.static yJ9_floorDiv_7cf53, Cond.initialized RJ9, Cond.code yJ9_floorDiv_7cf53 cJ9_floorDiv_7cf53 3 (some .int), Cond.methodLink RX3 117 yX1_limitsFromBelow]
def wsX3_openName_r3 : List Cond := [Cond.instanceMethod yX1_limitsFromBelow, Cond.selects RX1 yX1_limitsFromBelow yX1_limitsFromBelow, Cond.code yX1_limitsFromBelow cX1_limitsFromBelow 2 (some .boolean), Cond.methodLink RX3 108 yX3_keepCheapest, Cond.instanceMethod yX3_keepCheapest, Cond.selects RX3 yX3_keepCheapest yX3_keepCheapest, Cond.code yX3_keepCheapest cX3_keepCheapest 2 none]
def wsX3_openName : List Cond := .code yX3_openName cX3_openName 3 none :: ((wsX3_openName_r1 ++ (wsX3_openName_r2 ++ wsX3_openName_r3)) ++ wsX30 ++ wsX10)
def wsX3_keepsRows : List Cond := .code yX3_keepsRows cX3_keepsRows 3 (some .boolean) :: ([.fieldLink RX3 32 "ExactSimplex$WholeSearch" "problem" "LExactSimplex$Problem;", .fieldLink RX3 94 "ExactSimplex$Problem" "rows" "I", .fieldLink RX3 23 "ExactSimplex$WholeSearch" "sums" "[[I", .fieldLink RX3 51 "ExactSimplex$Problem" "names" "I", .fieldLink RX3 111 "ExactSimplex$Problem" "rights" "[I", .methodLink RX3 97 yX1_hasRow, .instanceMethod yX1_hasRow, .selects RX1 yX1_hasRow yX1_hasRow, .initialized RX1, .code yX1_hasRow cX1_hasRow 2 (some .boolean), .fieldLink RX1 40 "ExactSimplex$Problem" "rows" "I", .fieldLink RX1 32 "ExactSimplex$Problem" "there" "[Z", .methodLink RX3 114 yX1_limitsFromAbove, .instanceMethod yX1_limitsFromAbove, .selects RX1 yX1_limitsFromAbove yX1_limitsFromAbove, .code yX1_limitsFromAbove cX1_limitsFromAbove 2 (some .boolean), .fieldLink RX1 21 "ExactSimplex$Problem" "senses" "[I", .methodLink RX3 117 yX1_limitsFromBelow, .instanceMethod yX1_limitsFromBelow, .selects RX1 yX1_limitsFromBelow yX1_limitsFromBelow, .code yX1_limitsFromBelow cX1_limitsFromBelow 2 (some .boolean)] ++ wsX30 ++ wsX10)
def wsX3_mayBeCheaper : List Cond := .code yX3_mayBeCheaper cX3_mayBeCheaper 2 (some .boolean) :: ([.fieldLink RX3 40 "ExactSimplex$WholeSearch" "found" "Z", .fieldLink RX3 23 "ExactSimplex$WholeSearch" "sums" "[[I", .fieldLink RX3 26 "ExactSimplex$WholeSearch" "leastMore" "[[I", .fieldLink RX3 67 "ExactSimplex$WholeSearch" "bestCost" "I"] ++ wsX30)
def wsX3_takePoint_r1 : List Cond := [Cond.fieldLink RX3 32 "ExactSimplex$WholeSearch" "problem" "LExactSimplex$Problem;", Cond.fieldLink RX3 51 "ExactSimplex$Problem" "names" "I", Cond.fieldLink RX3 40 "ExactSimplex$WholeSearch" "found" "Z", Cond.fieldLink RX3 23 "ExactSimplex$WholeSearch" "sums" "[[I", Cond.fieldLink RX3 67 "ExactSimplex$WholeSearch" "bestCost" "I", Cond.fieldLink RX3 18 "ExactSimplex$WholeSearch" "firstBest" "[I", Cond.fieldLink RX3 9 "ExactSimplex$WholeSearch" "point" "[I", Cond.methodLink RX3 123 yX3_keepsRows, Cond.instanceMethod yX3_keepsRows, Cond.selects RX3 yX3_keepsRows yX3_keepsRows, Cond.initialized RX3, Cond.code yX3_keepsRows cX3_keepsRows 3 (some .boolean), Cond.fieldLink RX3 94 "ExactSimplex$Problem" "rows" "I", Cond.fieldLink RX3 111 "ExactSimplex$Problem" "rights" "[I", Cond.methodLink RX3 97 yX1_hasRow, Cond.instanceMethod yX1_hasRow, Cond.selects RX1 yX1_hasRow yX1_hasRow, Cond.initialized RX1, Cond.code yX1_hasRow cX1_hasRow 2 (some .boolean), Cond.fieldLink RX1 40 "ExactSimplex$Problem" "rows" "I", Cond.fieldLink RX1 32 "ExactSimplex$Problem" "there" "[Z", Cond.methodLink RX3 114 yX1_limitsFromAbove, Cond.instanceMethod yX1_limitsFromAbove, Cond.selects RX1 yX1_limitsFromAbove yX1_limitsFromAbove]
def wsX3_takePoint_r2 : List Cond := [Cond.code yX1_limitsFromAbove cX1_limitsFromAbove 2 (some .boolean), Cond.fieldLink RX1 21 "ExactSimplex$Problem" "senses" "[I", Cond.methodLink RX3 117 yX1_limitsFromBelow, Cond.instanceMethod yX1_limitsFromBelow, Cond.selects RX1 yX1_limitsFromBelow yX1_limitsFromBelow, Cond.code yX1_limitsFromBelow cX1_limitsFromBelow 2 (some .boolean), Cond.methodLink RX3 63 yX3_mayBeCheaper, Cond.instanceMethod yX3_mayBeCheaper, Cond.selects RX3 yX3_mayBeCheaper yX3_mayBeCheaper, Cond.code yX3_mayBeCheaper cX3_mayBeCheaper 2 (some .boolean), Cond.fieldLink RX3 26 "ExactSimplex$WholeSearch" "leastMore" "[[I"]
def wsX3_takePoint : List Cond := .code yX3_takePoint cX3_takePoint 3 none :: ((wsX3_takePoint_r1 ++ wsX3_takePoint_r2) ++ wsX30 ++ wsX10)
def wsX3_addUp : List Cond := .code yX3_addUp cX3_addUp 3 none :: ([.fieldLink RX3 32 "ExactSimplex$WholeSearch" "problem" "LExactSimplex$Problem;", .fieldLink RX3 94 "ExactSimplex$Problem" "rows" "I", .fieldLink RX3 23 "ExactSimplex$WholeSearch" "sums" "[[I", .fieldLink RX3 91 "ExactSimplex$Problem" "factors" "[[I", .fieldLink RX3 9 "ExactSimplex$WholeSearch" "point" "[I", .fieldLink RX3 88 "ExactSimplex$Problem" "costs" "[I"] ++ wsX30 ++ wsX10)
def wsX3_hasPoint_r1 : List Cond := [Cond.fieldLink RX3 36 "ExactSimplex$WholeSearch" "sought" "Z", Cond.fieldLink RX3 40 "ExactSimplex$WholeSearch" "found" "Z", Cond.constant RX3 50 (1000000), Cond.fieldLink RX3 32 "ExactSimplex$WholeSearch" "problem" "LExactSimplex$Problem;", Cond.fieldLink RX3 51 "ExactSimplex$Problem" "names" "I", Cond.fieldLink RX3 9 "ExactSimplex$WholeSearch" "point" "[I", Cond.fieldLink RX3 15 "ExactSimplex$WholeSearch" "ends" "[I", Cond.methodLink RX3 43 yX3_weighOthers, Cond.instanceMethod yX3_weighOthers, Cond.selects RX3 yX3_weighOthers yX3_weighOthers, Cond.initialized RX3, Cond.code yX3_weighOthers cX3_weighOthers 6 none, Cond.fieldLink RX3 23 "ExactSimplex$WholeSearch" "sums" "[[I", Cond.fieldLink RX3 26 "ExactSimplex$WholeSearch" "leastMore" "[[I", Cond.fieldLink RX3 29 "ExactSimplex$WholeSearch" "mostMore" "[[I", Cond.fieldLink RX3 74 "ExactSimplex$Problem" "lows" "[I", Cond.fieldLink RX3 77 "ExactSimplex$Problem" "highs" "[I", Cond.methodLink RX3 80 Lib.Math.min.name, Cond.static Lib.Math.min.name, Cond.initialized "java/lang/Math", Cond.code Lib.Math.min.name Lib.Math.min.code 2 (some .int), Cond.methodLink RX3 85 Lib.Math.max.name, Cond.static Lib.Math.max.name, Cond.code Lib.Math.max.name Lib.Math.max.code 2 (some .int)]
def wsX3_hasPoint_r2 : List Cond := [Cond.methodLink RX3 70 yX3_weight, Cond.instanceMethod yX3_weight, Cond.selects RX3 yX3_weight yX3_weight, Cond.code yX3_weight cX3_weight 3 (some .int), Cond.fieldLink RX3 88 "ExactSimplex$Problem" "costs" "[I", Cond.fieldLink RX3 91 "ExactSimplex$Problem" "factors" "[[I", Cond.methodLink RX3 46 yX3_openName, Cond.instanceMethod yX3_openName, Cond.selects RX3 yX3_openName yX3_openName, Cond.code yX3_openName cX3_openName 3 none, Cond.fieldLink RX3 94 "ExactSimplex$Problem" "rows" "I", Cond.fieldLink RX3 67 "ExactSimplex$WholeSearch" "bestCost" "I", Cond.methodLink RX3 97 yX1_hasRow, Cond.instanceMethod yX1_hasRow, Cond.selects RX1 yX1_hasRow yX1_hasRow, Cond.initialized RX1, Cond.code yX1_hasRow cX1_hasRow 2 (some .boolean), Cond.fieldLink RX1 40 "ExactSimplex$Problem" "rows" "I", Cond.fieldLink RX1 32 "ExactSimplex$Problem" "there" "[Z", Cond.methodLink RX3 100 yX3_narrowByRow, Cond.instanceMethod yX3_narrowByRow, Cond.selects RX3 yX3_narrowByRow yX3_narrowByRow, Cond.code yX3_narrowByRow cX3_narrowByRow 5 none, Cond.fieldLink RX3 111 "ExactSimplex$Problem" "rights" "[I"]
def wsX3_hasPoint_r3 : List Cond := [Cond.methodLink RX3 114 yX1_limitsFromAbove, Cond.instanceMethod yX1_limitsFromAbove, Cond.selects RX1 yX1_limitsFromAbove yX1_limitsFromAbove, Cond.code yX1_limitsFromAbove cX1_limitsFromAbove 2 (some .boolean), Cond.fieldLink RX1 21 "ExactSimplex$Problem" "senses" "[I", Cond.methodLink RX3 104 yX3_narrow, Cond.instanceMethod yX3_narrow, Cond.selects RX3 yX3_narrow yX3_narrow, Cond.code yX3_narrow cX3_narrow 4 none, Cond.methodLink RX3 120 yJ9_floorDiv_7cf53, Cond.static yJ9_floorDiv_7cf53, Cond.initialized RJ9, Cond.code yJ9_floorDiv_7cf53 cJ9_floorDiv_7cf53 3 (some .int), Cond.methodLink RX3 117 yX1_limitsFromBelow, Cond.instanceMethod yX1_limitsFromBelow, Cond.selects RX1 yX1_limitsFromBelow yX1_limitsFromBelow, Cond.code yX1_limitsFromBelow cX1_limitsFromBelow 2 (some .boolean), Cond.methodLink RX3 108 yX3_keepCheapest, Cond.instanceMethod yX3_keepCheapest, Cond.selects RX3 yX3_keepCheapest yX3_keepCheapest, Cond.code yX3_keepCheapest cX3_keepCheapest 2 none, Cond.methodLink RX3 57 yX3_takePoint, Cond.instanceMethod yX3_takePoint, Cond.selects RX3 yX3_takePoint yX3_takePoint]
def wsX3_hasPoint_r4 : List Cond := [Cond.code yX3_takePoint cX3_takePoint 3 none, Cond.fieldLink RX3 18 "ExactSimplex$WholeSearch" "firstBest" "[I", Cond.methodLink RX3 123 yX3_keepsRows, Cond.instanceMethod yX3_keepsRows, Cond.selects RX3 yX3_keepsRows yX3_keepsRows, Cond.code yX3_keepsRows cX3_keepsRows 3 (some .boolean), Cond.methodLink RX3 63 yX3_mayBeCheaper, Cond.instanceMethod yX3_mayBeCheaper, Cond.selects RX3 yX3_mayBeCheaper yX3_mayBeCheaper, Cond.code yX3_mayBeCheaper cX3_mayBeCheaper 2 (some .boolean), Cond.methodLink RX3 60 yX3_addUp, Cond.instanceMethod yX3_addUp, Cond.selects RX3 yX3_addUp yX3_addUp, Cond.code yX3_addUp cX3_addUp 3 none]
def wsX3_hasPoint : List Cond := .code yX3_hasPoint cX3_hasPoint 3 (some .boolean) :: ((wsX3_hasPoint_r1 ++ (wsX3_hasPoint_r2 ++ (wsX3_hasPoint_r3 ++ wsX3_hasPoint_r4))) ++ wsX30 ++ wsX10)
def wsX3_leastCost : List Cond := .code yX3_leastCost cX3_leastCost 1 (some .int) :: ([.fieldLink RX3 67 "ExactSimplex$WholeSearch" "bestCost" "I"] ++ wsX30)
def wsX3_firstBestOf : List Cond := .code yX3_firstBestOf cX3_firstBestOf 2 (some .int) :: ([.fieldLink RX3 18 "ExactSimplex$WholeSearch" "firstBest" "[I"] ++ wsX30)
def wsX4_init_r1 : List Cond := [Cond.methodLink RX4 1 objectInit, Cond.instanceMethod objectInit, Cond.code objectInit ⟨#[0xb1]⟩ 1 none, Cond.classLink RX4 7 RX1, Cond.instantiable RX1 9, Cond.initialized RX1, Cond.fieldLink RX4 10 "ExactSimplex" "problem" "LExactSimplex$Problem;", Cond.classLink RX4 16 RX2, Cond.instantiable RX2 10, Cond.initialized RX2, Cond.fieldLink RX4 21 "ExactSimplex" "solver" "LExactSimplex$Solver;", Cond.classLink RX4 25 RX3, Cond.instantiable RX3 10, Cond.initialized RX3, Cond.fieldLink RX4 28 "ExactSimplex" "search" "LExactSimplex$WholeSearch;", Cond.instanceMethod yX1_init, Cond.code yX1_init cX1_init 1 none, Cond.methodLink RX1 3 objectInit, Cond.arrayClass .int, Cond.fieldLink RX1 9 "ExactSimplex$Problem" "lows" "[I", Cond.fieldLink RX1 15 "ExactSimplex$Problem" "highs" "[I", Cond.fieldLink RX1 18 "ExactSimplex$Problem" "costs" "[I", Cond.fieldLink RX1 21 "ExactSimplex$Problem" "senses" "[I", Cond.fieldLink RX1 24 "ExactSimplex$Problem" "rights" "[I"]
def wsX4_init_r2 : List Cond := [Cond.classLink RX1 27 "[[I", Cond.fieldLink RX1 29 "ExactSimplex$Problem" "factors" "[[I", Cond.arrayClass .boolean, Cond.fieldLink RX1 32 "ExactSimplex$Problem" "there" "[Z", Cond.methodLink RX4 18 yX2_init, Cond.instanceMethod yX2_init, Cond.code yX2_init cX2_init 2 none, Cond.methodLink RX2 3 objectInit, Cond.classLink RX2 9 RX0, Cond.instantiable RX0 9, Cond.initialized RX0, Cond.fieldLink RX2 12 "ExactSimplex$Solver" "dictionary" "LExactSimplex$Dictionary;", Cond.fieldLink RX2 18 "ExactSimplex$Solver" "goal" "[I", Cond.arrayClass .long, Cond.fieldLink RX2 22 "ExactSimplex$Solver" "firstBest" "[J", Cond.fieldLink RX2 26 "ExactSimplex$Solver" "firstBestUnder" "J", Cond.fieldLink RX2 30 "ExactSimplex$Solver" "problem" "LExactSimplex$Problem;", Cond.instanceMethod yX0_init, Cond.code yX0_init cX0_init 1 none, Cond.methodLink RX0 3 objectInit, Cond.classLink RX0 11 "[[J", Cond.fieldLink RX0 13 "ExactSimplex$Dictionary" "table" "[[J", Cond.fieldLink RX0 16 "ExactSimplex$Dictionary" "rests" "[J", Cond.fieldLink RX0 20 "ExactSimplex$Dictionary" "basic" "[I"]
def wsX4_init_r3 : List Cond := [Cond.fieldLink RX0 24 "ExactSimplex$Dictionary" "outside" "[I", Cond.fieldLink RX0 27 "ExactSimplex$Dictionary" "frozen" "[Z", Cond.fieldLink RX0 31 "ExactSimplex$Dictionary" "slopes" "[J", Cond.fieldLink RX0 34 "ExactSimplex$Dictionary" "under" "J", Cond.methodLink RX4 27 yX3_init, Cond.instanceMethod yX3_init, Cond.code yX3_init cX3_init 2 none, Cond.methodLink RX3 3 objectInit, Cond.fieldLink RX3 9 "ExactSimplex$WholeSearch" "point" "[I", Cond.fieldLink RX3 15 "ExactSimplex$WholeSearch" "ends" "[I", Cond.fieldLink RX3 18 "ExactSimplex$WholeSearch" "firstBest" "[I", Cond.classLink RX3 21 "[[I", Cond.fieldLink RX3 23 "ExactSimplex$WholeSearch" "sums" "[[I", Cond.fieldLink RX3 26 "ExactSimplex$WholeSearch" "leastMore" "[[I", Cond.fieldLink RX3 29 "ExactSimplex$WholeSearch" "mostMore" "[[I", Cond.fieldLink RX3 32 "ExactSimplex$WholeSearch" "problem" "LExactSimplex$Problem;"]
def wsX4_init : List Cond := .code yX4_init cX4_init 1 none :: ((wsX4_init_r1 ++ (wsX4_init_r2 ++ wsX4_init_r3)) ++ wsX10 ++ wsX40 ++ wsX20 ++ wsX30 ++ wsX00)
def wsX4_isWithin : List Cond := .code yX4_isWithin cX4_isWithin 2 (some .boolean) :: ([])
def wsX4_isSpan : List Cond := .code yX4_isSpan cX4_isSpan 2 (some .boolean) :: ([.methodLink RX4 54 yX4_isWithin, .static yX4_isWithin, .initialized RX4, .code yX4_isWithin cX4_isWithin 2 (some .boolean)])
def wsX4_forgetAnswers : List Cond := .code yX4_forgetAnswers cX4_forgetAnswers 1 none :: ([.fieldLink RX4 21 "ExactSimplex" "solver" "LExactSimplex$Solver;", .fieldLink RX4 28 "ExactSimplex" "search" "LExactSimplex$WholeSearch;", .methodLink RX4 134 yX2_forget, .instanceMethod yX2_forget, .selects RX2 yX2_forget yX2_forget, .initialized RX2, .code yX2_forget cX2_forget 1 none, .fieldLink RX2 34 "ExactSimplex$Solver" "pointSought" "Z", .fieldLink RX2 38 "ExactSimplex$Solver" "firstBestKnown" "Z", .fieldLink RX2 41 "ExactSimplex$Solver" "barredKnown" "Z", .methodLink RX4 137 yX3_forget, .instanceMethod yX3_forget, .selects RX3 yX3_forget yX3_forget, .initialized RX3, .code yX3_forget cX3_forget 1 none, .fieldLink RX3 36 "ExactSimplex$WholeSearch" "sought" "Z"] ++ wsX40 ++ wsX20 ++ wsX30)
def wsX4_name_r1 : List Cond := [Cond.fieldLink RX4 10 "ExactSimplex" "problem" "LExactSimplex$Problem;", Cond.methodLink RX4 32 yX4_isSpan, Cond.static yX4_isSpan, Cond.initialized RX4, Cond.code yX4_isSpan cX4_isSpan 2 (some .boolean), Cond.methodLink RX4 54 yX4_isWithin, Cond.static yX4_isWithin, Cond.code yX4_isWithin cX4_isWithin 2 (some .boolean), Cond.methodLink RX4 36 yX4_forgetAnswers, Cond.instanceMethod yX4_forgetAnswers, Cond.selects RX4 yX4_forgetAnswers yX4_forgetAnswers, Cond.code yX4_forgetAnswers cX4_forgetAnswers 1 none, Cond.fieldLink RX4 21 "ExactSimplex" "solver" "LExactSimplex$Solver;", Cond.fieldLink RX4 28 "ExactSimplex" "search" "LExactSimplex$WholeSearch;", Cond.methodLink RX4 134 yX2_forget, Cond.instanceMethod yX2_forget, Cond.selects RX2 yX2_forget yX2_forget, Cond.initialized RX2, Cond.code yX2_forget cX2_forget 1 none, Cond.fieldLink RX2 34 "ExactSimplex$Solver" "pointSought" "Z", Cond.fieldLink RX2 38 "ExactSimplex$Solver" "firstBestKnown" "Z", Cond.fieldLink RX2 41 "ExactSimplex$Solver" "barredKnown" "Z", Cond.methodLink RX4 137 yX3_forget, Cond.instanceMethod yX3_forget]
def wsX4_name_r2 : List Cond := [Cond.selects RX3 yX3_forget yX3_forget, Cond.initialized RX3, Cond.code yX3_forget cX3_forget 1 none, Cond.fieldLink RX3 36 "ExactSimplex$WholeSearch" "sought" "Z", Cond.methodLink RX4 39 yX1_addName, Cond.instanceMethod yX1_addName, Cond.selects RX1 yX1_addName yX1_addName, Cond.initialized RX1, Cond.code yX1_addName cX1_addName 4 (some .int), Cond.fieldLink RX1 36 "ExactSimplex$Problem" "names" "I", Cond.fieldLink RX1 9 "ExactSimplex$Problem" "lows" "[I", Cond.fieldLink RX1 15 "ExactSimplex$Problem" "highs" "[I", Cond.fieldLink RX1 18 "ExactSimplex$Problem" "costs" "[I"]
def wsX4_name : List Cond := .code yX4_name cX4_name 3 (some .int) :: ((wsX4_name_r1 ++ wsX4_name_r2) ++ wsX40 ++ wsX20 ++ wsX30 ++ wsX10)
def wsX4_span_r1 : List Cond := [Cond.fieldLink RX4 10 "ExactSimplex" "problem" "LExactSimplex$Problem;", Cond.fieldLink RX4 47 "ExactSimplex$Problem" "lows" "[I", Cond.fieldLink RX4 51 "ExactSimplex$Problem" "highs" "[I", Cond.methodLink RX4 43 yX1_hasName, Cond.instanceMethod yX1_hasName, Cond.selects RX1 yX1_hasName yX1_hasName, Cond.initialized RX1, Cond.code yX1_hasName cX1_hasName 2 (some .boolean), Cond.fieldLink RX1 36 "ExactSimplex$Problem" "names" "I", Cond.methodLink RX4 32 yX4_isSpan, Cond.static yX4_isSpan, Cond.initialized RX4, Cond.code yX4_isSpan cX4_isSpan 2 (some .boolean), Cond.methodLink RX4 54 yX4_isWithin, Cond.static yX4_isWithin, Cond.code yX4_isWithin cX4_isWithin 2 (some .boolean), Cond.methodLink RX4 36 yX4_forgetAnswers, Cond.instanceMethod yX4_forgetAnswers, Cond.selects RX4 yX4_forgetAnswers yX4_forgetAnswers, Cond.code yX4_forgetAnswers cX4_forgetAnswers 1 none, Cond.fieldLink RX4 21 "ExactSimplex" "solver" "LExactSimplex$Solver;", Cond.fieldLink RX4 28 "ExactSimplex" "search" "LExactSimplex$WholeSearch;", Cond.methodLink RX4 134 yX2_forget, Cond.instanceMethod yX2_forget]
def wsX4_span_r2 : List Cond := [Cond.selects RX2 yX2_forget yX2_forget, Cond.initialized RX2, Cond.code yX2_forget cX2_forget 1 none, Cond.fieldLink RX2 34 "ExactSimplex$Solver" "pointSought" "Z", Cond.fieldLink RX2 38 "ExactSimplex$Solver" "firstBestKnown" "Z", Cond.fieldLink RX2 41 "ExactSimplex$Solver" "barredKnown" "Z", Cond.methodLink RX4 137 yX3_forget, Cond.instanceMethod yX3_forget, Cond.selects RX3 yX3_forget yX3_forget, Cond.initialized RX3, Cond.code yX3_forget cX3_forget 1 none, Cond.fieldLink RX3 36 "ExactSimplex$WholeSearch" "sought" "Z"]
def wsX4_span : List Cond := .code yX4_span cX4_span 4 (some .int) :: ((wsX4_span_r1 ++ wsX4_span_r2) ++ wsX40 ++ wsX10 ++ wsX20 ++ wsX30)
def wsX4_cost_r1 : List Cond := [Cond.fieldLink RX4 10 "ExactSimplex" "problem" "LExactSimplex$Problem;", Cond.fieldLink RX4 57 "ExactSimplex$Problem" "costs" "[I", Cond.methodLink RX4 43 yX1_hasName, Cond.instanceMethod yX1_hasName, Cond.selects RX1 yX1_hasName yX1_hasName, Cond.initialized RX1, Cond.code yX1_hasName cX1_hasName 2 (some .boolean), Cond.fieldLink RX1 36 "ExactSimplex$Problem" "names" "I", Cond.methodLink RX4 54 yX4_isWithin, Cond.static yX4_isWithin, Cond.initialized RX4, Cond.code yX4_isWithin cX4_isWithin 2 (some .boolean), Cond.methodLink RX4 36 yX4_forgetAnswers, Cond.instanceMethod yX4_forgetAnswers, Cond.selects RX4 yX4_forgetAnswers yX4_forgetAnswers, Cond.code yX4_forgetAnswers cX4_forgetAnswers 1 none, Cond.fieldLink RX4 21 "ExactSimplex" "solver" "LExactSimplex$Solver;", Cond.fieldLink RX4 28 "ExactSimplex" "search" "LExactSimplex$WholeSearch;", Cond.methodLink RX4 134 yX2_forget, Cond.instanceMethod yX2_forget, Cond.selects RX2 yX2_forget yX2_forget, Cond.initialized RX2, Cond.code yX2_forget cX2_forget 1 none, Cond.fieldLink RX2 34 "ExactSimplex$Solver" "pointSought" "Z"]
def wsX4_cost_r2 : List Cond := [Cond.fieldLink RX2 38 "ExactSimplex$Solver" "firstBestKnown" "Z", Cond.fieldLink RX2 41 "ExactSimplex$Solver" "barredKnown" "Z", Cond.methodLink RX4 137 yX3_forget, Cond.instanceMethod yX3_forget, Cond.selects RX3 yX3_forget yX3_forget, Cond.initialized RX3, Cond.code yX3_forget cX3_forget 1 none, Cond.fieldLink RX3 36 "ExactSimplex$WholeSearch" "sought" "Z"]
def wsX4_cost : List Cond := .code yX4_cost cX4_cost 4 (some .int) :: ((wsX4_cost_r1 ++ wsX4_cost_r2) ++ wsX40 ++ wsX10 ++ wsX20 ++ wsX30)
def wsX4_row_r1 : List Cond := [Cond.fieldLink RX4 10 "ExactSimplex" "problem" "LExactSimplex$Problem;", Cond.methodLink RX4 54 yX4_isWithin, Cond.static yX4_isWithin, Cond.initialized RX4, Cond.code yX4_isWithin cX4_isWithin 2 (some .boolean), Cond.methodLink RX4 36 yX4_forgetAnswers, Cond.instanceMethod yX4_forgetAnswers, Cond.selects RX4 yX4_forgetAnswers yX4_forgetAnswers, Cond.code yX4_forgetAnswers cX4_forgetAnswers 1 none, Cond.fieldLink RX4 21 "ExactSimplex" "solver" "LExactSimplex$Solver;", Cond.fieldLink RX4 28 "ExactSimplex" "search" "LExactSimplex$WholeSearch;", Cond.methodLink RX4 134 yX2_forget, Cond.instanceMethod yX2_forget, Cond.selects RX2 yX2_forget yX2_forget, Cond.initialized RX2, Cond.code yX2_forget cX2_forget 1 none, Cond.fieldLink RX2 34 "ExactSimplex$Solver" "pointSought" "Z", Cond.fieldLink RX2 38 "ExactSimplex$Solver" "firstBestKnown" "Z", Cond.fieldLink RX2 41 "ExactSimplex$Solver" "barredKnown" "Z", Cond.methodLink RX4 137 yX3_forget, Cond.instanceMethod yX3_forget, Cond.selects RX3 yX3_forget yX3_forget, Cond.initialized RX3, Cond.code yX3_forget cX3_forget 1 none]
def wsX4_row_r2 : List Cond := [Cond.fieldLink RX3 36 "ExactSimplex$WholeSearch" "sought" "Z", Cond.methodLink RX4 60 yX1_addRow, Cond.instanceMethod yX1_addRow, Cond.selects RX1 yX1_addRow yX1_addRow, Cond.initialized RX1, Cond.code yX1_addRow cX1_addRow 5 (some .int), Cond.fieldLink RX1 40 "ExactSimplex$Problem" "rows" "I", Cond.fieldLink RX1 21 "ExactSimplex$Problem" "senses" "[I", Cond.fieldLink RX1 24 "ExactSimplex$Problem" "rights" "[I", Cond.fieldLink RX1 32 "ExactSimplex$Problem" "there" "[Z", Cond.fieldLink RX1 29 "ExactSimplex$Problem" "factors" "[[I"]
def wsX4_row : List Cond := .code yX4_row cX4_row 3 (some .int) :: ((wsX4_row_r1 ++ wsX4_row_r2) ++ wsX40 ++ wsX20 ++ wsX30 ++ wsX10)
def wsX4_right_r1 : List Cond := [Cond.fieldLink RX4 10 "ExactSimplex" "problem" "LExactSimplex$Problem;", Cond.fieldLink RX4 66 "ExactSimplex$Problem" "rights" "[I", Cond.methodLink RX4 63 yX1_hasRow, Cond.instanceMethod yX1_hasRow, Cond.selects RX1 yX1_hasRow yX1_hasRow, Cond.initialized RX1, Cond.code yX1_hasRow cX1_hasRow 2 (some .boolean), Cond.fieldLink RX1 40 "ExactSimplex$Problem" "rows" "I", Cond.fieldLink RX1 32 "ExactSimplex$Problem" "there" "[Z", Cond.methodLink RX4 54 yX4_isWithin, Cond.static yX4_isWithin, Cond.initialized RX4, Cond.code yX4_isWithin cX4_isWithin 2 (some .boolean), Cond.methodLink RX4 36 yX4_forgetAnswers, Cond.instanceMethod yX4_forgetAnswers, Cond.selects RX4 yX4_forgetAnswers yX4_forgetAnswers, Cond.code yX4_forgetAnswers cX4_forgetAnswers 1 none, Cond.fieldLink RX4 21 "ExactSimplex" "solver" "LExactSimplex$Solver;", Cond.fieldLink RX4 28 "ExactSimplex" "search" "LExactSimplex$WholeSearch;", Cond.methodLink RX4 134 yX2_forget, Cond.instanceMethod yX2_forget, Cond.selects RX2 yX2_forget yX2_forget, Cond.initialized RX2, Cond.code yX2_forget cX2_forget 1 none]
def wsX4_right_r2 : List Cond := [Cond.fieldLink RX2 34 "ExactSimplex$Solver" "pointSought" "Z", Cond.fieldLink RX2 38 "ExactSimplex$Solver" "firstBestKnown" "Z", Cond.fieldLink RX2 41 "ExactSimplex$Solver" "barredKnown" "Z", Cond.methodLink RX4 137 yX3_forget, Cond.instanceMethod yX3_forget, Cond.selects RX3 yX3_forget yX3_forget, Cond.initialized RX3, Cond.code yX3_forget cX3_forget 1 none, Cond.fieldLink RX3 36 "ExactSimplex$WholeSearch" "sought" "Z"]
def wsX4_right : List Cond := .code yX4_right cX4_right 3 (some .int) :: ((wsX4_right_r1 ++ wsX4_right_r2) ++ wsX40 ++ wsX10 ++ wsX20 ++ wsX30)
def wsX4_factor_r1 : List Cond := [Cond.fieldLink RX4 10 "ExactSimplex" "problem" "LExactSimplex$Problem;", Cond.fieldLink RX4 69 "ExactSimplex$Problem" "factors" "[[I", Cond.methodLink RX4 63 yX1_hasRow, Cond.instanceMethod yX1_hasRow, Cond.selects RX1 yX1_hasRow yX1_hasRow, Cond.initialized RX1, Cond.code yX1_hasRow cX1_hasRow 2 (some .boolean), Cond.fieldLink RX1 40 "ExactSimplex$Problem" "rows" "I", Cond.fieldLink RX1 32 "ExactSimplex$Problem" "there" "[Z", Cond.methodLink RX4 43 yX1_hasName, Cond.instanceMethod yX1_hasName, Cond.selects RX1 yX1_hasName yX1_hasName, Cond.code yX1_hasName cX1_hasName 2 (some .boolean), Cond.fieldLink RX1 36 "ExactSimplex$Problem" "names" "I", Cond.methodLink RX4 54 yX4_isWithin, Cond.static yX4_isWithin, Cond.initialized RX4, Cond.code yX4_isWithin cX4_isWithin 2 (some .boolean), Cond.methodLink RX4 36 yX4_forgetAnswers, Cond.instanceMethod yX4_forgetAnswers, Cond.selects RX4 yX4_forgetAnswers yX4_forgetAnswers, Cond.code yX4_forgetAnswers cX4_forgetAnswers 1 none, Cond.fieldLink RX4 21 "ExactSimplex" "solver" "LExactSimplex$Solver;", Cond.fieldLink RX4 28 "ExactSimplex" "search" "LExactSimplex$WholeSearch;"]
def wsX4_factor_r2 : List Cond := [Cond.methodLink RX4 134 yX2_forget, Cond.instanceMethod yX2_forget, Cond.selects RX2 yX2_forget yX2_forget, Cond.initialized RX2, Cond.code yX2_forget cX2_forget 1 none, Cond.fieldLink RX2 34 "ExactSimplex$Solver" "pointSought" "Z", Cond.fieldLink RX2 38 "ExactSimplex$Solver" "firstBestKnown" "Z", Cond.fieldLink RX2 41 "ExactSimplex$Solver" "barredKnown" "Z", Cond.methodLink RX4 137 yX3_forget, Cond.instanceMethod yX3_forget, Cond.selects RX3 yX3_forget yX3_forget, Cond.initialized RX3, Cond.code yX3_forget cX3_forget 1 none, Cond.fieldLink RX3 36 "ExactSimplex$WholeSearch" "sought" "Z"]
def wsX4_factor : List Cond := .code yX4_factor cX4_factor 4 (some .int) :: ((wsX4_factor_r1 ++ wsX4_factor_r2) ++ wsX40 ++ wsX10 ++ wsX20 ++ wsX30)
def wsX4_drop_r1 : List Cond := [Cond.fieldLink RX4 10 "ExactSimplex" "problem" "LExactSimplex$Problem;", Cond.fieldLink RX4 73 "ExactSimplex$Problem" "there" "[Z", Cond.methodLink RX4 63 yX1_hasRow, Cond.instanceMethod yX1_hasRow, Cond.selects RX1 yX1_hasRow yX1_hasRow, Cond.initialized RX1, Cond.code yX1_hasRow cX1_hasRow 2 (some .boolean), Cond.fieldLink RX1 40 "ExactSimplex$Problem" "rows" "I", Cond.fieldLink RX1 32 "ExactSimplex$Problem" "there" "[Z", Cond.methodLink RX4 36 yX4_forgetAnswers, Cond.instanceMethod yX4_forgetAnswers, Cond.selects RX4 yX4_forgetAnswers yX4_forgetAnswers, Cond.initialized RX4, Cond.code yX4_forgetAnswers cX4_forgetAnswers 1 none, Cond.fieldLink RX4 21 "ExactSimplex" "solver" "LExactSimplex$Solver;", Cond.fieldLink RX4 28 "ExactSimplex" "search" "LExactSimplex$WholeSearch;", Cond.methodLink RX4 134 yX2_forget, Cond.instanceMethod yX2_forget, Cond.selects RX2 yX2_forget yX2_forget, Cond.initialized RX2, Cond.code yX2_forget cX2_forget 1 none, Cond.fieldLink RX2 34 "ExactSimplex$Solver" "pointSought" "Z", Cond.fieldLink RX2 38 "ExactSimplex$Solver" "firstBestKnown" "Z", Cond.fieldLink RX2 41 "ExactSimplex$Solver" "barredKnown" "Z"]
def wsX4_drop_r2 : List Cond := [Cond.methodLink RX4 137 yX3_forget, Cond.instanceMethod yX3_forget, Cond.selects RX3 yX3_forget yX3_forget, Cond.initialized RX3, Cond.code yX3_forget cX3_forget 1 none, Cond.fieldLink RX3 36 "ExactSimplex$WholeSearch" "sought" "Z", Cond.methodLink RX4 77 yX1_countRows, Cond.instanceMethod yX1_countRows, Cond.selects RX1 yX1_countRows yX1_countRows, Cond.code yX1_countRows cX1_countRows 3 (some .int)]
def wsX4_drop : List Cond := .code yX4_drop cX4_drop 2 (some .int) :: ((wsX4_drop_r1 ++ wsX4_drop_r2) ++ wsX40 ++ wsX10 ++ wsX20 ++ wsX30)
def wsX4_clear : List Cond := .code yX4_clear cX4_clear 2 (some .int) :: ([.fieldLink RX4 10 "ExactSimplex" "problem" "LExactSimplex$Problem;", .fieldLink RX4 81 "ExactSimplex$Problem" "names" "I", .fieldLink RX4 85 "ExactSimplex$Problem" "rows" "I", .methodLink RX4 36 yX4_forgetAnswers, .instanceMethod yX4_forgetAnswers, .selects RX4 yX4_forgetAnswers yX4_forgetAnswers, .initialized RX4, .code yX4_forgetAnswers cX4_forgetAnswers 1 none, .fieldLink RX4 21 "ExactSimplex" "solver" "LExactSimplex$Solver;", .fieldLink RX4 28 "ExactSimplex" "search" "LExactSimplex$WholeSearch;", .methodLink RX4 134 yX2_forget, .instanceMethod yX2_forget, .selects RX2 yX2_forget yX2_forget, .initialized RX2, .code yX2_forget cX2_forget 1 none, .fieldLink RX2 34 "ExactSimplex$Solver" "pointSought" "Z", .fieldLink RX2 38 "ExactSimplex$Solver" "firstBestKnown" "Z", .fieldLink RX2 41 "ExactSimplex$Solver" "barredKnown" "Z", .methodLink RX4 137 yX3_forget, .instanceMethod yX3_forget, .selects RX3 yX3_forget yX3_forget, .initialized RX3, .code yX3_forget cX3_forget 1 none, .fieldLink RX3 36 "ExactSimplex$WholeSearch" "sought" "Z"] ++ wsX40 ++ wsX10 ++ wsX20 ++ wsX30)
def wsX4_run_r1 : List Cond := [Cond.fieldLink RX4 21 "ExactSimplex" "solver" "LExactSimplex$Solver;", Cond.methodLink RX4 88 yX2_hasPoint, Cond.instanceMethod yX2_hasPoint, Cond.selects RX2 yX2_hasPoint yX2_hasPoint, Cond.initialized RX2, Cond.code yX2_hasPoint cX2_hasPoint 1 (some .boolean), Cond.fieldLink RX2 34 "ExactSimplex$Solver" "pointSought" "Z", Cond.fieldLink RX2 52 "ExactSimplex$Solver" "pointThere" "Z", Cond.methodLink RX2 44 yX2_allRows, Cond.instanceMethod yX2_allRows, Cond.selects RX2 yX2_allRows yX2_allRows, Cond.code yX2_allRows cX2_allRows 3 (some .int), Cond.fieldLink RX2 30 "ExactSimplex$Solver" "problem" "LExactSimplex$Problem;", Cond.fieldLink RX2 91 "ExactSimplex$Problem" "rows" "I", Cond.fieldLink RX2 122 "ExactSimplex$Problem" "there" "[Z", Cond.methodLink RX2 48 yX2_canKeep, Cond.instanceMethod yX2_canKeep, Cond.selects RX2 yX2_canKeep yX2_canKeep, Cond.code yX2_canKeep cX2_canKeep 3 (some .boolean), Cond.fieldLink RX2 12 "ExactSimplex$Solver" "dictionary" "LExactSimplex$Dictionary;", Cond.fieldLink RX2 58 "ExactSimplex$Problem" "names" "I", Cond.fieldLink RX2 18 "ExactSimplex$Solver" "goal" "[I", Cond.fieldLink RX2 130 "ExactSimplex$Problem" "highs" "[I", Cond.fieldLink RX2 116 "ExactSimplex$Problem" "lows" "[I"]
def wsX4_run_r2 : List Cond := [Cond.methodLink RX2 126 yX0_begin, Cond.instanceMethod yX0_begin, Cond.selects RX0 yX0_begin yX0_begin, Cond.initialized RX0, Cond.code yX0_begin cX0_begin 3 none, Cond.methodLink RX0 38 Lib.Math.min.name, Cond.static Lib.Math.min.name, Cond.initialized "java/lang/Math", Cond.code Lib.Math.min.name Lib.Math.min.code 2 (some .int), Cond.fieldLink RX0 44 "ExactSimplex$Dictionary" "columns" "I", Cond.fieldLink RX0 48 "ExactSimplex$Dictionary" "lines" "I", Cond.fieldLink RX0 34 "ExactSimplex$Dictionary" "under" "J", Cond.fieldLink RX0 24 "ExactSimplex$Dictionary" "outside" "[I", Cond.methodLink RX0 51 yX0_thawAll, Cond.instanceMethod yX0_thawAll, Cond.selects RX0 yX0_thawAll yX0_thawAll, Cond.code yX0_thawAll cX0_thawAll 2 none, Cond.fieldLink RX0 27 "ExactSimplex$Dictionary" "frozen" "[Z", Cond.methodLink RX2 97 yX2_aimAt, Cond.instanceMethod yX2_aimAt, Cond.selects RX2 yX2_aimAt yX2_aimAt, Cond.code yX2_aimAt cX2_aimAt 4 none, Cond.methodLink RX2 133 yX0_addAtMost, Cond.instanceMethod yX0_addAtMost]
def wsX4_run_r3 : List Cond := [Cond.selects RX0 yX0_addAtMost yX0_addAtMost, Cond.code yX0_addAtMost cX0_addAtMost 5 none, Cond.fieldLink RX0 13 "ExactSimplex$Dictionary" "table" "[[J", Cond.fieldLink RX0 16 "ExactSimplex$Dictionary" "rests" "[J", Cond.fieldLink RX0 20 "ExactSimplex$Dictionary" "basic" "[I", Cond.methodLink RX2 137 yX2_addRow, Cond.instanceMethod yX2_addRow, Cond.selects RX2 yX2_addRow yX2_addRow, Cond.code yX2_addRow cX2_addRow 5 none, Cond.fieldLink RX2 71 "ExactSimplex$Problem" "factors" "[[I", Cond.fieldLink RX2 75 "ExactSimplex$Problem" "rights" "[I", Cond.methodLink RX2 144 yX1_limitsFromAbove, Cond.instanceMethod yX1_limitsFromAbove, Cond.selects RX1 yX1_limitsFromAbove yX1_limitsFromAbove, Cond.initialized RX1, Cond.code yX1_limitsFromAbove cX1_limitsFromAbove 2 (some .boolean), Cond.fieldLink RX1 21 "ExactSimplex$Problem" "senses" "[I", Cond.methodLink RX2 147 yX1_limitsFromBelow, Cond.instanceMethod yX1_limitsFromBelow, Cond.selects RX1 yX1_limitsFromBelow yX1_limitsFromBelow, Cond.code yX1_limitsFromBelow cX1_limitsFromBelow 2 (some .boolean), Cond.methodLink RX2 140 yX0_findPoint, Cond.instanceMethod yX0_findPoint, Cond.selects RX0 yX0_findPoint yX0_findPoint]
def wsX4_run_r4 : List Cond := [Cond.code yX0_findPoint cX0_findPoint 4 (some .boolean), Cond.constant RX0 54 (100000), Cond.methodLink RX0 55 yX0_brokenLine, Cond.instanceMethod yX0_brokenLine, Cond.selects RX0 yX0_brokenLine yX0_brokenLine, Cond.code yX0_brokenLine cX0_brokenLine 3 (some .int), Cond.methodLink RX0 59 yX0_mendingColumn, Cond.instanceMethod yX0_mendingColumn, Cond.selects RX0 yX0_mendingColumn yX0_mendingColumn, Cond.code yX0_mendingColumn cX0_mendingColumn 4 (some .int), Cond.methodLink RX0 63 yX0_pivot, Cond.instanceMethod yX0_pivot, Cond.selects RX0 yX0_pivot yX0_pivot, Cond.code yX0_pivot cX0_pivot 8 none, Cond.methodLink RX0 89 Lib.MathLoose.abs_long.x, Cond.static Lib.MathLoose.abs_long.x, Cond.code Lib.MathLoose.abs_long.x Lib.MathLoose.abs_long.code 2 (some .long), Cond.methodLink RX0 81 yX0_sweepLine, Cond.instanceMethod yX0_sweepLine, Cond.selects RX0 yX0_sweepLine yX0_sweepLine, Cond.code yX0_sweepLine cX0_sweepLine 11 none, Cond.methodLink RX0 85 yX0_turnLine, Cond.instanceMethod yX0_turnLine, Cond.selects RX0 yX0_turnLine yX0_turnLine]
def wsX4_run_r5 : List Cond := [Cond.code yX0_turnLine cX0_turnLine 3 none]
def wsX4_run : List Cond := .code yX4_run cX4_run 1 (some .int) :: ((wsX4_run_r1 ++ (wsX4_run_r2 ++ (wsX4_run_r3 ++ (wsX4_run_r4 ++ wsX4_run_r5)))) ++ wsX40 ++ wsX20 ++ wsX10 ++ wsX00)
def wsX4_isZeroOrOne : List Cond := .code yX4_isZeroOrOne cX4_isZeroOrOne 1 (some .boolean) :: ([])
def wsX4_least_r1 : List Cond := [Cond.constantLong RX4 95 (-2), Cond.fieldLink RX4 21 "ExactSimplex" "solver" "LExactSimplex$Solver;", Cond.constantLong RX4 97 (-3), Cond.methodLink RX4 92 yX4_isZeroOrOne, Cond.static yX4_isZeroOrOne, Cond.initialized RX4, Cond.code yX4_isZeroOrOne cX4_isZeroOrOne 1 (some .boolean), Cond.methodLink RX4 88 yX2_hasPoint, Cond.instanceMethod yX2_hasPoint, Cond.selects RX2 yX2_hasPoint yX2_hasPoint, Cond.initialized RX2, Cond.code yX2_hasPoint cX2_hasPoint 1 (some .boolean), Cond.fieldLink RX2 34 "ExactSimplex$Solver" "pointSought" "Z", Cond.fieldLink RX2 52 "ExactSimplex$Solver" "pointThere" "Z", Cond.methodLink RX2 44 yX2_allRows, Cond.instanceMethod yX2_allRows, Cond.selects RX2 yX2_allRows yX2_allRows, Cond.code yX2_allRows cX2_allRows 3 (some .int), Cond.fieldLink RX2 30 "ExactSimplex$Solver" "problem" "LExactSimplex$Problem;", Cond.fieldLink RX2 91 "ExactSimplex$Problem" "rows" "I", Cond.fieldLink RX2 122 "ExactSimplex$Problem" "there" "[Z", Cond.methodLink RX2 48 yX2_canKeep, Cond.instanceMethod yX2_canKeep, Cond.selects RX2 yX2_canKeep yX2_canKeep]
def wsX4_least_r2 : List Cond := [Cond.code yX2_canKeep cX2_canKeep 3 (some .boolean), Cond.fieldLink RX2 12 "ExactSimplex$Solver" "dictionary" "LExactSimplex$Dictionary;", Cond.fieldLink RX2 58 "ExactSimplex$Problem" "names" "I", Cond.fieldLink RX2 18 "ExactSimplex$Solver" "goal" "[I", Cond.fieldLink RX2 130 "ExactSimplex$Problem" "highs" "[I", Cond.fieldLink RX2 116 "ExactSimplex$Problem" "lows" "[I", Cond.methodLink RX2 126 yX0_begin, Cond.instanceMethod yX0_begin, Cond.selects RX0 yX0_begin yX0_begin, Cond.initialized RX0, Cond.code yX0_begin cX0_begin 3 none, Cond.methodLink RX0 38 Lib.Math.min.name, Cond.static Lib.Math.min.name, Cond.initialized "java/lang/Math", Cond.code Lib.Math.min.name Lib.Math.min.code 2 (some .int), Cond.fieldLink RX0 44 "ExactSimplex$Dictionary" "columns" "I", Cond.fieldLink RX0 48 "ExactSimplex$Dictionary" "lines" "I", Cond.fieldLink RX0 34 "ExactSimplex$Dictionary" "under" "J", Cond.fieldLink RX0 24 "ExactSimplex$Dictionary" "outside" "[I", Cond.methodLink RX0 51 yX0_thawAll, Cond.instanceMethod yX0_thawAll, Cond.selects RX0 yX0_thawAll yX0_thawAll, Cond.code yX0_thawAll cX0_thawAll 2 none, Cond.fieldLink RX0 27 "ExactSimplex$Dictionary" "frozen" "[Z"]
def wsX4_least_r3 : List Cond := [Cond.methodLink RX2 97 yX2_aimAt, Cond.instanceMethod yX2_aimAt, Cond.selects RX2 yX2_aimAt yX2_aimAt, Cond.code yX2_aimAt cX2_aimAt 4 none, Cond.methodLink RX2 133 yX0_addAtMost, Cond.instanceMethod yX0_addAtMost, Cond.selects RX0 yX0_addAtMost yX0_addAtMost, Cond.code yX0_addAtMost cX0_addAtMost 5 none, Cond.fieldLink RX0 13 "ExactSimplex$Dictionary" "table" "[[J", Cond.fieldLink RX0 16 "ExactSimplex$Dictionary" "rests" "[J", Cond.fieldLink RX0 20 "ExactSimplex$Dictionary" "basic" "[I", Cond.methodLink RX2 137 yX2_addRow, Cond.instanceMethod yX2_addRow, Cond.selects RX2 yX2_addRow yX2_addRow, Cond.code yX2_addRow cX2_addRow 5 none, Cond.fieldLink RX2 71 "ExactSimplex$Problem" "factors" "[[I", Cond.fieldLink RX2 75 "ExactSimplex$Problem" "rights" "[I", Cond.methodLink RX2 144 yX1_limitsFromAbove, Cond.instanceMethod yX1_limitsFromAbove, Cond.selects RX1 yX1_limitsFromAbove yX1_limitsFromAbove, Cond.initialized RX1, Cond.code yX1_limitsFromAbove cX1_limitsFromAbove 2 (some .boolean), Cond.fieldLink RX1 21 "ExactSimplex$Problem" "senses" "[I", Cond.methodLink RX2 147 yX1_limitsFromBelow]
def wsX4_least_r4 : List Cond := [Cond.instanceMethod yX1_limitsFromBelow, Cond.selects RX1 yX1_limitsFromBelow yX1_limitsFromBelow, Cond.code yX1_limitsFromBelow cX1_limitsFromBelow 2 (some .boolean), Cond.methodLink RX2 140 yX0_findPoint, Cond.instanceMethod yX0_findPoint, Cond.selects RX0 yX0_findPoint yX0_findPoint, Cond.code yX0_findPoint cX0_findPoint 4 (some .boolean), Cond.constant RX0 54 (100000), Cond.methodLink RX0 55 yX0_brokenLine, Cond.instanceMethod yX0_brokenLine, Cond.selects RX0 yX0_brokenLine yX0_brokenLine, Cond.code yX0_brokenLine cX0_brokenLine 3 (some .int), Cond.methodLink RX0 59 yX0_mendingColumn, Cond.instanceMethod yX0_mendingColumn, Cond.selects RX0 yX0_mendingColumn yX0_mendingColumn, Cond.code yX0_mendingColumn cX0_mendingColumn 4 (some .int), Cond.methodLink RX0 63 yX0_pivot, Cond.instanceMethod yX0_pivot, Cond.selects RX0 yX0_pivot yX0_pivot, Cond.code yX0_pivot cX0_pivot 8 none, Cond.methodLink RX0 89 Lib.MathLoose.abs_long.x, Cond.static Lib.MathLoose.abs_long.x, Cond.code Lib.MathLoose.abs_long.x Lib.MathLoose.abs_long.code 2 (some .long), Cond.methodLink RX0 81 yX0_sweepLine]
def wsX4_least_r5 : List Cond := [Cond.instanceMethod yX0_sweepLine, Cond.selects RX0 yX0_sweepLine yX0_sweepLine, Cond.code yX0_sweepLine cX0_sweepLine 11 none, Cond.methodLink RX0 85 yX0_turnLine, Cond.instanceMethod yX0_turnLine, Cond.selects RX0 yX0_turnLine yX0_turnLine, Cond.code yX0_turnLine cX0_turnLine 3 none, Cond.methodLink RX4 99 yX2_leastCost, Cond.instanceMethod yX2_leastCost, Cond.selects RX2 yX2_leastCost yX2_leastCost, Cond.code yX2_leastCost cX2_leastCost 5 (some .long), Cond.fieldLink RX2 64 "ExactSimplex$Problem" "costs" "[I", Cond.fieldLink RX2 22 "ExactSimplex$Solver" "firstBest" "[J", Cond.fieldLink RX2 26 "ExactSimplex$Solver" "firstBestUnder" "J", Cond.methodLink RX2 55 yX2_findFirstBest, Cond.instanceMethod yX2_findFirstBest, Cond.selects RX2 yX2_findFirstBest yX2_findFirstBest, Cond.code yX2_findFirstBest cX2_findFirstBest 2 none, Cond.fieldLink RX2 38 "ExactSimplex$Solver" "firstBestKnown" "Z", Cond.methodLink RX2 78 yX0_thawAll, Cond.methodLink RX2 81 yX2_keepToBest, Cond.instanceMethod yX2_keepToBest, Cond.selects RX2 yX2_keepToBest yX2_keepToBest, Cond.code yX2_keepToBest cX2_keepToBest 1 none]
def wsX4_least_r6 : List Cond := [Cond.methodLink RX2 101 yX0_minimise, Cond.instanceMethod yX0_minimise, Cond.selects RX0 yX0_minimise yX0_minimise, Cond.code yX0_minimise cX0_minimise 5 none, Cond.methodLink RX0 67 yX0_findSlopes, Cond.instanceMethod yX0_findSlopes, Cond.selects RX0 yX0_findSlopes yX0_findSlopes, Cond.code yX0_findSlopes cX0_findSlopes 5 none, Cond.fieldLink RX0 31 "ExactSimplex$Dictionary" "slopes" "[J", Cond.methodLink RX0 71 yX0_fallingColumn, Cond.instanceMethod yX0_fallingColumn, Cond.selects RX0 yX0_fallingColumn yX0_fallingColumn, Cond.code yX0_fallingColumn cX0_fallingColumn 3 (some .int), Cond.methodLink RX0 74 yX0_firstStop, Cond.instanceMethod yX0_firstStop, Cond.selects RX0 yX0_firstStop yX0_firstStop, Cond.code yX0_firstStop cX0_firstStop 4 (some .int), Cond.methodLink RX0 77 yX0_stopsBefore, Cond.instanceMethod yX0_stopsBefore, Cond.selects RX0 yX0_stopsBefore yX0_stopsBefore, Cond.code yX0_stopsBefore cX0_stopsBefore 8 (some .boolean), Cond.methodLink RX2 113 yX0_freezeDear, Cond.instanceMethod yX0_freezeDear, Cond.selects RX0 yX0_freezeDear yX0_freezeDear]
def wsX4_least_r7 : List Cond := [Cond.code yX0_freezeDear cX0_freezeDear 2 none, Cond.methodLink RX2 105 yX2_numeratorOf, Cond.instanceMethod yX2_numeratorOf, Cond.selects RX2 yX2_numeratorOf yX2_numeratorOf, Cond.code yX2_numeratorOf cX2_numeratorOf 2 (some .long), Cond.methodLink RX2 109 yX0_denominator, Cond.instanceMethod yX0_denominator, Cond.selects RX0 yX0_denominator yX0_denominator, Cond.code yX0_denominator cX0_denominator 1 (some .long), Cond.methodLink RX2 119 yX0_numerator, Cond.instanceMethod yX0_numerator, Cond.selects RX0 yX0_numerator yX0_numerator, Cond.code yX0_numerator cX0_numerator 3 (some .long), Cond.methodLink RX2 67 yX2_partOf, Cond.static yX2_partOf, Cond.code yX2_partOf cX2_partOf 7 (some .long), Cond.methodLink RX2 150 yX2_greatestDivisor, Cond.static yX2_greatestDivisor, Cond.code yX2_greatestDivisor cX2_greatestDivisor 11 (some .long), Cond.methodLink RX2 154 Lib.MathLoose.abs_long.x]
def wsX4_least : List Cond := .code yX4_least cX4_least 2 (some .long) :: ((wsX4_least_r1 ++ (wsX4_least_r2 ++ (wsX4_least_r3 ++ (wsX4_least_r4 ++ (wsX4_least_r5 ++ (wsX4_least_r6 ++ wsX4_least_r7)))))) ++ wsX40 ++ wsX20 ++ wsX10 ++ wsX00)
def wsX4_value_r1 : List Cond := [Cond.fieldLink RX4 10 "ExactSimplex" "problem" "LExactSimplex$Problem;", Cond.constantLong RX4 103 (-1), Cond.constantLong RX4 95 (-2), Cond.fieldLink RX4 21 "ExactSimplex" "solver" "LExactSimplex$Solver;", Cond.constantLong RX4 97 (-3), Cond.methodLink RX4 43 yX1_hasName, Cond.instanceMethod yX1_hasName, Cond.selects RX1 yX1_hasName yX1_hasName, Cond.initialized RX1, Cond.code yX1_hasName cX1_hasName 2 (some .boolean), Cond.fieldLink RX1 36 "ExactSimplex$Problem" "names" "I", Cond.methodLink RX4 92 yX4_isZeroOrOne, Cond.static yX4_isZeroOrOne, Cond.initialized RX4, Cond.code yX4_isZeroOrOne cX4_isZeroOrOne 1 (some .boolean), Cond.methodLink RX4 88 yX2_hasPoint, Cond.instanceMethod yX2_hasPoint, Cond.selects RX2 yX2_hasPoint yX2_hasPoint, Cond.initialized RX2, Cond.code yX2_hasPoint cX2_hasPoint 1 (some .boolean), Cond.fieldLink RX2 34 "ExactSimplex$Solver" "pointSought" "Z", Cond.fieldLink RX2 52 "ExactSimplex$Solver" "pointThere" "Z", Cond.methodLink RX2 44 yX2_allRows, Cond.instanceMethod yX2_allRows]
def wsX4_value_r2 : List Cond := [Cond.selects RX2 yX2_allRows yX2_allRows, Cond.code yX2_allRows cX2_allRows 3 (some .int), Cond.fieldLink RX2 30 "ExactSimplex$Solver" "problem" "LExactSimplex$Problem;", Cond.fieldLink RX2 91 "ExactSimplex$Problem" "rows" "I", Cond.fieldLink RX2 122 "ExactSimplex$Problem" "there" "[Z", Cond.methodLink RX2 48 yX2_canKeep, Cond.instanceMethod yX2_canKeep, Cond.selects RX2 yX2_canKeep yX2_canKeep, Cond.code yX2_canKeep cX2_canKeep 3 (some .boolean), Cond.fieldLink RX2 12 "ExactSimplex$Solver" "dictionary" "LExactSimplex$Dictionary;", Cond.fieldLink RX2 58 "ExactSimplex$Problem" "names" "I", Cond.fieldLink RX2 18 "ExactSimplex$Solver" "goal" "[I", Cond.fieldLink RX2 130 "ExactSimplex$Problem" "highs" "[I", Cond.fieldLink RX2 116 "ExactSimplex$Problem" "lows" "[I", Cond.methodLink RX2 126 yX0_begin, Cond.instanceMethod yX0_begin, Cond.selects RX0 yX0_begin yX0_begin, Cond.initialized RX0, Cond.code yX0_begin cX0_begin 3 none, Cond.methodLink RX0 38 Lib.Math.min.name, Cond.static Lib.Math.min.name, Cond.initialized "java/lang/Math", Cond.code Lib.Math.min.name Lib.Math.min.code 2 (some .int), Cond.fieldLink RX0 44 "ExactSimplex$Dictionary" "columns" "I"]
def wsX4_value_r3 : List Cond := [Cond.fieldLink RX0 48 "ExactSimplex$Dictionary" "lines" "I", Cond.fieldLink RX0 34 "ExactSimplex$Dictionary" "under" "J", Cond.fieldLink RX0 24 "ExactSimplex$Dictionary" "outside" "[I", Cond.methodLink RX0 51 yX0_thawAll, Cond.instanceMethod yX0_thawAll, Cond.selects RX0 yX0_thawAll yX0_thawAll, Cond.code yX0_thawAll cX0_thawAll 2 none, Cond.fieldLink RX0 27 "ExactSimplex$Dictionary" "frozen" "[Z", Cond.methodLink RX2 97 yX2_aimAt, Cond.instanceMethod yX2_aimAt, Cond.selects RX2 yX2_aimAt yX2_aimAt, Cond.code yX2_aimAt cX2_aimAt 4 none, Cond.methodLink RX2 133 yX0_addAtMost, Cond.instanceMethod yX0_addAtMost, Cond.selects RX0 yX0_addAtMost yX0_addAtMost, Cond.code yX0_addAtMost cX0_addAtMost 5 none, Cond.fieldLink RX0 13 "ExactSimplex$Dictionary" "table" "[[J", Cond.fieldLink RX0 16 "ExactSimplex$Dictionary" "rests" "[J", Cond.fieldLink RX0 20 "ExactSimplex$Dictionary" "basic" "[I", Cond.methodLink RX2 137 yX2_addRow, Cond.instanceMethod yX2_addRow, Cond.selects RX2 yX2_addRow yX2_addRow, Cond.code yX2_addRow cX2_addRow 5 none, Cond.fieldLink RX2 71 "ExactSimplex$Problem" "factors" "[[I"]
def wsX4_value_r4 : List Cond := [Cond.fieldLink RX2 75 "ExactSimplex$Problem" "rights" "[I", Cond.methodLink RX2 144 yX1_limitsFromAbove, Cond.instanceMethod yX1_limitsFromAbove, Cond.selects RX1 yX1_limitsFromAbove yX1_limitsFromAbove, Cond.code yX1_limitsFromAbove cX1_limitsFromAbove 2 (some .boolean), Cond.fieldLink RX1 21 "ExactSimplex$Problem" "senses" "[I", Cond.methodLink RX2 147 yX1_limitsFromBelow, Cond.instanceMethod yX1_limitsFromBelow, Cond.selects RX1 yX1_limitsFromBelow yX1_limitsFromBelow, Cond.code yX1_limitsFromBelow cX1_limitsFromBelow 2 (some .boolean), Cond.methodLink RX2 140 yX0_findPoint, Cond.instanceMethod yX0_findPoint, Cond.selects RX0 yX0_findPoint yX0_findPoint, Cond.code yX0_findPoint cX0_findPoint 4 (some .boolean), Cond.constant RX0 54 (100000), Cond.methodLink RX0 55 yX0_brokenLine, Cond.instanceMethod yX0_brokenLine, Cond.selects RX0 yX0_brokenLine yX0_brokenLine, Cond.code yX0_brokenLine cX0_brokenLine 3 (some .int), Cond.methodLink RX0 59 yX0_mendingColumn, Cond.instanceMethod yX0_mendingColumn, Cond.selects RX0 yX0_mendingColumn yX0_mendingColumn, Cond.code yX0_mendingColumn cX0_mendingColumn 4 (some .int), Cond.methodLink RX0 63 yX0_pivot]
def wsX4_value_r5 : List Cond := [Cond.instanceMethod yX0_pivot, Cond.selects RX0 yX0_pivot yX0_pivot, Cond.code yX0_pivot cX0_pivot 8 none, Cond.methodLink RX0 89 Lib.MathLoose.abs_long.x, Cond.static Lib.MathLoose.abs_long.x, Cond.code Lib.MathLoose.abs_long.x Lib.MathLoose.abs_long.code 2 (some .long), Cond.methodLink RX0 81 yX0_sweepLine, Cond.instanceMethod yX0_sweepLine, Cond.selects RX0 yX0_sweepLine yX0_sweepLine, Cond.code yX0_sweepLine cX0_sweepLine 11 none, Cond.methodLink RX0 85 yX0_turnLine, Cond.instanceMethod yX0_turnLine, Cond.selects RX0 yX0_turnLine yX0_turnLine, Cond.code yX0_turnLine cX0_turnLine 3 none, Cond.methodLink RX4 105 yX2_firstBestOf, Cond.instanceMethod yX2_firstBestOf, Cond.selects RX2 yX2_firstBestOf yX2_firstBestOf, Cond.code yX2_firstBestOf cX2_firstBestOf 3 (some .long), Cond.fieldLink RX2 22 "ExactSimplex$Solver" "firstBest" "[J", Cond.fieldLink RX2 26 "ExactSimplex$Solver" "firstBestUnder" "J", Cond.methodLink RX2 55 yX2_findFirstBest, Cond.instanceMethod yX2_findFirstBest, Cond.selects RX2 yX2_findFirstBest yX2_findFirstBest, Cond.code yX2_findFirstBest cX2_findFirstBest 2 none]
def wsX4_value_r6 : List Cond := [Cond.fieldLink RX2 38 "ExactSimplex$Solver" "firstBestKnown" "Z", Cond.methodLink RX2 78 yX0_thawAll, Cond.methodLink RX2 81 yX2_keepToBest, Cond.instanceMethod yX2_keepToBest, Cond.selects RX2 yX2_keepToBest yX2_keepToBest, Cond.code yX2_keepToBest cX2_keepToBest 1 none, Cond.fieldLink RX2 64 "ExactSimplex$Problem" "costs" "[I", Cond.methodLink RX2 101 yX0_minimise, Cond.instanceMethod yX0_minimise, Cond.selects RX0 yX0_minimise yX0_minimise, Cond.code yX0_minimise cX0_minimise 5 none, Cond.methodLink RX0 67 yX0_findSlopes, Cond.instanceMethod yX0_findSlopes, Cond.selects RX0 yX0_findSlopes yX0_findSlopes, Cond.code yX0_findSlopes cX0_findSlopes 5 none, Cond.fieldLink RX0 31 "ExactSimplex$Dictionary" "slopes" "[J", Cond.methodLink RX0 71 yX0_fallingColumn, Cond.instanceMethod yX0_fallingColumn, Cond.selects RX0 yX0_fallingColumn yX0_fallingColumn, Cond.code yX0_fallingColumn cX0_fallingColumn 3 (some .int), Cond.methodLink RX0 74 yX0_firstStop, Cond.instanceMethod yX0_firstStop, Cond.selects RX0 yX0_firstStop yX0_firstStop, Cond.code yX0_firstStop cX0_firstStop 4 (some .int)]
def wsX4_value_r7 : List Cond := [Cond.methodLink RX0 77 yX0_stopsBefore, Cond.instanceMethod yX0_stopsBefore, Cond.selects RX0 yX0_stopsBefore yX0_stopsBefore, Cond.code yX0_stopsBefore cX0_stopsBefore 8 (some .boolean), Cond.methodLink RX2 113 yX0_freezeDear, Cond.instanceMethod yX0_freezeDear, Cond.selects RX0 yX0_freezeDear yX0_freezeDear, Cond.code yX0_freezeDear cX0_freezeDear 2 none, Cond.methodLink RX2 105 yX2_numeratorOf, Cond.instanceMethod yX2_numeratorOf, Cond.selects RX2 yX2_numeratorOf yX2_numeratorOf, Cond.code yX2_numeratorOf cX2_numeratorOf 2 (some .long), Cond.methodLink RX2 109 yX0_denominator, Cond.instanceMethod yX0_denominator, Cond.selects RX0 yX0_denominator yX0_denominator, Cond.code yX0_denominator cX0_denominator 1 (some .long), Cond.methodLink RX2 119 yX0_numerator, Cond.instanceMethod yX0_numerator, Cond.selects RX0 yX0_numerator yX0_numerator, Cond.code yX0_numerator cX0_numerator 3 (some .long), Cond.methodLink RX2 67 yX2_partOf, Cond.static yX2_partOf, Cond.code yX2_partOf cX2_partOf 7 (some .long), Cond.methodLink RX2 150 yX2_greatestDivisor]
def wsX4_value_r8 : List Cond := [Cond.static yX2_greatestDivisor, Cond.code yX2_greatestDivisor cX2_greatestDivisor 11 (some .long), Cond.methodLink RX2 154 Lib.MathLoose.abs_long.x]
def wsX4_value : List Cond := .code yX4_value cX4_value 3 (some .long) :: ((wsX4_value_r1 ++ (wsX4_value_r2 ++ (wsX4_value_r3 ++ (wsX4_value_r4 ++ (wsX4_value_r5 ++ (wsX4_value_r6 ++ (wsX4_value_r7 ++ wsX4_value_r8))))))) ++ wsX40 ++ wsX10 ++ wsX20 ++ wsX00)
def wsX4_tight_r1 : List Cond := [Cond.fieldLink RX4 10 "ExactSimplex" "problem" "LExactSimplex$Problem;", Cond.fieldLink RX4 21 "ExactSimplex" "solver" "LExactSimplex$Solver;", Cond.methodLink RX4 63 yX1_hasRow, Cond.instanceMethod yX1_hasRow, Cond.selects RX1 yX1_hasRow yX1_hasRow, Cond.initialized RX1, Cond.code yX1_hasRow cX1_hasRow 2 (some .boolean), Cond.fieldLink RX1 40 "ExactSimplex$Problem" "rows" "I", Cond.fieldLink RX1 32 "ExactSimplex$Problem" "there" "[Z", Cond.methodLink RX4 88 yX2_hasPoint, Cond.instanceMethod yX2_hasPoint, Cond.selects RX2 yX2_hasPoint yX2_hasPoint, Cond.initialized RX2, Cond.code yX2_hasPoint cX2_hasPoint 1 (some .boolean), Cond.fieldLink RX2 34 "ExactSimplex$Solver" "pointSought" "Z", Cond.fieldLink RX2 52 "ExactSimplex$Solver" "pointThere" "Z", Cond.methodLink RX2 44 yX2_allRows, Cond.instanceMethod yX2_allRows, Cond.selects RX2 yX2_allRows yX2_allRows, Cond.code yX2_allRows cX2_allRows 3 (some .int), Cond.fieldLink RX2 30 "ExactSimplex$Solver" "problem" "LExactSimplex$Problem;", Cond.fieldLink RX2 91 "ExactSimplex$Problem" "rows" "I", Cond.fieldLink RX2 122 "ExactSimplex$Problem" "there" "[Z", Cond.methodLink RX2 48 yX2_canKeep]
def wsX4_tight_r2 : List Cond := [Cond.instanceMethod yX2_canKeep, Cond.selects RX2 yX2_canKeep yX2_canKeep, Cond.code yX2_canKeep cX2_canKeep 3 (some .boolean), Cond.fieldLink RX2 12 "ExactSimplex$Solver" "dictionary" "LExactSimplex$Dictionary;", Cond.fieldLink RX2 58 "ExactSimplex$Problem" "names" "I", Cond.fieldLink RX2 18 "ExactSimplex$Solver" "goal" "[I", Cond.fieldLink RX2 130 "ExactSimplex$Problem" "highs" "[I", Cond.fieldLink RX2 116 "ExactSimplex$Problem" "lows" "[I", Cond.methodLink RX2 126 yX0_begin, Cond.instanceMethod yX0_begin, Cond.selects RX0 yX0_begin yX0_begin, Cond.initialized RX0, Cond.code yX0_begin cX0_begin 3 none, Cond.methodLink RX0 38 Lib.Math.min.name, Cond.static Lib.Math.min.name, Cond.initialized "java/lang/Math", Cond.code Lib.Math.min.name Lib.Math.min.code 2 (some .int), Cond.fieldLink RX0 44 "ExactSimplex$Dictionary" "columns" "I", Cond.fieldLink RX0 48 "ExactSimplex$Dictionary" "lines" "I", Cond.fieldLink RX0 34 "ExactSimplex$Dictionary" "under" "J", Cond.fieldLink RX0 24 "ExactSimplex$Dictionary" "outside" "[I", Cond.methodLink RX0 51 yX0_thawAll, Cond.instanceMethod yX0_thawAll, Cond.selects RX0 yX0_thawAll yX0_thawAll]
def wsX4_tight_r3 : List Cond := [Cond.code yX0_thawAll cX0_thawAll 2 none, Cond.fieldLink RX0 27 "ExactSimplex$Dictionary" "frozen" "[Z", Cond.methodLink RX2 97 yX2_aimAt, Cond.instanceMethod yX2_aimAt, Cond.selects RX2 yX2_aimAt yX2_aimAt, Cond.code yX2_aimAt cX2_aimAt 4 none, Cond.methodLink RX2 133 yX0_addAtMost, Cond.instanceMethod yX0_addAtMost, Cond.selects RX0 yX0_addAtMost yX0_addAtMost, Cond.code yX0_addAtMost cX0_addAtMost 5 none, Cond.fieldLink RX0 13 "ExactSimplex$Dictionary" "table" "[[J", Cond.fieldLink RX0 16 "ExactSimplex$Dictionary" "rests" "[J", Cond.fieldLink RX0 20 "ExactSimplex$Dictionary" "basic" "[I", Cond.methodLink RX2 137 yX2_addRow, Cond.instanceMethod yX2_addRow, Cond.selects RX2 yX2_addRow yX2_addRow, Cond.code yX2_addRow cX2_addRow 5 none, Cond.fieldLink RX2 71 "ExactSimplex$Problem" "factors" "[[I", Cond.fieldLink RX2 75 "ExactSimplex$Problem" "rights" "[I", Cond.methodLink RX2 144 yX1_limitsFromAbove, Cond.instanceMethod yX1_limitsFromAbove, Cond.selects RX1 yX1_limitsFromAbove yX1_limitsFromAbove, Cond.code yX1_limitsFromAbove cX1_limitsFromAbove 2 (some .boolean), Cond.fieldLink RX1 21 "ExactSimplex$Problem" "senses" "[I"]
def wsX4_tight_r4 : List Cond := [Cond.methodLink RX2 147 yX1_limitsFromBelow, Cond.instanceMethod yX1_limitsFromBelow, Cond.selects RX1 yX1_limitsFromBelow yX1_limitsFromBelow, Cond.code yX1_limitsFromBelow cX1_limitsFromBelow 2 (some .boolean), Cond.methodLink RX2 140 yX0_findPoint, Cond.instanceMethod yX0_findPoint, Cond.selects RX0 yX0_findPoint yX0_findPoint, Cond.code yX0_findPoint cX0_findPoint 4 (some .boolean), Cond.constant RX0 54 (100000), Cond.methodLink RX0 55 yX0_brokenLine, Cond.instanceMethod yX0_brokenLine, Cond.selects RX0 yX0_brokenLine yX0_brokenLine, Cond.code yX0_brokenLine cX0_brokenLine 3 (some .int), Cond.methodLink RX0 59 yX0_mendingColumn, Cond.instanceMethod yX0_mendingColumn, Cond.selects RX0 yX0_mendingColumn yX0_mendingColumn, Cond.code yX0_mendingColumn cX0_mendingColumn 4 (some .int), Cond.methodLink RX0 63 yX0_pivot, Cond.instanceMethod yX0_pivot, Cond.selects RX0 yX0_pivot yX0_pivot, Cond.code yX0_pivot cX0_pivot 8 none, Cond.methodLink RX0 89 Lib.MathLoose.abs_long.x, Cond.static Lib.MathLoose.abs_long.x, Cond.code Lib.MathLoose.abs_long.x Lib.MathLoose.abs_long.code 2 (some .long)]
def wsX4_tight_r5 : List Cond := [Cond.methodLink RX0 81 yX0_sweepLine, Cond.instanceMethod yX0_sweepLine, Cond.selects RX0 yX0_sweepLine yX0_sweepLine, Cond.code yX0_sweepLine cX0_sweepLine 11 none, Cond.methodLink RX0 85 yX0_turnLine, Cond.instanceMethod yX0_turnLine, Cond.selects RX0 yX0_turnLine yX0_turnLine, Cond.code yX0_turnLine cX0_turnLine 3 none, Cond.methodLink RX4 109 yX2_isTight, Cond.instanceMethod yX2_isTight, Cond.selects RX2 yX2_isTight yX2_isTight, Cond.code yX2_isTight cX2_isTight 5 (some .boolean), Cond.fieldLink RX2 22 "ExactSimplex$Solver" "firstBest" "[J", Cond.fieldLink RX2 26 "ExactSimplex$Solver" "firstBestUnder" "J", Cond.methodLink RX2 55 yX2_findFirstBest, Cond.instanceMethod yX2_findFirstBest, Cond.selects RX2 yX2_findFirstBest yX2_findFirstBest, Cond.code yX2_findFirstBest cX2_findFirstBest 2 none, Cond.fieldLink RX2 38 "ExactSimplex$Solver" "firstBestKnown" "Z", Cond.methodLink RX2 78 yX0_thawAll, Cond.methodLink RX2 81 yX2_keepToBest, Cond.instanceMethod yX2_keepToBest, Cond.selects RX2 yX2_keepToBest yX2_keepToBest, Cond.code yX2_keepToBest cX2_keepToBest 1 none]
def wsX4_tight_r6 : List Cond := [Cond.fieldLink RX2 64 "ExactSimplex$Problem" "costs" "[I", Cond.methodLink RX2 101 yX0_minimise, Cond.instanceMethod yX0_minimise, Cond.selects RX0 yX0_minimise yX0_minimise, Cond.code yX0_minimise cX0_minimise 5 none, Cond.methodLink RX0 67 yX0_findSlopes, Cond.instanceMethod yX0_findSlopes, Cond.selects RX0 yX0_findSlopes yX0_findSlopes, Cond.code yX0_findSlopes cX0_findSlopes 5 none, Cond.fieldLink RX0 31 "ExactSimplex$Dictionary" "slopes" "[J", Cond.methodLink RX0 71 yX0_fallingColumn, Cond.instanceMethod yX0_fallingColumn, Cond.selects RX0 yX0_fallingColumn yX0_fallingColumn, Cond.code yX0_fallingColumn cX0_fallingColumn 3 (some .int), Cond.methodLink RX0 74 yX0_firstStop, Cond.instanceMethod yX0_firstStop, Cond.selects RX0 yX0_firstStop yX0_firstStop, Cond.code yX0_firstStop cX0_firstStop 4 (some .int), Cond.methodLink RX0 77 yX0_stopsBefore, Cond.instanceMethod yX0_stopsBefore, Cond.selects RX0 yX0_stopsBefore yX0_stopsBefore, Cond.code yX0_stopsBefore cX0_stopsBefore 8 (some .boolean), Cond.methodLink RX2 113 yX0_freezeDear, Cond.instanceMethod yX0_freezeDear]
def wsX4_tight_r7 : List Cond := [Cond.selects RX0 yX0_freezeDear yX0_freezeDear, Cond.code yX0_freezeDear cX0_freezeDear 2 none, Cond.methodLink RX2 105 yX2_numeratorOf, Cond.instanceMethod yX2_numeratorOf, Cond.selects RX2 yX2_numeratorOf yX2_numeratorOf, Cond.code yX2_numeratorOf cX2_numeratorOf 2 (some .long), Cond.methodLink RX2 109 yX0_denominator, Cond.instanceMethod yX0_denominator, Cond.selects RX0 yX0_denominator yX0_denominator, Cond.code yX0_denominator cX0_denominator 1 (some .long), Cond.methodLink RX2 119 yX0_numerator, Cond.instanceMethod yX0_numerator, Cond.selects RX0 yX0_numerator yX0_numerator, Cond.code yX0_numerator cX0_numerator 3 (some .long)]
def wsX4_tight : List Cond := .code yX4_tight cX4_tight 2 (some .int) :: ((wsX4_tight_r1 ++ (wsX4_tight_r2 ++ (wsX4_tight_r3 ++ (wsX4_tight_r4 ++ (wsX4_tight_r5 ++ (wsX4_tight_r6 ++ wsX4_tight_r7)))))) ++ wsX40 ++ wsX10 ++ wsX20 ++ wsX00)
def wsX4_refusalOfEnd_r1 : List Cond := [Cond.fieldLink RX4 10 "ExactSimplex" "problem" "LExactSimplex$Problem;", Cond.fieldLink RX4 21 "ExactSimplex" "solver" "LExactSimplex$Solver;", Cond.methodLink RX4 43 yX1_hasName, Cond.instanceMethod yX1_hasName, Cond.selects RX1 yX1_hasName yX1_hasName, Cond.initialized RX1, Cond.code yX1_hasName cX1_hasName 2 (some .boolean), Cond.fieldLink RX1 36 "ExactSimplex$Problem" "names" "I", Cond.methodLink RX4 92 yX4_isZeroOrOne, Cond.static yX4_isZeroOrOne, Cond.initialized RX4, Cond.code yX4_isZeroOrOne cX4_isZeroOrOne 1 (some .boolean), Cond.methodLink RX4 88 yX2_hasPoint, Cond.instanceMethod yX2_hasPoint, Cond.selects RX2 yX2_hasPoint yX2_hasPoint, Cond.initialized RX2, Cond.code yX2_hasPoint cX2_hasPoint 1 (some .boolean), Cond.fieldLink RX2 34 "ExactSimplex$Solver" "pointSought" "Z", Cond.fieldLink RX2 52 "ExactSimplex$Solver" "pointThere" "Z", Cond.methodLink RX2 44 yX2_allRows, Cond.instanceMethod yX2_allRows, Cond.selects RX2 yX2_allRows yX2_allRows, Cond.code yX2_allRows cX2_allRows 3 (some .int), Cond.fieldLink RX2 30 "ExactSimplex$Solver" "problem" "LExactSimplex$Problem;"]
def wsX4_refusalOfEnd_r2 : List Cond := [Cond.fieldLink RX2 91 "ExactSimplex$Problem" "rows" "I", Cond.fieldLink RX2 122 "ExactSimplex$Problem" "there" "[Z", Cond.methodLink RX2 48 yX2_canKeep, Cond.instanceMethod yX2_canKeep, Cond.selects RX2 yX2_canKeep yX2_canKeep, Cond.code yX2_canKeep cX2_canKeep 3 (some .boolean), Cond.fieldLink RX2 12 "ExactSimplex$Solver" "dictionary" "LExactSimplex$Dictionary;", Cond.fieldLink RX2 58 "ExactSimplex$Problem" "names" "I", Cond.fieldLink RX2 18 "ExactSimplex$Solver" "goal" "[I", Cond.fieldLink RX2 130 "ExactSimplex$Problem" "highs" "[I", Cond.fieldLink RX2 116 "ExactSimplex$Problem" "lows" "[I", Cond.methodLink RX2 126 yX0_begin, Cond.instanceMethod yX0_begin, Cond.selects RX0 yX0_begin yX0_begin, Cond.initialized RX0, Cond.code yX0_begin cX0_begin 3 none, Cond.methodLink RX0 38 Lib.Math.min.name, Cond.static Lib.Math.min.name, Cond.initialized "java/lang/Math", Cond.code Lib.Math.min.name Lib.Math.min.code 2 (some .int), Cond.fieldLink RX0 44 "ExactSimplex$Dictionary" "columns" "I", Cond.fieldLink RX0 48 "ExactSimplex$Dictionary" "lines" "I", Cond.fieldLink RX0 34 "ExactSimplex$Dictionary" "under" "J", Cond.fieldLink RX0 24 "ExactSimplex$Dictionary" "outside" "[I"]
def wsX4_refusalOfEnd_r3 : List Cond := [Cond.methodLink RX0 51 yX0_thawAll, Cond.instanceMethod yX0_thawAll, Cond.selects RX0 yX0_thawAll yX0_thawAll, Cond.code yX0_thawAll cX0_thawAll 2 none, Cond.fieldLink RX0 27 "ExactSimplex$Dictionary" "frozen" "[Z", Cond.methodLink RX2 97 yX2_aimAt, Cond.instanceMethod yX2_aimAt, Cond.selects RX2 yX2_aimAt yX2_aimAt, Cond.code yX2_aimAt cX2_aimAt 4 none, Cond.methodLink RX2 133 yX0_addAtMost, Cond.instanceMethod yX0_addAtMost, Cond.selects RX0 yX0_addAtMost yX0_addAtMost, Cond.code yX0_addAtMost cX0_addAtMost 5 none, Cond.fieldLink RX0 13 "ExactSimplex$Dictionary" "table" "[[J", Cond.fieldLink RX0 16 "ExactSimplex$Dictionary" "rests" "[J", Cond.fieldLink RX0 20 "ExactSimplex$Dictionary" "basic" "[I", Cond.methodLink RX2 137 yX2_addRow, Cond.instanceMethod yX2_addRow, Cond.selects RX2 yX2_addRow yX2_addRow, Cond.code yX2_addRow cX2_addRow 5 none, Cond.fieldLink RX2 71 "ExactSimplex$Problem" "factors" "[[I", Cond.fieldLink RX2 75 "ExactSimplex$Problem" "rights" "[I", Cond.methodLink RX2 144 yX1_limitsFromAbove, Cond.instanceMethod yX1_limitsFromAbove]
def wsX4_refusalOfEnd_r4 : List Cond := [Cond.selects RX1 yX1_limitsFromAbove yX1_limitsFromAbove, Cond.code yX1_limitsFromAbove cX1_limitsFromAbove 2 (some .boolean), Cond.fieldLink RX1 21 "ExactSimplex$Problem" "senses" "[I", Cond.methodLink RX2 147 yX1_limitsFromBelow, Cond.instanceMethod yX1_limitsFromBelow, Cond.selects RX1 yX1_limitsFromBelow yX1_limitsFromBelow, Cond.code yX1_limitsFromBelow cX1_limitsFromBelow 2 (some .boolean), Cond.methodLink RX2 140 yX0_findPoint, Cond.instanceMethod yX0_findPoint, Cond.selects RX0 yX0_findPoint yX0_findPoint, Cond.code yX0_findPoint cX0_findPoint 4 (some .boolean), Cond.constant RX0 54 (100000), Cond.methodLink RX0 55 yX0_brokenLine, Cond.instanceMethod yX0_brokenLine, Cond.selects RX0 yX0_brokenLine yX0_brokenLine, Cond.code yX0_brokenLine cX0_brokenLine 3 (some .int), Cond.methodLink RX0 59 yX0_mendingColumn, Cond.instanceMethod yX0_mendingColumn, Cond.selects RX0 yX0_mendingColumn yX0_mendingColumn, Cond.code yX0_mendingColumn cX0_mendingColumn 4 (some .int), Cond.methodLink RX0 63 yX0_pivot, Cond.instanceMethod yX0_pivot, Cond.selects RX0 yX0_pivot yX0_pivot, Cond.code yX0_pivot cX0_pivot 8 none]
def wsX4_refusalOfEnd_r5 : List Cond := [Cond.methodLink RX0 89 Lib.MathLoose.abs_long.x, Cond.static Lib.MathLoose.abs_long.x, Cond.code Lib.MathLoose.abs_long.x Lib.MathLoose.abs_long.code 2 (some .long), Cond.methodLink RX0 81 yX0_sweepLine, Cond.instanceMethod yX0_sweepLine, Cond.selects RX0 yX0_sweepLine yX0_sweepLine, Cond.code yX0_sweepLine cX0_sweepLine 11 none, Cond.methodLink RX0 85 yX0_turnLine, Cond.instanceMethod yX0_turnLine, Cond.selects RX0 yX0_turnLine yX0_turnLine, Cond.code yX0_turnLine cX0_turnLine 3 none]
def wsX4_refusalOfEnd : List Cond := .code yX4_refusalOfEnd cX4_refusalOfEnd 4 (some .int) :: ((wsX4_refusalOfEnd_r1 ++ (wsX4_refusalOfEnd_r2 ++ (wsX4_refusalOfEnd_r3 ++ (wsX4_refusalOfEnd_r4 ++ wsX4_refusalOfEnd_r5)))) ++ wsX40 ++ wsX10 ++ wsX20 ++ wsX00)
def wsX4_reach_r1 : List Cond := [Cond.fieldLink RX4 21 "ExactSimplex" "solver" "LExactSimplex$Solver;", Cond.methodLink RX4 112 yX4_refusalOfEnd, Cond.instanceMethod yX4_refusalOfEnd, Cond.selects RX4 yX4_refusalOfEnd yX4_refusalOfEnd, Cond.initialized RX4, Cond.code yX4_refusalOfEnd cX4_refusalOfEnd 4 (some .int), Cond.fieldLink RX4 10 "ExactSimplex" "problem" "LExactSimplex$Problem;", Cond.methodLink RX4 43 yX1_hasName, Cond.instanceMethod yX1_hasName, Cond.selects RX1 yX1_hasName yX1_hasName, Cond.initialized RX1, Cond.code yX1_hasName cX1_hasName 2 (some .boolean), Cond.fieldLink RX1 36 "ExactSimplex$Problem" "names" "I", Cond.methodLink RX4 92 yX4_isZeroOrOne, Cond.static yX4_isZeroOrOne, Cond.code yX4_isZeroOrOne cX4_isZeroOrOne 1 (some .boolean), Cond.methodLink RX4 88 yX2_hasPoint, Cond.instanceMethod yX2_hasPoint, Cond.selects RX2 yX2_hasPoint yX2_hasPoint, Cond.initialized RX2, Cond.code yX2_hasPoint cX2_hasPoint 1 (some .boolean), Cond.fieldLink RX2 34 "ExactSimplex$Solver" "pointSought" "Z", Cond.fieldLink RX2 52 "ExactSimplex$Solver" "pointThere" "Z", Cond.methodLink RX2 44 yX2_allRows]
def wsX4_reach_r2 : List Cond := [Cond.instanceMethod yX2_allRows, Cond.selects RX2 yX2_allRows yX2_allRows, Cond.code yX2_allRows cX2_allRows 3 (some .int), Cond.fieldLink RX2 30 "ExactSimplex$Solver" "problem" "LExactSimplex$Problem;", Cond.fieldLink RX2 91 "ExactSimplex$Problem" "rows" "I", Cond.fieldLink RX2 122 "ExactSimplex$Problem" "there" "[Z", Cond.methodLink RX2 48 yX2_canKeep, Cond.instanceMethod yX2_canKeep, Cond.selects RX2 yX2_canKeep yX2_canKeep, Cond.code yX2_canKeep cX2_canKeep 3 (some .boolean), Cond.fieldLink RX2 12 "ExactSimplex$Solver" "dictionary" "LExactSimplex$Dictionary;", Cond.fieldLink RX2 58 "ExactSimplex$Problem" "names" "I", Cond.fieldLink RX2 18 "ExactSimplex$Solver" "goal" "[I", Cond.fieldLink RX2 130 "ExactSimplex$Problem" "highs" "[I", Cond.fieldLink RX2 116 "ExactSimplex$Problem" "lows" "[I", Cond.methodLink RX2 126 yX0_begin, Cond.instanceMethod yX0_begin, Cond.selects RX0 yX0_begin yX0_begin, Cond.initialized RX0, Cond.code yX0_begin cX0_begin 3 none, Cond.methodLink RX0 38 Lib.Math.min.name, Cond.static Lib.Math.min.name, Cond.initialized "java/lang/Math", Cond.code Lib.Math.min.name Lib.Math.min.code 2 (some .int)]
def wsX4_reach_r3 : List Cond := [Cond.fieldLink RX0 44 "ExactSimplex$Dictionary" "columns" "I", Cond.fieldLink RX0 48 "ExactSimplex$Dictionary" "lines" "I", Cond.fieldLink RX0 34 "ExactSimplex$Dictionary" "under" "J", Cond.fieldLink RX0 24 "ExactSimplex$Dictionary" "outside" "[I", Cond.methodLink RX0 51 yX0_thawAll, Cond.instanceMethod yX0_thawAll, Cond.selects RX0 yX0_thawAll yX0_thawAll, Cond.code yX0_thawAll cX0_thawAll 2 none, Cond.fieldLink RX0 27 "ExactSimplex$Dictionary" "frozen" "[Z", Cond.methodLink RX2 97 yX2_aimAt, Cond.instanceMethod yX2_aimAt, Cond.selects RX2 yX2_aimAt yX2_aimAt, Cond.code yX2_aimAt cX2_aimAt 4 none, Cond.methodLink RX2 133 yX0_addAtMost, Cond.instanceMethod yX0_addAtMost, Cond.selects RX0 yX0_addAtMost yX0_addAtMost, Cond.code yX0_addAtMost cX0_addAtMost 5 none, Cond.fieldLink RX0 13 "ExactSimplex$Dictionary" "table" "[[J", Cond.fieldLink RX0 16 "ExactSimplex$Dictionary" "rests" "[J", Cond.fieldLink RX0 20 "ExactSimplex$Dictionary" "basic" "[I", Cond.methodLink RX2 137 yX2_addRow, Cond.instanceMethod yX2_addRow, Cond.selects RX2 yX2_addRow yX2_addRow, Cond.code yX2_addRow cX2_addRow 5 none]
def wsX4_reach_r4 : List Cond := [Cond.fieldLink RX2 71 "ExactSimplex$Problem" "factors" "[[I", Cond.fieldLink RX2 75 "ExactSimplex$Problem" "rights" "[I", Cond.methodLink RX2 144 yX1_limitsFromAbove, Cond.instanceMethod yX1_limitsFromAbove, Cond.selects RX1 yX1_limitsFromAbove yX1_limitsFromAbove, Cond.code yX1_limitsFromAbove cX1_limitsFromAbove 2 (some .boolean), Cond.fieldLink RX1 21 "ExactSimplex$Problem" "senses" "[I", Cond.methodLink RX2 147 yX1_limitsFromBelow, Cond.instanceMethod yX1_limitsFromBelow, Cond.selects RX1 yX1_limitsFromBelow yX1_limitsFromBelow, Cond.code yX1_limitsFromBelow cX1_limitsFromBelow 2 (some .boolean), Cond.methodLink RX2 140 yX0_findPoint, Cond.instanceMethod yX0_findPoint, Cond.selects RX0 yX0_findPoint yX0_findPoint, Cond.code yX0_findPoint cX0_findPoint 4 (some .boolean), Cond.constant RX0 54 (100000), Cond.methodLink RX0 55 yX0_brokenLine, Cond.instanceMethod yX0_brokenLine, Cond.selects RX0 yX0_brokenLine yX0_brokenLine, Cond.code yX0_brokenLine cX0_brokenLine 3 (some .int), Cond.methodLink RX0 59 yX0_mendingColumn, Cond.instanceMethod yX0_mendingColumn, Cond.selects RX0 yX0_mendingColumn yX0_mendingColumn, Cond.code yX0_mendingColumn cX0_mendingColumn 4 (some .int)]
def wsX4_reach_r5 : List Cond := [Cond.methodLink RX0 63 yX0_pivot, Cond.instanceMethod yX0_pivot, Cond.selects RX0 yX0_pivot yX0_pivot, Cond.code yX0_pivot cX0_pivot 8 none, Cond.methodLink RX0 89 Lib.MathLoose.abs_long.x, Cond.static Lib.MathLoose.abs_long.x, Cond.code Lib.MathLoose.abs_long.x Lib.MathLoose.abs_long.code 2 (some .long), Cond.methodLink RX0 81 yX0_sweepLine, Cond.instanceMethod yX0_sweepLine, Cond.selects RX0 yX0_sweepLine yX0_sweepLine, Cond.code yX0_sweepLine cX0_sweepLine 11 none, Cond.methodLink RX0 85 yX0_turnLine, Cond.instanceMethod yX0_turnLine, Cond.selects RX0 yX0_turnLine yX0_turnLine, Cond.code yX0_turnLine cX0_turnLine 3 none, Cond.methodLink RX4 116 yX2_endAmongBest, Cond.instanceMethod yX2_endAmongBest, Cond.selects RX2 yX2_endAmongBest yX2_endAmongBest, Cond.code yX2_endAmongBest cX2_endAmongBest 4 (some .long), Cond.methodLink RX2 78 yX0_thawAll, Cond.methodLink RX2 81 yX2_keepToBest, Cond.instanceMethod yX2_keepToBest, Cond.selects RX2 yX2_keepToBest yX2_keepToBest, Cond.code yX2_keepToBest cX2_keepToBest 1 none]
def wsX4_reach_r6 : List Cond := [Cond.fieldLink RX2 64 "ExactSimplex$Problem" "costs" "[I", Cond.methodLink RX2 101 yX0_minimise, Cond.instanceMethod yX0_minimise, Cond.selects RX0 yX0_minimise yX0_minimise, Cond.code yX0_minimise cX0_minimise 5 none, Cond.methodLink RX0 67 yX0_findSlopes, Cond.instanceMethod yX0_findSlopes, Cond.selects RX0 yX0_findSlopes yX0_findSlopes, Cond.code yX0_findSlopes cX0_findSlopes 5 none, Cond.fieldLink RX0 31 "ExactSimplex$Dictionary" "slopes" "[J", Cond.methodLink RX0 71 yX0_fallingColumn, Cond.instanceMethod yX0_fallingColumn, Cond.selects RX0 yX0_fallingColumn yX0_fallingColumn, Cond.code yX0_fallingColumn cX0_fallingColumn 3 (some .int), Cond.methodLink RX0 74 yX0_firstStop, Cond.instanceMethod yX0_firstStop, Cond.selects RX0 yX0_firstStop yX0_firstStop, Cond.code yX0_firstStop cX0_firstStop 4 (some .int), Cond.methodLink RX0 77 yX0_stopsBefore, Cond.instanceMethod yX0_stopsBefore, Cond.selects RX0 yX0_stopsBefore yX0_stopsBefore, Cond.code yX0_stopsBefore cX0_stopsBefore 8 (some .boolean), Cond.methodLink RX2 113 yX0_freezeDear, Cond.instanceMethod yX0_freezeDear]
def wsX4_reach_r7 : List Cond := [Cond.selects RX0 yX0_freezeDear yX0_freezeDear, Cond.code yX0_freezeDear cX0_freezeDear 2 none, Cond.methodLink RX2 84 yX2_endFromHere, Cond.instanceMethod yX2_endFromHere, Cond.selects RX2 yX2_endFromHere yX2_endFromHere, Cond.code yX2_endFromHere cX2_endFromHere 4 (some .long), Cond.methodLink RX2 105 yX2_numeratorOf, Cond.instanceMethod yX2_numeratorOf, Cond.selects RX2 yX2_numeratorOf yX2_numeratorOf, Cond.code yX2_numeratorOf cX2_numeratorOf 2 (some .long), Cond.methodLink RX2 109 yX0_denominator, Cond.instanceMethod yX0_denominator, Cond.selects RX0 yX0_denominator yX0_denominator, Cond.code yX0_denominator cX0_denominator 1 (some .long), Cond.methodLink RX2 119 yX0_numerator, Cond.instanceMethod yX0_numerator, Cond.selects RX0 yX0_numerator yX0_numerator, Cond.code yX0_numerator cX0_numerator 3 (some .long), Cond.methodLink RX2 67 yX2_partOf, Cond.static yX2_partOf, Cond.code yX2_partOf cX2_partOf 7 (some .long), Cond.methodLink RX2 150 yX2_greatestDivisor, Cond.static yX2_greatestDivisor, Cond.code yX2_greatestDivisor cX2_greatestDivisor 11 (some .long)]
def wsX4_reach_r8 : List Cond := [Cond.methodLink RX2 154 Lib.MathLoose.abs_long.x]
def wsX4_reach : List Cond := .code yX4_reach cX4_reach 5 (some .long) :: ((wsX4_reach_r1 ++ (wsX4_reach_r2 ++ (wsX4_reach_r3 ++ (wsX4_reach_r4 ++ (wsX4_reach_r5 ++ (wsX4_reach_r6 ++ (wsX4_reach_r7 ++ wsX4_reach_r8))))))) ++ wsX40 ++ wsX10 ++ wsX20 ++ wsX00)
def wsX4_far_r1 : List Cond := [Cond.fieldLink RX4 21 "ExactSimplex" "solver" "LExactSimplex$Solver;", Cond.methodLink RX4 112 yX4_refusalOfEnd, Cond.instanceMethod yX4_refusalOfEnd, Cond.selects RX4 yX4_refusalOfEnd yX4_refusalOfEnd, Cond.initialized RX4, Cond.code yX4_refusalOfEnd cX4_refusalOfEnd 4 (some .int), Cond.fieldLink RX4 10 "ExactSimplex" "problem" "LExactSimplex$Problem;", Cond.methodLink RX4 43 yX1_hasName, Cond.instanceMethod yX1_hasName, Cond.selects RX1 yX1_hasName yX1_hasName, Cond.initialized RX1, Cond.code yX1_hasName cX1_hasName 2 (some .boolean), Cond.fieldLink RX1 36 "ExactSimplex$Problem" "names" "I", Cond.methodLink RX4 92 yX4_isZeroOrOne, Cond.static yX4_isZeroOrOne, Cond.code yX4_isZeroOrOne cX4_isZeroOrOne 1 (some .boolean), Cond.methodLink RX4 88 yX2_hasPoint, Cond.instanceMethod yX2_hasPoint, Cond.selects RX2 yX2_hasPoint yX2_hasPoint, Cond.initialized RX2, Cond.code yX2_hasPoint cX2_hasPoint 1 (some .boolean), Cond.fieldLink RX2 34 "ExactSimplex$Solver" "pointSought" "Z", Cond.fieldLink RX2 52 "ExactSimplex$Solver" "pointThere" "Z", Cond.methodLink RX2 44 yX2_allRows]
def wsX4_far_r2 : List Cond := [Cond.instanceMethod yX2_allRows, Cond.selects RX2 yX2_allRows yX2_allRows, Cond.code yX2_allRows cX2_allRows 3 (some .int), Cond.fieldLink RX2 30 "ExactSimplex$Solver" "problem" "LExactSimplex$Problem;", Cond.fieldLink RX2 91 "ExactSimplex$Problem" "rows" "I", Cond.fieldLink RX2 122 "ExactSimplex$Problem" "there" "[Z", Cond.methodLink RX2 48 yX2_canKeep, Cond.instanceMethod yX2_canKeep, Cond.selects RX2 yX2_canKeep yX2_canKeep, Cond.code yX2_canKeep cX2_canKeep 3 (some .boolean), Cond.fieldLink RX2 12 "ExactSimplex$Solver" "dictionary" "LExactSimplex$Dictionary;", Cond.fieldLink RX2 58 "ExactSimplex$Problem" "names" "I", Cond.fieldLink RX2 18 "ExactSimplex$Solver" "goal" "[I", Cond.fieldLink RX2 130 "ExactSimplex$Problem" "highs" "[I", Cond.fieldLink RX2 116 "ExactSimplex$Problem" "lows" "[I", Cond.methodLink RX2 126 yX0_begin, Cond.instanceMethod yX0_begin, Cond.selects RX0 yX0_begin yX0_begin, Cond.initialized RX0, Cond.code yX0_begin cX0_begin 3 none, Cond.methodLink RX0 38 Lib.Math.min.name, Cond.static Lib.Math.min.name, Cond.initialized "java/lang/Math", Cond.code Lib.Math.min.name Lib.Math.min.code 2 (some .int)]
def wsX4_far_r3 : List Cond := [Cond.fieldLink RX0 44 "ExactSimplex$Dictionary" "columns" "I", Cond.fieldLink RX0 48 "ExactSimplex$Dictionary" "lines" "I", Cond.fieldLink RX0 34 "ExactSimplex$Dictionary" "under" "J", Cond.fieldLink RX0 24 "ExactSimplex$Dictionary" "outside" "[I", Cond.methodLink RX0 51 yX0_thawAll, Cond.instanceMethod yX0_thawAll, Cond.selects RX0 yX0_thawAll yX0_thawAll, Cond.code yX0_thawAll cX0_thawAll 2 none, Cond.fieldLink RX0 27 "ExactSimplex$Dictionary" "frozen" "[Z", Cond.methodLink RX2 97 yX2_aimAt, Cond.instanceMethod yX2_aimAt, Cond.selects RX2 yX2_aimAt yX2_aimAt, Cond.code yX2_aimAt cX2_aimAt 4 none, Cond.methodLink RX2 133 yX0_addAtMost, Cond.instanceMethod yX0_addAtMost, Cond.selects RX0 yX0_addAtMost yX0_addAtMost, Cond.code yX0_addAtMost cX0_addAtMost 5 none, Cond.fieldLink RX0 13 "ExactSimplex$Dictionary" "table" "[[J", Cond.fieldLink RX0 16 "ExactSimplex$Dictionary" "rests" "[J", Cond.fieldLink RX0 20 "ExactSimplex$Dictionary" "basic" "[I", Cond.methodLink RX2 137 yX2_addRow, Cond.instanceMethod yX2_addRow, Cond.selects RX2 yX2_addRow yX2_addRow, Cond.code yX2_addRow cX2_addRow 5 none]
def wsX4_far_r4 : List Cond := [Cond.fieldLink RX2 71 "ExactSimplex$Problem" "factors" "[[I", Cond.fieldLink RX2 75 "ExactSimplex$Problem" "rights" "[I", Cond.methodLink RX2 144 yX1_limitsFromAbove, Cond.instanceMethod yX1_limitsFromAbove, Cond.selects RX1 yX1_limitsFromAbove yX1_limitsFromAbove, Cond.code yX1_limitsFromAbove cX1_limitsFromAbove 2 (some .boolean), Cond.fieldLink RX1 21 "ExactSimplex$Problem" "senses" "[I", Cond.methodLink RX2 147 yX1_limitsFromBelow, Cond.instanceMethod yX1_limitsFromBelow, Cond.selects RX1 yX1_limitsFromBelow yX1_limitsFromBelow, Cond.code yX1_limitsFromBelow cX1_limitsFromBelow 2 (some .boolean), Cond.methodLink RX2 140 yX0_findPoint, Cond.instanceMethod yX0_findPoint, Cond.selects RX0 yX0_findPoint yX0_findPoint, Cond.code yX0_findPoint cX0_findPoint 4 (some .boolean), Cond.constant RX0 54 (100000), Cond.methodLink RX0 55 yX0_brokenLine, Cond.instanceMethod yX0_brokenLine, Cond.selects RX0 yX0_brokenLine yX0_brokenLine, Cond.code yX0_brokenLine cX0_brokenLine 3 (some .int), Cond.methodLink RX0 59 yX0_mendingColumn, Cond.instanceMethod yX0_mendingColumn, Cond.selects RX0 yX0_mendingColumn yX0_mendingColumn, Cond.code yX0_mendingColumn cX0_mendingColumn 4 (some .int)]
def wsX4_far_r5 : List Cond := [Cond.methodLink RX0 63 yX0_pivot, Cond.instanceMethod yX0_pivot, Cond.selects RX0 yX0_pivot yX0_pivot, Cond.code yX0_pivot cX0_pivot 8 none, Cond.methodLink RX0 89 Lib.MathLoose.abs_long.x, Cond.static Lib.MathLoose.abs_long.x, Cond.code Lib.MathLoose.abs_long.x Lib.MathLoose.abs_long.code 2 (some .long), Cond.methodLink RX0 81 yX0_sweepLine, Cond.instanceMethod yX0_sweepLine, Cond.selects RX0 yX0_sweepLine yX0_sweepLine, Cond.code yX0_sweepLine cX0_sweepLine 11 none, Cond.methodLink RX0 85 yX0_turnLine, Cond.instanceMethod yX0_turnLine, Cond.selects RX0 yX0_turnLine yX0_turnLine, Cond.code yX0_turnLine cX0_turnLine 3 none, Cond.methodLink RX4 120 yX2_endAmongAll, Cond.instanceMethod yX2_endAmongAll, Cond.selects RX2 yX2_endAmongAll yX2_endAmongAll, Cond.code yX2_endAmongAll cX2_endAmongAll 4 (some .long), Cond.methodLink RX2 78 yX0_thawAll, Cond.methodLink RX2 84 yX2_endFromHere, Cond.instanceMethod yX2_endFromHere, Cond.selects RX2 yX2_endFromHere yX2_endFromHere, Cond.code yX2_endFromHere cX2_endFromHere 4 (some .long)]
def wsX4_far_r6 : List Cond := [Cond.methodLink RX2 101 yX0_minimise, Cond.instanceMethod yX0_minimise, Cond.selects RX0 yX0_minimise yX0_minimise, Cond.code yX0_minimise cX0_minimise 5 none, Cond.methodLink RX0 67 yX0_findSlopes, Cond.instanceMethod yX0_findSlopes, Cond.selects RX0 yX0_findSlopes yX0_findSlopes, Cond.code yX0_findSlopes cX0_findSlopes 5 none, Cond.fieldLink RX0 31 "ExactSimplex$Dictionary" "slopes" "[J", Cond.methodLink RX0 71 yX0_fallingColumn, Cond.instanceMethod yX0_fallingColumn, Cond.selects RX0 yX0_fallingColumn yX0_fallingColumn, Cond.code yX0_fallingColumn cX0_fallingColumn 3 (some .int), Cond.methodLink RX0 74 yX0_firstStop, Cond.instanceMethod yX0_firstStop, Cond.selects RX0 yX0_firstStop yX0_firstStop, Cond.code yX0_firstStop cX0_firstStop 4 (some .int), Cond.methodLink RX0 77 yX0_stopsBefore, Cond.instanceMethod yX0_stopsBefore, Cond.selects RX0 yX0_stopsBefore yX0_stopsBefore, Cond.code yX0_stopsBefore cX0_stopsBefore 8 (some .boolean), Cond.methodLink RX2 105 yX2_numeratorOf, Cond.instanceMethod yX2_numeratorOf, Cond.selects RX2 yX2_numeratorOf yX2_numeratorOf]
def wsX4_far_r7 : List Cond := [Cond.code yX2_numeratorOf cX2_numeratorOf 2 (some .long), Cond.methodLink RX2 109 yX0_denominator, Cond.instanceMethod yX0_denominator, Cond.selects RX0 yX0_denominator yX0_denominator, Cond.code yX0_denominator cX0_denominator 1 (some .long), Cond.methodLink RX2 119 yX0_numerator, Cond.instanceMethod yX0_numerator, Cond.selects RX0 yX0_numerator yX0_numerator, Cond.code yX0_numerator cX0_numerator 3 (some .long), Cond.methodLink RX2 67 yX2_partOf, Cond.static yX2_partOf, Cond.code yX2_partOf cX2_partOf 7 (some .long), Cond.methodLink RX2 150 yX2_greatestDivisor, Cond.static yX2_greatestDivisor, Cond.code yX2_greatestDivisor cX2_greatestDivisor 11 (some .long), Cond.methodLink RX2 154 Lib.MathLoose.abs_long.x]
def wsX4_far : List Cond := .code yX4_far cX4_far 5 (some .long) :: ((wsX4_far_r1 ++ (wsX4_far_r2 ++ (wsX4_far_r3 ++ (wsX4_far_r4 ++ (wsX4_far_r5 ++ (wsX4_far_r6 ++ wsX4_far_r7)))))) ++ wsX40 ++ wsX10 ++ wsX20 ++ wsX00)
def wsX4_barred_r1 : List Cond := [Cond.fieldLink RX4 21 "ExactSimplex" "solver" "LExactSimplex$Solver;", Cond.methodLink RX4 88 yX2_hasPoint, Cond.instanceMethod yX2_hasPoint, Cond.selects RX2 yX2_hasPoint yX2_hasPoint, Cond.initialized RX2, Cond.code yX2_hasPoint cX2_hasPoint 1 (some .boolean), Cond.fieldLink RX2 34 "ExactSimplex$Solver" "pointSought" "Z", Cond.fieldLink RX2 52 "ExactSimplex$Solver" "pointThere" "Z", Cond.methodLink RX2 44 yX2_allRows, Cond.instanceMethod yX2_allRows, Cond.selects RX2 yX2_allRows yX2_allRows, Cond.code yX2_allRows cX2_allRows 3 (some .int), Cond.fieldLink RX2 30 "ExactSimplex$Solver" "problem" "LExactSimplex$Problem;", Cond.fieldLink RX2 91 "ExactSimplex$Problem" "rows" "I", Cond.fieldLink RX2 122 "ExactSimplex$Problem" "there" "[Z", Cond.methodLink RX2 48 yX2_canKeep, Cond.instanceMethod yX2_canKeep, Cond.selects RX2 yX2_canKeep yX2_canKeep, Cond.code yX2_canKeep cX2_canKeep 3 (some .boolean), Cond.fieldLink RX2 12 "ExactSimplex$Solver" "dictionary" "LExactSimplex$Dictionary;", Cond.fieldLink RX2 58 "ExactSimplex$Problem" "names" "I", Cond.fieldLink RX2 18 "ExactSimplex$Solver" "goal" "[I", Cond.fieldLink RX2 130 "ExactSimplex$Problem" "highs" "[I", Cond.fieldLink RX2 116 "ExactSimplex$Problem" "lows" "[I"]
def wsX4_barred_r2 : List Cond := [Cond.methodLink RX2 126 yX0_begin, Cond.instanceMethod yX0_begin, Cond.selects RX0 yX0_begin yX0_begin, Cond.initialized RX0, Cond.code yX0_begin cX0_begin 3 none, Cond.methodLink RX0 38 Lib.Math.min.name, Cond.static Lib.Math.min.name, Cond.initialized "java/lang/Math", Cond.code Lib.Math.min.name Lib.Math.min.code 2 (some .int), Cond.fieldLink RX0 44 "ExactSimplex$Dictionary" "columns" "I", Cond.fieldLink RX0 48 "ExactSimplex$Dictionary" "lines" "I", Cond.fieldLink RX0 34 "ExactSimplex$Dictionary" "under" "J", Cond.fieldLink RX0 24 "ExactSimplex$Dictionary" "outside" "[I", Cond.methodLink RX0 51 yX0_thawAll, Cond.instanceMethod yX0_thawAll, Cond.selects RX0 yX0_thawAll yX0_thawAll, Cond.code yX0_thawAll cX0_thawAll 2 none, Cond.fieldLink RX0 27 "ExactSimplex$Dictionary" "frozen" "[Z", Cond.methodLink RX2 97 yX2_aimAt, Cond.instanceMethod yX2_aimAt, Cond.selects RX2 yX2_aimAt yX2_aimAt, Cond.code yX2_aimAt cX2_aimAt 4 none, Cond.methodLink RX2 133 yX0_addAtMost, Cond.instanceMethod yX0_addAtMost]
def wsX4_barred_r3 : List Cond := [Cond.selects RX0 yX0_addAtMost yX0_addAtMost, Cond.code yX0_addAtMost cX0_addAtMost 5 none, Cond.fieldLink RX0 13 "ExactSimplex$Dictionary" "table" "[[J", Cond.fieldLink RX0 16 "ExactSimplex$Dictionary" "rests" "[J", Cond.fieldLink RX0 20 "ExactSimplex$Dictionary" "basic" "[I", Cond.methodLink RX2 137 yX2_addRow, Cond.instanceMethod yX2_addRow, Cond.selects RX2 yX2_addRow yX2_addRow, Cond.code yX2_addRow cX2_addRow 5 none, Cond.fieldLink RX2 71 "ExactSimplex$Problem" "factors" "[[I", Cond.fieldLink RX2 75 "ExactSimplex$Problem" "rights" "[I", Cond.methodLink RX2 144 yX1_limitsFromAbove, Cond.instanceMethod yX1_limitsFromAbove, Cond.selects RX1 yX1_limitsFromAbove yX1_limitsFromAbove, Cond.initialized RX1, Cond.code yX1_limitsFromAbove cX1_limitsFromAbove 2 (some .boolean), Cond.fieldLink RX1 21 "ExactSimplex$Problem" "senses" "[I", Cond.methodLink RX2 147 yX1_limitsFromBelow, Cond.instanceMethod yX1_limitsFromBelow, Cond.selects RX1 yX1_limitsFromBelow yX1_limitsFromBelow, Cond.code yX1_limitsFromBelow cX1_limitsFromBelow 2 (some .boolean), Cond.methodLink RX2 140 yX0_findPoint, Cond.instanceMethod yX0_findPoint, Cond.selects RX0 yX0_findPoint yX0_findPoint]
def wsX4_barred_r4 : List Cond := [Cond.code yX0_findPoint cX0_findPoint 4 (some .boolean), Cond.constant RX0 54 (100000), Cond.methodLink RX0 55 yX0_brokenLine, Cond.instanceMethod yX0_brokenLine, Cond.selects RX0 yX0_brokenLine yX0_brokenLine, Cond.code yX0_brokenLine cX0_brokenLine 3 (some .int), Cond.methodLink RX0 59 yX0_mendingColumn, Cond.instanceMethod yX0_mendingColumn, Cond.selects RX0 yX0_mendingColumn yX0_mendingColumn, Cond.code yX0_mendingColumn cX0_mendingColumn 4 (some .int), Cond.methodLink RX0 63 yX0_pivot, Cond.instanceMethod yX0_pivot, Cond.selects RX0 yX0_pivot yX0_pivot, Cond.code yX0_pivot cX0_pivot 8 none, Cond.methodLink RX0 89 Lib.MathLoose.abs_long.x, Cond.static Lib.MathLoose.abs_long.x, Cond.code Lib.MathLoose.abs_long.x Lib.MathLoose.abs_long.code 2 (some .long), Cond.methodLink RX0 81 yX0_sweepLine, Cond.instanceMethod yX0_sweepLine, Cond.selects RX0 yX0_sweepLine yX0_sweepLine, Cond.code yX0_sweepLine cX0_sweepLine 11 none, Cond.methodLink RX0 85 yX0_turnLine, Cond.instanceMethod yX0_turnLine, Cond.selects RX0 yX0_turnLine yX0_turnLine]
def wsX4_barred_r5 : List Cond := [Cond.code yX0_turnLine cX0_turnLine 3 none, Cond.methodLink RX4 123 yX2_barredRow, Cond.instanceMethod yX2_barredRow, Cond.selects RX2 yX2_barredRow yX2_barredRow, Cond.code yX2_barredRow cX2_barredRow 4 (some .int), Cond.fieldLink RX2 94 "ExactSimplex$Solver" "barredSet" "I", Cond.methodLink RX2 88 yX2_findBarred, Cond.instanceMethod yX2_findBarred, Cond.selects RX2 yX2_findBarred yX2_findBarred, Cond.code yX2_findBarred cX2_findBarred 4 none, Cond.fieldLink RX2 41 "ExactSimplex$Solver" "barredKnown" "Z"]
def wsX4_barred : List Cond := .code yX4_barred cX4_barred 3 (some .int) :: ((wsX4_barred_r1 ++ (wsX4_barred_r2 ++ (wsX4_barred_r3 ++ (wsX4_barred_r4 ++ wsX4_barred_r5)))) ++ wsX40 ++ wsX20 ++ wsX10 ++ wsX00)
def wsX4_refusalOfWhole_r1 : List Cond := [Cond.fieldLink RX4 10 "ExactSimplex" "problem" "LExactSimplex$Problem;", Cond.constantLong RX4 142 (20000), Cond.fieldLink RX4 28 "ExactSimplex" "search" "LExactSimplex$WholeSearch;", Cond.methodLink RX4 138 yX1_countWhole, Cond.instanceMethod yX1_countWhole, Cond.selects RX1 yX1_countWhole yX1_countWhole, Cond.initialized RX1, Cond.code yX1_countWhole cX1_countWhole 4 (some .long), Cond.fieldLink RX1 36 "ExactSimplex$Problem" "names" "I", Cond.fieldLink RX1 15 "ExactSimplex$Problem" "highs" "[I", Cond.fieldLink RX1 9 "ExactSimplex$Problem" "lows" "[I", Cond.methodLink RX4 144 yX3_hasPoint, Cond.instanceMethod yX3_hasPoint, Cond.selects RX3 yX3_hasPoint yX3_hasPoint, Cond.initialized RX3, Cond.code yX3_hasPoint cX3_hasPoint 3 (some .boolean), Cond.fieldLink RX3 36 "ExactSimplex$WholeSearch" "sought" "Z", Cond.fieldLink RX3 40 "ExactSimplex$WholeSearch" "found" "Z", Cond.constant RX3 50 (1000000), Cond.fieldLink RX3 32 "ExactSimplex$WholeSearch" "problem" "LExactSimplex$Problem;", Cond.fieldLink RX3 51 "ExactSimplex$Problem" "names" "I", Cond.fieldLink RX3 9 "ExactSimplex$WholeSearch" "point" "[I", Cond.fieldLink RX3 15 "ExactSimplex$WholeSearch" "ends" "[I", Cond.methodLink RX3 43 yX3_weighOthers]
def wsX4_refusalOfWhole_r2 : List Cond := [Cond.instanceMethod yX3_weighOthers, Cond.selects RX3 yX3_weighOthers yX3_weighOthers, Cond.code yX3_weighOthers cX3_weighOthers 6 none, Cond.fieldLink RX3 23 "ExactSimplex$WholeSearch" "sums" "[[I", Cond.fieldLink RX3 26 "ExactSimplex$WholeSearch" "leastMore" "[[I", Cond.fieldLink RX3 29 "ExactSimplex$WholeSearch" "mostMore" "[[I", Cond.fieldLink RX3 74 "ExactSimplex$Problem" "lows" "[I", Cond.fieldLink RX3 77 "ExactSimplex$Problem" "highs" "[I", Cond.methodLink RX3 80 Lib.Math.min.name, Cond.static Lib.Math.min.name, Cond.initialized "java/lang/Math", Cond.code Lib.Math.min.name Lib.Math.min.code 2 (some .int), Cond.methodLink RX3 85 Lib.Math.max.name, Cond.static Lib.Math.max.name, Cond.code Lib.Math.max.name Lib.Math.max.code 2 (some .int), Cond.methodLink RX3 70 yX3_weight, Cond.instanceMethod yX3_weight, Cond.selects RX3 yX3_weight yX3_weight, Cond.code yX3_weight cX3_weight 3 (some .int), Cond.fieldLink RX3 88 "ExactSimplex$Problem" "costs" "[I", Cond.fieldLink RX3 91 "ExactSimplex$Problem" "factors" "[[I", Cond.methodLink RX3 46 yX3_openName, Cond.instanceMethod yX3_openName, Cond.selects RX3 yX3_openName yX3_openName]
def wsX4_refusalOfWhole_r3 : List Cond := [Cond.code yX3_openName cX3_openName 3 none, Cond.fieldLink RX3 94 "ExactSimplex$Problem" "rows" "I", Cond.fieldLink RX3 67 "ExactSimplex$WholeSearch" "bestCost" "I", Cond.methodLink RX3 97 yX1_hasRow, Cond.instanceMethod yX1_hasRow, Cond.selects RX1 yX1_hasRow yX1_hasRow, Cond.code yX1_hasRow cX1_hasRow 2 (some .boolean), Cond.fieldLink RX1 40 "ExactSimplex$Problem" "rows" "I", Cond.fieldLink RX1 32 "ExactSimplex$Problem" "there" "[Z", Cond.methodLink RX3 100 yX3_narrowByRow, Cond.instanceMethod yX3_narrowByRow, Cond.selects RX3 yX3_narrowByRow yX3_narrowByRow, Cond.code yX3_narrowByRow cX3_narrowByRow 5 none, Cond.fieldLink RX3 111 "ExactSimplex$Problem" "rights" "[I", Cond.methodLink RX3 114 yX1_limitsFromAbove, Cond.instanceMethod yX1_limitsFromAbove, Cond.selects RX1 yX1_limitsFromAbove yX1_limitsFromAbove, Cond.code yX1_limitsFromAbove cX1_limitsFromAbove 2 (some .boolean), Cond.fieldLink RX1 21 "ExactSimplex$Problem" "senses" "[I", Cond.methodLink RX3 104 yX3_narrow, Cond.instanceMethod yX3_narrow, Cond.selects RX3 yX3_narrow yX3_narrow, Cond.code yX3_narrow cX3_narrow 4 none, Cond.methodLink RX3 120 yJ9_floorDiv_7cf53]
def wsX4_refusalOfWhole_r4 : List Cond := [Cond.static yJ9_floorDiv_7cf53, Cond.initialized RJ9, Cond.code yJ9_floorDiv_7cf53 cJ9_floorDiv_7cf53 3 (some .int), Cond.methodLink RX3 117 yX1_limitsFromBelow, Cond.instanceMethod yX1_limitsFromBelow, Cond.selects RX1 yX1_limitsFromBelow yX1_limitsFromBelow, Cond.code yX1_limitsFromBelow cX1_limitsFromBelow 2 (some .boolean), Cond.methodLink RX3 108 yX3_keepCheapest, Cond.instanceMethod yX3_keepCheapest, Cond.selects RX3 yX3_keepCheapest yX3_keepCheapest, Cond.code yX3_keepCheapest cX3_keepCheapest 2 none, Cond.methodLink RX3 57 yX3_takePoint, Cond.instanceMethod yX3_takePoint, Cond.selects RX3 yX3_takePoint yX3_takePoint, Cond.code yX3_takePoint cX3_takePoint 3 none, Cond.fieldLink RX3 18 "ExactSimplex$WholeSearch" "firstBest" "[I", Cond.methodLink RX3 123 yX3_keepsRows, Cond.instanceMethod yX3_keepsRows, Cond.selects RX3 yX3_keepsRows yX3_keepsRows, Cond.code yX3_keepsRows cX3_keepsRows 3 (some .boolean), Cond.methodLink RX3 63 yX3_mayBeCheaper, Cond.instanceMethod yX3_mayBeCheaper, Cond.selects RX3 yX3_mayBeCheaper yX3_mayBeCheaper, Cond.code yX3_mayBeCheaper cX3_mayBeCheaper 2 (some .boolean)]
def wsX4_refusalOfWhole_r5 : List Cond := [Cond.methodLink RX3 60 yX3_addUp, Cond.instanceMethod yX3_addUp, Cond.selects RX3 yX3_addUp yX3_addUp, Cond.code yX3_addUp cX3_addUp 3 none]
def wsX4_refusalOfWhole : List Cond := .code yX4_refusalOfWhole cX4_refusalOfWhole 1 (some .int) :: ((wsX4_refusalOfWhole_r1 ++ (wsX4_refusalOfWhole_r2 ++ (wsX4_refusalOfWhole_r3 ++ (wsX4_refusalOfWhole_r4 ++ wsX4_refusalOfWhole_r5)))) ++ wsX40 ++ wsX10 ++ wsX30)
def wsX4_whole_r1 : List Cond := [Cond.fieldLink RX4 28 "ExactSimplex" "search" "LExactSimplex$WholeSearch;", Cond.methodLink RX4 127 yX4_refusalOfWhole, Cond.instanceMethod yX4_refusalOfWhole, Cond.selects RX4 yX4_refusalOfWhole yX4_refusalOfWhole, Cond.initialized RX4, Cond.code yX4_refusalOfWhole cX4_refusalOfWhole 1 (some .int), Cond.fieldLink RX4 10 "ExactSimplex" "problem" "LExactSimplex$Problem;", Cond.constantLong RX4 142 (20000), Cond.methodLink RX4 138 yX1_countWhole, Cond.instanceMethod yX1_countWhole, Cond.selects RX1 yX1_countWhole yX1_countWhole, Cond.initialized RX1, Cond.code yX1_countWhole cX1_countWhole 4 (some .long), Cond.fieldLink RX1 36 "ExactSimplex$Problem" "names" "I", Cond.fieldLink RX1 15 "ExactSimplex$Problem" "highs" "[I", Cond.fieldLink RX1 9 "ExactSimplex$Problem" "lows" "[I", Cond.methodLink RX4 144 yX3_hasPoint, Cond.instanceMethod yX3_hasPoint, Cond.selects RX3 yX3_hasPoint yX3_hasPoint, Cond.initialized RX3, Cond.code yX3_hasPoint cX3_hasPoint 3 (some .boolean), Cond.fieldLink RX3 36 "ExactSimplex$WholeSearch" "sought" "Z", Cond.fieldLink RX3 40 "ExactSimplex$WholeSearch" "found" "Z", Cond.constant RX3 50 (1000000)]
def wsX4_whole_r2 : List Cond := [Cond.fieldLink RX3 32 "ExactSimplex$WholeSearch" "problem" "LExactSimplex$Problem;", Cond.fieldLink RX3 51 "ExactSimplex$Problem" "names" "I", Cond.fieldLink RX3 9 "ExactSimplex$WholeSearch" "point" "[I", Cond.fieldLink RX3 15 "ExactSimplex$WholeSearch" "ends" "[I", Cond.methodLink RX3 43 yX3_weighOthers, Cond.instanceMethod yX3_weighOthers, Cond.selects RX3 yX3_weighOthers yX3_weighOthers, Cond.code yX3_weighOthers cX3_weighOthers 6 none, Cond.fieldLink RX3 23 "ExactSimplex$WholeSearch" "sums" "[[I", Cond.fieldLink RX3 26 "ExactSimplex$WholeSearch" "leastMore" "[[I", Cond.fieldLink RX3 29 "ExactSimplex$WholeSearch" "mostMore" "[[I", Cond.fieldLink RX3 74 "ExactSimplex$Problem" "lows" "[I", Cond.fieldLink RX3 77 "ExactSimplex$Problem" "highs" "[I", Cond.methodLink RX3 80 Lib.Math.min.name, Cond.static Lib.Math.min.name, Cond.initialized "java/lang/Math", Cond.code Lib.Math.min.name Lib.Math.min.code 2 (some .int), Cond.methodLink RX3 85 Lib.Math.max.name, Cond.static Lib.Math.max.name, Cond.code Lib.Math.max.name Lib.Math.max.code 2 (some .int), Cond.methodLink RX3 70 yX3_weight, Cond.instanceMethod yX3_weight, Cond.selects RX3 yX3_weight yX3_weight, Cond.code yX3_weight cX3_weight 3 (some .int)]
def wsX4_whole_r3 : List Cond := [Cond.fieldLink RX3 88 "ExactSimplex$Problem" "costs" "[I", Cond.fieldLink RX3 91 "ExactSimplex$Problem" "factors" "[[I", Cond.methodLink RX3 46 yX3_openName, Cond.instanceMethod yX3_openName, Cond.selects RX3 yX3_openName yX3_openName, Cond.code yX3_openName cX3_openName 3 none, Cond.fieldLink RX3 94 "ExactSimplex$Problem" "rows" "I", Cond.fieldLink RX3 67 "ExactSimplex$WholeSearch" "bestCost" "I", Cond.methodLink RX3 97 yX1_hasRow, Cond.instanceMethod yX1_hasRow, Cond.selects RX1 yX1_hasRow yX1_hasRow, Cond.code yX1_hasRow cX1_hasRow 2 (some .boolean), Cond.fieldLink RX1 40 "ExactSimplex$Problem" "rows" "I", Cond.fieldLink RX1 32 "ExactSimplex$Problem" "there" "[Z", Cond.methodLink RX3 100 yX3_narrowByRow, Cond.instanceMethod yX3_narrowByRow, Cond.selects RX3 yX3_narrowByRow yX3_narrowByRow, Cond.code yX3_narrowByRow cX3_narrowByRow 5 none, Cond.fieldLink RX3 111 "ExactSimplex$Problem" "rights" "[I", Cond.methodLink RX3 114 yX1_limitsFromAbove, Cond.instanceMethod yX1_limitsFromAbove, Cond.selects RX1 yX1_limitsFromAbove yX1_limitsFromAbove, Cond.code yX1_limitsFromAbove cX1_limitsFromAbove 2 (some .boolean), Cond.fieldLink RX1 21 "ExactSimplex$Problem" "senses" "[I"]
def wsX4_whole_r4 : List Cond := [Cond.methodLink RX3 104 yX3_narrow, Cond.instanceMethod yX3_narrow, Cond.selects RX3 yX3_narrow yX3_narrow, Cond.code yX3_narrow cX3_narrow 4 none, Cond.methodLink RX3 120 yJ9_floorDiv_7cf53, Cond.static yJ9_floorDiv_7cf53, Cond.initialized RJ9, Cond.code yJ9_floorDiv_7cf53 cJ9_floorDiv_7cf53 3 (some .int), Cond.methodLink RX3 117 yX1_limitsFromBelow, Cond.instanceMethod yX1_limitsFromBelow, Cond.selects RX1 yX1_limitsFromBelow yX1_limitsFromBelow, Cond.code yX1_limitsFromBelow cX1_limitsFromBelow 2 (some .boolean), Cond.methodLink RX3 108 yX3_keepCheapest, Cond.instanceMethod yX3_keepCheapest, Cond.selects RX3 yX3_keepCheapest yX3_keepCheapest, Cond.code yX3_keepCheapest cX3_keepCheapest 2 none, Cond.methodLink RX3 57 yX3_takePoint, Cond.instanceMethod yX3_takePoint, Cond.selects RX3 yX3_takePoint yX3_takePoint, Cond.code yX3_takePoint cX3_takePoint 3 none, Cond.fieldLink RX3 18 "ExactSimplex$WholeSearch" "firstBest" "[I", Cond.methodLink RX3 123 yX3_keepsRows, Cond.instanceMethod yX3_keepsRows, Cond.selects RX3 yX3_keepsRows yX3_keepsRows]
def wsX4_whole_r5 : List Cond := [Cond.code yX3_keepsRows cX3_keepsRows 3 (some .boolean), Cond.methodLink RX3 63 yX3_mayBeCheaper, Cond.instanceMethod yX3_mayBeCheaper, Cond.selects RX3 yX3_mayBeCheaper yX3_mayBeCheaper, Cond.code yX3_mayBeCheaper cX3_mayBeCheaper 2 (some .boolean), Cond.methodLink RX3 60 yX3_addUp, Cond.instanceMethod yX3_addUp, Cond.selects RX3 yX3_addUp yX3_addUp, Cond.code yX3_addUp cX3_addUp 3 none, Cond.methodLink RX4 130 yX3_leastCost, Cond.instanceMethod yX3_leastCost, Cond.selects RX3 yX3_leastCost yX3_leastCost, Cond.code yX3_leastCost cX3_leastCost 1 (some .int)]
def wsX4_whole : List Cond := .code yX4_whole cX4_whole 2 (some .int) :: ((wsX4_whole_r1 ++ (wsX4_whole_r2 ++ (wsX4_whole_r3 ++ (wsX4_whole_r4 ++ wsX4_whole_r5)))) ++ wsX40 ++ wsX10 ++ wsX30)
def wsX4_wholeValue_r1 : List Cond := [Cond.fieldLink RX4 10 "ExactSimplex" "problem" "LExactSimplex$Problem;", Cond.fieldLink RX4 28 "ExactSimplex" "search" "LExactSimplex$WholeSearch;", Cond.methodLink RX4 43 yX1_hasName, Cond.instanceMethod yX1_hasName, Cond.selects RX1 yX1_hasName yX1_hasName, Cond.initialized RX1, Cond.code yX1_hasName cX1_hasName 2 (some .boolean), Cond.fieldLink RX1 36 "ExactSimplex$Problem" "names" "I", Cond.methodLink RX4 127 yX4_refusalOfWhole, Cond.instanceMethod yX4_refusalOfWhole, Cond.selects RX4 yX4_refusalOfWhole yX4_refusalOfWhole, Cond.initialized RX4, Cond.code yX4_refusalOfWhole cX4_refusalOfWhole 1 (some .int), Cond.constantLong RX4 142 (20000), Cond.methodLink RX4 138 yX1_countWhole, Cond.instanceMethod yX1_countWhole, Cond.selects RX1 yX1_countWhole yX1_countWhole, Cond.code yX1_countWhole cX1_countWhole 4 (some .long), Cond.fieldLink RX1 15 "ExactSimplex$Problem" "highs" "[I", Cond.fieldLink RX1 9 "ExactSimplex$Problem" "lows" "[I", Cond.methodLink RX4 144 yX3_hasPoint, Cond.instanceMethod yX3_hasPoint, Cond.selects RX3 yX3_hasPoint yX3_hasPoint, Cond.initialized RX3]
def wsX4_wholeValue_r2 : List Cond := [Cond.code yX3_hasPoint cX3_hasPoint 3 (some .boolean), Cond.fieldLink RX3 36 "ExactSimplex$WholeSearch" "sought" "Z", Cond.fieldLink RX3 40 "ExactSimplex$WholeSearch" "found" "Z", Cond.constant RX3 50 (1000000), Cond.fieldLink RX3 32 "ExactSimplex$WholeSearch" "problem" "LExactSimplex$Problem;", Cond.fieldLink RX3 51 "ExactSimplex$Problem" "names" "I", Cond.fieldLink RX3 9 "ExactSimplex$WholeSearch" "point" "[I", Cond.fieldLink RX3 15 "ExactSimplex$WholeSearch" "ends" "[I", Cond.methodLink RX3 43 yX3_weighOthers, Cond.instanceMethod yX3_weighOthers, Cond.selects RX3 yX3_weighOthers yX3_weighOthers, Cond.code yX3_weighOthers cX3_weighOthers 6 none, Cond.fieldLink RX3 23 "ExactSimplex$WholeSearch" "sums" "[[I", Cond.fieldLink RX3 26 "ExactSimplex$WholeSearch" "leastMore" "[[I", Cond.fieldLink RX3 29 "ExactSimplex$WholeSearch" "mostMore" "[[I", Cond.fieldLink RX3 74 "ExactSimplex$Problem" "lows" "[I", Cond.fieldLink RX3 77 "ExactSimplex$Problem" "highs" "[I", Cond.methodLink RX3 80 Lib.Math.min.name, Cond.static Lib.Math.min.name, Cond.initialized "java/lang/Math", Cond.code Lib.Math.min.name Lib.Math.min.code 2 (some .int), Cond.methodLink RX3 85 Lib.Math.max.name, Cond.static Lib.Math.max.name, Cond.code Lib.Math.max.name Lib.Math.max.code 2 (some .int)]
def wsX4_wholeValue_r3 : List Cond := [Cond.methodLink RX3 70 yX3_weight, Cond.instanceMethod yX3_weight, Cond.selects RX3 yX3_weight yX3_weight, Cond.code yX3_weight cX3_weight 3 (some .int), Cond.fieldLink RX3 88 "ExactSimplex$Problem" "costs" "[I", Cond.fieldLink RX3 91 "ExactSimplex$Problem" "factors" "[[I", Cond.methodLink RX3 46 yX3_openName, Cond.instanceMethod yX3_openName, Cond.selects RX3 yX3_openName yX3_openName, Cond.code yX3_openName cX3_openName 3 none, Cond.fieldLink RX3 94 "ExactSimplex$Problem" "rows" "I", Cond.fieldLink RX3 67 "ExactSimplex$WholeSearch" "bestCost" "I", Cond.methodLink RX3 97 yX1_hasRow, Cond.instanceMethod yX1_hasRow, Cond.selects RX1 yX1_hasRow yX1_hasRow, Cond.code yX1_hasRow cX1_hasRow 2 (some .boolean), Cond.fieldLink RX1 40 "ExactSimplex$Problem" "rows" "I", Cond.fieldLink RX1 32 "ExactSimplex$Problem" "there" "[Z", Cond.methodLink RX3 100 yX3_narrowByRow, Cond.instanceMethod yX3_narrowByRow, Cond.selects RX3 yX3_narrowByRow yX3_narrowByRow, Cond.code yX3_narrowByRow cX3_narrowByRow 5 none, Cond.fieldLink RX3 111 "ExactSimplex$Problem" "rights" "[I", Cond.methodLink RX3 114 yX1_limitsFromAbove]
def wsX4_wholeValue_r4 : List Cond := [Cond.instanceMethod yX1_limitsFromAbove, Cond.selects RX1 yX1_limitsFromAbove yX1_limitsFromAbove, Cond.code yX1_limitsFromAbove cX1_limitsFromAbove 2 (some .boolean), Cond.fieldLink RX1 21 "ExactSimplex$Problem" "senses" "[I", Cond.methodLink RX3 104 yX3_narrow, Cond.instanceMethod yX3_narrow, Cond.selects RX3 yX3_narrow yX3_narrow, Cond.code yX3_narrow cX3_narrow 4 none, Cond.methodLink RX3 120 yJ9_floorDiv_7cf53, Cond.static yJ9_floorDiv_7cf53, Cond.initialized RJ9, Cond.code yJ9_floorDiv_7cf53 cJ9_floorDiv_7cf53 3 (some .int), Cond.methodLink RX3 117 yX1_limitsFromBelow, Cond.instanceMethod yX1_limitsFromBelow, Cond.selects RX1 yX1_limitsFromBelow yX1_limitsFromBelow, Cond.code yX1_limitsFromBelow cX1_limitsFromBelow 2 (some .boolean), Cond.methodLink RX3 108 yX3_keepCheapest, Cond.instanceMethod yX3_keepCheapest, Cond.selects RX3 yX3_keepCheapest yX3_keepCheapest, Cond.code yX3_keepCheapest cX3_keepCheapest 2 none, Cond.methodLink RX3 57 yX3_takePoint, Cond.instanceMethod yX3_takePoint, Cond.selects RX3 yX3_takePoint yX3_takePoint, Cond.code yX3_takePoint cX3_takePoint 3 none]
def wsX4_wholeValue_r5 : List Cond := [Cond.fieldLink RX3 18 "ExactSimplex$WholeSearch" "firstBest" "[I", Cond.methodLink RX3 123 yX3_keepsRows, Cond.instanceMethod yX3_keepsRows, Cond.selects RX3 yX3_keepsRows yX3_keepsRows, Cond.code yX3_keepsRows cX3_keepsRows 3 (some .boolean), Cond.methodLink RX3 63 yX3_mayBeCheaper, Cond.instanceMethod yX3_mayBeCheaper, Cond.selects RX3 yX3_mayBeCheaper yX3_mayBeCheaper, Cond.code yX3_mayBeCheaper cX3_mayBeCheaper 2 (some .boolean), Cond.methodLink RX3 60 yX3_addUp, Cond.instanceMethod yX3_addUp, Cond.selects RX3 yX3_addUp yX3_addUp, Cond.code yX3_addUp cX3_addUp 3 none, Cond.methodLink RX4 132 yX3_firstBestOf, Cond.instanceMethod yX3_firstBestOf, Cond.selects RX3 yX3_firstBestOf yX3_firstBestOf, Cond.code yX3_firstBestOf cX3_firstBestOf 2 (some .int)]
def wsX4_wholeValue : List Cond := .code yX4_wholeValue cX4_wholeValue 3 (some .int) :: ((wsX4_wholeValue_r1 ++ (wsX4_wholeValue_r2 ++ (wsX4_wholeValue_r3 ++ (wsX4_wholeValue_r4 ++ wsX4_wholeValue_r5)))) ++ wsX40 ++ wsX10 ++ wsX30)
def wsX4_isWhole_r1 : List Cond := [Cond.methodLink RX4 127 yX4_refusalOfWhole, Cond.instanceMethod yX4_refusalOfWhole, Cond.selects RX4 yX4_refusalOfWhole yX4_refusalOfWhole, Cond.initialized RX4, Cond.code yX4_refusalOfWhole cX4_refusalOfWhole 1 (some .int), Cond.fieldLink RX4 10 "ExactSimplex" "problem" "LExactSimplex$Problem;", Cond.constantLong RX4 142 (20000), Cond.fieldLink RX4 28 "ExactSimplex" "search" "LExactSimplex$WholeSearch;", Cond.methodLink RX4 138 yX1_countWhole, Cond.instanceMethod yX1_countWhole, Cond.selects RX1 yX1_countWhole yX1_countWhole, Cond.initialized RX1, Cond.code yX1_countWhole cX1_countWhole 4 (some .long), Cond.fieldLink RX1 36 "ExactSimplex$Problem" "names" "I", Cond.fieldLink RX1 15 "ExactSimplex$Problem" "highs" "[I", Cond.fieldLink RX1 9 "ExactSimplex$Problem" "lows" "[I", Cond.methodLink RX4 144 yX3_hasPoint, Cond.instanceMethod yX3_hasPoint, Cond.selects RX3 yX3_hasPoint yX3_hasPoint, Cond.initialized RX3, Cond.code yX3_hasPoint cX3_hasPoint 3 (some .boolean), Cond.fieldLink RX3 36 "ExactSimplex$WholeSearch" "sought" "Z", Cond.fieldLink RX3 40 "ExactSimplex$WholeSearch" "found" "Z", Cond.constant RX3 50 (1000000)]
def wsX4_isWhole_r2 : List Cond := [Cond.fieldLink RX3 32 "ExactSimplex$WholeSearch" "problem" "LExactSimplex$Problem;", Cond.fieldLink RX3 51 "ExactSimplex$Problem" "names" "I", Cond.fieldLink RX3 9 "ExactSimplex$WholeSearch" "point" "[I", Cond.fieldLink RX3 15 "ExactSimplex$WholeSearch" "ends" "[I", Cond.methodLink RX3 43 yX3_weighOthers, Cond.instanceMethod yX3_weighOthers, Cond.selects RX3 yX3_weighOthers yX3_weighOthers, Cond.code yX3_weighOthers cX3_weighOthers 6 none, Cond.fieldLink RX3 23 "ExactSimplex$WholeSearch" "sums" "[[I", Cond.fieldLink RX3 26 "ExactSimplex$WholeSearch" "leastMore" "[[I", Cond.fieldLink RX3 29 "ExactSimplex$WholeSearch" "mostMore" "[[I", Cond.fieldLink RX3 74 "ExactSimplex$Problem" "lows" "[I", Cond.fieldLink RX3 77 "ExactSimplex$Problem" "highs" "[I", Cond.methodLink RX3 80 Lib.Math.min.name, Cond.static Lib.Math.min.name, Cond.initialized "java/lang/Math", Cond.code Lib.Math.min.name Lib.Math.min.code 2 (some .int), Cond.methodLink RX3 85 Lib.Math.max.name, Cond.static Lib.Math.max.name, Cond.code Lib.Math.max.name Lib.Math.max.code 2 (some .int), Cond.methodLink RX3 70 yX3_weight, Cond.instanceMethod yX3_weight, Cond.selects RX3 yX3_weight yX3_weight, Cond.code yX3_weight cX3_weight 3 (some .int)]
def wsX4_isWhole_r3 : List Cond := [Cond.fieldLink RX3 88 "ExactSimplex$Problem" "costs" "[I", Cond.fieldLink RX3 91 "ExactSimplex$Problem" "factors" "[[I", Cond.methodLink RX3 46 yX3_openName, Cond.instanceMethod yX3_openName, Cond.selects RX3 yX3_openName yX3_openName, Cond.code yX3_openName cX3_openName 3 none, Cond.fieldLink RX3 94 "ExactSimplex$Problem" "rows" "I", Cond.fieldLink RX3 67 "ExactSimplex$WholeSearch" "bestCost" "I", Cond.methodLink RX3 97 yX1_hasRow, Cond.instanceMethod yX1_hasRow, Cond.selects RX1 yX1_hasRow yX1_hasRow, Cond.code yX1_hasRow cX1_hasRow 2 (some .boolean), Cond.fieldLink RX1 40 "ExactSimplex$Problem" "rows" "I", Cond.fieldLink RX1 32 "ExactSimplex$Problem" "there" "[Z", Cond.methodLink RX3 100 yX3_narrowByRow, Cond.instanceMethod yX3_narrowByRow, Cond.selects RX3 yX3_narrowByRow yX3_narrowByRow, Cond.code yX3_narrowByRow cX3_narrowByRow 5 none, Cond.fieldLink RX3 111 "ExactSimplex$Problem" "rights" "[I", Cond.methodLink RX3 114 yX1_limitsFromAbove, Cond.instanceMethod yX1_limitsFromAbove, Cond.selects RX1 yX1_limitsFromAbove yX1_limitsFromAbove, Cond.code yX1_limitsFromAbove cX1_limitsFromAbove 2 (some .boolean), Cond.fieldLink RX1 21 "ExactSimplex$Problem" "senses" "[I"]
def wsX4_isWhole_r4 : List Cond := [Cond.methodLink RX3 104 yX3_narrow, Cond.instanceMethod yX3_narrow, Cond.selects RX3 yX3_narrow yX3_narrow, Cond.code yX3_narrow cX3_narrow 4 none, Cond.methodLink RX3 120 yJ9_floorDiv_7cf53, Cond.static yJ9_floorDiv_7cf53, Cond.initialized RJ9, Cond.code yJ9_floorDiv_7cf53 cJ9_floorDiv_7cf53 3 (some .int), Cond.methodLink RX3 117 yX1_limitsFromBelow, Cond.instanceMethod yX1_limitsFromBelow, Cond.selects RX1 yX1_limitsFromBelow yX1_limitsFromBelow, Cond.code yX1_limitsFromBelow cX1_limitsFromBelow 2 (some .boolean), Cond.methodLink RX3 108 yX3_keepCheapest, Cond.instanceMethod yX3_keepCheapest, Cond.selects RX3 yX3_keepCheapest yX3_keepCheapest, Cond.code yX3_keepCheapest cX3_keepCheapest 2 none, Cond.methodLink RX3 57 yX3_takePoint, Cond.instanceMethod yX3_takePoint, Cond.selects RX3 yX3_takePoint yX3_takePoint, Cond.code yX3_takePoint cX3_takePoint 3 none, Cond.fieldLink RX3 18 "ExactSimplex$WholeSearch" "firstBest" "[I", Cond.methodLink RX3 123 yX3_keepsRows, Cond.instanceMethod yX3_keepsRows, Cond.selects RX3 yX3_keepsRows yX3_keepsRows]
def wsX4_isWhole_r5 : List Cond := [Cond.code yX3_keepsRows cX3_keepsRows 3 (some .boolean), Cond.methodLink RX3 63 yX3_mayBeCheaper, Cond.instanceMethod yX3_mayBeCheaper, Cond.selects RX3 yX3_mayBeCheaper yX3_mayBeCheaper, Cond.code yX3_mayBeCheaper cX3_mayBeCheaper 2 (some .boolean), Cond.methodLink RX3 60 yX3_addUp, Cond.instanceMethod yX3_addUp, Cond.selects RX3 yX3_addUp yX3_addUp, Cond.code yX3_addUp cX3_addUp 3 none]
def wsX4_isWhole : List Cond := .code yX4_isWhole cX4_isWhole 2 (some .int) :: ((wsX4_isWhole_r1 ++ (wsX4_isWhole_r2 ++ (wsX4_isWhole_r3 ++ (wsX4_isWhole_r4 ++ wsX4_isWhole_r5)))) ++ wsX40 ++ wsX10 ++ wsX30)
def wsX4_told : List Cond := .code yX4_told cX4_told 2 (some .int) :: ([.fieldLink RX4 10 "ExactSimplex" "problem" "LExactSimplex$Problem;", .fieldLink RX4 81 "ExactSimplex$Problem" "names" "I", .fieldLink RX4 85 "ExactSimplex$Problem" "rows" "I", .methodLink RX4 77 yX1_countRows, .instanceMethod yX1_countRows, .selects RX1 yX1_countRows yX1_countRows, .initialized RX1, .code yX1_countRows cX1_countRows 3 (some .int), .fieldLink RX1 40 "ExactSimplex$Problem" "rows" "I", .fieldLink RX1 32 "ExactSimplex$Problem" "there" "[Z"] ++ wsX40 ++ wsX10)
def wsX5_init : List Cond := .code yX5_init cX5_init 1 none :: ([.methodLink RX5 1 objectInit, .instanceMethod objectInit, .code objectInit ⟨#[0xb1]⟩ 1 none, .arrayClass .int, .fieldLink RX5 7 "ExactSimplexModel" "low" "[I", .fieldLink RX5 13 "ExactSimplexModel" "high" "[I", .fieldLink RX5 16 "ExactSimplexModel" "costs" "[I", .fieldLink RX5 19 "ExactSimplexModel" "sense" "[I", .fieldLink RX5 22 "ExactSimplexModel" "rights" "[I", .fieldLink RX5 25 "ExactSimplexModel" "factors" "[I", .arrayClass .boolean, .fieldLink RX5 28 "ExactSimplexModel" "alive" "[Z", .arrayClass .long, .fieldLink RX5 32 "ExactSimplexModel" "bestOver" "[J", .fieldLink RX5 36 "ExactSimplexModel" "reachOver" "[J", .fieldLink RX5 39 "ExactSimplexModel" "reachUnder" "[J", .fieldLink RX5 42 "ExactSimplexModel" "farOver" "[J", .fieldLink RX5 45 "ExactSimplexModel" "farUnder" "[J", .fieldLink RX5 48 "ExactSimplexModel" "isBarred" "[Z", .fieldLink RX5 51 "ExactSimplexModel" "matrix" "[J", .fieldLink RX5 54 "ExactSimplexModel" "pick" "[I", .fieldLink RX5 57 "ExactSimplexModel" "over" "[J", .fieldLink RX5 60 "ExactSimplexModel" "point" "[I", .fieldLink RX5 63 "ExactSimplexModel" "wholeBest" "[I"] ++ wsX50)
def wsX5_part : List Cond := .code yX5_part cX5_part 4 (some .long) :: ([.fieldLink RX5 22 "ExactSimplexModel" "rights" "[I", .fieldLink RX5 25 "ExactSimplexModel" "factors" "[I", .fieldLink RX5 7 "ExactSimplexModel" "low" "[I", .fieldLink RX5 13 "ExactSimplexModel" "high" "[I"] ++ wsX50)
def wsX5_solve : List Cond := .code yX5_solve cX5_solve 12 (some .boolean) :: ([.fieldLink RX5 66 "ExactSimplexModel" "names" "I", .fieldLink RX5 51 "ExactSimplexModel" "matrix" "[J", .fieldLink RX5 54 "ExactSimplexModel" "pick" "[I", .fieldLink RX5 74 "ExactSimplexModel" "under" "J", .fieldLink RX5 57 "ExactSimplexModel" "over" "[J", .methodLink RX5 70 yX5_part, .instanceMethod yX5_part, .selects RX5 yX5_part yX5_part, .initialized RX5, .code yX5_part cX5_part 4 (some .long), .fieldLink RX5 22 "ExactSimplexModel" "rights" "[I", .fieldLink RX5 25 "ExactSimplexModel" "factors" "[I", .fieldLink RX5 7 "ExactSimplexModel" "low" "[I", .fieldLink RX5 13 "ExactSimplexModel" "high" "[I"] ++ wsX50)
def wsX5_keeps : List Cond := .code yX5_keeps cX5_keeps 6 (some .boolean) :: ([.fieldLink RX5 66 "ExactSimplexModel" "names" "I", .fieldLink RX5 57 "ExactSimplexModel" "over" "[J", .fieldLink RX5 7 "ExactSimplexModel" "low" "[I", .fieldLink RX5 74 "ExactSimplexModel" "under" "J", .fieldLink RX5 13 "ExactSimplexModel" "high" "[I", .fieldLink RX5 78 "ExactSimplexModel" "rows" "I", .fieldLink RX5 22 "ExactSimplexModel" "rights" "[I", .fieldLink RX5 25 "ExactSimplexModel" "factors" "[I", .fieldLink RX5 19 "ExactSimplexModel" "sense" "[I"] ++ wsX50)
def wsX5_isThere : List Cond := .code yX5_isThere cX5_isThere 3 (some .boolean) :: ([.fieldLink RX5 66 "ExactSimplexModel" "names" "I"] ++ wsX50)
def wsX5_after : List Cond := .code yX5_after cX5_after 4 (some .int) :: ([.methodLink RX5 81 yX5_isThere, .instanceMethod yX5_isThere, .selects RX5 yX5_isThere yX5_isThere, .initialized RX5, .code yX5_isThere cX5_isThere 3 (some .boolean), .fieldLink RX5 66 "ExactSimplexModel" "names" "I"] ++ wsX50)
def wsX5_compare : List Cond := .code yX5_compare cX5_compare 12 (some .int) :: ([])
def wsX5_take : List Cond := .code yX5_take cX5_take 8 none :: ([.fieldLink RX5 66 "ExactSimplexModel" "names" "I", .fieldLink RX5 16 "ExactSimplexModel" "costs" "[I", .fieldLink RX5 57 "ExactSimplexModel" "over" "[J", .fieldLink RX5 100 "ExactSimplexModel" "any" "Z", .fieldLink RX5 74 "ExactSimplexModel" "under" "J", .fieldLink RX5 42 "ExactSimplexModel" "farOver" "[J", .fieldLink RX5 45 "ExactSimplexModel" "farUnder" "[J", .fieldLink RX5 108 "ExactSimplexModel" "costOver" "J", .fieldLink RX5 111 "ExactSimplexModel" "costUnder" "J", .fieldLink RX5 36 "ExactSimplexModel" "reachOver" "[J", .fieldLink RX5 39 "ExactSimplexModel" "reachUnder" "[J", .fieldLink RX5 32 "ExactSimplexModel" "bestOver" "[J", .fieldLink RX5 114 "ExactSimplexModel" "bestUnder" "J", .methodLink RX5 104 yX5_compare, .static yX5_compare, .initialized RX5, .code yX5_compare cX5_compare 12 (some .int)] ++ wsX50)
def wsX5_corners_r1 : List Cond := [Cond.fieldLink RX5 54 "ExactSimplexModel" "pick" "[I", Cond.fieldLink RX5 66 "ExactSimplexModel" "names" "I", Cond.fieldLink RX5 74 "ExactSimplexModel" "under" "J", Cond.methodLink RX5 85 yX5_keeps, Cond.instanceMethod yX5_keeps, Cond.selects RX5 yX5_keeps yX5_keeps, Cond.initialized RX5, Cond.code yX5_keeps cX5_keeps 6 (some .boolean), Cond.fieldLink RX5 57 "ExactSimplexModel" "over" "[J", Cond.fieldLink RX5 7 "ExactSimplexModel" "low" "[I", Cond.fieldLink RX5 13 "ExactSimplexModel" "high" "[I", Cond.fieldLink RX5 78 "ExactSimplexModel" "rows" "I", Cond.fieldLink RX5 22 "ExactSimplexModel" "rights" "[I", Cond.fieldLink RX5 25 "ExactSimplexModel" "factors" "[I", Cond.fieldLink RX5 19 "ExactSimplexModel" "sense" "[I", Cond.methodLink RX5 89 yX5_take, Cond.instanceMethod yX5_take, Cond.selects RX5 yX5_take yX5_take, Cond.code yX5_take cX5_take 8 none, Cond.fieldLink RX5 16 "ExactSimplexModel" "costs" "[I", Cond.fieldLink RX5 100 "ExactSimplexModel" "any" "Z", Cond.fieldLink RX5 42 "ExactSimplexModel" "farOver" "[J", Cond.fieldLink RX5 45 "ExactSimplexModel" "farUnder" "[J", Cond.fieldLink RX5 108 "ExactSimplexModel" "costOver" "J"]
def wsX5_corners_r2 : List Cond := [Cond.fieldLink RX5 111 "ExactSimplexModel" "costUnder" "J", Cond.fieldLink RX5 36 "ExactSimplexModel" "reachOver" "[J", Cond.fieldLink RX5 39 "ExactSimplexModel" "reachUnder" "[J", Cond.fieldLink RX5 32 "ExactSimplexModel" "bestOver" "[J", Cond.fieldLink RX5 114 "ExactSimplexModel" "bestUnder" "J", Cond.methodLink RX5 104 yX5_compare, Cond.static yX5_compare, Cond.code yX5_compare cX5_compare 12 (some .int), Cond.methodLink RX5 92 yX5_after, Cond.instanceMethod yX5_after, Cond.selects RX5 yX5_after yX5_after, Cond.code yX5_after cX5_after 4 (some .int), Cond.methodLink RX5 81 yX5_isThere, Cond.instanceMethod yX5_isThere, Cond.selects RX5 yX5_isThere yX5_isThere, Cond.code yX5_isThere cX5_isThere 3 (some .boolean), Cond.methodLink RX5 96 yX5_solve, Cond.instanceMethod yX5_solve, Cond.selects RX5 yX5_solve yX5_solve, Cond.code yX5_solve cX5_solve 12 (some .boolean), Cond.fieldLink RX5 51 "ExactSimplexModel" "matrix" "[J", Cond.methodLink RX5 70 yX5_part, Cond.instanceMethod yX5_part, Cond.selects RX5 yX5_part yX5_part]
def wsX5_corners_r3 : List Cond := [Cond.code yX5_part cX5_part 4 (some .long)]
def wsX5_corners : List Cond := .code yX5_corners cX5_corners 5 (some .boolean) :: ((wsX5_corners_r1 ++ (wsX5_corners_r2 ++ wsX5_corners_r3)) ++ wsX50)
def wsX5_all : List Cond := .code yX5_all cX5_all 3 (some .int) :: ([.fieldLink RX5 78 "ExactSimplexModel" "rows" "I", .fieldLink RX5 28 "ExactSimplexModel" "alive" "[Z"] ++ wsX50)
def wsX5_know_r1 : List Cond := [Cond.fieldLink RX5 117 "ExactSimplexModel" "known" "Z", Cond.fieldLink RX5 100 "ExactSimplexModel" "any" "Z", Cond.fieldLink RX5 128 "ExactSimplexModel" "has" "Z", Cond.fieldLink RX5 48 "ExactSimplexModel" "isBarred" "[Z", Cond.methodLink RX5 120 yX5_all, Cond.instanceMethod yX5_all, Cond.selects RX5 yX5_all yX5_all, Cond.initialized RX5, Cond.code yX5_all cX5_all 3 (some .int), Cond.fieldLink RX5 78 "ExactSimplexModel" "rows" "I", Cond.fieldLink RX5 28 "ExactSimplexModel" "alive" "[Z", Cond.methodLink RX5 124 yX5_corners, Cond.instanceMethod yX5_corners, Cond.selects RX5 yX5_corners yX5_corners, Cond.code yX5_corners cX5_corners 5 (some .boolean), Cond.fieldLink RX5 54 "ExactSimplexModel" "pick" "[I", Cond.fieldLink RX5 66 "ExactSimplexModel" "names" "I", Cond.fieldLink RX5 74 "ExactSimplexModel" "under" "J", Cond.methodLink RX5 85 yX5_keeps, Cond.instanceMethod yX5_keeps, Cond.selects RX5 yX5_keeps yX5_keeps, Cond.code yX5_keeps cX5_keeps 6 (some .boolean), Cond.fieldLink RX5 57 "ExactSimplexModel" "over" "[J", Cond.fieldLink RX5 7 "ExactSimplexModel" "low" "[I"]
def wsX5_know_r2 : List Cond := [Cond.fieldLink RX5 13 "ExactSimplexModel" "high" "[I", Cond.fieldLink RX5 22 "ExactSimplexModel" "rights" "[I", Cond.fieldLink RX5 25 "ExactSimplexModel" "factors" "[I", Cond.fieldLink RX5 19 "ExactSimplexModel" "sense" "[I", Cond.methodLink RX5 89 yX5_take, Cond.instanceMethod yX5_take, Cond.selects RX5 yX5_take yX5_take, Cond.code yX5_take cX5_take 8 none, Cond.fieldLink RX5 16 "ExactSimplexModel" "costs" "[I", Cond.fieldLink RX5 42 "ExactSimplexModel" "farOver" "[J", Cond.fieldLink RX5 45 "ExactSimplexModel" "farUnder" "[J", Cond.fieldLink RX5 108 "ExactSimplexModel" "costOver" "J", Cond.fieldLink RX5 111 "ExactSimplexModel" "costUnder" "J", Cond.fieldLink RX5 36 "ExactSimplexModel" "reachOver" "[J", Cond.fieldLink RX5 39 "ExactSimplexModel" "reachUnder" "[J", Cond.fieldLink RX5 32 "ExactSimplexModel" "bestOver" "[J", Cond.fieldLink RX5 114 "ExactSimplexModel" "bestUnder" "J", Cond.methodLink RX5 104 yX5_compare, Cond.static yX5_compare, Cond.code yX5_compare cX5_compare 12 (some .int), Cond.methodLink RX5 92 yX5_after, Cond.instanceMethod yX5_after, Cond.selects RX5 yX5_after yX5_after, Cond.code yX5_after cX5_after 4 (some .int)]
def wsX5_know_r3 : List Cond := [Cond.methodLink RX5 81 yX5_isThere, Cond.instanceMethod yX5_isThere, Cond.selects RX5 yX5_isThere yX5_isThere, Cond.code yX5_isThere cX5_isThere 3 (some .boolean), Cond.methodLink RX5 96 yX5_solve, Cond.instanceMethod yX5_solve, Cond.selects RX5 yX5_solve yX5_solve, Cond.code yX5_solve cX5_solve 12 (some .boolean), Cond.fieldLink RX5 51 "ExactSimplexModel" "matrix" "[J", Cond.methodLink RX5 70 yX5_part, Cond.instanceMethod yX5_part, Cond.selects RX5 yX5_part yX5_part, Cond.code yX5_part cX5_part 4 (some .long)]
def wsX5_know : List Cond := .code yX5_know cX5_know 3 none :: ((wsX5_know_r1 ++ (wsX5_know_r2 ++ wsX5_know_r3)) ++ wsX50)
def wsX5_lowest : List Cond := .code yX5_lowest cX5_lowest 11 (some .long) :: ([])
def wsX5_isName : List Cond := .code yX5_isName cX5_isName 2 (some .boolean) :: ([.fieldLink RX5 66 "ExactSimplexModel" "names" "I"] ++ wsX50)
def wsX5_isRow : List Cond := .code yX5_isRow cX5_isRow 2 (some .boolean) :: ([.fieldLink RX5 78 "ExactSimplexModel" "rows" "I", .fieldLink RX5 28 "ExactSimplexModel" "alive" "[Z"] ++ wsX50)
def wsX5_isSpan : List Cond := .code yX5_isSpan cX5_isSpan 2 (some .boolean) :: ([])
def wsX5_name : List Cond := .code yX5_name cX5_name 4 (some .int) :: ([.fieldLink RX5 66 "ExactSimplexModel" "names" "I", .fieldLink RX5 7 "ExactSimplexModel" "low" "[I", .fieldLink RX5 13 "ExactSimplexModel" "high" "[I", .fieldLink RX5 16 "ExactSimplexModel" "costs" "[I", .fieldLink RX5 25 "ExactSimplexModel" "factors" "[I", .fieldLink RX5 117 "ExactSimplexModel" "known" "Z", .methodLink RX5 131 yX5_isSpan, .static yX5_isSpan, .initialized RX5, .code yX5_isSpan cX5_isSpan 2 (some .boolean)] ++ wsX50)
def wsX5_span : List Cond := .code yX5_span cX5_span 4 (some .int) :: ([.fieldLink RX5 7 "ExactSimplexModel" "low" "[I", .fieldLink RX5 13 "ExactSimplexModel" "high" "[I", .fieldLink RX5 117 "ExactSimplexModel" "known" "Z", .methodLink RX5 134 yX5_isName, .instanceMethod yX5_isName, .selects RX5 yX5_isName yX5_isName, .initialized RX5, .code yX5_isName cX5_isName 2 (some .boolean), .fieldLink RX5 66 "ExactSimplexModel" "names" "I", .methodLink RX5 131 yX5_isSpan, .static yX5_isSpan, .code yX5_isSpan cX5_isSpan 2 (some .boolean)] ++ wsX50)
def wsX5_cost : List Cond := .code yX5_cost cX5_cost 4 (some .int) :: ([.fieldLink RX5 16 "ExactSimplexModel" "costs" "[I", .fieldLink RX5 117 "ExactSimplexModel" "known" "Z", .methodLink RX5 134 yX5_isName, .instanceMethod yX5_isName, .selects RX5 yX5_isName yX5_isName, .initialized RX5, .code yX5_isName cX5_isName 2 (some .boolean), .fieldLink RX5 66 "ExactSimplexModel" "names" "I"] ++ wsX50)
def wsX5_row : List Cond := .code yX5_row cX5_row 4 (some .int) :: ([.fieldLink RX5 78 "ExactSimplexModel" "rows" "I", .fieldLink RX5 19 "ExactSimplexModel" "sense" "[I", .fieldLink RX5 22 "ExactSimplexModel" "rights" "[I", .fieldLink RX5 28 "ExactSimplexModel" "alive" "[Z", .fieldLink RX5 25 "ExactSimplexModel" "factors" "[I", .fieldLink RX5 117 "ExactSimplexModel" "known" "Z"] ++ wsX50)
def wsX5_right : List Cond := .code yX5_right cX5_right 3 (some .int) :: ([.fieldLink RX5 22 "ExactSimplexModel" "rights" "[I", .fieldLink RX5 117 "ExactSimplexModel" "known" "Z", .methodLink RX5 137 yX5_isRow, .instanceMethod yX5_isRow, .selects RX5 yX5_isRow yX5_isRow, .initialized RX5, .code yX5_isRow cX5_isRow 2 (some .boolean), .fieldLink RX5 78 "ExactSimplexModel" "rows" "I", .fieldLink RX5 28 "ExactSimplexModel" "alive" "[Z"] ++ wsX50)
def wsX5_factor : List Cond := .code yX5_factor cX5_factor 4 (some .int) :: ([.fieldLink RX5 25 "ExactSimplexModel" "factors" "[I", .fieldLink RX5 117 "ExactSimplexModel" "known" "Z", .methodLink RX5 137 yX5_isRow, .instanceMethod yX5_isRow, .selects RX5 yX5_isRow yX5_isRow, .initialized RX5, .code yX5_isRow cX5_isRow 2 (some .boolean), .fieldLink RX5 78 "ExactSimplexModel" "rows" "I", .fieldLink RX5 28 "ExactSimplexModel" "alive" "[Z", .methodLink RX5 134 yX5_isName, .instanceMethod yX5_isName, .selects RX5 yX5_isName yX5_isName, .code yX5_isName cX5_isName 2 (some .boolean), .fieldLink RX5 66 "ExactSimplexModel" "names" "I"] ++ wsX50)
def wsX5_rowCount : List Cond := .code yX5_rowCount cX5_rowCount 3 (some .int) :: ([.fieldLink RX5 78 "ExactSimplexModel" "rows" "I", .fieldLink RX5 28 "ExactSimplexModel" "alive" "[Z"] ++ wsX50)
def wsX5_drop : List Cond := .code yX5_drop cX5_drop 2 (some .int) :: ([.fieldLink RX5 28 "ExactSimplexModel" "alive" "[Z", .fieldLink RX5 117 "ExactSimplexModel" "known" "Z", .methodLink RX5 137 yX5_isRow, .instanceMethod yX5_isRow, .selects RX5 yX5_isRow yX5_isRow, .initialized RX5, .code yX5_isRow cX5_isRow 2 (some .boolean), .fieldLink RX5 78 "ExactSimplexModel" "rows" "I", .methodLink RX5 140 yX5_rowCount, .instanceMethod yX5_rowCount, .selects RX5 yX5_rowCount yX5_rowCount, .code yX5_rowCount cX5_rowCount 3 (some .int)] ++ wsX50)
def wsX5_clear : List Cond := .code yX5_clear cX5_clear 2 (some .int) :: ([.fieldLink RX5 66 "ExactSimplexModel" "names" "I", .fieldLink RX5 78 "ExactSimplexModel" "rows" "I", .fieldLink RX5 117 "ExactSimplexModel" "known" "Z"] ++ wsX50)
def wsX5_run_r1 : List Cond := [Cond.fieldLink RX5 128 "ExactSimplexModel" "has" "Z", Cond.methodLink RX5 143 yX5_know, Cond.instanceMethod yX5_know, Cond.selects RX5 yX5_know yX5_know, Cond.initialized RX5, Cond.code yX5_know cX5_know 3 none, Cond.fieldLink RX5 117 "ExactSimplexModel" "known" "Z", Cond.fieldLink RX5 100 "ExactSimplexModel" "any" "Z", Cond.fieldLink RX5 48 "ExactSimplexModel" "isBarred" "[Z", Cond.methodLink RX5 120 yX5_all, Cond.instanceMethod yX5_all, Cond.selects RX5 yX5_all yX5_all, Cond.code yX5_all cX5_all 3 (some .int), Cond.fieldLink RX5 78 "ExactSimplexModel" "rows" "I", Cond.fieldLink RX5 28 "ExactSimplexModel" "alive" "[Z", Cond.methodLink RX5 124 yX5_corners, Cond.instanceMethod yX5_corners, Cond.selects RX5 yX5_corners yX5_corners, Cond.code yX5_corners cX5_corners 5 (some .boolean), Cond.fieldLink RX5 54 "ExactSimplexModel" "pick" "[I", Cond.fieldLink RX5 66 "ExactSimplexModel" "names" "I", Cond.fieldLink RX5 74 "ExactSimplexModel" "under" "J", Cond.methodLink RX5 85 yX5_keeps, Cond.instanceMethod yX5_keeps]
def wsX5_run_r2 : List Cond := [Cond.selects RX5 yX5_keeps yX5_keeps, Cond.code yX5_keeps cX5_keeps 6 (some .boolean), Cond.fieldLink RX5 57 "ExactSimplexModel" "over" "[J", Cond.fieldLink RX5 7 "ExactSimplexModel" "low" "[I", Cond.fieldLink RX5 13 "ExactSimplexModel" "high" "[I", Cond.fieldLink RX5 22 "ExactSimplexModel" "rights" "[I", Cond.fieldLink RX5 25 "ExactSimplexModel" "factors" "[I", Cond.fieldLink RX5 19 "ExactSimplexModel" "sense" "[I", Cond.methodLink RX5 89 yX5_take, Cond.instanceMethod yX5_take, Cond.selects RX5 yX5_take yX5_take, Cond.code yX5_take cX5_take 8 none, Cond.fieldLink RX5 16 "ExactSimplexModel" "costs" "[I", Cond.fieldLink RX5 42 "ExactSimplexModel" "farOver" "[J", Cond.fieldLink RX5 45 "ExactSimplexModel" "farUnder" "[J", Cond.fieldLink RX5 108 "ExactSimplexModel" "costOver" "J", Cond.fieldLink RX5 111 "ExactSimplexModel" "costUnder" "J", Cond.fieldLink RX5 36 "ExactSimplexModel" "reachOver" "[J", Cond.fieldLink RX5 39 "ExactSimplexModel" "reachUnder" "[J", Cond.fieldLink RX5 32 "ExactSimplexModel" "bestOver" "[J", Cond.fieldLink RX5 114 "ExactSimplexModel" "bestUnder" "J", Cond.methodLink RX5 104 yX5_compare, Cond.static yX5_compare, Cond.code yX5_compare cX5_compare 12 (some .int)]
def wsX5_run_r3 : List Cond := [Cond.methodLink RX5 92 yX5_after, Cond.instanceMethod yX5_after, Cond.selects RX5 yX5_after yX5_after, Cond.code yX5_after cX5_after 4 (some .int), Cond.methodLink RX5 81 yX5_isThere, Cond.instanceMethod yX5_isThere, Cond.selects RX5 yX5_isThere yX5_isThere, Cond.code yX5_isThere cX5_isThere 3 (some .boolean), Cond.methodLink RX5 96 yX5_solve, Cond.instanceMethod yX5_solve, Cond.selects RX5 yX5_solve yX5_solve, Cond.code yX5_solve cX5_solve 12 (some .boolean), Cond.fieldLink RX5 51 "ExactSimplexModel" "matrix" "[J", Cond.methodLink RX5 70 yX5_part, Cond.instanceMethod yX5_part, Cond.selects RX5 yX5_part yX5_part, Cond.code yX5_part cX5_part 4 (some .long)]
def wsX5_run : List Cond := .code yX5_run cX5_run 1 (some .int) :: ((wsX5_run_r1 ++ (wsX5_run_r2 ++ wsX5_run_r3)) ++ wsX50)
def wsX5_isPart : List Cond := .code yX5_isPart cX5_isPart 1 (some .boolean) :: ([])
def wsX5_least_r1 : List Cond := [Cond.constantLong RX5 149 (-2), Cond.fieldLink RX5 128 "ExactSimplexModel" "has" "Z", Cond.fieldLink RX5 108 "ExactSimplexModel" "costOver" "J", Cond.fieldLink RX5 111 "ExactSimplexModel" "costUnder" "J", Cond.constantLong RX5 155 (-3), Cond.methodLink RX5 146 yX5_isPart, Cond.static yX5_isPart, Cond.initialized RX5, Cond.code yX5_isPart cX5_isPart 1 (some .boolean), Cond.methodLink RX5 143 yX5_know, Cond.instanceMethod yX5_know, Cond.selects RX5 yX5_know yX5_know, Cond.code yX5_know cX5_know 3 none, Cond.fieldLink RX5 117 "ExactSimplexModel" "known" "Z", Cond.fieldLink RX5 100 "ExactSimplexModel" "any" "Z", Cond.fieldLink RX5 48 "ExactSimplexModel" "isBarred" "[Z", Cond.methodLink RX5 120 yX5_all, Cond.instanceMethod yX5_all, Cond.selects RX5 yX5_all yX5_all, Cond.code yX5_all cX5_all 3 (some .int), Cond.fieldLink RX5 78 "ExactSimplexModel" "rows" "I", Cond.fieldLink RX5 28 "ExactSimplexModel" "alive" "[Z", Cond.methodLink RX5 124 yX5_corners, Cond.instanceMethod yX5_corners]
def wsX5_least_r2 : List Cond := [Cond.selects RX5 yX5_corners yX5_corners, Cond.code yX5_corners cX5_corners 5 (some .boolean), Cond.fieldLink RX5 54 "ExactSimplexModel" "pick" "[I", Cond.fieldLink RX5 66 "ExactSimplexModel" "names" "I", Cond.fieldLink RX5 74 "ExactSimplexModel" "under" "J", Cond.methodLink RX5 85 yX5_keeps, Cond.instanceMethod yX5_keeps, Cond.selects RX5 yX5_keeps yX5_keeps, Cond.code yX5_keeps cX5_keeps 6 (some .boolean), Cond.fieldLink RX5 57 "ExactSimplexModel" "over" "[J", Cond.fieldLink RX5 7 "ExactSimplexModel" "low" "[I", Cond.fieldLink RX5 13 "ExactSimplexModel" "high" "[I", Cond.fieldLink RX5 22 "ExactSimplexModel" "rights" "[I", Cond.fieldLink RX5 25 "ExactSimplexModel" "factors" "[I", Cond.fieldLink RX5 19 "ExactSimplexModel" "sense" "[I", Cond.methodLink RX5 89 yX5_take, Cond.instanceMethod yX5_take, Cond.selects RX5 yX5_take yX5_take, Cond.code yX5_take cX5_take 8 none, Cond.fieldLink RX5 16 "ExactSimplexModel" "costs" "[I", Cond.fieldLink RX5 42 "ExactSimplexModel" "farOver" "[J", Cond.fieldLink RX5 45 "ExactSimplexModel" "farUnder" "[J", Cond.fieldLink RX5 36 "ExactSimplexModel" "reachOver" "[J", Cond.fieldLink RX5 39 "ExactSimplexModel" "reachUnder" "[J"]
def wsX5_least_r3 : List Cond := [Cond.fieldLink RX5 32 "ExactSimplexModel" "bestOver" "[J", Cond.fieldLink RX5 114 "ExactSimplexModel" "bestUnder" "J", Cond.methodLink RX5 104 yX5_compare, Cond.static yX5_compare, Cond.code yX5_compare cX5_compare 12 (some .int), Cond.methodLink RX5 92 yX5_after, Cond.instanceMethod yX5_after, Cond.selects RX5 yX5_after yX5_after, Cond.code yX5_after cX5_after 4 (some .int), Cond.methodLink RX5 81 yX5_isThere, Cond.instanceMethod yX5_isThere, Cond.selects RX5 yX5_isThere yX5_isThere, Cond.code yX5_isThere cX5_isThere 3 (some .boolean), Cond.methodLink RX5 96 yX5_solve, Cond.instanceMethod yX5_solve, Cond.selects RX5 yX5_solve yX5_solve, Cond.code yX5_solve cX5_solve 12 (some .boolean), Cond.fieldLink RX5 51 "ExactSimplexModel" "matrix" "[J", Cond.methodLink RX5 70 yX5_part, Cond.instanceMethod yX5_part, Cond.selects RX5 yX5_part yX5_part, Cond.code yX5_part cX5_part 4 (some .long), Cond.methodLink RX5 151 yX5_lowest, Cond.static yX5_lowest]
def wsX5_least_r4 : List Cond := [Cond.code yX5_lowest cX5_lowest 11 (some .long)]
def wsX5_least : List Cond := .code yX5_least cX5_least 2 (some .long) :: ((wsX5_least_r1 ++ (wsX5_least_r2 ++ (wsX5_least_r3 ++ wsX5_least_r4))) ++ wsX50)
def wsX5_value_r1 : List Cond := [Cond.constantLong RX5 157 (-1), Cond.constantLong RX5 149 (-2), Cond.fieldLink RX5 128 "ExactSimplexModel" "has" "Z", Cond.fieldLink RX5 32 "ExactSimplexModel" "bestOver" "[J", Cond.fieldLink RX5 114 "ExactSimplexModel" "bestUnder" "J", Cond.constantLong RX5 155 (-3), Cond.methodLink RX5 134 yX5_isName, Cond.instanceMethod yX5_isName, Cond.selects RX5 yX5_isName yX5_isName, Cond.initialized RX5, Cond.code yX5_isName cX5_isName 2 (some .boolean), Cond.fieldLink RX5 66 "ExactSimplexModel" "names" "I", Cond.methodLink RX5 146 yX5_isPart, Cond.static yX5_isPart, Cond.code yX5_isPart cX5_isPart 1 (some .boolean), Cond.methodLink RX5 143 yX5_know, Cond.instanceMethod yX5_know, Cond.selects RX5 yX5_know yX5_know, Cond.code yX5_know cX5_know 3 none, Cond.fieldLink RX5 117 "ExactSimplexModel" "known" "Z", Cond.fieldLink RX5 100 "ExactSimplexModel" "any" "Z", Cond.fieldLink RX5 48 "ExactSimplexModel" "isBarred" "[Z", Cond.methodLink RX5 120 yX5_all, Cond.instanceMethod yX5_all]
def wsX5_value_r2 : List Cond := [Cond.selects RX5 yX5_all yX5_all, Cond.code yX5_all cX5_all 3 (some .int), Cond.fieldLink RX5 78 "ExactSimplexModel" "rows" "I", Cond.fieldLink RX5 28 "ExactSimplexModel" "alive" "[Z", Cond.methodLink RX5 124 yX5_corners, Cond.instanceMethod yX5_corners, Cond.selects RX5 yX5_corners yX5_corners, Cond.code yX5_corners cX5_corners 5 (some .boolean), Cond.fieldLink RX5 54 "ExactSimplexModel" "pick" "[I", Cond.fieldLink RX5 74 "ExactSimplexModel" "under" "J", Cond.methodLink RX5 85 yX5_keeps, Cond.instanceMethod yX5_keeps, Cond.selects RX5 yX5_keeps yX5_keeps, Cond.code yX5_keeps cX5_keeps 6 (some .boolean), Cond.fieldLink RX5 57 "ExactSimplexModel" "over" "[J", Cond.fieldLink RX5 7 "ExactSimplexModel" "low" "[I", Cond.fieldLink RX5 13 "ExactSimplexModel" "high" "[I", Cond.fieldLink RX5 22 "ExactSimplexModel" "rights" "[I", Cond.fieldLink RX5 25 "ExactSimplexModel" "factors" "[I", Cond.fieldLink RX5 19 "ExactSimplexModel" "sense" "[I", Cond.methodLink RX5 89 yX5_take, Cond.instanceMethod yX5_take, Cond.selects RX5 yX5_take yX5_take, Cond.code yX5_take cX5_take 8 none]
def wsX5_value_r3 : List Cond := [Cond.fieldLink RX5 16 "ExactSimplexModel" "costs" "[I", Cond.fieldLink RX5 42 "ExactSimplexModel" "farOver" "[J", Cond.fieldLink RX5 45 "ExactSimplexModel" "farUnder" "[J", Cond.fieldLink RX5 108 "ExactSimplexModel" "costOver" "J", Cond.fieldLink RX5 111 "ExactSimplexModel" "costUnder" "J", Cond.fieldLink RX5 36 "ExactSimplexModel" "reachOver" "[J", Cond.fieldLink RX5 39 "ExactSimplexModel" "reachUnder" "[J", Cond.methodLink RX5 104 yX5_compare, Cond.static yX5_compare, Cond.code yX5_compare cX5_compare 12 (some .int), Cond.methodLink RX5 92 yX5_after, Cond.instanceMethod yX5_after, Cond.selects RX5 yX5_after yX5_after, Cond.code yX5_after cX5_after 4 (some .int), Cond.methodLink RX5 81 yX5_isThere, Cond.instanceMethod yX5_isThere, Cond.selects RX5 yX5_isThere yX5_isThere, Cond.code yX5_isThere cX5_isThere 3 (some .boolean), Cond.methodLink RX5 96 yX5_solve, Cond.instanceMethod yX5_solve, Cond.selects RX5 yX5_solve yX5_solve, Cond.code yX5_solve cX5_solve 12 (some .boolean), Cond.fieldLink RX5 51 "ExactSimplexModel" "matrix" "[J", Cond.methodLink RX5 70 yX5_part]
def wsX5_value_r4 : List Cond := [Cond.instanceMethod yX5_part, Cond.selects RX5 yX5_part yX5_part, Cond.code yX5_part cX5_part 4 (some .long), Cond.methodLink RX5 151 yX5_lowest, Cond.static yX5_lowest, Cond.code yX5_lowest cX5_lowest 11 (some .long)]
def wsX5_value : List Cond := .code yX5_value cX5_value 3 (some .long) :: ((wsX5_value_r1 ++ (wsX5_value_r2 ++ (wsX5_value_r3 ++ wsX5_value_r4))) ++ wsX50)
def wsX5_tight_r1 : List Cond := [Cond.fieldLink RX5 128 "ExactSimplexModel" "has" "Z", Cond.fieldLink RX5 66 "ExactSimplexModel" "names" "I", Cond.fieldLink RX5 22 "ExactSimplexModel" "rights" "[I", Cond.fieldLink RX5 114 "ExactSimplexModel" "bestUnder" "J", Cond.fieldLink RX5 25 "ExactSimplexModel" "factors" "[I", Cond.fieldLink RX5 32 "ExactSimplexModel" "bestOver" "[J", Cond.methodLink RX5 137 yX5_isRow, Cond.instanceMethod yX5_isRow, Cond.selects RX5 yX5_isRow yX5_isRow, Cond.initialized RX5, Cond.code yX5_isRow cX5_isRow 2 (some .boolean), Cond.fieldLink RX5 78 "ExactSimplexModel" "rows" "I", Cond.fieldLink RX5 28 "ExactSimplexModel" "alive" "[Z", Cond.methodLink RX5 143 yX5_know, Cond.instanceMethod yX5_know, Cond.selects RX5 yX5_know yX5_know, Cond.code yX5_know cX5_know 3 none, Cond.fieldLink RX5 117 "ExactSimplexModel" "known" "Z", Cond.fieldLink RX5 100 "ExactSimplexModel" "any" "Z", Cond.fieldLink RX5 48 "ExactSimplexModel" "isBarred" "[Z", Cond.methodLink RX5 120 yX5_all, Cond.instanceMethod yX5_all, Cond.selects RX5 yX5_all yX5_all, Cond.code yX5_all cX5_all 3 (some .int)]
def wsX5_tight_r2 : List Cond := [Cond.methodLink RX5 124 yX5_corners, Cond.instanceMethod yX5_corners, Cond.selects RX5 yX5_corners yX5_corners, Cond.code yX5_corners cX5_corners 5 (some .boolean), Cond.fieldLink RX5 54 "ExactSimplexModel" "pick" "[I", Cond.fieldLink RX5 74 "ExactSimplexModel" "under" "J", Cond.methodLink RX5 85 yX5_keeps, Cond.instanceMethod yX5_keeps, Cond.selects RX5 yX5_keeps yX5_keeps, Cond.code yX5_keeps cX5_keeps 6 (some .boolean), Cond.fieldLink RX5 57 "ExactSimplexModel" "over" "[J", Cond.fieldLink RX5 7 "ExactSimplexModel" "low" "[I", Cond.fieldLink RX5 13 "ExactSimplexModel" "high" "[I", Cond.fieldLink RX5 19 "ExactSimplexModel" "sense" "[I", Cond.methodLink RX5 89 yX5_take, Cond.instanceMethod yX5_take, Cond.selects RX5 yX5_take yX5_take, Cond.code yX5_take cX5_take 8 none, Cond.fieldLink RX5 16 "ExactSimplexModel" "costs" "[I", Cond.fieldLink RX5 42 "ExactSimplexModel" "farOver" "[J", Cond.fieldLink RX5 45 "ExactSimplexModel" "farUnder" "[J", Cond.fieldLink RX5 108 "ExactSimplexModel" "costOver" "J", Cond.fieldLink RX5 111 "ExactSimplexModel" "costUnder" "J", Cond.fieldLink RX5 36 "ExactSimplexModel" "reachOver" "[J"]
def wsX5_tight_r3 : List Cond := [Cond.fieldLink RX5 39 "ExactSimplexModel" "reachUnder" "[J", Cond.methodLink RX5 104 yX5_compare, Cond.static yX5_compare, Cond.code yX5_compare cX5_compare 12 (some .int), Cond.methodLink RX5 92 yX5_after, Cond.instanceMethod yX5_after, Cond.selects RX5 yX5_after yX5_after, Cond.code yX5_after cX5_after 4 (some .int), Cond.methodLink RX5 81 yX5_isThere, Cond.instanceMethod yX5_isThere, Cond.selects RX5 yX5_isThere yX5_isThere, Cond.code yX5_isThere cX5_isThere 3 (some .boolean), Cond.methodLink RX5 96 yX5_solve, Cond.instanceMethod yX5_solve, Cond.selects RX5 yX5_solve yX5_solve, Cond.code yX5_solve cX5_solve 12 (some .boolean), Cond.fieldLink RX5 51 "ExactSimplexModel" "matrix" "[J", Cond.methodLink RX5 70 yX5_part, Cond.instanceMethod yX5_part, Cond.selects RX5 yX5_part yX5_part, Cond.code yX5_part cX5_part 4 (some .long)]
def wsX5_tight : List Cond := .code yX5_tight cX5_tight 5 (some .int) :: ((wsX5_tight_r1 ++ (wsX5_tight_r2 ++ wsX5_tight_r3)) ++ wsX50)
def wsX5_reach_r1 : List Cond := [Cond.constantLong RX5 157 (-1), Cond.constantLong RX5 149 (-2), Cond.fieldLink RX5 128 "ExactSimplexModel" "has" "Z", Cond.fieldLink RX5 36 "ExactSimplexModel" "reachOver" "[J", Cond.fieldLink RX5 39 "ExactSimplexModel" "reachUnder" "[J", Cond.constantLong RX5 155 (-3), Cond.methodLink RX5 134 yX5_isName, Cond.instanceMethod yX5_isName, Cond.selects RX5 yX5_isName yX5_isName, Cond.initialized RX5, Cond.code yX5_isName cX5_isName 2 (some .boolean), Cond.fieldLink RX5 66 "ExactSimplexModel" "names" "I", Cond.methodLink RX5 146 yX5_isPart, Cond.static yX5_isPart, Cond.code yX5_isPart cX5_isPart 1 (some .boolean), Cond.methodLink RX5 143 yX5_know, Cond.instanceMethod yX5_know, Cond.selects RX5 yX5_know yX5_know, Cond.code yX5_know cX5_know 3 none, Cond.fieldLink RX5 117 "ExactSimplexModel" "known" "Z", Cond.fieldLink RX5 100 "ExactSimplexModel" "any" "Z", Cond.fieldLink RX5 48 "ExactSimplexModel" "isBarred" "[Z", Cond.methodLink RX5 120 yX5_all, Cond.instanceMethod yX5_all]
def wsX5_reach_r2 : List Cond := [Cond.selects RX5 yX5_all yX5_all, Cond.code yX5_all cX5_all 3 (some .int), Cond.fieldLink RX5 78 "ExactSimplexModel" "rows" "I", Cond.fieldLink RX5 28 "ExactSimplexModel" "alive" "[Z", Cond.methodLink RX5 124 yX5_corners, Cond.instanceMethod yX5_corners, Cond.selects RX5 yX5_corners yX5_corners, Cond.code yX5_corners cX5_corners 5 (some .boolean), Cond.fieldLink RX5 54 "ExactSimplexModel" "pick" "[I", Cond.fieldLink RX5 74 "ExactSimplexModel" "under" "J", Cond.methodLink RX5 85 yX5_keeps, Cond.instanceMethod yX5_keeps, Cond.selects RX5 yX5_keeps yX5_keeps, Cond.code yX5_keeps cX5_keeps 6 (some .boolean), Cond.fieldLink RX5 57 "ExactSimplexModel" "over" "[J", Cond.fieldLink RX5 7 "ExactSimplexModel" "low" "[I", Cond.fieldLink RX5 13 "ExactSimplexModel" "high" "[I", Cond.fieldLink RX5 22 "ExactSimplexModel" "rights" "[I", Cond.fieldLink RX5 25 "ExactSimplexModel" "factors" "[I", Cond.fieldLink RX5 19 "ExactSimplexModel" "sense" "[I", Cond.methodLink RX5 89 yX5_take, Cond.instanceMethod yX5_take, Cond.selects RX5 yX5_take yX5_take, Cond.code yX5_take cX5_take 8 none]
def wsX5_reach_r3 : List Cond := [Cond.fieldLink RX5 16 "ExactSimplexModel" "costs" "[I", Cond.fieldLink RX5 42 "ExactSimplexModel" "farOver" "[J", Cond.fieldLink RX5 45 "ExactSimplexModel" "farUnder" "[J", Cond.fieldLink RX5 108 "ExactSimplexModel" "costOver" "J", Cond.fieldLink RX5 111 "ExactSimplexModel" "costUnder" "J", Cond.fieldLink RX5 32 "ExactSimplexModel" "bestOver" "[J", Cond.fieldLink RX5 114 "ExactSimplexModel" "bestUnder" "J", Cond.methodLink RX5 104 yX5_compare, Cond.static yX5_compare, Cond.code yX5_compare cX5_compare 12 (some .int), Cond.methodLink RX5 92 yX5_after, Cond.instanceMethod yX5_after, Cond.selects RX5 yX5_after yX5_after, Cond.code yX5_after cX5_after 4 (some .int), Cond.methodLink RX5 81 yX5_isThere, Cond.instanceMethod yX5_isThere, Cond.selects RX5 yX5_isThere yX5_isThere, Cond.code yX5_isThere cX5_isThere 3 (some .boolean), Cond.methodLink RX5 96 yX5_solve, Cond.instanceMethod yX5_solve, Cond.selects RX5 yX5_solve yX5_solve, Cond.code yX5_solve cX5_solve 12 (some .boolean), Cond.fieldLink RX5 51 "ExactSimplexModel" "matrix" "[J", Cond.methodLink RX5 70 yX5_part]
def wsX5_reach_r4 : List Cond := [Cond.instanceMethod yX5_part, Cond.selects RX5 yX5_part yX5_part, Cond.code yX5_part cX5_part 4 (some .long), Cond.methodLink RX5 151 yX5_lowest, Cond.static yX5_lowest, Cond.code yX5_lowest cX5_lowest 11 (some .long)]
def wsX5_reach : List Cond := .code yX5_reach cX5_reach 4 (some .long) :: ((wsX5_reach_r1 ++ (wsX5_reach_r2 ++ (wsX5_reach_r3 ++ wsX5_reach_r4))) ++ wsX50)
def wsX5_far_r1 : List Cond := [Cond.constantLong RX5 157 (-1), Cond.constantLong RX5 149 (-2), Cond.fieldLink RX5 128 "ExactSimplexModel" "has" "Z", Cond.fieldLink RX5 42 "ExactSimplexModel" "farOver" "[J", Cond.fieldLink RX5 45 "ExactSimplexModel" "farUnder" "[J", Cond.constantLong RX5 155 (-3), Cond.methodLink RX5 134 yX5_isName, Cond.instanceMethod yX5_isName, Cond.selects RX5 yX5_isName yX5_isName, Cond.initialized RX5, Cond.code yX5_isName cX5_isName 2 (some .boolean), Cond.fieldLink RX5 66 "ExactSimplexModel" "names" "I", Cond.methodLink RX5 146 yX5_isPart, Cond.static yX5_isPart, Cond.code yX5_isPart cX5_isPart 1 (some .boolean), Cond.methodLink RX5 143 yX5_know, Cond.instanceMethod yX5_know, Cond.selects RX5 yX5_know yX5_know, Cond.code yX5_know cX5_know 3 none, Cond.fieldLink RX5 117 "ExactSimplexModel" "known" "Z", Cond.fieldLink RX5 100 "ExactSimplexModel" "any" "Z", Cond.fieldLink RX5 48 "ExactSimplexModel" "isBarred" "[Z", Cond.methodLink RX5 120 yX5_all, Cond.instanceMethod yX5_all]
def wsX5_far_r2 : List Cond := [Cond.selects RX5 yX5_all yX5_all, Cond.code yX5_all cX5_all 3 (some .int), Cond.fieldLink RX5 78 "ExactSimplexModel" "rows" "I", Cond.fieldLink RX5 28 "ExactSimplexModel" "alive" "[Z", Cond.methodLink RX5 124 yX5_corners, Cond.instanceMethod yX5_corners, Cond.selects RX5 yX5_corners yX5_corners, Cond.code yX5_corners cX5_corners 5 (some .boolean), Cond.fieldLink RX5 54 "ExactSimplexModel" "pick" "[I", Cond.fieldLink RX5 74 "ExactSimplexModel" "under" "J", Cond.methodLink RX5 85 yX5_keeps, Cond.instanceMethod yX5_keeps, Cond.selects RX5 yX5_keeps yX5_keeps, Cond.code yX5_keeps cX5_keeps 6 (some .boolean), Cond.fieldLink RX5 57 "ExactSimplexModel" "over" "[J", Cond.fieldLink RX5 7 "ExactSimplexModel" "low" "[I", Cond.fieldLink RX5 13 "ExactSimplexModel" "high" "[I", Cond.fieldLink RX5 22 "ExactSimplexModel" "rights" "[I", Cond.fieldLink RX5 25 "ExactSimplexModel" "factors" "[I", Cond.fieldLink RX5 19 "ExactSimplexModel" "sense" "[I", Cond.methodLink RX5 89 yX5_take, Cond.instanceMethod yX5_take, Cond.selects RX5 yX5_take yX5_take, Cond.code yX5_take cX5_take 8 none]
def wsX5_far_r3 : List Cond := [Cond.fieldLink RX5 16 "ExactSimplexModel" "costs" "[I", Cond.fieldLink RX5 108 "ExactSimplexModel" "costOver" "J", Cond.fieldLink RX5 111 "ExactSimplexModel" "costUnder" "J", Cond.fieldLink RX5 36 "ExactSimplexModel" "reachOver" "[J", Cond.fieldLink RX5 39 "ExactSimplexModel" "reachUnder" "[J", Cond.fieldLink RX5 32 "ExactSimplexModel" "bestOver" "[J", Cond.fieldLink RX5 114 "ExactSimplexModel" "bestUnder" "J", Cond.methodLink RX5 104 yX5_compare, Cond.static yX5_compare, Cond.code yX5_compare cX5_compare 12 (some .int), Cond.methodLink RX5 92 yX5_after, Cond.instanceMethod yX5_after, Cond.selects RX5 yX5_after yX5_after, Cond.code yX5_after cX5_after 4 (some .int), Cond.methodLink RX5 81 yX5_isThere, Cond.instanceMethod yX5_isThere, Cond.selects RX5 yX5_isThere yX5_isThere, Cond.code yX5_isThere cX5_isThere 3 (some .boolean), Cond.methodLink RX5 96 yX5_solve, Cond.instanceMethod yX5_solve, Cond.selects RX5 yX5_solve yX5_solve, Cond.code yX5_solve cX5_solve 12 (some .boolean), Cond.fieldLink RX5 51 "ExactSimplexModel" "matrix" "[J", Cond.methodLink RX5 70 yX5_part]
def wsX5_far_r4 : List Cond := [Cond.instanceMethod yX5_part, Cond.selects RX5 yX5_part yX5_part, Cond.code yX5_part cX5_part 4 (some .long), Cond.methodLink RX5 151 yX5_lowest, Cond.static yX5_lowest, Cond.code yX5_lowest cX5_lowest 11 (some .long)]
def wsX5_far : List Cond := .code yX5_far cX5_far 4 (some .long) :: ((wsX5_far_r1 ++ (wsX5_far_r2 ++ (wsX5_far_r3 ++ wsX5_far_r4))) ++ wsX50)
def wsX5_barred_r1 : List Cond := [Cond.fieldLink RX5 128 "ExactSimplexModel" "has" "Z", Cond.fieldLink RX5 48 "ExactSimplexModel" "isBarred" "[Z", Cond.methodLink RX5 143 yX5_know, Cond.instanceMethod yX5_know, Cond.selects RX5 yX5_know yX5_know, Cond.initialized RX5, Cond.code yX5_know cX5_know 3 none, Cond.fieldLink RX5 117 "ExactSimplexModel" "known" "Z", Cond.fieldLink RX5 100 "ExactSimplexModel" "any" "Z", Cond.methodLink RX5 120 yX5_all, Cond.instanceMethod yX5_all, Cond.selects RX5 yX5_all yX5_all, Cond.code yX5_all cX5_all 3 (some .int), Cond.fieldLink RX5 78 "ExactSimplexModel" "rows" "I", Cond.fieldLink RX5 28 "ExactSimplexModel" "alive" "[Z", Cond.methodLink RX5 124 yX5_corners, Cond.instanceMethod yX5_corners, Cond.selects RX5 yX5_corners yX5_corners, Cond.code yX5_corners cX5_corners 5 (some .boolean), Cond.fieldLink RX5 54 "ExactSimplexModel" "pick" "[I", Cond.fieldLink RX5 66 "ExactSimplexModel" "names" "I", Cond.fieldLink RX5 74 "ExactSimplexModel" "under" "J", Cond.methodLink RX5 85 yX5_keeps, Cond.instanceMethod yX5_keeps]
def wsX5_barred_r2 : List Cond := [Cond.selects RX5 yX5_keeps yX5_keeps, Cond.code yX5_keeps cX5_keeps 6 (some .boolean), Cond.fieldLink RX5 57 "ExactSimplexModel" "over" "[J", Cond.fieldLink RX5 7 "ExactSimplexModel" "low" "[I", Cond.fieldLink RX5 13 "ExactSimplexModel" "high" "[I", Cond.fieldLink RX5 22 "ExactSimplexModel" "rights" "[I", Cond.fieldLink RX5 25 "ExactSimplexModel" "factors" "[I", Cond.fieldLink RX5 19 "ExactSimplexModel" "sense" "[I", Cond.methodLink RX5 89 yX5_take, Cond.instanceMethod yX5_take, Cond.selects RX5 yX5_take yX5_take, Cond.code yX5_take cX5_take 8 none, Cond.fieldLink RX5 16 "ExactSimplexModel" "costs" "[I", Cond.fieldLink RX5 42 "ExactSimplexModel" "farOver" "[J", Cond.fieldLink RX5 45 "ExactSimplexModel" "farUnder" "[J", Cond.fieldLink RX5 108 "ExactSimplexModel" "costOver" "J", Cond.fieldLink RX5 111 "ExactSimplexModel" "costUnder" "J", Cond.fieldLink RX5 36 "ExactSimplexModel" "reachOver" "[J", Cond.fieldLink RX5 39 "ExactSimplexModel" "reachUnder" "[J", Cond.fieldLink RX5 32 "ExactSimplexModel" "bestOver" "[J", Cond.fieldLink RX5 114 "ExactSimplexModel" "bestUnder" "J", Cond.methodLink RX5 104 yX5_compare, Cond.static yX5_compare, Cond.code yX5_compare cX5_compare 12 (some .int)]
def wsX5_barred_r3 : List Cond := [Cond.methodLink RX5 92 yX5_after, Cond.instanceMethod yX5_after, Cond.selects RX5 yX5_after yX5_after, Cond.code yX5_after cX5_after 4 (some .int), Cond.methodLink RX5 81 yX5_isThere, Cond.instanceMethod yX5_isThere, Cond.selects RX5 yX5_isThere yX5_isThere, Cond.code yX5_isThere cX5_isThere 3 (some .boolean), Cond.methodLink RX5 96 yX5_solve, Cond.instanceMethod yX5_solve, Cond.selects RX5 yX5_solve yX5_solve, Cond.code yX5_solve cX5_solve 12 (some .boolean), Cond.fieldLink RX5 51 "ExactSimplexModel" "matrix" "[J", Cond.methodLink RX5 70 yX5_part, Cond.instanceMethod yX5_part, Cond.selects RX5 yX5_part yX5_part, Cond.code yX5_part cX5_part 4 (some .long)]
def wsX5_barred : List Cond := .code yX5_barred cX5_barred 4 (some .int) :: ((wsX5_barred_r1 ++ (wsX5_barred_r2 ++ wsX5_barred_r3)) ++ wsX50)
def wsX5_isLarge : List Cond := .code yX5_isLarge cX5_isLarge 4 (some .boolean) :: ([.fieldLink RX5 66 "ExactSimplexModel" "names" "I", .fieldLink RX5 13 "ExactSimplexModel" "high" "[I", .fieldLink RX5 7 "ExactSimplexModel" "low" "[I", .constantLong RX5 159 (20000)] ++ wsX50)
def wsX5_keepsWhole : List Cond := .code yX5_keepsWhole cX5_keepsWhole 4 (some .boolean) :: ([.fieldLink RX5 78 "ExactSimplexModel" "rows" "I", .fieldLink RX5 28 "ExactSimplexModel" "alive" "[Z", .fieldLink RX5 22 "ExactSimplexModel" "rights" "[I", .fieldLink RX5 66 "ExactSimplexModel" "names" "I", .fieldLink RX5 25 "ExactSimplexModel" "factors" "[I", .fieldLink RX5 60 "ExactSimplexModel" "point" "[I", .fieldLink RX5 19 "ExactSimplexModel" "sense" "[I"] ++ wsX50)
def wsX5_findWhole : List Cond := .code yX5_findWhole cX5_findWhole 5 (some .boolean) :: ([.fieldLink RX5 66 "ExactSimplexModel" "names" "I", .fieldLink RX5 60 "ExactSimplexModel" "point" "[I", .fieldLink RX5 7 "ExactSimplexModel" "low" "[I", .fieldLink RX5 16 "ExactSimplexModel" "costs" "[I", .fieldLink RX5 164 "ExactSimplexModel" "wholeCost" "I", .fieldLink RX5 63 "ExactSimplexModel" "wholeBest" "[I", .fieldLink RX5 13 "ExactSimplexModel" "high" "[I", .methodLink RX5 161 yX5_keepsWhole, .instanceMethod yX5_keepsWhole, .selects RX5 yX5_keepsWhole yX5_keepsWhole, .initialized RX5, .code yX5_keepsWhole cX5_keepsWhole 4 (some .boolean), .fieldLink RX5 78 "ExactSimplexModel" "rows" "I", .fieldLink RX5 28 "ExactSimplexModel" "alive" "[Z", .fieldLink RX5 22 "ExactSimplexModel" "rights" "[I", .fieldLink RX5 25 "ExactSimplexModel" "factors" "[I", .fieldLink RX5 19 "ExactSimplexModel" "sense" "[I"] ++ wsX50)
def wsX5_whole_r1 : List Cond := [Cond.fieldLink RX5 164 "ExactSimplexModel" "wholeCost" "I", Cond.methodLink RX5 167 yX5_isLarge, Cond.instanceMethod yX5_isLarge, Cond.selects RX5 yX5_isLarge yX5_isLarge, Cond.initialized RX5, Cond.code yX5_isLarge cX5_isLarge 4 (some .boolean), Cond.fieldLink RX5 66 "ExactSimplexModel" "names" "I", Cond.fieldLink RX5 13 "ExactSimplexModel" "high" "[I", Cond.fieldLink RX5 7 "ExactSimplexModel" "low" "[I", Cond.constantLong RX5 159 (20000), Cond.methodLink RX5 170 yX5_findWhole, Cond.instanceMethod yX5_findWhole, Cond.selects RX5 yX5_findWhole yX5_findWhole, Cond.code yX5_findWhole cX5_findWhole 5 (some .boolean), Cond.fieldLink RX5 60 "ExactSimplexModel" "point" "[I", Cond.fieldLink RX5 16 "ExactSimplexModel" "costs" "[I", Cond.fieldLink RX5 63 "ExactSimplexModel" "wholeBest" "[I", Cond.methodLink RX5 161 yX5_keepsWhole, Cond.instanceMethod yX5_keepsWhole, Cond.selects RX5 yX5_keepsWhole yX5_keepsWhole, Cond.code yX5_keepsWhole cX5_keepsWhole 4 (some .boolean), Cond.fieldLink RX5 78 "ExactSimplexModel" "rows" "I", Cond.fieldLink RX5 28 "ExactSimplexModel" "alive" "[Z", Cond.fieldLink RX5 22 "ExactSimplexModel" "rights" "[I"]
def wsX5_whole_r2 : List Cond := [Cond.fieldLink RX5 25 "ExactSimplexModel" "factors" "[I", Cond.fieldLink RX5 19 "ExactSimplexModel" "sense" "[I"]
def wsX5_whole : List Cond := .code yX5_whole cX5_whole 1 (some .int) :: ((wsX5_whole_r1 ++ wsX5_whole_r2) ++ wsX50)
def wsX5_wholeValue_r1 : List Cond := [Cond.fieldLink RX5 63 "ExactSimplexModel" "wholeBest" "[I", Cond.methodLink RX5 134 yX5_isName, Cond.instanceMethod yX5_isName, Cond.selects RX5 yX5_isName yX5_isName, Cond.initialized RX5, Cond.code yX5_isName cX5_isName 2 (some .boolean), Cond.fieldLink RX5 66 "ExactSimplexModel" "names" "I", Cond.methodLink RX5 167 yX5_isLarge, Cond.instanceMethod yX5_isLarge, Cond.selects RX5 yX5_isLarge yX5_isLarge, Cond.code yX5_isLarge cX5_isLarge 4 (some .boolean), Cond.fieldLink RX5 13 "ExactSimplexModel" "high" "[I", Cond.fieldLink RX5 7 "ExactSimplexModel" "low" "[I", Cond.constantLong RX5 159 (20000), Cond.methodLink RX5 170 yX5_findWhole, Cond.instanceMethod yX5_findWhole, Cond.selects RX5 yX5_findWhole yX5_findWhole, Cond.code yX5_findWhole cX5_findWhole 5 (some .boolean), Cond.fieldLink RX5 60 "ExactSimplexModel" "point" "[I", Cond.fieldLink RX5 16 "ExactSimplexModel" "costs" "[I", Cond.fieldLink RX5 164 "ExactSimplexModel" "wholeCost" "I", Cond.methodLink RX5 161 yX5_keepsWhole, Cond.instanceMethod yX5_keepsWhole, Cond.selects RX5 yX5_keepsWhole yX5_keepsWhole]
def wsX5_wholeValue_r2 : List Cond := [Cond.code yX5_keepsWhole cX5_keepsWhole 4 (some .boolean), Cond.fieldLink RX5 78 "ExactSimplexModel" "rows" "I", Cond.fieldLink RX5 28 "ExactSimplexModel" "alive" "[Z", Cond.fieldLink RX5 22 "ExactSimplexModel" "rights" "[I", Cond.fieldLink RX5 25 "ExactSimplexModel" "factors" "[I", Cond.fieldLink RX5 19 "ExactSimplexModel" "sense" "[I"]
def wsX5_wholeValue : List Cond := .code yX5_wholeValue cX5_wholeValue 2 (some .int) :: ((wsX5_wholeValue_r1 ++ wsX5_wholeValue_r2) ++ wsX50)
def wsX5_isWhole_r1 : List Cond := [Cond.methodLink RX5 167 yX5_isLarge, Cond.instanceMethod yX5_isLarge, Cond.selects RX5 yX5_isLarge yX5_isLarge, Cond.initialized RX5, Cond.code yX5_isLarge cX5_isLarge 4 (some .boolean), Cond.fieldLink RX5 66 "ExactSimplexModel" "names" "I", Cond.fieldLink RX5 13 "ExactSimplexModel" "high" "[I", Cond.fieldLink RX5 7 "ExactSimplexModel" "low" "[I", Cond.constantLong RX5 159 (20000), Cond.methodLink RX5 170 yX5_findWhole, Cond.instanceMethod yX5_findWhole, Cond.selects RX5 yX5_findWhole yX5_findWhole, Cond.code yX5_findWhole cX5_findWhole 5 (some .boolean), Cond.fieldLink RX5 60 "ExactSimplexModel" "point" "[I", Cond.fieldLink RX5 16 "ExactSimplexModel" "costs" "[I", Cond.fieldLink RX5 164 "ExactSimplexModel" "wholeCost" "I", Cond.fieldLink RX5 63 "ExactSimplexModel" "wholeBest" "[I", Cond.methodLink RX5 161 yX5_keepsWhole, Cond.instanceMethod yX5_keepsWhole, Cond.selects RX5 yX5_keepsWhole yX5_keepsWhole, Cond.code yX5_keepsWhole cX5_keepsWhole 4 (some .boolean), Cond.fieldLink RX5 78 "ExactSimplexModel" "rows" "I", Cond.fieldLink RX5 28 "ExactSimplexModel" "alive" "[Z", Cond.fieldLink RX5 22 "ExactSimplexModel" "rights" "[I"]
def wsX5_isWhole_r2 : List Cond := [Cond.fieldLink RX5 25 "ExactSimplexModel" "factors" "[I", Cond.fieldLink RX5 19 "ExactSimplexModel" "sense" "[I"]
def wsX5_isWhole : List Cond := .code yX5_isWhole cX5_isWhole 1 (some .int) :: ((wsX5_isWhole_r1 ++ wsX5_isWhole_r2) ++ wsX50)
def wsX5_told : List Cond := .code yX5_told cX5_told 2 (some .int) :: ([.fieldLink RX5 66 "ExactSimplexModel" "names" "I", .fieldLink RX5 78 "ExactSimplexModel" "rows" "I", .methodLink RX5 140 yX5_rowCount, .instanceMethod yX5_rowCount, .selects RX5 yX5_rowCount yX5_rowCount, .initialized RX5, .code yX5_rowCount cX5_rowCount 3 (some .int), .fieldLink RX5 28 "ExactSimplexModel" "alive" "[Z"] ++ wsX50)
def wsJ9_abs_067f4 : List Cond := .code yJ9_abs_067f4 cJ9_abs_067f4 2 (some .long) :: ([])
def wsJ9_max_7cf53 : List Cond := .code yJ9_max_7cf53 cJ9_max_7cf53 2 (some .int) :: ([])
def wsJ9_min_7cf53 : List Cond := .code yJ9_min_7cf53 cJ9_min_7cf53 2 (some .int) :: ([])
def wsL_law_r1 : List Cond := [Cond.classLink RL 7 RX4, Cond.instantiable RX4 3, Cond.initialized RX4, Cond.classLink RL 10 RX5, Cond.instantiable RX5 28, Cond.initialized RX5, Cond.methodLink RL 9 yX4_init, Cond.instanceMethod yX4_init, Cond.code yX4_init cX4_init 1 none, Cond.methodLink RX4 1 objectInit, Cond.instanceMethod objectInit, Cond.code objectInit ⟨#[0xb1]⟩ 1 none, Cond.classLink RX4 7 RX1, Cond.instantiable RX1 9, Cond.initialized RX1, Cond.fieldLink RX4 10 "ExactSimplex" "problem" "LExactSimplex$Problem;", Cond.classLink RX4 16 RX2, Cond.instantiable RX2 10, Cond.initialized RX2, Cond.fieldLink RX4 21 "ExactSimplex" "solver" "LExactSimplex$Solver;", Cond.classLink RX4 25 RX3, Cond.instantiable RX3 10, Cond.initialized RX3, Cond.fieldLink RX4 28 "ExactSimplex" "search" "LExactSimplex$WholeSearch;"]
def wsL_law_r2 : List Cond := [Cond.instanceMethod yX1_init, Cond.code yX1_init cX1_init 1 none, Cond.methodLink RX1 3 objectInit, Cond.arrayClass .int, Cond.fieldLink RX1 9 "ExactSimplex$Problem" "lows" "[I", Cond.fieldLink RX1 15 "ExactSimplex$Problem" "highs" "[I", Cond.fieldLink RX1 18 "ExactSimplex$Problem" "costs" "[I", Cond.fieldLink RX1 21 "ExactSimplex$Problem" "senses" "[I", Cond.fieldLink RX1 24 "ExactSimplex$Problem" "rights" "[I", Cond.classLink RX1 27 "[[I", Cond.fieldLink RX1 29 "ExactSimplex$Problem" "factors" "[[I", Cond.arrayClass .boolean, Cond.fieldLink RX1 32 "ExactSimplex$Problem" "there" "[Z", Cond.methodLink RX4 18 yX2_init, Cond.instanceMethod yX2_init, Cond.code yX2_init cX2_init 2 none, Cond.methodLink RX2 3 objectInit, Cond.classLink RX2 9 RX0, Cond.instantiable RX0 9, Cond.initialized RX0, Cond.fieldLink RX2 12 "ExactSimplex$Solver" "dictionary" "LExactSimplex$Dictionary;", Cond.fieldLink RX2 18 "ExactSimplex$Solver" "goal" "[I", Cond.arrayClass .long, Cond.fieldLink RX2 22 "ExactSimplex$Solver" "firstBest" "[J"]
def wsL_law_r3 : List Cond := [Cond.fieldLink RX2 26 "ExactSimplex$Solver" "firstBestUnder" "J", Cond.fieldLink RX2 30 "ExactSimplex$Solver" "problem" "LExactSimplex$Problem;", Cond.instanceMethod yX0_init, Cond.code yX0_init cX0_init 1 none, Cond.methodLink RX0 3 objectInit, Cond.classLink RX0 11 "[[J", Cond.fieldLink RX0 13 "ExactSimplex$Dictionary" "table" "[[J", Cond.fieldLink RX0 16 "ExactSimplex$Dictionary" "rests" "[J", Cond.fieldLink RX0 20 "ExactSimplex$Dictionary" "basic" "[I", Cond.fieldLink RX0 24 "ExactSimplex$Dictionary" "outside" "[I", Cond.fieldLink RX0 27 "ExactSimplex$Dictionary" "frozen" "[Z", Cond.fieldLink RX0 31 "ExactSimplex$Dictionary" "slopes" "[J", Cond.fieldLink RX0 34 "ExactSimplex$Dictionary" "under" "J", Cond.methodLink RX4 27 yX3_init, Cond.instanceMethod yX3_init, Cond.code yX3_init cX3_init 2 none, Cond.methodLink RX3 3 objectInit, Cond.fieldLink RX3 9 "ExactSimplex$WholeSearch" "point" "[I", Cond.fieldLink RX3 15 "ExactSimplex$WholeSearch" "ends" "[I", Cond.fieldLink RX3 18 "ExactSimplex$WholeSearch" "firstBest" "[I", Cond.classLink RX3 21 "[[I", Cond.fieldLink RX3 23 "ExactSimplex$WholeSearch" "sums" "[[I", Cond.fieldLink RX3 26 "ExactSimplex$WholeSearch" "leastMore" "[[I", Cond.fieldLink RX3 29 "ExactSimplex$WholeSearch" "mostMore" "[[I"]
def wsL_law_r4 : List Cond := [Cond.fieldLink RX3 32 "ExactSimplex$WholeSearch" "problem" "LExactSimplex$Problem;", Cond.methodLink RL 12 yX5_init, Cond.instanceMethod yX5_init, Cond.code yX5_init cX5_init 1 none, Cond.methodLink RX5 1 objectInit, Cond.fieldLink RX5 7 "ExactSimplexModel" "low" "[I", Cond.fieldLink RX5 13 "ExactSimplexModel" "high" "[I", Cond.fieldLink RX5 16 "ExactSimplexModel" "costs" "[I", Cond.fieldLink RX5 19 "ExactSimplexModel" "sense" "[I", Cond.fieldLink RX5 22 "ExactSimplexModel" "rights" "[I", Cond.fieldLink RX5 25 "ExactSimplexModel" "factors" "[I", Cond.fieldLink RX5 28 "ExactSimplexModel" "alive" "[Z", Cond.fieldLink RX5 32 "ExactSimplexModel" "bestOver" "[J", Cond.fieldLink RX5 36 "ExactSimplexModel" "reachOver" "[J", Cond.fieldLink RX5 39 "ExactSimplexModel" "reachUnder" "[J", Cond.fieldLink RX5 42 "ExactSimplexModel" "farOver" "[J", Cond.fieldLink RX5 45 "ExactSimplexModel" "farUnder" "[J", Cond.fieldLink RX5 48 "ExactSimplexModel" "isBarred" "[Z", Cond.fieldLink RX5 51 "ExactSimplexModel" "matrix" "[J", Cond.fieldLink RX5 54 "ExactSimplexModel" "pick" "[I", Cond.fieldLink RX5 57 "ExactSimplexModel" "over" "[J", Cond.fieldLink RX5 60 "ExactSimplexModel" "point" "[I", Cond.fieldLink RX5 63 "ExactSimplexModel" "wholeBest" "[I", Cond.methodLink RL 13 yX4_name]
def wsL_law_r5 : List Cond := [Cond.instanceMethod yX4_name, Cond.selects RX4 yX4_name yX4_name, Cond.code yX4_name cX4_name 3 (some .int), Cond.methodLink RX4 32 yX4_isSpan, Cond.static yX4_isSpan, Cond.code yX4_isSpan cX4_isSpan 2 (some .boolean), Cond.methodLink RX4 54 yX4_isWithin, Cond.static yX4_isWithin, Cond.code yX4_isWithin cX4_isWithin 2 (some .boolean), Cond.methodLink RX4 36 yX4_forgetAnswers, Cond.instanceMethod yX4_forgetAnswers, Cond.selects RX4 yX4_forgetAnswers yX4_forgetAnswers, Cond.code yX4_forgetAnswers cX4_forgetAnswers 1 none, Cond.methodLink RX4 134 yX2_forget, Cond.instanceMethod yX2_forget, Cond.selects RX2 yX2_forget yX2_forget, Cond.code yX2_forget cX2_forget 1 none, Cond.fieldLink RX2 34 "ExactSimplex$Solver" "pointSought" "Z", Cond.fieldLink RX2 38 "ExactSimplex$Solver" "firstBestKnown" "Z", Cond.fieldLink RX2 41 "ExactSimplex$Solver" "barredKnown" "Z", Cond.methodLink RX4 137 yX3_forget, Cond.instanceMethod yX3_forget, Cond.selects RX3 yX3_forget yX3_forget, Cond.code yX3_forget cX3_forget 1 none]
def wsL_law_r6 : List Cond := [Cond.fieldLink RX3 36 "ExactSimplex$WholeSearch" "sought" "Z", Cond.methodLink RX4 39 yX1_addName, Cond.instanceMethod yX1_addName, Cond.selects RX1 yX1_addName yX1_addName, Cond.code yX1_addName cX1_addName 4 (some .int), Cond.fieldLink RX1 36 "ExactSimplex$Problem" "names" "I", Cond.methodLink RL 17 yX5_name, Cond.instanceMethod yX5_name, Cond.selects RX5 yX5_name yX5_name, Cond.code yX5_name cX5_name 4 (some .int), Cond.fieldLink RX5 66 "ExactSimplexModel" "names" "I", Cond.fieldLink RX5 117 "ExactSimplexModel" "known" "Z", Cond.methodLink RX5 131 yX5_isSpan, Cond.static yX5_isSpan, Cond.code yX5_isSpan cX5_isSpan 2 (some .boolean), Cond.methodLink RL 18 yX4_span, Cond.instanceMethod yX4_span, Cond.selects RX4 yX4_span yX4_span, Cond.code yX4_span cX4_span 4 (some .int), Cond.fieldLink RX4 47 "ExactSimplex$Problem" "lows" "[I", Cond.fieldLink RX4 51 "ExactSimplex$Problem" "highs" "[I", Cond.methodLink RX4 43 yX1_hasName, Cond.instanceMethod yX1_hasName, Cond.selects RX1 yX1_hasName yX1_hasName]
def wsL_law_r7 : List Cond := [Cond.code yX1_hasName cX1_hasName 2 (some .boolean), Cond.methodLink RL 22 yX5_span, Cond.instanceMethod yX5_span, Cond.selects RX5 yX5_span yX5_span, Cond.code yX5_span cX5_span 4 (some .int), Cond.methodLink RX5 134 yX5_isName, Cond.instanceMethod yX5_isName, Cond.selects RX5 yX5_isName yX5_isName, Cond.code yX5_isName cX5_isName 2 (some .boolean), Cond.methodLink RL 23 yX4_cost, Cond.instanceMethod yX4_cost, Cond.selects RX4 yX4_cost yX4_cost, Cond.code yX4_cost cX4_cost 4 (some .int), Cond.fieldLink RX4 57 "ExactSimplex$Problem" "costs" "[I", Cond.methodLink RL 26 yX5_cost, Cond.instanceMethod yX5_cost, Cond.selects RX5 yX5_cost yX5_cost, Cond.code yX5_cost cX5_cost 4 (some .int), Cond.methodLink RL 27 yX4_row, Cond.instanceMethod yX4_row, Cond.selects RX4 yX4_row yX4_row, Cond.code yX4_row cX4_row 3 (some .int), Cond.methodLink RX4 60 yX1_addRow, Cond.instanceMethod yX1_addRow]
def wsL_law_r8 : List Cond := [Cond.selects RX1 yX1_addRow yX1_addRow, Cond.code yX1_addRow cX1_addRow 5 (some .int), Cond.fieldLink RX1 40 "ExactSimplex$Problem" "rows" "I", Cond.methodLink RL 30 yX5_row, Cond.instanceMethod yX5_row, Cond.selects RX5 yX5_row yX5_row, Cond.code yX5_row cX5_row 4 (some .int), Cond.fieldLink RX5 78 "ExactSimplexModel" "rows" "I", Cond.methodLink RL 31 yX4_right, Cond.instanceMethod yX4_right, Cond.selects RX4 yX4_right yX4_right, Cond.code yX4_right cX4_right 3 (some .int), Cond.fieldLink RX4 66 "ExactSimplex$Problem" "rights" "[I", Cond.methodLink RX4 63 yX1_hasRow, Cond.instanceMethod yX1_hasRow, Cond.selects RX1 yX1_hasRow yX1_hasRow, Cond.code yX1_hasRow cX1_hasRow 2 (some .boolean), Cond.methodLink RL 34 yX5_right, Cond.instanceMethod yX5_right, Cond.selects RX5 yX5_right yX5_right, Cond.code yX5_right cX5_right 3 (some .int), Cond.methodLink RX5 137 yX5_isRow, Cond.instanceMethod yX5_isRow, Cond.selects RX5 yX5_isRow yX5_isRow]
def wsL_law_r9 : List Cond := [Cond.code yX5_isRow cX5_isRow 2 (some .boolean), Cond.methodLink RL 35 yX4_factor, Cond.instanceMethod yX4_factor, Cond.selects RX4 yX4_factor yX4_factor, Cond.code yX4_factor cX4_factor 4 (some .int), Cond.fieldLink RX4 69 "ExactSimplex$Problem" "factors" "[[I", Cond.methodLink RL 38 yX5_factor, Cond.instanceMethod yX5_factor, Cond.selects RX5 yX5_factor yX5_factor, Cond.code yX5_factor cX5_factor 4 (some .int), Cond.methodLink RL 39 yX4_drop, Cond.instanceMethod yX4_drop, Cond.selects RX4 yX4_drop yX4_drop, Cond.code yX4_drop cX4_drop 2 (some .int), Cond.fieldLink RX4 73 "ExactSimplex$Problem" "there" "[Z", Cond.methodLink RX4 77 yX1_countRows, Cond.instanceMethod yX1_countRows, Cond.selects RX1 yX1_countRows yX1_countRows, Cond.code yX1_countRows cX1_countRows 3 (some .int), Cond.methodLink RL 43 yX5_drop, Cond.instanceMethod yX5_drop, Cond.selects RX5 yX5_drop yX5_drop, Cond.code yX5_drop cX5_drop 2 (some .int), Cond.methodLink RX5 140 yX5_rowCount]
def wsL_law_r10 : List Cond := [Cond.instanceMethod yX5_rowCount, Cond.selects RX5 yX5_rowCount yX5_rowCount, Cond.code yX5_rowCount cX5_rowCount 3 (some .int), Cond.methodLink RL 44 yX4_clear, Cond.instanceMethod yX4_clear, Cond.selects RX4 yX4_clear yX4_clear, Cond.code yX4_clear cX4_clear 2 (some .int), Cond.fieldLink RX4 81 "ExactSimplex$Problem" "names" "I", Cond.fieldLink RX4 85 "ExactSimplex$Problem" "rows" "I", Cond.methodLink RL 48 yX5_clear, Cond.instanceMethod yX5_clear, Cond.selects RX5 yX5_clear yX5_clear, Cond.code yX5_clear cX5_clear 2 (some .int), Cond.methodLink RL 49 yX4_run, Cond.instanceMethod yX4_run, Cond.selects RX4 yX4_run yX4_run, Cond.code yX4_run cX4_run 1 (some .int), Cond.methodLink RX4 88 yX2_hasPoint, Cond.instanceMethod yX2_hasPoint, Cond.selects RX2 yX2_hasPoint yX2_hasPoint, Cond.code yX2_hasPoint cX2_hasPoint 1 (some .boolean), Cond.fieldLink RX2 52 "ExactSimplex$Solver" "pointThere" "Z", Cond.methodLink RX2 44 yX2_allRows, Cond.instanceMethod yX2_allRows]
def wsL_law_r11 : List Cond := [Cond.selects RX2 yX2_allRows yX2_allRows, Cond.code yX2_allRows cX2_allRows 3 (some .int), Cond.fieldLink RX2 91 "ExactSimplex$Problem" "rows" "I", Cond.fieldLink RX2 122 "ExactSimplex$Problem" "there" "[Z", Cond.methodLink RX2 48 yX2_canKeep, Cond.instanceMethod yX2_canKeep, Cond.selects RX2 yX2_canKeep yX2_canKeep, Cond.code yX2_canKeep cX2_canKeep 3 (some .boolean), Cond.fieldLink RX2 58 "ExactSimplex$Problem" "names" "I", Cond.fieldLink RX2 130 "ExactSimplex$Problem" "highs" "[I", Cond.fieldLink RX2 116 "ExactSimplex$Problem" "lows" "[I", Cond.methodLink RX2 126 yX0_begin, Cond.instanceMethod yX0_begin, Cond.selects RX0 yX0_begin yX0_begin, Cond.code yX0_begin cX0_begin 3 none, Cond.methodLink RX0 38 Lib.Math.min.name, Cond.static Lib.Math.min.name, Cond.initialized "java/lang/Math", Cond.code Lib.Math.min.name Lib.Math.min.code 2 (some .int), Cond.fieldLink RX0 44 "ExactSimplex$Dictionary" "columns" "I", Cond.fieldLink RX0 48 "ExactSimplex$Dictionary" "lines" "I", Cond.methodLink RX0 51 yX0_thawAll, Cond.instanceMethod yX0_thawAll, Cond.selects RX0 yX0_thawAll yX0_thawAll]
def wsL_law_r12 : List Cond := [Cond.code yX0_thawAll cX0_thawAll 2 none, Cond.methodLink RX2 97 yX2_aimAt, Cond.instanceMethod yX2_aimAt, Cond.selects RX2 yX2_aimAt yX2_aimAt, Cond.code yX2_aimAt cX2_aimAt 4 none, Cond.methodLink RX2 133 yX0_addAtMost, Cond.instanceMethod yX0_addAtMost, Cond.selects RX0 yX0_addAtMost yX0_addAtMost, Cond.code yX0_addAtMost cX0_addAtMost 5 none, Cond.methodLink RX2 137 yX2_addRow, Cond.instanceMethod yX2_addRow, Cond.selects RX2 yX2_addRow yX2_addRow, Cond.code yX2_addRow cX2_addRow 5 none, Cond.fieldLink RX2 71 "ExactSimplex$Problem" "factors" "[[I", Cond.fieldLink RX2 75 "ExactSimplex$Problem" "rights" "[I", Cond.methodLink RX2 144 yX1_limitsFromAbove, Cond.instanceMethod yX1_limitsFromAbove, Cond.selects RX1 yX1_limitsFromAbove yX1_limitsFromAbove, Cond.code yX1_limitsFromAbove cX1_limitsFromAbove 2 (some .boolean), Cond.methodLink RX2 147 yX1_limitsFromBelow, Cond.instanceMethod yX1_limitsFromBelow, Cond.selects RX1 yX1_limitsFromBelow yX1_limitsFromBelow, Cond.code yX1_limitsFromBelow cX1_limitsFromBelow 2 (some .boolean), Cond.methodLink RX2 140 yX0_findPoint]
def wsL_law_r13 : List Cond := [Cond.instanceMethod yX0_findPoint, Cond.selects RX0 yX0_findPoint yX0_findPoint, Cond.code yX0_findPoint cX0_findPoint 4 (some .boolean), Cond.constant RX0 54 (100000), Cond.methodLink RX0 55 yX0_brokenLine, Cond.instanceMethod yX0_brokenLine, Cond.selects RX0 yX0_brokenLine yX0_brokenLine, Cond.code yX0_brokenLine cX0_brokenLine 3 (some .int), Cond.methodLink RX0 59 yX0_mendingColumn, Cond.instanceMethod yX0_mendingColumn, Cond.selects RX0 yX0_mendingColumn yX0_mendingColumn, Cond.code yX0_mendingColumn cX0_mendingColumn 4 (some .int), Cond.methodLink RX0 63 yX0_pivot, Cond.instanceMethod yX0_pivot, Cond.selects RX0 yX0_pivot yX0_pivot, Cond.code yX0_pivot cX0_pivot 8 none, Cond.methodLink RX0 89 Lib.MathLoose.abs_long.x, Cond.static Lib.MathLoose.abs_long.x, Cond.code Lib.MathLoose.abs_long.x Lib.MathLoose.abs_long.code 2 (some .long), Cond.methodLink RX0 81 yX0_sweepLine, Cond.instanceMethod yX0_sweepLine, Cond.selects RX0 yX0_sweepLine yX0_sweepLine, Cond.code yX0_sweepLine cX0_sweepLine 11 none, Cond.methodLink RX0 85 yX0_turnLine]
def wsL_law_r14 : List Cond := [Cond.instanceMethod yX0_turnLine, Cond.selects RX0 yX0_turnLine yX0_turnLine, Cond.code yX0_turnLine cX0_turnLine 3 none, Cond.methodLink RL 52 yX5_run, Cond.instanceMethod yX5_run, Cond.selects RX5 yX5_run yX5_run, Cond.code yX5_run cX5_run 1 (some .int), Cond.fieldLink RX5 128 "ExactSimplexModel" "has" "Z", Cond.methodLink RX5 143 yX5_know, Cond.instanceMethod yX5_know, Cond.selects RX5 yX5_know yX5_know, Cond.code yX5_know cX5_know 3 none, Cond.fieldLink RX5 100 "ExactSimplexModel" "any" "Z", Cond.methodLink RX5 120 yX5_all, Cond.instanceMethod yX5_all, Cond.selects RX5 yX5_all yX5_all, Cond.code yX5_all cX5_all 3 (some .int), Cond.methodLink RX5 124 yX5_corners, Cond.instanceMethod yX5_corners, Cond.selects RX5 yX5_corners yX5_corners, Cond.code yX5_corners cX5_corners 5 (some .boolean), Cond.fieldLink RX5 74 "ExactSimplexModel" "under" "J", Cond.methodLink RX5 85 yX5_keeps, Cond.instanceMethod yX5_keeps]
def wsL_law_r15 : List Cond := [Cond.selects RX5 yX5_keeps yX5_keeps, Cond.code yX5_keeps cX5_keeps 6 (some .boolean), Cond.methodLink RX5 89 yX5_take, Cond.instanceMethod yX5_take, Cond.selects RX5 yX5_take yX5_take, Cond.code yX5_take cX5_take 8 none, Cond.fieldLink RX5 108 "ExactSimplexModel" "costOver" "J", Cond.fieldLink RX5 111 "ExactSimplexModel" "costUnder" "J", Cond.fieldLink RX5 114 "ExactSimplexModel" "bestUnder" "J", Cond.methodLink RX5 104 yX5_compare, Cond.static yX5_compare, Cond.code yX5_compare cX5_compare 12 (some .int), Cond.methodLink RX5 92 yX5_after, Cond.instanceMethod yX5_after, Cond.selects RX5 yX5_after yX5_after, Cond.code yX5_after cX5_after 4 (some .int), Cond.methodLink RX5 81 yX5_isThere, Cond.instanceMethod yX5_isThere, Cond.selects RX5 yX5_isThere yX5_isThere, Cond.code yX5_isThere cX5_isThere 3 (some .boolean), Cond.methodLink RX5 96 yX5_solve, Cond.instanceMethod yX5_solve, Cond.selects RX5 yX5_solve yX5_solve, Cond.code yX5_solve cX5_solve 12 (some .boolean)]
def wsL_law_r16 : List Cond := [Cond.methodLink RX5 70 yX5_part, Cond.instanceMethod yX5_part, Cond.selects RX5 yX5_part yX5_part, Cond.code yX5_part cX5_part 4 (some .long), Cond.methodLink RL 53 yX4_least, Cond.instanceMethod yX4_least, Cond.selects RX4 yX4_least yX4_least, Cond.code yX4_least cX4_least 2 (some .long), Cond.constantLong RX4 95 (-2), Cond.constantLong RX4 97 (-3), Cond.methodLink RX4 92 yX4_isZeroOrOne, Cond.static yX4_isZeroOrOne, Cond.code yX4_isZeroOrOne cX4_isZeroOrOne 1 (some .boolean), Cond.methodLink RX4 99 yX2_leastCost, Cond.instanceMethod yX2_leastCost, Cond.selects RX2 yX2_leastCost yX2_leastCost, Cond.code yX2_leastCost cX2_leastCost 5 (some .long), Cond.fieldLink RX2 64 "ExactSimplex$Problem" "costs" "[I", Cond.methodLink RX2 55 yX2_findFirstBest, Cond.instanceMethod yX2_findFirstBest, Cond.selects RX2 yX2_findFirstBest yX2_findFirstBest, Cond.code yX2_findFirstBest cX2_findFirstBest 2 none, Cond.methodLink RX2 78 yX0_thawAll, Cond.methodLink RX2 81 yX2_keepToBest]
def wsL_law_r17 : List Cond := [Cond.instanceMethod yX2_keepToBest, Cond.selects RX2 yX2_keepToBest yX2_keepToBest, Cond.code yX2_keepToBest cX2_keepToBest 1 none, Cond.methodLink RX2 101 yX0_minimise, Cond.instanceMethod yX0_minimise, Cond.selects RX0 yX0_minimise yX0_minimise, Cond.code yX0_minimise cX0_minimise 5 none, Cond.methodLink RX0 67 yX0_findSlopes, Cond.instanceMethod yX0_findSlopes, Cond.selects RX0 yX0_findSlopes yX0_findSlopes, Cond.code yX0_findSlopes cX0_findSlopes 5 none, Cond.methodLink RX0 71 yX0_fallingColumn, Cond.instanceMethod yX0_fallingColumn, Cond.selects RX0 yX0_fallingColumn yX0_fallingColumn, Cond.code yX0_fallingColumn cX0_fallingColumn 3 (some .int), Cond.methodLink RX0 74 yX0_firstStop, Cond.instanceMethod yX0_firstStop, Cond.selects RX0 yX0_firstStop yX0_firstStop, Cond.code yX0_firstStop cX0_firstStop 4 (some .int), Cond.methodLink RX0 77 yX0_stopsBefore, Cond.instanceMethod yX0_stopsBefore, Cond.selects RX0 yX0_stopsBefore yX0_stopsBefore, Cond.code yX0_stopsBefore cX0_stopsBefore 8 (some .boolean), Cond.methodLink RX2 113 yX0_freezeDear]
def wsL_law_r18 : List Cond := [Cond.instanceMethod yX0_freezeDear, Cond.selects RX0 yX0_freezeDear yX0_freezeDear, Cond.code yX0_freezeDear cX0_freezeDear 2 none, Cond.methodLink RX2 105 yX2_numeratorOf, Cond.instanceMethod yX2_numeratorOf, Cond.selects RX2 yX2_numeratorOf yX2_numeratorOf, Cond.code yX2_numeratorOf cX2_numeratorOf 2 (some .long), Cond.methodLink RX2 109 yX0_denominator, Cond.instanceMethod yX0_denominator, Cond.selects RX0 yX0_denominator yX0_denominator, Cond.code yX0_denominator cX0_denominator 1 (some .long), Cond.methodLink RX2 119 yX0_numerator, Cond.instanceMethod yX0_numerator, Cond.selects RX0 yX0_numerator yX0_numerator, Cond.code yX0_numerator cX0_numerator 3 (some .long), Cond.methodLink RX2 67 yX2_partOf, Cond.static yX2_partOf, Cond.code yX2_partOf cX2_partOf 7 (some .long), Cond.methodLink RX2 150 yX2_greatestDivisor, Cond.static yX2_greatestDivisor, Cond.code yX2_greatestDivisor cX2_greatestDivisor 11 (some .long), Cond.methodLink RX2 154 Lib.MathLoose.abs_long.x, Cond.methodLink RL 57 yX5_least, Cond.instanceMethod yX5_least]
def wsL_law_r19 : List Cond := [Cond.selects RX5 yX5_least yX5_least, Cond.code yX5_least cX5_least 2 (some .long), Cond.constantLong RX5 149 (-2), Cond.constantLong RX5 155 (-3), Cond.methodLink RX5 146 yX5_isPart, Cond.static yX5_isPart, Cond.code yX5_isPart cX5_isPart 1 (some .boolean), Cond.methodLink RX5 151 yX5_lowest, Cond.static yX5_lowest, Cond.code yX5_lowest cX5_lowest 11 (some .long), Cond.methodLink RL 58 yX4_value, Cond.instanceMethod yX4_value, Cond.selects RX4 yX4_value yX4_value, Cond.code yX4_value cX4_value 3 (some .long), Cond.constantLong RX4 103 (-1), Cond.methodLink RX4 105 yX2_firstBestOf, Cond.instanceMethod yX2_firstBestOf, Cond.selects RX2 yX2_firstBestOf yX2_firstBestOf, Cond.code yX2_firstBestOf cX2_firstBestOf 3 (some .long), Cond.methodLink RL 62 yX5_value, Cond.instanceMethod yX5_value, Cond.selects RX5 yX5_value yX5_value, Cond.code yX5_value cX5_value 3 (some .long), Cond.constantLong RX5 157 (-1)]
def wsL_law_r20 : List Cond := [Cond.methodLink RL 63 yX4_tight, Cond.instanceMethod yX4_tight, Cond.selects RX4 yX4_tight yX4_tight, Cond.code yX4_tight cX4_tight 2 (some .int), Cond.methodLink RX4 109 yX2_isTight, Cond.instanceMethod yX2_isTight, Cond.selects RX2 yX2_isTight yX2_isTight, Cond.code yX2_isTight cX2_isTight 5 (some .boolean), Cond.methodLink RL 66 yX5_tight, Cond.instanceMethod yX5_tight, Cond.selects RX5 yX5_tight yX5_tight, Cond.code yX5_tight cX5_tight 5 (some .int), Cond.methodLink RL 67 yX4_reach, Cond.instanceMethod yX4_reach, Cond.selects RX4 yX4_reach yX4_reach, Cond.code yX4_reach cX4_reach 5 (some .long), Cond.methodLink RX4 112 yX4_refusalOfEnd, Cond.instanceMethod yX4_refusalOfEnd, Cond.selects RX4 yX4_refusalOfEnd yX4_refusalOfEnd, Cond.code yX4_refusalOfEnd cX4_refusalOfEnd 4 (some .int), Cond.methodLink RX4 116 yX2_endAmongBest, Cond.instanceMethod yX2_endAmongBest, Cond.selects RX2 yX2_endAmongBest yX2_endAmongBest, Cond.code yX2_endAmongBest cX2_endAmongBest 4 (some .long)]
def wsL_law_r21 : List Cond := [Cond.methodLink RX2 84 yX2_endFromHere, Cond.instanceMethod yX2_endFromHere, Cond.selects RX2 yX2_endFromHere yX2_endFromHere, Cond.code yX2_endFromHere cX2_endFromHere 4 (some .long), Cond.methodLink RL 71 yX5_reach, Cond.instanceMethod yX5_reach, Cond.selects RX5 yX5_reach yX5_reach, Cond.code yX5_reach cX5_reach 4 (some .long), Cond.methodLink RL 72 yX4_far, Cond.instanceMethod yX4_far, Cond.selects RX4 yX4_far yX4_far, Cond.code yX4_far cX4_far 5 (some .long), Cond.methodLink RX4 120 yX2_endAmongAll, Cond.instanceMethod yX2_endAmongAll, Cond.selects RX2 yX2_endAmongAll yX2_endAmongAll, Cond.code yX2_endAmongAll cX2_endAmongAll 4 (some .long), Cond.methodLink RL 75 yX5_far, Cond.instanceMethod yX5_far, Cond.selects RX5 yX5_far yX5_far, Cond.code yX5_far cX5_far 4 (some .long), Cond.methodLink RL 76 yX4_barred, Cond.instanceMethod yX4_barred, Cond.selects RX4 yX4_barred yX4_barred, Cond.code yX4_barred cX4_barred 3 (some .int)]
def wsL_law_r22 : List Cond := [Cond.methodLink RX4 123 yX2_barredRow, Cond.instanceMethod yX2_barredRow, Cond.selects RX2 yX2_barredRow yX2_barredRow, Cond.code yX2_barredRow cX2_barredRow 4 (some .int), Cond.fieldLink RX2 94 "ExactSimplex$Solver" "barredSet" "I", Cond.methodLink RX2 88 yX2_findBarred, Cond.instanceMethod yX2_findBarred, Cond.selects RX2 yX2_findBarred yX2_findBarred, Cond.code yX2_findBarred cX2_findBarred 4 none, Cond.methodLink RL 79 yX5_barred, Cond.instanceMethod yX5_barred, Cond.selects RX5 yX5_barred yX5_barred, Cond.code yX5_barred cX5_barred 4 (some .int), Cond.methodLink RL 80 yX4_whole, Cond.instanceMethod yX4_whole, Cond.selects RX4 yX4_whole yX4_whole, Cond.code yX4_whole cX4_whole 2 (some .int), Cond.methodLink RX4 127 yX4_refusalOfWhole, Cond.instanceMethod yX4_refusalOfWhole, Cond.selects RX4 yX4_refusalOfWhole yX4_refusalOfWhole, Cond.code yX4_refusalOfWhole cX4_refusalOfWhole 1 (some .int), Cond.constantLong RX4 142 (20000), Cond.methodLink RX4 138 yX1_countWhole, Cond.instanceMethod yX1_countWhole]
def wsL_law_r23 : List Cond := [Cond.selects RX1 yX1_countWhole yX1_countWhole, Cond.code yX1_countWhole cX1_countWhole 4 (some .long), Cond.methodLink RX4 144 yX3_hasPoint, Cond.instanceMethod yX3_hasPoint, Cond.selects RX3 yX3_hasPoint yX3_hasPoint, Cond.code yX3_hasPoint cX3_hasPoint 3 (some .boolean), Cond.fieldLink RX3 40 "ExactSimplex$WholeSearch" "found" "Z", Cond.constant RX3 50 (1000000), Cond.fieldLink RX3 51 "ExactSimplex$Problem" "names" "I", Cond.methodLink RX3 43 yX3_weighOthers, Cond.instanceMethod yX3_weighOthers, Cond.selects RX3 yX3_weighOthers yX3_weighOthers, Cond.code yX3_weighOthers cX3_weighOthers 6 none, Cond.fieldLink RX3 74 "ExactSimplex$Problem" "lows" "[I", Cond.fieldLink RX3 77 "ExactSimplex$Problem" "highs" "[I", Cond.methodLink RX3 80 Lib.Math.min.name, Cond.methodLink RX3 85 Lib.Math.max.name, Cond.static Lib.Math.max.name, Cond.code Lib.Math.max.name Lib.Math.max.code 2 (some .int), Cond.methodLink RX3 70 yX3_weight, Cond.instanceMethod yX3_weight, Cond.selects RX3 yX3_weight yX3_weight, Cond.code yX3_weight cX3_weight 3 (some .int), Cond.fieldLink RX3 88 "ExactSimplex$Problem" "costs" "[I"]
def wsL_law_r24 : List Cond := [Cond.fieldLink RX3 91 "ExactSimplex$Problem" "factors" "[[I", Cond.methodLink RX3 46 yX3_openName, Cond.instanceMethod yX3_openName, Cond.selects RX3 yX3_openName yX3_openName, Cond.code yX3_openName cX3_openName 3 none, Cond.fieldLink RX3 94 "ExactSimplex$Problem" "rows" "I", Cond.fieldLink RX3 67 "ExactSimplex$WholeSearch" "bestCost" "I", Cond.methodLink RX3 97 yX1_hasRow, Cond.methodLink RX3 100 yX3_narrowByRow, Cond.instanceMethod yX3_narrowByRow, Cond.selects RX3 yX3_narrowByRow yX3_narrowByRow, Cond.code yX3_narrowByRow cX3_narrowByRow 5 none, Cond.fieldLink RX3 111 "ExactSimplex$Problem" "rights" "[I", Cond.methodLink RX3 114 yX1_limitsFromAbove, Cond.methodLink RX3 104 yX3_narrow, Cond.instanceMethod yX3_narrow, Cond.selects RX3 yX3_narrow yX3_narrow, Cond.code yX3_narrow cX3_narrow 4 none, Cond.methodLink RX3 120 yJ9_floorDiv_7cf53, Cond.static yJ9_floorDiv_7cf53, Cond.initialized RJ9, Cond.code yJ9_floorDiv_7cf53 cJ9_floorDiv_7cf53 3 (some .int), Cond.methodLink RX3 117 yX1_limitsFromBelow, Cond.methodLink RX3 108 yX3_keepCheapest]
def wsL_law_r25 : List Cond := [Cond.instanceMethod yX3_keepCheapest, Cond.selects RX3 yX3_keepCheapest yX3_keepCheapest, Cond.code yX3_keepCheapest cX3_keepCheapest 2 none, Cond.methodLink RX3 57 yX3_takePoint, Cond.instanceMethod yX3_takePoint, Cond.selects RX3 yX3_takePoint yX3_takePoint, Cond.code yX3_takePoint cX3_takePoint 3 none, Cond.methodLink RX3 123 yX3_keepsRows, Cond.instanceMethod yX3_keepsRows, Cond.selects RX3 yX3_keepsRows yX3_keepsRows, Cond.code yX3_keepsRows cX3_keepsRows 3 (some .boolean), Cond.methodLink RX3 63 yX3_mayBeCheaper, Cond.instanceMethod yX3_mayBeCheaper, Cond.selects RX3 yX3_mayBeCheaper yX3_mayBeCheaper, Cond.code yX3_mayBeCheaper cX3_mayBeCheaper 2 (some .boolean), Cond.methodLink RX3 60 yX3_addUp, Cond.instanceMethod yX3_addUp, Cond.selects RX3 yX3_addUp yX3_addUp, Cond.code yX3_addUp cX3_addUp 3 none, Cond.methodLink RX4 130 yX3_leastCost, Cond.instanceMethod yX3_leastCost, Cond.selects RX3 yX3_leastCost yX3_leastCost, Cond.code yX3_leastCost cX3_leastCost 1 (some .int), Cond.methodLink RL 83 yX5_whole]
def wsL_law_r26 : List Cond := [Cond.instanceMethod yX5_whole, Cond.selects RX5 yX5_whole yX5_whole, Cond.code yX5_whole cX5_whole 1 (some .int), Cond.fieldLink RX5 164 "ExactSimplexModel" "wholeCost" "I", Cond.methodLink RX5 167 yX5_isLarge, Cond.instanceMethod yX5_isLarge, Cond.selects RX5 yX5_isLarge yX5_isLarge, Cond.code yX5_isLarge cX5_isLarge 4 (some .boolean), Cond.constantLong RX5 159 (20000), Cond.methodLink RX5 170 yX5_findWhole, Cond.instanceMethod yX5_findWhole, Cond.selects RX5 yX5_findWhole yX5_findWhole, Cond.code yX5_findWhole cX5_findWhole 5 (some .boolean), Cond.methodLink RX5 161 yX5_keepsWhole, Cond.instanceMethod yX5_keepsWhole, Cond.selects RX5 yX5_keepsWhole yX5_keepsWhole, Cond.code yX5_keepsWhole cX5_keepsWhole 4 (some .boolean), Cond.methodLink RL 84 yX4_wholeValue, Cond.instanceMethod yX4_wholeValue, Cond.selects RX4 yX4_wholeValue yX4_wholeValue, Cond.code yX4_wholeValue cX4_wholeValue 3 (some .int), Cond.methodLink RX4 132 yX3_firstBestOf, Cond.instanceMethod yX3_firstBestOf, Cond.selects RX3 yX3_firstBestOf yX3_firstBestOf]
def wsL_law_r27 : List Cond := [Cond.code yX3_firstBestOf cX3_firstBestOf 2 (some .int), Cond.methodLink RL 87 yX5_wholeValue, Cond.instanceMethod yX5_wholeValue, Cond.selects RX5 yX5_wholeValue yX5_wholeValue, Cond.code yX5_wholeValue cX5_wholeValue 2 (some .int), Cond.methodLink RL 88 yX4_isWhole, Cond.instanceMethod yX4_isWhole, Cond.selects RX4 yX4_isWhole yX4_isWhole, Cond.code yX4_isWhole cX4_isWhole 2 (some .int), Cond.methodLink RL 91 yX5_isWhole, Cond.instanceMethod yX5_isWhole, Cond.selects RX5 yX5_isWhole yX5_isWhole, Cond.code yX5_isWhole cX5_isWhole 1 (some .int), Cond.methodLink RL 92 yX4_told, Cond.instanceMethod yX4_told, Cond.selects RX4 yX4_told yX4_told, Cond.code yX4_told cX4_told 2 (some .int), Cond.methodLink RL 95 yX5_told, Cond.instanceMethod yX5_told, Cond.selects RX5 yX5_told yX5_told, Cond.code yX5_told cX5_told 2 (some .int)]
def wsL_law : List Cond := (wsL_law_r1 ++ (wsL_law_r2 ++ (wsL_law_r3 ++ (wsL_law_r4 ++ (wsL_law_r5 ++ (wsL_law_r6 ++ (wsL_law_r7 ++ (wsL_law_r8 ++ (wsL_law_r9 ++ (wsL_law_r10 ++ (wsL_law_r11 ++ (wsL_law_r12 ++ (wsL_law_r13 ++ (wsL_law_r14 ++ (wsL_law_r15 ++ (wsL_law_r16 ++ (wsL_law_r17 ++ (wsL_law_r18 ++ (wsL_law_r19 ++ (wsL_law_r20 ++ (wsL_law_r21 ++ (wsL_law_r22 ++ (wsL_law_r23 ++ (wsL_law_r24 ++ (wsL_law_r25 ++ (wsL_law_r26 ++ wsL_law_r27)))))))))))))))))))))))))) ++ wsX40 ++ wsX50 ++ wsX10 ++ wsX20 ++ wsX30 ++ wsX00 ++ ([] : List Cond)
set_option maxRecDepth 20000 in
abbrev vwCl : List vw_C := [(RX0, TX0, 9), (RX1, TX1, 9), (RX2, TX2, 10), (RX3, TX3, 10), (RX4, TX4, 3), (RX5, TX5, 28)]
end
section
/-! THE ONE WORLD of this claim: 92 cells at addresses ad 0 .. ad 91 (the class's object, the objects inside it, the reference's object, all their arrays); I, J: the int and long fields by cell and place; a, b: the int (and boolean) and long arrays by cell and place -/
abbrev gFK : Type := Option (Option Nat)
abbrev gSh : Type := (Nat × List gFK) ⊕ (Nat × Nat × Nat)
def gshL : List gSh := [.inl (4, [some (some 1), some (some 2), some (some 3)]), .inl (1, [some (some 6), some (some 7), some (some 8), some (some 9), some (some 10), some (some 11), some (some 12), none, none]), .inl (2, [some (some 1), some (some 4), some (some 19), some (some 20), some none, none, none, none, none, none]), .inl (3, [some (some 1), some (some 21), some (some 22), some (some 23), some (some 24), some (some 25), some (some 26), none, none, none]), .inl (0, [some (some 13), some (some 14), some (some 15), some (some 16), some (some 17), some (some 18), some none, none, none]), .inl (5, [none, none, some (some 27), some (some 28), some (some 29), some (some 30), some (some 31), some (some 32), some (some 33), none, none, some none, some none, some (some 34), some none, some (some 35), some (some 36), some (some 37), some (some 38), some (some 39), some (some 87), some (some 88), some (some 89), some none, none, some (some 90), some (some 91), none]), .inr (0, 5, 0), .inr (0, 5, 0), .inr (0, 5, 0), .inr (0, 8, 0), .inr (0, 8, 0), .inr (3, 8, 40), .inr (1, 8, 0), .inr (4, 21, 48), .inr (2, 21, 0), .inr (0, 21, 0), .inr (0, 5, 0), .inr (1, 5, 0), .inr (2, 5, 0), .inr (0, 5, 0), .inr (2, 5, 0), .inr (0, 5, 0), .inr (0, 5, 0), .inr (0, 5, 0), .inr (3, 6, 69), .inr (3, 6, 75), .inr (3, 6, 81), .inr (0, 5, 0), .inr (0, 5, 0), .inr (0, 5, 0), .inr (0, 8, 0), .inr (0, 8, 0), .inr (0, 40, 0), .inr (1, 8, 0), .inr (2, 5, 0), .inr (2, 10, 0), .inr (2, 10, 0), .inr (2, 10, 0), .inr (2, 10, 0), .inr (1, 8, 0), .inr (0, 5, 0), .inr (0, 5, 0), .inr (0, 5, 0), .inr (0, 5, 0), .inr (0, 5, 0), .inr (0, 5, 0), .inr (0, 5, 0), .inr (0, 5, 0), .inr (2, 5, 0), .inr (2, 5, 0), .inr (2, 5, 0), .inr (2, 5, 0), .inr (2, 5, 0), .inr (2, 5, 0), .inr (2, 5, 0), .inr (2, 5, 0), .inr (2, 5, 0), .inr (2, 5, 0), .inr (2, 5, 0), .inr (2, 5, 0), .inr (2, 5, 0), .inr (2, 5, 0), .inr (2, 5, 0), .inr (2, 5, 0), .inr (2, 5, 0), .inr (2, 5, 0), .inr (2, 5, 0), .inr (2, 5, 0), .inr (2, 5, 0), .inr (0, 9, 0), .inr (0, 9, 0), .inr (0, 9, 0), .inr (0, 9, 0), .inr (0, 9, 0), .inr (0, 9, 0), .inr (0, 9, 0), .inr (0, 9, 0), .inr (0, 9, 0), .inr (0, 9, 0), .inr (0, 9, 0), .inr (0, 9, 0), .inr (0, 9, 0), .inr (0, 9, 0), .inr (0, 9, 0), .inr (0, 9, 0), .inr (0, 9, 0), .inr (0, 9, 0), .inr (2, 30, 0), .inr (0, 6, 0), .inr (2, 5, 0), .inr (0, 5, 0), .inr (0, 5, 0)]
def gsh (k : Nat) : gSh := gshL.getD k (.inr (0, 0, 0))
abbrev gF : Type := Nat → Nat → Int32
abbrev gL : Type := Nat → Nat → Int64
abbrev gS : Type := gF × gL × gF × gL
def gU {α : Type} (f : Nat → Nat → α) (k j : Nat) (v : α) : Nat → Nat → α := fun k' j' => if k' = k ∧ j' = j then v else f k' j'
theorem gU_s {α : Type} {f : Nat → Nat → α} {k j : Nat} {v : α} : gU f k j v k j = v := if_pos ⟨rfl, rfl⟩
theorem gU_n {α : Type} {f : Nat → Nat → α} {k j k' j' : Nat} {v : α} (h : k' ≠ k ∨ j' ≠ j) : gU f k j v k' j' = f k' j' := if_neg (fun q => h.elim (fun h => h q.1) (fun h => h q.2))
theorem gU_k {α : Type} {f : Nat → Nat → α} {k j k' : Nat} {v : α} (h : k' ≠ k) : gU f k j v k' = f k' := funext fun _ => gU_n (Or.inl h)
def gV (ad : Nat → Nat) (I : gF) (J : gL) (k j : Nat) (fk : gFK) : Value := match fk with
  | none => .int (I k j)
  | some none => .long (J k j)
  | some (some c) => .ref (ad c)
def gfs (ad : Nat → Nat) (I : gF) (J : gL) (k : Nat) (ks : List gFK) : List Value := ks.zipIdx.map (fun q => gV ad I J k q.2 q.1)
def gC (ad : Nat → Nat) (a : gF) (b : gL) (k code n base : Nat) : vp_A := (n, if code ≤ 1 then .inl (a k) else if code = 2 then .inr (.inl (b k)) else .inr (.inr (.inr (.inr (fun i => if i < n then some (ad (base + i)) else none)))))
def gE (ad : Nat → Nat) (cy : Nat → ClassId) (I : gF) (J : gL) (a : gF) (b : gL) (k : Nat) : va_E := match gsh k with
  | .inl o => .inr (o.1, gfs ad I J k o.2)
  | .inr q => .inl (cy q.1, gC ad a b k q.1 q.2.1 q.2.2)
def gWl (ad : Nat → Nat) (E : Nat → va_E) : va_W := (List.range 92).map (fun k => (ad k, E k))
abbrev gW (ad : Nat → Nat) (cy : Nat → ClassId) (I : gF) (J : gL) (a : gF) (b : gL) : va_W := gWl ad (gE ad cy I J a b)
def gty (cy : Nat → ClassId) : List (ClassId × FieldType) := [(cy 0, .int), (cy 1, .boolean), (cy 2, .long), (cy 3, .array .int), (cy 4, .array .long)]
def GG (D : va_G) (ad : Nat → Nat) (cy : Nat → ClassId) (A : Nat → Prop) (s : State) (I : gF) (J : gL) (a : gF) (b : gL) (H : Heap) (locs : List Loc) : Prop :=
  va_K D vwCl (gty cy) s ∧ va_P D vwCl (gW ad cy I J a b) H ∧ va_D A (gW ad cy I J a b) ∧ va_S A s.heap H locs ∧ ∀ q, s.heap.size ≤ q → A q
/-- the world's own addresses, and all new ones -/
def gA (ad : Nat → Nat) (sz : Nat) : Nat → Prop := fun q => (∃ k, k < 92 ∧ ad k = q) ∨ sz ≤ q
/-- what a contract starts from, and what it ends in -/
def gPre (D : va_G) (ad : Nat → Nat) (cy : Nat → ClassId) (I : gF) (J : gL) (a : gF) (b : gL) (sz : Nat) (U : State) : Prop := U.heap.size = sz ∧ va_P D vwCl (gW ad cy I J a b) U.heap ∧ va_K D vwCl (gty cy) U ∧ va_D (fun _ => True) (gW ad cy I J a b)
def gAt (D : va_G) (ad : Nat → Nat) (cy : Nat → ClassId) (A : Nat → Prop) (u : gS) (t : State) : Prop := va_P D vwCl (gW ad cy u.1 u.2.1 u.2.2.1 u.2.2.2) t.heap ∧ va_K D vwCl (gty cy) t ∧ va_D A (gW ad cy u.1 u.2.1 u.2.2.1 u.2.2.2)
abbrev gMi (l : Launch) (y : MethodName) (ws : List Cond) (rm : Room) (D : va_G) (ad : Nat → Nat) (cy : Nat → ClassId) (I : gF) (J : gL) (a : gF) (b : gL) (sz : Nat) (As : List Value) (post : Int32 → gS → Prop) : Prop := Met l y ws rm (va_Pc As (gPre D ad cy I J a b sz)) (va_Qi post (gAt D ad cy (gA ad sz)) (gA ad sz)) 0 0 (gA ad sz)
abbrev gMl (l : Launch) (y : MethodName) (ws : List Cond) (rm : Room) (D : va_G) (ad : Nat → Nat) (cy : Nat → ClassId) (I : gF) (J : gL) (a : gF) (b : gL) (sz : Nat) (As : List Value) (post : Int64 → gS → Prop) : Prop := Met l y ws rm (va_Pc As (gPre D ad cy I J a b sz)) (va_Ql post (gAt D ad cy (gA ad sz)) (gA ad sz)) 0 0 (gA ad sz)
abbrev gMv (l : Launch) (y : MethodName) (ws : List Cond) (rm : Room) (D : va_G) (ad : Nat → Nat) (cy : Nat → ClassId) (I : gF) (J : gL) (a : gF) (b : gL) (sz : Nat) (As : List Value) (post : gS → Prop) : Prop := Met l y ws rm (va_Pc As (gPre D ad cy I J a b sz)) (va_Qv post (gAt D ad cy (gA ad sz)) (gA ad sz)) 0 0 (gA ad sz)
theorem gfs_get {ad : Nat → Nat} {I : gF} {J : gL} {k j : Nat} {ks : List gFK} {fk : gFK} (h : ks[j]? = some fk) : (gfs ad I J k ks)[j]? = some (gV ad I J k j fk) := by
  simp [gfs, List.getElem?_zipIdx, h]
theorem gfs_len {ad : Nat → Nat} {I : gF} {J : gL} {k : Nat} {ks : List gFK} : (gfs ad I J k ks).length = ks.length := by simp [gfs]
theorem gfs_setI {ad : Nat → Nat} {I : gF} {J : gL} {k j : Nat} {ks : List gFK} {v : Int32} (h : ks[j]? = some none) : (gfs ad I J k ks).set j (.int v) = gfs ad (gU I k j v) J k ks := by
  apply List.ext_getElem?
  intro i
  rw [List.getElem?_set]
  by_cases e : j = i
  · subst e
    have hl : j < (gfs ad I J k ks).length := by rw [gfs_len]; exact (List.getElem?_eq_some_iff.mp h).1
    rw [if_pos rfl, if_pos hl, gfs_get h]
    simp [gV, gU_s]
  · rw [if_neg e]
    simp only [gfs, List.getElem?_map, List.getElem?_zipIdx]
    cases hh : ks[i]? with
    | none => rfl
    | some fk =>
      cases fk with
      | none => simp [gV, gU_n (f := I) (k := k) (j := j) (k' := k) (j' := i) (v := v) (Or.inr (fun q => e q.symm))]
      | some z => cases z <;> rfl
theorem gfs_setJ {ad : Nat → Nat} {I : gF} {J : gL} {k j : Nat} {ks : List gFK} {v : Int64} (h : ks[j]? = some (some none)) : (gfs ad I J k ks).set j (.long v) = gfs ad I (gU J k j v) k ks := by
  apply List.ext_getElem?
  intro i
  rw [List.getElem?_set]
  by_cases e : j = i
  · subst e
    have hl : j < (gfs ad I J k ks).length := by rw [gfs_len]; exact (List.getElem?_eq_some_iff.mp h).1
    rw [if_pos rfl, if_pos hl, gfs_get h]
    simp [gV, gU_s]
  · rw [if_neg e]
    simp only [gfs, List.getElem?_map, List.getElem?_zipIdx]
    cases hh : ks[i]? with
    | none => rfl
    | some fk =>
      cases fk with
      | none => rfl
      | some z =>
        cases z with
        | none => simp [gV, gU_n (f := J) (k := k) (j := j) (k' := k) (j' := i) (v := v) (Or.inr (fun q => e q.symm))]
        | some c => rfl
theorem gfs_other {ad : Nat → Nat} {I I' : gF} {J J' : gL} {k : Nat} {ks : List gFK} (hI : ∀ j, I' k j = I k j) (hJ : ∀ j, J' k j = J k j) : gfs ad I' J' k ks = gfs ad I J k ks := by
  unfold gfs
  apply List.map_congr_left
  intro q _
  obtain ⟨fk, j⟩ := q
  cases fk with
  | none => simp [gV, hI]
  | some z => cases z <;> simp [gV, hJ]
theorem gWl_get {ad : Nat → Nat} {E : Nat → va_E} {k : Nat} (h : k < 92) : (gWl ad E)[k]? = some (ad k, E k) := by
  simp [gWl, List.getElem?_map, List.getElem?_range h]
theorem gWl_set {ad : Nat → Nat} {E E' : Nat → va_E} {k : Nat} {e : va_E} (h : k < 92) (h1 : E' k = e) (h2 : ∀ j, j ≠ k → E' j = E j) : (gWl ad E).set k (ad k, e) = gWl ad E' := by
  apply List.ext_getElem?
  intro i
  rw [List.getElem?_set]
  have hlen : (gWl ad E).length = 92 := by simp [gWl]
  by_cases e1 : k = i
  · subst e1
    rw [if_pos rfl, if_pos (by rw [hlen]; exact h), gWl_get h, h1]
  · rw [if_neg e1]
    by_cases hi : i < 92
    · rw [gWl_get hi, gWl_get hi, h2 i (fun q => e1 q.symm)]
    · rw [List.getElem?_eq_none (by rw [hlen]; omega), List.getElem?_eq_none (by simp [gWl]; omega)]
theorem gWl_at {ad : Nat → Nat} {E E' : Nat → va_E} {A : Nat → Prop} (h : va_D A (gWl ad E)) : va_D A (gWl ad E') := by
  have hl : ∀ {F : Nat → va_E} {k : Nat} {q : Nat × va_E}, (gWl ad F)[k]? = some q → k < 92 ∧ q = (ad k, F k) := by
    intro F k q hq
    have hk : k < 92 := by
      have := (List.getElem?_eq_some_iff.mp hq).1
      simpa [gWl] using this
    rw [gWl_get hk] at hq
    exact ⟨hk, (Option.some.inj hq).symm⟩
  refine ⟨fun i j x y hi hj hxy => ?_, fun k q hq => ?_⟩
  · obtain ⟨h1, rfl⟩ := hl hi
    obtain ⟨h2, rfl⟩ := hl hj
    exact h.1 i j _ _ (gWl_get h1) (gWl_get h2) hxy
  · obtain ⟨h1, rfl⟩ := hl hq
    exact h.2 k (ad k, E k) (gWl_get h1)
theorem gE_ob {ad : Nat → Nat} {cy : Nat → ClassId} {I : gF} {J : gL} {a : gF} {b : gL} {k ci : Nat} {ks : List gFK} (h : gsh k = .inl (ci, ks)) : gE ad cy I J a b k = .inr (ci, gfs ad I J k ks) := by
  unfold gE
  rw [h]
theorem gE_ar {ad : Nat → Nat} {cy : Nat → ClassId} {I : gF} {J : gL} {a : gF} {b : gL} {k co n ba : Nat} (h : gsh k = .inr (co, n, ba)) : gE ad cy I J a b k = .inl (cy co, gC ad a b k co n ba) := by
  unfold gE
  rw [h]
theorem gE_ne {ad : Nat → Nat} {cy : Nat → ClassId} {I I' : gF} {J J' : gL} {a a' : gF} {b b' : gL} {k : Nat} (hI : I' k = I k) (hJ : J' k = J k) (ha : a' k = a k) (hb : b' k = b k) : gE ad cy I' J' a' b' k = gE ad cy I J a b k := by
  unfold gE
  cases gsh k with
  | inl o => simp only [gfs_other (I := I) (I' := I') (J := J) (J' := J') (fun j => congrFun hI j) (fun j => congrFun hJ j)]
  | inr q => simp only [gC, ha, hb]
end
section
section GX
variable {p : Program} {l : Launch} {e : Env} {R : Room} {s : State} {m : MethodId} {args : Array Value} {below : List Frame} {meth : Method} {c : Code} {H : Heap} {locs : List Loc} {cells slots : Nat} {Q : State → Prop}
variable {cc : ByteArray} {pc : Nat} {ls : Array Slot} {rest : List Value} {D : va_G} {ad : Nat → Nat} {cy : Nat → ClassId} {A : Nat → Prop} {I : gF} {J : gL} {a : gF} {b : gL}
/-- a field is read -/
theorem gx_get (hx : p.tables.exec = Jvm.exec) (hb : c.code = cc) {own ref C : String} {T : u_T} {N ci index : Nat} {Ts : List Cond} {ks : List gFK} (hts : ∀ w ∈ Ts, w.before args s = true) (hin : ∀ w ∈ u_ws C T N, w ∈ Ts) (hown : s.vm.findClass own = some m.cls) (G : GG D ad cy A s I J a b H locs) (k : Nat) (hk : k < 92) (hs : gsh k = .inl (ci, ks)) (hc : vwCl[ci]? = some (C, T, N)) (j : Nat) (hj : j < N) {fk : gFK} (hf : ks[j]? = some fk) (hlink : (Cond.fieldLink own index ref (T j).2.1 (T j).2.2.1).before args s = true) (he : ref = (T j).1) {v : Value} (hv : gV ad I J k j fk = v) (hdg : decode cc pc = .ok (.getfield index, 3))
    (kk : W p l e R s m args below meth c H locs cells slots Q (F0 m (pc + 3) ls (v :: rest))) : W p l e R s m args below meth c H locs cells slots Q (F0 m pc ls (.ref (ad k) :: rest)) := by
  subst hv
  subst he
  exact va_get (D := D) (ci := ci) (C := C) (T := T) (N := N) hx hb hts hin hown G.1 G.2.1 k ((gWl_get hk).trans (by rw [gE_ob hs])) hc j hj hlink (fun _ h9 => h9) (gfs_get hf) hdg kk
/-- an int (or boolean) field is written -/
theorem gx_putI (hx : p.tables.exec = Jvm.exec) (hb : c.code = cc) {own ref C : String} {T : u_T} {N ci index : Nat} {Ts : List Cond} {ks : List gFK} (hts : ∀ w ∈ Ts, w.before args s = true) (hin : ∀ w ∈ u_ws C T N, w ∈ Ts) (ty0 : Nat → FieldType) (hty : ∀ k, k < N → parseFieldDescriptor (T k).2.2.1 = some (ty0 k)) (hnm : ∀ a, a < N → ∀ b, b < N → a ≠ b → (T a).2.1 ≠ (T b).2.1) (hown : s.vm.findClass own = some m.cls) (G : GG D ad cy A s I J a b H locs) (k : Nat) (hk : k < 92) (hs : gsh k = .inl (ci, ks)) (hc : vwCl[ci]? = some (C, T, N)) (j : Nat) (hj : j < N) (hf : ks[j]? = some none) (hlink : (Cond.fieldLink own index ref (T j).2.1 (T j).2.2.1).before args s = true) (he : ref = (T j).1) (hfin : (T j).2.2.2 = false) {ty : FieldType} {x : Int32} (hd : parseFieldDescriptor (T j).2.2.1 = some ty) (hn : narrow ty (.int x) = .int x) (hfit : fits ty (.int x) = true) (hdg : decode cc pc = .ok (.putfield index, 3))
    (kk : ∀ (H1 : Heap) (locs1 : List Loc), GG D ad cy A s (gU I k j x) J a b H1 locs1 → W p l e R s m args below meth c H1 locs1 cells slots Q (F0 m (pc + 3) ls rest)) : W p l e R s m args below meth c H locs cells slots Q (F0 m pc ls (.int x :: .ref (ad k) :: rest)) := by
  subst he
  have hset : (gWl ad (gE ad cy I J a b)).set k (ad k, .inr (ci, (gfs ad I J k ks).set j (.int x))) = gWl ad (gE ad cy (gU I k j x) J a b) := by
    refine gWl_set hk ?_ ?_
    · rw [gE_ob hs, gfs_setI hf]
    · intro i hi
      exact gE_ne (gU_k hi) rfl rfl rfl
  refine va_put (D := D) (ci := ci) (C := C) (T := T) (N := N) hx hb hts hin ty0 hty hnm hown G.1 G.2.1 G.2.2.1 G.2.2.2.1 k ((gWl_get hk).trans (by rw [gE_ob hs])) hc j hj hlink (fun _ h9 => h9) hfin hd hn hfit (by rw [gfs_len]; exact (List.getElem?_eq_some_iff.mp hf).1) hdg (fun H1 locs1 hP hD hS => ?_)
  rw [hset] at hP hD
  exact kk H1 locs1 ⟨G.1, hP, hD, hS, G.2.2.2.2⟩
/-- a long field is written -/
theorem gx_putJ (hx : p.tables.exec = Jvm.exec) (hb : c.code = cc) {own ref C : String} {T : u_T} {N ci index : Nat} {Ts : List Cond} {ks : List gFK} (hts : ∀ w ∈ Ts, w.before args s = true) (hin : ∀ w ∈ u_ws C T N, w ∈ Ts) (ty0 : Nat → FieldType) (hty : ∀ k, k < N → parseFieldDescriptor (T k).2.2.1 = some (ty0 k)) (hnm : ∀ a, a < N → ∀ b, b < N → a ≠ b → (T a).2.1 ≠ (T b).2.1) (hown : s.vm.findClass own = some m.cls) (G : GG D ad cy A s I J a b H locs) (k : Nat) (hk : k < 92) (hs : gsh k = .inl (ci, ks)) (hc : vwCl[ci]? = some (C, T, N)) (j : Nat) (hj : j < N) (hf : ks[j]? = some (some none)) (hlink : (Cond.fieldLink own index ref (T j).2.1 (T j).2.2.1).before args s = true) (he : ref = (T j).1) (hfin : (T j).2.2.2 = false) {x : Int64} (hd : parseFieldDescriptor (T j).2.2.1 = some .long) (hdg : decode cc pc = .ok (.putfield index, 3))
    (kk : ∀ (H1 : Heap) (locs1 : List Loc), GG D ad cy A s I (gU J k j x) a b H1 locs1 → W p l e R s m args below meth c H1 locs1 cells slots Q (F0 m (pc + 3) ls rest)) : W p l e R s m args below meth c H locs cells slots Q (F0 m pc ls (.long x :: .ref (ad k) :: rest)) := by
  subst he
  have hset : (gWl ad (gE ad cy I J a b)).set k (ad k, .inr (ci, (gfs ad I J k ks).set j (.long x))) = gWl ad (gE ad cy I (gU J k j x) a b) := by
    refine gWl_set hk ?_ ?_
    · rw [gE_ob hs, gfs_setJ hf]
    · intro i hi
      exact gE_ne rfl (gU_k hi) rfl rfl
  refine va_put (D := D) (ci := ci) (C := C) (T := T) (N := N) hx hb hts hin ty0 hty hnm hown G.1 G.2.1 G.2.2.1 G.2.2.2.1 k ((gWl_get hk).trans (by rw [gE_ob hs])) hc j hj hlink (fun _ h9 => h9) hfin hd rfl rfl (by rw [gfs_len]; exact (List.getElem?_eq_some_iff.mp hf).1) hdg (fun H1 locs1 hP hD hS => ?_)
  rw [hset] at hP hD
  exact kk H1 locs1 ⟨G.1, hP, hD, hS, G.2.2.2.2⟩
theorem gC_i {k n ba co : Nat} (h : co ≤ 1) : gC ad a b k co n ba = (n, .inl (a k)) := by unfold gC; rw [if_pos h]
theorem gC_l {k n ba : Nat} : gC ad a b k 2 n ba = (n, .inr (.inl (b k))) := rfl
theorem gC_q {k n ba co : Nat} (h : 2 < co) : gC ad a b k co n ba = (n, .inr (.inr (.inr (.inr (fun i => if i < n then some (ad (ba + i)) else none))))) := by
  unfold gC
  rw [if_neg (by omega), if_neg (by omega)]
theorem gx_upd (f : Nat → Nat → Int32) (k i : Nat) (x : Int32) : gU f k i x k = upd (f k) i x := by
  funext j
  unfold gU upd
  simp
theorem gx_updL (f : Nat → Nat → Int64) (k i : Nat) (x : Int64) : gU f k i x k = vp_updL (f k) i x := by
  funext j
  unfold gU vp_updL
  simp
theorem gx_in {i : Int32} {j n : Nat} (hi : i = nI j) (hj : j < n) (hn : n < 2 ^ 31) : vp_in i n := by rw [hi]; exact vp_in_nI hj hn
/-- an int array is read at place j -/
theorem gx_iald (hx : p.tables.exec = Jvm.exec) (hb : c.code = cc) (G : GG D ad cy A s I J a b H locs) (k : Nat) (hk : k < 92) {n ba : Nat} (hs : gsh k = .inr (0, n, ba)) (hn : n < 2 ^ 31) {i : Int32} (j : Nat) (hi : i = nI j) (hj : j < n) (hdg : decode cc pc = .ok (.iaload, 1))
    (kk : W p l e R s m args below meth c H locs cells slots Q (F0 m (pc + 1) ls (.int (a k j) :: rest))) : W p l e R s m args below meth c H locs cells slots Q (F0 m pc ls (.int i :: .ref (ad k) :: rest)) := by
  refine va_iald hx hb G.1 G.2.1 k 0 ((gWl_get hk).trans (by rw [gE_ar hs, gC_i (by decide)])) rfl (gx_in hi hj hn) hdg ?_
  rw [hi, nI_clamp (Nat.lt_trans hj hn)]
  exact kk
/-- a boolean array is read at place j -/
theorem gx_zald (hx : p.tables.exec = Jvm.exec) (hb : c.code = cc) (G : GG D ad cy A s I J a b H locs) (k : Nat) (hk : k < 92) {n ba : Nat} (hs : gsh k = .inr (1, n, ba)) (hn : n < 2 ^ 31) {i : Int32} (j : Nat) (hi : i = nI j) (hj : j < n) (hdg : decode cc pc = .ok (.baload, 1))
    (kk : W p l e R s m args below meth c H locs cells slots Q (F0 m (pc + 1) ls (.int (a k j) :: rest))) : W p l e R s m args below meth c H locs cells slots Q (F0 m pc ls (.int i :: .ref (ad k) :: rest)) := by
  refine va_zald hx hb G.1 G.2.1 k 1 ((gWl_get hk).trans (by rw [gE_ar hs, gC_i (by decide)])) rfl (gx_in hi hj hn) hdg ?_
  rw [hi, nI_clamp (Nat.lt_trans hj hn)]
  exact kk
/-- a long array is read at place j -/
theorem gx_lald (hx : p.tables.exec = Jvm.exec) (hb : c.code = cc) (G : GG D ad cy A s I J a b H locs) (k : Nat) (hk : k < 92) {n ba : Nat} (hs : gsh k = .inr (2, n, ba)) (hn : n < 2 ^ 31) {i : Int32} (j : Nat) (hi : i = nI j) (hj : j < n) (hdg : decode cc pc = .ok (.laload, 1))
    (kk : W p l e R s m args below meth c H locs cells slots Q (F0 m (pc + 1) ls (.long (b k j) :: rest))) : W p l e R s m args below meth c H locs cells slots Q (F0 m pc ls (.int i :: .ref (ad k) :: rest)) := by
  refine va_lald hx hb G.1 G.2.1 k 2 ((gWl_get hk).trans (by rw [gE_ar hs, gC_l])) rfl (gx_in hi hj hn) hdg ?_
  rw [hi, nI_clamp (Nat.lt_trans hj hn)]
  exact kk
/-- a row of an array of int rows, or of long rows, is taken -/
theorem gx_aald (hx : p.tables.exec = Jvm.exec) (hb : c.code = cc) (G : GG D ad cy A s I J a b H locs) (k : Nat) (hk : k < 92) {co n ba : Nat} (hs : gsh k = .inr (co, n, ba)) (hco : co = 3 ∨ co = 4) (hn : n < 2 ^ 31) {i : Int32} (j : Nat) (hi : i = nI j) (hj : j < n) (hdg : decode cc pc = .ok (.aaload, 1))
    (kk : W p l e R s m args below meth c H locs cells slots Q (F0 m (pc + 1) ls (.ref (ad (ba + j)) :: rest))) : W p l e R s m args below meth c H locs cells slots Q (F0 m pc ls (.int i :: .ref (ad k) :: rest)) := by
  have hin := gx_in hi hj hn
  have hcl : i.toNatClampNeg = j := by rw [hi, nI_clamp (Nat.lt_trans hj hn)]
  have hw : (gWl ad (gE ad cy I J a b))[k]? = some (ad k, .inl (cy co, n, .inr (.inr (.inr (.inr (fun i => if i < n then some (ad (ba + i)) else none)))))) := (gWl_get hk).trans (by rw [gE_ar hs, gC_q (by omega)])
  have hv : va_rf ((fun i => if i < n then some (ad (ba + i)) else none) i.toNatClampNeg) = .ref (ad (ba + j)) := by
    rw [hcl]
    show va_rf (if j < n then some (ad (ba + j)) else none) = _
    rw [if_pos hj]
    rfl
  have kk2 : W p l e R s m args below meth c H locs cells slots Q (F0 m (pc + 1) ls (va_rf ((fun i => if i < n then some (ad (ba + i)) else none) i.toNatClampNeg) :: rest)) := by
    rw [hv]
    exact kk
  rcases hco with rfl | rfl
  · exact W.aald (v := va_rf ((fun i => if i < n then some (ad (ba + i)) else none) i.toNatClampNeg)) (ty := .array .int) hx hb (G.2.1 k _ hw) ((G.1.2 3 _ rfl).1 n (fun j => va_rf ((fun i => if i < n then some (ad (ba + i)) else none) j))) rfl (fun q => by cases q) (by show ¬ (i < 0 ∨ (arrV _ _ _).slots.size ≤ _); rw [arrV_size]; exact hin) (by show (arrV _ _ _).slots[_]? = _; rw [arrV_read _ _ (by rw [hcl]; exact hj)]) rfl rfl hdg kk2
  · exact W.aald (v := va_rf ((fun i => if i < n then some (ad (ba + i)) else none) i.toNatClampNeg)) (ty := .array .long) hx hb (G.2.1 k _ hw) ((G.1.2 4 _ rfl).1 n (fun j => va_rf ((fun i => if i < n then some (ad (ba + i)) else none) j))) rfl (fun q => by cases q) (by show ¬ (i < 0 ∨ (arrV _ _ _).slots.size ≤ _); rw [arrV_size]; exact hin) (by show (arrV _ _ _).slots[_]? = _; rw [arrV_read _ _ (by rw [hcl]; exact hj)]) rfl rfl hdg kk2
/-- an int array is written at place j -/
theorem gx_iast (hx : p.tables.exec = Jvm.exec) (hb : c.code = cc) (G : GG D ad cy A s I J a b H locs) (k : Nat) (hk : k < 92) {n ba : Nat} (hs : gsh k = .inr (0, n, ba)) (hn : n < 2 ^ 31) {i x : Int32} (j : Nat) (hi : i = nI j) (hj : j < n) (hdg : decode cc pc = .ok (.iastore, 1))
    (kk : ∀ (H1 : Heap) (locs1 : List Loc), GG D ad cy A s I J (gU a k j x) b H1 locs1 → W p l e R s m args below meth c H1 locs1 cells slots Q (F0 m (pc + 1) ls rest)) : W p l e R s m args below meth c H locs cells slots Q (F0 m pc ls (.int x :: .int i :: .ref (ad k) :: rest)) := by
  have hset : (gWl ad (gE ad cy I J a b)).set k (ad k, .inl (cy 0, n, .inl (upd (a k) j x))) = gWl ad (gE ad cy I J (gU a k j x) b) := by
    refine gWl_set hk ?_ ?_
    · rw [gE_ar hs, gC_i (by decide), gx_upd]
    · intro i hi
      exact gE_ne rfl rfl (gU_k hi) rfl
  refine va_iast hx hb G.1 G.2.1 G.2.2.1 G.2.2.2.1 k 0 ((gWl_get hk).trans (by rw [gE_ar hs, gC_i (by decide)])) rfl (gx_in hi hj hn) hdg (fun H1 locs1 hP hD hS => ?_)
  rw [hi, nI_clamp (Nat.lt_trans hj hn), hset] at hP hD
  exact kk H1 locs1 ⟨G.1, hP, hD, hS, G.2.2.2.2⟩
/-- a boolean array is written at place j -/
theorem gx_zast (hx : p.tables.exec = Jvm.exec) (hb : c.code = cc) (G : GG D ad cy A s I J a b H locs) (k : Nat) (hk : k < 92) {n ba : Nat} (hs : gsh k = .inr (1, n, ba)) (hn : n < 2 ^ 31) {i x : Int32} (j : Nat) (hi : i = nI j) (hj : j < n) (hz : vp_nar .boolean x = x) (hdg : decode cc pc = .ok (.bastore, 1))
    (kk : ∀ (H1 : Heap) (locs1 : List Loc), GG D ad cy A s I J (gU a k j x) b H1 locs1 → W p l e R s m args below meth c H1 locs1 cells slots Q (F0 m (pc + 1) ls rest)) : W p l e R s m args below meth c H locs cells slots Q (F0 m pc ls (.int x :: .int i :: .ref (ad k) :: rest)) := by
  have hset : (gWl ad (gE ad cy I J a b)).set k (ad k, .inl (cy 1, n, .inl (upd (a k) j x))) = gWl ad (gE ad cy I J (gU a k j x) b) := by
    refine gWl_set hk ?_ ?_
    · rw [gE_ar hs, gC_i (by decide), gx_upd]
    · intro i hi
      exact gE_ne rfl rfl (gU_k hi) rfl
  refine va_zast hx hb G.1 G.2.1 G.2.2.1 G.2.2.2.1 k 1 ((gWl_get hk).trans (by rw [gE_ar hs, gC_i (by decide)])) rfl (gx_in hi hj hn) hdg (fun H1 locs1 hP hD hS => ?_)
  rw [hz, hi, nI_clamp (Nat.lt_trans hj hn), hset] at hP hD
  exact kk H1 locs1 ⟨G.1, hP, hD, hS, G.2.2.2.2⟩
/-- a long array is written at place j -/
theorem gx_last (hx : p.tables.exec = Jvm.exec) (hb : c.code = cc) (G : GG D ad cy A s I J a b H locs) (k : Nat) (hk : k < 92) {n ba : Nat} (hs : gsh k = .inr (2, n, ba)) (hn : n < 2 ^ 31) {i : Int32} {x : Int64} (j : Nat) (hi : i = nI j) (hj : j < n) (hdg : decode cc pc = .ok (.lastore, 1))
    (kk : ∀ (H1 : Heap) (locs1 : List Loc), GG D ad cy A s I J a (gU b k j x) H1 locs1 → W p l e R s m args below meth c H1 locs1 cells slots Q (F0 m (pc + 1) ls rest)) : W p l e R s m args below meth c H locs cells slots Q (F0 m pc ls (.long x :: .int i :: .ref (ad k) :: rest)) := by
  have hset : (gWl ad (gE ad cy I J a b)).set k (ad k, .inl (cy 2, n, .inr (.inl (vp_updL (b k) j x)))) = gWl ad (gE ad cy I J a (gU b k j x)) := by
    refine gWl_set hk ?_ ?_
    · rw [gE_ar hs, gC_l, gx_updL]
    · intro i hi
      exact gE_ne rfl rfl rfl (gU_k hi)
  refine va_last hx hb G.1 G.2.1 G.2.2.1 G.2.2.2.1 k 2 ((gWl_get hk).trans (by rw [gE_ar hs, gC_l])) rfl (gx_in hi hj hn) hdg (fun H1 locs1 hP hD hS => ?_)
  rw [hi, nI_clamp (Nat.lt_trans hj hn), hset] at hP hD
  exact kk H1 locs1 ⟨G.1, hP, hD, hS, G.2.2.2.2⟩
/-- the length of an int array -/
theorem gx_alen (hx : p.tables.exec = Jvm.exec) (hb : c.code = cc) (G : GG D ad cy A s I J a b H locs) (k : Nat) (hk : k < 92) {n ba : Nat} (hs : gsh k = .inr (0, n, ba)) {v : Int32} (hv : nI n = v) (hdg : decode cc pc = .ok (.arraylength, 1))
    (kk : W p l e R s m args below meth c H locs cells slots Q (F0 m (pc + 1) ls (.int v :: rest))) : W p l e R s m args below meth c H locs cells slots Q (F0 m pc ls (.ref (ad k) :: rest)) :=
  va_alen (x := (n, .inl (a k))) hx hb G.1 G.2.1 k 0 ((gWl_get hk).trans (by rw [gE_ar hs, gC_i (by decide)])) rfl hv hdg kk
end GX
end
section
section GC
variable {p : Program} {l : Launch} {e : Env} {R : Room} {s : State} {m : MethodId} {args : Array Value} {below : List Frame} {meth : Method} {c : Code} {H : Heap} {locs : List Loc} {cells slots : Nat} {Q : State → Prop}
variable {cc : ByteArray} {pc : Nat} {ls : Array Slot} {rest : List Value} {D : va_G} {ad : Nat → Nat} {cy : Nat → ClassId} {A : Nat → Prop} {I : gF} {J : gL} {a : gF} {b : gL}
theorem gWl_in {E : Nat → va_E} {k : Nat} {q : Nat × va_E} (hq : (gWl ad E)[k]? = some q) : k < 92 ∧ q = (ad k, E k) := by
  have hk : k < 92 := by
    have := (List.getElem?_eq_some_iff.mp hq).1
    simpa [gWl] using this
  rw [gWl_get hk] at hq
  exact ⟨hk, (Option.some.inj hq).symm⟩
theorem gWl_D {E : Nat → va_E} {A B : Nat → Prop} (h : va_D A (gWl ad E)) (hB : ∀ k, k < 92 → B (ad k)) : va_D B (gWl ad E) := ⟨h.1, fun k q hq => by
  obtain ⟨hk, rfl⟩ := gWl_in hq
  exact hB k hk⟩
theorem gx_begin {As : List Value} {sz : Nat} (hv : va_Pc As (gPre D ad cy I J a b sz) args s) : args = As.toArray ∧ s.heap.size = sz ∧ GG D ad cy (gA ad sz) s I J a b s.heap [] := by
  obtain ⟨h1, h2, hP, hK, hD⟩ := hv
  exact ⟨h1, h2, hK, hP, gWl_D hD (fun k hk => Or.inl ⟨k, hk, rfl⟩), va_S.rf, fun q h => Or.inr (by rw [← h2]; exact h)⟩
theorem gx_free (G : GG D ad cy A s I J a b H locs) : ∀ q, gA ad H.size q → A q := by
  intro q h
  rcases h with ⟨k, hk, rfl⟩ | h
  · exact G.2.2.1.2 k _ (gWl_get hk)
  · exact G.2.2.2.2 q (Nat.le_trans G.2.2.2.1.1 h)
theorem gx_blind {As : List Value} {sz : Nat} : FrameBlind (va_Pc As (gPre D ad cy I J a b sz)) := fun a' U g mk q => by
  obtain ⟨q0, q1, qP, qK, qD⟩ := q
  exact ⟨q0, q1, qP, va_K.moved (u := U) (U := U.calling g mk a') (Vm.Alike.refl U.vm) qK, qD⟩
theorem gx_pre {As : List Value} (G : GG D ad cy A s I J a b H locs) : ∀ U : State, U.heap = H → s.WarmedH U.vm → va_Pc As (gPre D ad cy I J a b H.size) As.toArray U := fun U hU hW => ⟨rfl, by rw [hU], by rw [hU]; exact G.2.1, va_K.moved hW.alike G.1, gWl_D G.2.2.1 (fun _ _ => trivial)⟩
theorem gx_after {u : gS} {t : State} {H1 : Heap} {locs1 : List Loc} (G : GG D ad cy A s I J a b H locs) (ht : t.heap = H1) (hvm : s.vm.Alike t.vm) (hB : gAt D ad cy (gA ad H.size) u t) (hS : va_S A s.heap H1 locs1) : GG D ad cy A s u.1 u.2.1 u.2.2.1 u.2.2.2 H1 locs1 := by
  obtain ⟨hP, hK, hD⟩ := hB
  rw [ht] at hP
  exact ⟨va_K.moved hvm.symm hK, hP, gWl_at G.2.2.1, hS, G.2.2.2.2⟩
theorem gx_iret (hx : p.tables.exec = Jvm.exec) (hb : c.code = cc) (hr : meth.sig.returnType = some .int) (hlocks : meth.locks = false) (G : GG D ad cy A s I J a b H locs) {post : Int32 → gS → Prop} {v : Int32} (hp : post v (I, J, a, b)) (hdg : decode cc pc = .ok (.ireturn, 1)) : W p l e R s m args below meth c H locs cells slots (MQ below (va_Qi post (gAt D ad cy A) A) args s cells slots A) (F0 m pc ls [.int v]) :=
  W.iret (v := v) hx hb hr (fun t ht hW => ⟨⟨v, (I, J, a, b), rfl, hp, by rw [ht]; exact G.2.1, va_K.moved hW.alike G.1, G.2.2.1⟩, G.2.2.2.1.F ht⟩) G.2.2.2.1.2.2 hdg hlocks
theorem gx_zret (hx : p.tables.exec = Jvm.exec) (hb : c.code = cc) (hr : meth.sig.returnType = some .boolean) (hlocks : meth.locks = false) (G : GG D ad cy A s I J a b H locs) {post : Int32 → gS → Prop} {v : Int32} (hn : narrow .boolean (.int v) = .int v) (hp : post v (I, J, a, b)) (hdg : decode cc pc = .ok (.ireturn, 1)) : W p l e R s m args below meth c H locs cells slots (MQ below (va_Qi post (gAt D ad cy A) A) args s cells slots A) (F0 m pc ls [.int v]) :=
  W.zret (v := v) hx hb hr hn (fun t ht hW => ⟨⟨v, (I, J, a, b), rfl, hp, by rw [ht]; exact G.2.1, va_K.moved hW.alike G.1, G.2.2.1⟩, G.2.2.2.1.F ht⟩) G.2.2.2.1.2.2 hdg hlocks
theorem gx_lret (hx : p.tables.exec = Jvm.exec) (hb : c.code = cc) (hr : meth.sig.returnType = some .long) (hlocks : meth.locks = false) (G : GG D ad cy A s I J a b H locs) {post : Int64 → gS → Prop} {v : Int64} (hp : post v (I, J, a, b)) (hdg : decode cc pc = .ok (.lreturn, 1)) : W p l e R s m args below meth c H locs cells slots (MQ below (va_Ql post (gAt D ad cy A) A) args s cells slots A) (F0 m pc ls [.long v]) :=
  W.lret (v := v) hx hb hr (fun t ht hW => ⟨⟨v, (I, J, a, b), rfl, hp, by rw [ht]; exact G.2.1, va_K.moved hW.alike G.1, G.2.2.1⟩, G.2.2.2.1.F ht⟩) G.2.2.2.1.2.2 hdg hlocks
theorem gx_vret (hx : p.tables.exec = Jvm.exec) (hb : c.code = cc) (hr : meth.sig.returnType = none) (hlocks : meth.locks = false) (G : GG D ad cy A s I J a b H locs) {post : gS → Prop} (hp : post (I, J, a, b)) (hdg : decode cc pc = .ok (.return_, 1)) : W p l e R s m args below meth c H locs cells slots (MQ below (va_Qv post (gAt D ad cy A) A) args s cells slots A) (F0 m pc ls []) :=
  W.vret hx hb hr (fun t ht hW => ⟨⟨(I, J, a, b), rfl, hp, by rw [ht]; exact G.2.1, va_K.moved hW.alike G.1, G.2.2.1⟩, G.2.2.2.1.F ht⟩) G.2.2.2.1.2.2 hdg hlocks
variable {y : MethodName} {ws : List Cond} {rm : Room} {Ts : List Cond} {own C : String} {index maxL nL n : Nat} {bytes : ByteArray} {ret : Option FieldType} {As st : List Value}
theorem gx_rc (G : GG D ad cy A s I J a b H locs) {k ci : Nat} {ks : List gFK} {q : vw_C} (hk : k < 92) (hs : gsh k = .inl (ci, ks)) (hc : vwCl[ci]? = some q) (hC : q.1 = C) : ∃ cell : Cell, H[ad k]? = some cell ∧ cell.vm.isStatics = false ∧ s.vm.findClass C = some cell.cls := by
  subst hC
  exact va_recv G.1 G.2.1 hc ((gWl_get hk).trans (by rw [gE_ob hs]))
/-- a call of an instance method that answers an int or a boolean -/
theorem gx_cVi (S : CallFix p m c cc nL s args Ts own) (G : GG D ad cy A s I J a b H locs) (k : Nat) {ci : Nat} {ks : List gFK} {q : vw_C} {post : Int32 → gS → Prop} (hM : gMi l y ws rm D ad cy I J a b H.size (.ref (ad k) :: As) post) (cw : CallW R s args own C index y bytes maxL ret ws rm 0 0 n) (hk : k < 92) (hs : gsh k = .inl (ci, ks)) (hc : vwCl[ci]? = some q) (hC : q.1 = C) (hn : As.length = n) (hsize : ls.size = nL) (hst : st = As.reverse ++ .ref (ad k) :: rest) (hW : (rest.map fun v => v.category).sum ≤ 8) (hf : cells ≤ R.cells ∧ slots ≤ R.slots) (hdg : decode cc pc = .ok (.invokevirtual index, 3))
    (kk : ∀ (r : Int32) (I1 : gF) (J1 : gL) (a1 : gF) (b1 : gL) (H1 : Heap) (locs1 : List Loc), post r (I1, J1, a1, b1) → GG D ad cy A s I1 J1 a1 b1 H1 locs1 → W p l e R s m args below meth c H1 locs1 cells slots Q (F0 m (pc + 3) ls (.int r :: rest))) : W p l e R s m args below meth c H locs cells slots Q (F0 m pc ls st) := by
  refine va_calli (va_runV (As := As) (rest := rest) S hM cw ⟨gx_blind, gx_rc G hk hs hc hC, gx_pre G⟩ rfl hn hsize hst (lv_room hW) hdg hf) G.2.2.2.1 (fun q _ h => gx_free G q h) (gx_free G) (fun r u t H1 locs1 ht hvm hw hB _ _ hS => ?_)
  exact kk r u.1 u.2.1 u.2.2.1 u.2.2.2 H1 locs1 hw (gx_after G ht hvm hB hS)
theorem gx_cVl (S : CallFix p m c cc nL s args Ts own) (G : GG D ad cy A s I J a b H locs) (k : Nat) {ci : Nat} {ks : List gFK} {q : vw_C} {post : Int64 → gS → Prop} (hM : gMl l y ws rm D ad cy I J a b H.size (.ref (ad k) :: As) post) (cw : CallW R s args own C index y bytes maxL ret ws rm 0 0 n) (hk : k < 92) (hs : gsh k = .inl (ci, ks)) (hc : vwCl[ci]? = some q) (hC : q.1 = C) (hn : As.length = n) (hsize : ls.size = nL) (hst : st = As.reverse ++ .ref (ad k) :: rest) (hW : (rest.map fun v => v.category).sum ≤ 8) (hf : cells ≤ R.cells ∧ slots ≤ R.slots) (hdg : decode cc pc = .ok (.invokevirtual index, 3))
    (kk : ∀ (r : Int64) (I1 : gF) (J1 : gL) (a1 : gF) (b1 : gL) (H1 : Heap) (locs1 : List Loc), post r (I1, J1, a1, b1) → GG D ad cy A s I1 J1 a1 b1 H1 locs1 → W p l e R s m args below meth c H1 locs1 cells slots Q (F0 m (pc + 3) ls (.long r :: rest))) : W p l e R s m args below meth c H locs cells slots Q (F0 m pc ls st) := by
  refine va_calll (va_runV (As := As) (rest := rest) S hM cw ⟨gx_blind, gx_rc G hk hs hc hC, gx_pre G⟩ rfl hn hsize hst (lv_room hW) hdg hf) G.2.2.2.1 (fun q _ h => gx_free G q h) (gx_free G) (fun r u t H1 locs1 ht hvm hw hB _ _ hS => ?_)
  exact kk r u.1 u.2.1 u.2.2.1 u.2.2.2 H1 locs1 hw (gx_after G ht hvm hB hS)
theorem gx_cVv (S : CallFix p m c cc nL s args Ts own) (G : GG D ad cy A s I J a b H locs) (k : Nat) {ci : Nat} {ks : List gFK} {q : vw_C} {post : gS → Prop} (hM : gMv l y ws rm D ad cy I J a b H.size (.ref (ad k) :: As) post) (cw : CallW R s args own C index y bytes maxL ret ws rm 0 0 n) (hk : k < 92) (hs : gsh k = .inl (ci, ks)) (hc : vwCl[ci]? = some q) (hC : q.1 = C) (hn : As.length = n) (hsize : ls.size = nL) (hst : st = As.reverse ++ .ref (ad k) :: rest) (hW : (rest.map fun v => v.category).sum ≤ 8) (hf : cells ≤ R.cells ∧ slots ≤ R.slots) (hdg : decode cc pc = .ok (.invokevirtual index, 3))
    (kk : ∀ (I1 : gF) (J1 : gL) (a1 : gF) (b1 : gL) (H1 : Heap) (locs1 : List Loc), post (I1, J1, a1, b1) → GG D ad cy A s I1 J1 a1 b1 H1 locs1 → W p l e R s m args below meth c H1 locs1 cells slots Q (F0 m (pc + 3) ls rest)) : W p l e R s m args below meth c H locs cells slots Q (F0 m pc ls st) := by
  refine va_callv (va_runV (As := As) (rest := rest) S hM cw ⟨gx_blind, gx_rc G hk hs hc hC, gx_pre G⟩ rfl hn hsize hst (lv_room hW) hdg hf) G.2.2.2.1 (fun q _ h => gx_free G q h) (gx_free G) (fun u t H1 locs1 ht hvm hw hB _ _ hS => ?_)
  exact kk u.1 u.2.1 u.2.2.1 u.2.2.2 H1 locs1 hw (gx_after G ht hvm hB hS)
/-- a call of a static method -/
theorem gx_cSi (S : CallFix p m c cc nL s args Ts own) (G : GG D ad cy A s I J a b H locs) {post : Int32 → gS → Prop} (hM : gMi l y ws rm D ad cy I J a b H.size As post) (cw : CallB R s args own index y bytes maxL ret ws rm 0 0 n ∧ (Cond.static y).before args s = true) (hn : As.length = n) (hsize : ls.size = nL) (hst : st = As.reverse ++ rest) (hW : (rest.map fun v => v.category).sum ≤ 8) (hf : cells ≤ R.cells ∧ slots ≤ R.slots) (hdg : decode cc pc = .ok (.invokestatic index, 3))
    (kk : ∀ (r : Int32) (I1 : gF) (J1 : gL) (a1 : gF) (b1 : gL) (H1 : Heap) (locs1 : List Loc), post r (I1, J1, a1, b1) → GG D ad cy A s I1 J1 a1 b1 H1 locs1 → W p l e R s m args below meth c H1 locs1 cells slots Q (F0 m (pc + 3) ls (.int r :: rest))) : W p l e R s m args below meth c H locs cells slots Q (F0 m pc ls st) := by
  refine va_calli (va_runS (As := As) (rest := rest) S hM cw ⟨gx_blind, gx_pre G⟩ rfl hn hsize hst (lv_room hW) hdg hf) G.2.2.2.1 (fun q _ h => gx_free G q h) (gx_free G) (fun r u t H1 locs1 ht hvm hw hB _ _ hS => ?_)
  exact kk r u.1 u.2.1 u.2.2.1 u.2.2.2 H1 locs1 hw (gx_after G ht hvm hB hS)
theorem gx_cSl (S : CallFix p m c cc nL s args Ts own) (G : GG D ad cy A s I J a b H locs) {post : Int64 → gS → Prop} (hM : gMl l y ws rm D ad cy I J a b H.size As post) (cw : CallB R s args own index y bytes maxL ret ws rm 0 0 n ∧ (Cond.static y).before args s = true) (hn : As.length = n) (hsize : ls.size = nL) (hst : st = As.reverse ++ rest) (hW : (rest.map fun v => v.category).sum ≤ 8) (hf : cells ≤ R.cells ∧ slots ≤ R.slots) (hdg : decode cc pc = .ok (.invokestatic index, 3))
    (kk : ∀ (r : Int64) (I1 : gF) (J1 : gL) (a1 : gF) (b1 : gL) (H1 : Heap) (locs1 : List Loc), post r (I1, J1, a1, b1) → GG D ad cy A s I1 J1 a1 b1 H1 locs1 → W p l e R s m args below meth c H1 locs1 cells slots Q (F0 m (pc + 3) ls (.long r :: rest))) : W p l e R s m args below meth c H locs cells slots Q (F0 m pc ls st) := by
  refine va_calll (va_runS (As := As) (rest := rest) S hM cw ⟨gx_blind, gx_pre G⟩ rfl hn hsize hst (lv_room hW) hdg hf) G.2.2.2.1 (fun q _ h => gx_free G q h) (gx_free G) (fun r u t H1 locs1 ht hvm hw hB _ _ hS => ?_)
  exact kk r u.1 u.2.1 u.2.2.1 u.2.2.2 H1 locs1 hw (gx_after G ht hvm hB hS)
end GC
section GD
variable {p : Program} {l : Launch} {e : Env} {R : Room} {s : State} {m : MethodId} {args : Array Value} {below : List Frame} {meth : Method} {c : Code} {H : Heap} {locs : List Loc} {cells slots : Nat} {Q : State → Prop}
variable {cc : ByteArray} {pc : Nat} {ls : Array Slot} {rest : List Value} {D : va_G} {ad : Nat → Nat} {cy : Nat → ClassId} {A : Nat → Prop} {I : gF} {J : gL} {a : gF} {b : gL}
theorem gx_q {g : JFrame} (k : ∀ Q2 : State → Prop, Q2 = Q → W p l e R s m args below meth c H locs cells slots Q2 g) : W p l e R s m args below meth c H locs cells slots Q g := k Q rfl
theorem gg_eq {I' : gF} {J' : gL} {a' : gF} {b' : gL} (G : GG D ad cy A s I J a b H locs) (h1 : I = I') (h2 : J = J') (h3 : a = a') (h4 : b = b') : GG D ad cy A s I' J' a' b' H locs := by
  subst h1
  subst h2
  subst h3
  subst h4
  exact G
theorem lc_lt {x y : Int64} : lg_cmp x y < 0 ↔ x < y := by
  unfold lg_cmp
  simp only [Int64.lt_iff_toInt_lt]
  by_cases h1 : y.toInt < x.toInt
  · rw [if_pos h1]
    exact ⟨fun h => absurd h (by decide), fun h => by omega⟩
  · rw [if_neg h1]
    by_cases h2 : x = y
    · subst h2
      rw [if_pos rfl]
      exact ⟨fun h => absurd h (by decide), fun h => by omega⟩
    · rw [if_neg h2]
      have : x.toInt ≠ y.toInt := fun h => h2 (Int64.toInt_inj.mp h)
      exact ⟨fun _ => by omega, fun _ => by decide⟩
theorem lc_eq {x y : Int64} : lg_cmp x y = 0 ↔ x = y := by
  unfold lg_cmp
  by_cases h1 : y < x
  · rw [if_pos h1]
    refine ⟨fun h => absurd h (by decide), fun h => ?_⟩
    subst h
    rw [Int64.lt_iff_toInt_lt] at h1
    omega
  · rw [if_neg h1]
    by_cases h2 : x = y
    · rw [if_pos h2]
      exact ⟨fun _ => h2, fun _ => rfl⟩
    · rw [if_neg h2]
      exact ⟨fun h => absurd h (by decide), fun h => absurd h h2⟩
theorem lc_gt {x y : Int64} : 0 < lg_cmp x y ↔ y < x := by
  unfold lg_cmp
  by_cases h1 : y < x
  · rw [if_pos h1]
    exact ⟨fun _ => h1, fun _ => by decide⟩
  · rw [if_neg h1]
    by_cases h2 : x = y
    · rw [if_pos h2]
      exact ⟨fun h => absurd h (by decide), fun h => absurd h h1⟩
    · rw [if_neg h2]
      exact ⟨fun h => absurd h (by decide), fun h => absurd h h1⟩
theorem i32_nlt {x y : Int32} : ¬ x < y ↔ y ≤ x := by
  rw [Int32.lt_iff_toInt_lt, Int32.le_iff_toInt_le]
  omega
theorem i64_nlt {x y : Int64} : ¬ x < y ↔ y ≤ x := by
  rw [Int64.lt_iff_toInt_lt, Int64.le_iff_toInt_le]
  omega
theorem lc_ge {x y : Int64} : 0 ≤ lg_cmp x y ↔ y ≤ x := by
  rw [← i32_nlt, ← i64_nlt, lc_lt]
theorem lc_le {x y : Int64} : lg_cmp x y ≤ 0 ↔ x ≤ y := by
  rw [← i32_nlt, ← i64_nlt, lc_gt]
/-- two longs compared, and the branch on it: the words of the branch as they are said of the longs -/
theorem gx_lc_lt (hx : p.tables.exec = Jvm.exec) (hb : c.code = cc) {x y : Int64} {off : Int} {tgt : Nat} (h1 : decode cc pc = .ok (.lcmp, 1)) (h2 : decode cc (pc + 1) = .ok (.ifCond .lt off, 3)) (ht : ((pc + 1 : Nat) : Int) + off = (tgt : Int)) (kt : x < y → W p l e R s m args below meth c H locs cells slots Q (F0 m tgt ls rest)) (kf : ¬ x < y → W p l e R s m args below meth c H locs cells slots Q (F0 m (pc + 1 + 3) ls rest)) : W p l e R s m args below meth c H locs cells slots Q (F0 m pc ls (.long y :: .long x :: rest)) :=
  W.lcmp hx hb h1 (lv_if_lt hx hb h2 ht (fun q => kt (lc_lt.mp q)) (fun q => kf (fun r => q (lc_lt.mpr r))))
theorem gx_lc_ge (hx : p.tables.exec = Jvm.exec) (hb : c.code = cc) {x y : Int64} {off : Int} {tgt : Nat} (h1 : decode cc pc = .ok (.lcmp, 1)) (h2 : decode cc (pc + 1) = .ok (.ifCond .ge off, 3)) (ht : ((pc + 1 : Nat) : Int) + off = (tgt : Int)) (kt : y ≤ x → W p l e R s m args below meth c H locs cells slots Q (F0 m tgt ls rest)) (kf : ¬ y ≤ x → W p l e R s m args below meth c H locs cells slots Q (F0 m (pc + 1 + 3) ls rest)) : W p l e R s m args below meth c H locs cells slots Q (F0 m pc ls (.long y :: .long x :: rest)) :=
  W.lcmp hx hb h1 (lv_if_ge hx hb h2 ht (fun q => kt (lc_ge.mp q)) (fun q => kf (fun r => q (lc_ge.mpr r))))
theorem gx_lc_gt (hx : p.tables.exec = Jvm.exec) (hb : c.code = cc) {x y : Int64} {off : Int} {tgt : Nat} (h1 : decode cc pc = .ok (.lcmp, 1)) (h2 : decode cc (pc + 1) = .ok (.ifCond .gt off, 3)) (ht : ((pc + 1 : Nat) : Int) + off = (tgt : Int)) (kt : y < x → W p l e R s m args below meth c H locs cells slots Q (F0 m tgt ls rest)) (kf : ¬ y < x → W p l e R s m args below meth c H locs cells slots Q (F0 m (pc + 1 + 3) ls rest)) : W p l e R s m args below meth c H locs cells slots Q (F0 m pc ls (.long y :: .long x :: rest)) :=
  W.lcmp hx hb h1 (lv_if_gt hx hb h2 ht (fun q => kt (lc_gt.mp q)) (fun q => kf (fun r => q (lc_gt.mpr r))))
theorem gx_lc_le (hx : p.tables.exec = Jvm.exec) (hb : c.code = cc) {x y : Int64} {off : Int} {tgt : Nat} (h1 : decode cc pc = .ok (.lcmp, 1)) (h2 : decode cc (pc + 1) = .ok (.ifCond .le off, 3)) (ht : ((pc + 1 : Nat) : Int) + off = (tgt : Int)) (kt : x ≤ y → W p l e R s m args below meth c H locs cells slots Q (F0 m tgt ls rest)) (kf : ¬ x ≤ y → W p l e R s m args below meth c H locs cells slots Q (F0 m (pc + 1 + 3) ls rest)) : W p l e R s m args below meth c H locs cells slots Q (F0 m pc ls (.long y :: .long x :: rest)) :=
  W.lcmp hx hb h1 (lv_if_le hx hb h2 ht (fun q => kt (lc_le.mp q)) (fun q => kf (fun r => q (lc_le.mpr r))))
theorem gx_lc_eq (hx : p.tables.exec = Jvm.exec) (hb : c.code = cc) {x y : Int64} {off : Int} {tgt : Nat} (h1 : decode cc pc = .ok (.lcmp, 1)) (h2 : decode cc (pc + 1) = .ok (.ifCond .eq off, 3)) (ht : ((pc + 1 : Nat) : Int) + off = (tgt : Int)) (kt : x = y → W p l e R s m args below meth c H locs cells slots Q (F0 m tgt ls rest)) (kf : ¬ x = y → W p l e R s m args below meth c H locs cells slots Q (F0 m (pc + 1 + 3) ls rest)) : W p l e R s m args below meth c H locs cells slots Q (F0 m pc ls (.long y :: .long x :: rest)) :=
  W.lcmp hx hb h1 (lv_if_eq hx hb h2 ht (fun q => kt (lc_eq.mp q)) (fun q => kf (fun r => q (lc_eq.mpr r))))
theorem gx_lc_ne (hx : p.tables.exec = Jvm.exec) (hb : c.code = cc) {x y : Int64} {off : Int} {tgt : Nat} (h1 : decode cc pc = .ok (.lcmp, 1)) (h2 : decode cc (pc + 1) = .ok (.ifCond .ne off, 3)) (ht : ((pc + 1 : Nat) : Int) + off = (tgt : Int)) (kt : ¬ x = y → W p l e R s m args below meth c H locs cells slots Q (F0 m tgt ls rest)) (kf : x = y → W p l e R s m args below meth c H locs cells slots Q (F0 m (pc + 1 + 3) ls rest)) : W p l e R s m args below meth c H locs cells slots Q (F0 m pc ls (.long y :: .long x :: rest)) :=
  W.lcmp hx hb h1 (lv_if_ne hx hb h2 ht (fun q => kt (fun r => q (lc_eq.mpr r))) (fun q => kf (lc_eq.mp q)))
/-- ints that are natural numbers: their order as numbers -/
theorem gn_le {x y : Int32} {X Y : Nat} (hx : x = nI X) (hy : y = nI Y) (h1 : X < 2 ^ 31) (h2 : Y < 2 ^ 31) (h : x ≤ y) : X ≤ Y := by rw [hx, hy] at h; exact (nI_leI h1 h2).mp h
theorem gn_nle {x y : Int32} {X Y : Nat} (hx : x = nI X) (hy : y = nI Y) (h1 : X < 2 ^ 31) (h2 : Y < 2 ^ 31) (h : ¬ x ≤ y) : Y < X := Nat.lt_of_not_le (fun q => h (by rw [hx, hy]; exact (nI_leI h1 h2).mpr q))
theorem gn_lt {x y : Int32} {X Y : Nat} (hx : x = nI X) (hy : y = nI Y) (h1 : X < 2 ^ 31) (h2 : Y < 2 ^ 31) (h : x < y) : X < Y := by rw [hx, hy] at h; exact (nI_ltI h1 h2).mp h
theorem gn_nlt {x y : Int32} {X Y : Nat} (hx : x = nI X) (hy : y = nI Y) (h1 : X < 2 ^ 31) (h2 : Y < 2 ^ 31) (h : ¬ x < y) : Y ≤ X := Nat.le_of_not_lt (fun q => h (by rw [hx, hy]; exact (nI_ltI h1 h2).mpr q))
theorem gn_eq {x y : Int32} {X Y : Nat} (hx : x = nI X) (hy : y = nI Y) (h1 : X < 2 ^ 31) (h2 : Y < 2 ^ 31) (h : x = y) : X = Y := by rw [hx, hy] at h; exact (nI_eq h1 h2).mp h
theorem gn_neq {x y : Int32} {X Y : Nat} (hx : x = nI X) (hy : y = nI Y) (h1 : X < 2 ^ 31) (h2 : Y < 2 ^ 31) (h : ¬ x = y) : X ≠ Y := fun q => h (by rw [hx, hy, q])
theorem gn_add {x y : Int32} {X Y : Nat} (hx : x = nI X) (hy : y = nI Y) : x + y = nI (X + Y) := by rw [hx, hy, nI_add]
theorem gn_mul {x y : Int32} {X Y : Nat} (hx : x = nI X) (hy : y = nI Y) : x * y = nI (X * Y) := by rw [hx, hy, pk_mul]
theorem gn_sub {x y : Int32} {X Y : Nat} (hx : x = nI X) (hy : y = nI Y) (h : Y ≤ X) : x - y = nI (X - Y) := by rw [hx, hy, pk_sub h]
theorem gx_ir (hx : p.tables.exec = Jvm.exec) (hb : c.code = cc) (hr : meth.sig.returnType = some .int) (hlocks : meth.locks = false) (G : GG D ad cy A s I J a b H locs) {post : Int32 → gS → Prop} (hQ : Q = MQ below (va_Qi post (gAt D ad cy A) A) args s cells slots A) {v : Int32} (hp : post v (I, J, a, b)) (hdg : decode cc pc = .ok (.ireturn, 1)) : W p l e R s m args below meth c H locs cells slots Q (F0 m pc ls [.int v]) := by
  rw [hQ]
  exact gx_iret hx hb hr hlocks G hp hdg
theorem gx_zr (hx : p.tables.exec = Jvm.exec) (hb : c.code = cc) (hr : meth.sig.returnType = some .boolean) (hlocks : meth.locks = false) (G : GG D ad cy A s I J a b H locs) {post : Int32 → gS → Prop} (hQ : Q = MQ below (va_Qi post (gAt D ad cy A) A) args s cells slots A) {v : Int32} (hn : narrow .boolean (.int v) = .int v) (hp : post v (I, J, a, b)) (hdg : decode cc pc = .ok (.ireturn, 1)) : W p l e R s m args below meth c H locs cells slots Q (F0 m pc ls [.int v]) := by
  rw [hQ]
  exact gx_zret hx hb hr hlocks G hn hp hdg
theorem gx_lr (hx : p.tables.exec = Jvm.exec) (hb : c.code = cc) (hr : meth.sig.returnType = some .long) (hlocks : meth.locks = false) (G : GG D ad cy A s I J a b H locs) {post : Int64 → gS → Prop} (hQ : Q = MQ below (va_Ql post (gAt D ad cy A) A) args s cells slots A) {v : Int64} (hp : post v (I, J, a, b)) (hdg : decode cc pc = .ok (.lreturn, 1)) : W p l e R s m args below meth c H locs cells slots Q (F0 m pc ls [.long v]) := by
  rw [hQ]
  exact gx_lret hx hb hr hlocks G hp hdg
theorem gx_vr (hx : p.tables.exec = Jvm.exec) (hb : c.code = cc) (hr : meth.sig.returnType = none) (hlocks : meth.locks = false) (G : GG D ad cy A s I J a b H locs) {post : gS → Prop} (hQ : Q = MQ below (va_Qv post (gAt D ad cy A) A) args s cells slots A) (hp : post (I, J, a, b)) (hdg : decode cc pc = .ok (.return_, 1)) : W p l e R s m args below meth c H locs cells slots Q (F0 m pc ls []) := by
  rw [hQ]
  exact gx_vret hx hb hr hlocks G hp hdg
theorem gsh_F (r : Nat) (h : r < 8) : gsh (40 + r) = .inr (0, 5, 0) := match r, h with
  | 0, _ => rfl
  | 1, _ => rfl
  | 2, _ => rfl
  | 3, _ => rfl
  | 4, _ => rfl
  | 5, _ => rfl
  | 6, _ => rfl
  | 7, _ => rfl
  | k + 8, h => absurd h (by omega)
theorem gsh_T (r : Nat) (h : r < 21) : gsh (48 + r) = .inr (2, 5, 0) := match r, h with
  | 0, _ => rfl
  | 1, _ => rfl
  | 2, _ => rfl
  | 3, _ => rfl
  | 4, _ => rfl
  | 5, _ => rfl
  | 6, _ => rfl
  | 7, _ => rfl
  | 8, _ => rfl
  | 9, _ => rfl
  | 10, _ => rfl
  | 11, _ => rfl
  | 12, _ => rfl
  | 13, _ => rfl
  | 14, _ => rfl
  | 15, _ => rfl
  | 16, _ => rfl
  | 17, _ => rfl
  | 18, _ => rfl
  | 19, _ => rfl
  | 20, _ => rfl
  | k + 21, h => absurd h (by omega)
theorem gsh_W (r : Nat) (h : r < 18) : gsh (69 + r) = .inr (0, 9, 0) := match r, h with
  | 0, _ => rfl
  | 1, _ => rfl
  | 2, _ => rfl
  | 3, _ => rfl
  | 4, _ => rfl
  | 5, _ => rfl
  | 6, _ => rfl
  | 7, _ => rfl
  | 8, _ => rfl
  | 9, _ => rfl
  | 10, _ => rfl
  | 11, _ => rfl
  | 12, _ => rfl
  | 13, _ => rfl
  | 14, _ => rfl
  | 15, _ => rfl
  | 16, _ => rfl
  | 17, _ => rfl
  | k + 18, h => absurd h (by omega)
variable {y : MethodName} {ws : List Cond} {rm : Room} {Ts : List Cond} {own C : String} {index maxL nL n : Nat} {bytes : ByteArray} {ret : Option FieldType} {As st : List Value} {I1 : gF} {J1 : gL} {a1 : gF} {b1 : gL}
/-- calls whose contract tells answer and state outright -/
theorem gx_dVi (S : CallFix p m c cc nL s args Ts own) (G : GG D ad cy A s I J a b H locs) (k : Nat) {ci : Nat} {ks : List gFK} {q : vw_C} {v : Int32} (hM : gMi l y ws rm D ad cy I J a b H.size (.ref (ad k) :: As) (fun r u => r = v ∧ u = (I1, J1, a1, b1))) (cw : CallW R s args own C index y bytes maxL ret ws rm 0 0 n) (hk : k < 92) (hs : gsh k = .inl (ci, ks)) (hc : vwCl[ci]? = some q) (hC : q.1 = C) (hn : As.length = n) (hsize : ls.size = nL) (hst : st = As.reverse ++ .ref (ad k) :: rest) (hW : (rest.map fun v => v.category).sum ≤ 8) (hf : cells ≤ R.cells ∧ slots ≤ R.slots) (hdg : decode cc pc = .ok (.invokevirtual index, 3))
    (kk : ∀ (H1 : Heap) (locs1 : List Loc), GG D ad cy A s I1 J1 a1 b1 H1 locs1 → W p l e R s m args below meth c H1 locs1 cells slots Q (F0 m (pc + 3) ls (.int v :: rest))) : W p l e R s m args below meth c H locs cells slots Q (F0 m pc ls st) :=
  gx_cVi S G k hM cw hk hs hc hC hn hsize hst hW hf hdg (fun r I2 J2 a2 b2 H1 locs1 hp G1 => by obtain ⟨rfl, hu⟩ := hp; cases hu; exact kk H1 locs1 G1)
theorem gx_dVl (S : CallFix p m c cc nL s args Ts own) (G : GG D ad cy A s I J a b H locs) (k : Nat) {ci : Nat} {ks : List gFK} {q : vw_C} {v : Int64} (hM : gMl l y ws rm D ad cy I J a b H.size (.ref (ad k) :: As) (fun r u => r = v ∧ u = (I1, J1, a1, b1))) (cw : CallW R s args own C index y bytes maxL ret ws rm 0 0 n) (hk : k < 92) (hs : gsh k = .inl (ci, ks)) (hc : vwCl[ci]? = some q) (hC : q.1 = C) (hn : As.length = n) (hsize : ls.size = nL) (hst : st = As.reverse ++ .ref (ad k) :: rest) (hW : (rest.map fun v => v.category).sum ≤ 8) (hf : cells ≤ R.cells ∧ slots ≤ R.slots) (hdg : decode cc pc = .ok (.invokevirtual index, 3))
    (kk : ∀ (H1 : Heap) (locs1 : List Loc), GG D ad cy A s I1 J1 a1 b1 H1 locs1 → W p l e R s m args below meth c H1 locs1 cells slots Q (F0 m (pc + 3) ls (.long v :: rest))) : W p l e R s m args below meth c H locs cells slots Q (F0 m pc ls st) :=
  gx_cVl S G k hM cw hk hs hc hC hn hsize hst hW hf hdg (fun r I2 J2 a2 b2 H1 locs1 hp G1 => by obtain ⟨rfl, hu⟩ := hp; cases hu; exact kk H1 locs1 G1)
theorem gx_dVv (S : CallFix p m c cc nL s args Ts own) (G : GG D ad cy A s I J a b H locs) (k : Nat) {ci : Nat} {ks : List gFK} {q : vw_C} (hM : gMv l y ws rm D ad cy I J a b H.size (.ref (ad k) :: As) (fun u => u = (I1, J1, a1, b1))) (cw : CallW R s args own C index y bytes maxL ret ws rm 0 0 n) (hk : k < 92) (hs : gsh k = .inl (ci, ks)) (hc : vwCl[ci]? = some q) (hC : q.1 = C) (hn : As.length = n) (hsize : ls.size = nL) (hst : st = As.reverse ++ .ref (ad k) :: rest) (hW : (rest.map fun v => v.category).sum ≤ 8) (hf : cells ≤ R.cells ∧ slots ≤ R.slots) (hdg : decode cc pc = .ok (.invokevirtual index, 3))
    (kk : ∀ (H1 : Heap) (locs1 : List Loc), GG D ad cy A s I1 J1 a1 b1 H1 locs1 → W p l e R s m args below meth c H1 locs1 cells slots Q (F0 m (pc + 3) ls rest)) : W p l e R s m args below meth c H locs cells slots Q (F0 m pc ls st) :=
  gx_cVv S G k hM cw hk hs hc hC hn hsize hst hW hf hdg (fun I2 J2 a2 b2 H1 locs1 hp G1 => by cases hp; exact kk H1 locs1 G1)
theorem gx_dSi (S : CallFix p m c cc nL s args Ts own) (G : GG D ad cy A s I J a b H locs) {v : Int32} (hM : gMi l y ws rm D ad cy I J a b H.size As (fun r u => r = v ∧ u = (I1, J1, a1, b1))) (cw : CallB R s args own index y bytes maxL ret ws rm 0 0 n ∧ (Cond.static y).before args s = true) (hn : As.length = n) (hsize : ls.size = nL) (hst : st = As.reverse ++ rest) (hW : (rest.map fun v => v.category).sum ≤ 8) (hf : cells ≤ R.cells ∧ slots ≤ R.slots) (hdg : decode cc pc = .ok (.invokestatic index, 3))
    (kk : ∀ (H1 : Heap) (locs1 : List Loc), GG D ad cy A s I1 J1 a1 b1 H1 locs1 → W p l e R s m args below meth c H1 locs1 cells slots Q (F0 m (pc + 3) ls (.int v :: rest))) : W p l e R s m args below meth c H locs cells slots Q (F0 m pc ls st) :=
  gx_cSi S G hM cw hn hsize hst hW hf hdg (fun r I2 J2 a2 b2 H1 locs1 hp G1 => by obtain ⟨rfl, hu⟩ := hp; cases hu; exact kk H1 locs1 G1)
theorem gx_dSl (S : CallFix p m c cc nL s args Ts own) (G : GG D ad cy A s I J a b H locs) {v : Int64} (hM : gMl l y ws rm D ad cy I J a b H.size As (fun r u => r = v ∧ u = (I1, J1, a1, b1))) (cw : CallB R s args own index y bytes maxL ret ws rm 0 0 n ∧ (Cond.static y).before args s = true) (hn : As.length = n) (hsize : ls.size = nL) (hst : st = As.reverse ++ rest) (hW : (rest.map fun v => v.category).sum ≤ 8) (hf : cells ≤ R.cells ∧ slots ≤ R.slots) (hdg : decode cc pc = .ok (.invokestatic index, 3))
    (kk : ∀ (H1 : Heap) (locs1 : List Loc), GG D ad cy A s I1 J1 a1 b1 H1 locs1 → W p l e R s m args below meth c H1 locs1 cells slots Q (F0 m (pc + 3) ls (.long v :: rest))) : W p l e R s m args below meth c H locs cells slots Q (F0 m pc ls st) :=
  gx_cSl S G hM cw hn hsize hst hW hf hdg (fun r I2 J2 a2 b2 H1 locs1 hp G1 => by obtain ⟨rfl, hu⟩ := hp; cases hu; exact kk H1 locs1 G1)
end GD
end
section
theorem dX0_init_0 : decode cX0_init 0 = .ok (.aload_n 0, 1) := by decide +kernel
theorem dX0_init_1 : decode cX0_init 1 = .ok (.invokespecial 3, 3) := by decide +kernel
theorem dX0_init_4 : decode cX0_init 4 = .ok (.aload_n 0, 1) := by decide +kernel
theorem dX0_init_5 : decode cX0_init 5 = .ok (.bipush 21, 2) := by decide +kernel
theorem dX0_init_7 : decode cX0_init 7 = .ok (.iconst 5, 1) := by decide +kernel
theorem dX0_init_8 : decode cX0_init 8 = .ok (.multianewarray 11 2, 4) := by decide +kernel
theorem dX0_init_12 : decode cX0_init 12 = .ok (.putfield 13, 3) := by decide +kernel
theorem dX0_init_15 : decode cX0_init 15 = .ok (.aload_n 0, 1) := by decide +kernel
theorem dX0_init_16 : decode cX0_init 16 = .ok (.bipush 21, 2) := by decide +kernel
theorem dX0_init_18 : decode cX0_init 18 = .ok (.newarray .long, 2) := by decide +kernel
theorem dX0_init_20 : decode cX0_init 20 = .ok (.putfield 16, 3) := by decide +kernel
theorem dX0_init_23 : decode cX0_init 23 = .ok (.aload_n 0, 1) := by decide +kernel
theorem dX0_init_24 : decode cX0_init 24 = .ok (.bipush 21, 2) := by decide +kernel
theorem dX0_init_26 : decode cX0_init 26 = .ok (.newarray .int, 2) := by decide +kernel
theorem dX0_init_28 : decode cX0_init 28 = .ok (.putfield 20, 3) := by decide +kernel
theorem dX0_init_31 : decode cX0_init 31 = .ok (.aload_n 0, 1) := by decide +kernel
theorem dX0_init_32 : decode cX0_init 32 = .ok (.iconst 5, 1) := by decide +kernel
theorem dX0_init_33 : decode cX0_init 33 = .ok (.newarray .int, 2) := by decide +kernel
theorem dX0_init_35 : decode cX0_init 35 = .ok (.putfield 24, 3) := by decide +kernel
theorem dX0_init_38 : decode cX0_init 38 = .ok (.aload_n 0, 1) := by decide +kernel
theorem dX0_init_39 : decode cX0_init 39 = .ok (.iconst 5, 1) := by decide +kernel
theorem dX0_init_40 : decode cX0_init 40 = .ok (.newarray .boolean, 2) := by decide +kernel
theorem dX0_init_42 : decode cX0_init 42 = .ok (.putfield 27, 3) := by decide +kernel
theorem dX0_init_45 : decode cX0_init 45 = .ok (.aload_n 0, 1) := by decide +kernel
theorem dX0_init_46 : decode cX0_init 46 = .ok (.iconst 5, 1) := by decide +kernel
theorem dX0_init_47 : decode cX0_init 47 = .ok (.newarray .long, 2) := by decide +kernel
theorem dX0_init_49 : decode cX0_init 49 = .ok (.putfield 31, 3) := by decide +kernel
theorem dX0_init_52 : decode cX0_init 52 = .ok (.aload_n 0, 1) := by decide +kernel
theorem dX0_init_53 : decode cX0_init 53 = .ok (.lconst 1, 1) := by decide +kernel
theorem dX0_init_54 : decode cX0_init 54 = .ok (.putfield 34, 3) := by decide +kernel
theorem dX0_init_57 : decode cX0_init 57 = .ok (.return_, 1) := by decide +kernel
set_option maxRecDepth 20000 in
theorem ggX0_begin_X0_thawAll : GoodIn wsX0_begin wsX0_thawAll := goodIn_r _ [13, 5, 14, 15, 16, 17, 18, 19, 20, 21, 22, 23] (by decide +kernel) (by decide +kernel)
set_option maxRecDepth 20000 in
theorem gX0_begin_X0_thawAll : GoodIn wsX0_begin (wsV RX0 51 RX0 yX0_thawAll wsX0_thawAll) := goodIn_app (goodIn_of _ (by decide +kernel)) ggX0_begin_X0_thawAll
theorem dX0_begin_0 : decode cX0_begin 0 = .ok (.aload_n 0, 1) := by decide +kernel
theorem dX0_begin_1 : decode cX0_begin 1 = .ok (.iload_n 1, 1) := by decide +kernel
theorem dX0_begin_2 : decode cX0_begin 2 = .ok (.iconst 5, 1) := by decide +kernel
theorem dX0_begin_3 : decode cX0_begin 3 = .ok (.invokestatic 38, 3) := by decide +kernel
theorem dX0_begin_6 : decode cX0_begin 6 = .ok (.putfield 44, 3) := by decide +kernel
theorem dX0_begin_9 : decode cX0_begin 9 = .ok (.aload_n 0, 1) := by decide +kernel
theorem dX0_begin_10 : decode cX0_begin 10 = .ok (.iconst 0, 1) := by decide +kernel
theorem dX0_begin_11 : decode cX0_begin 11 = .ok (.putfield 48, 3) := by decide +kernel
theorem dX0_begin_14 : decode cX0_begin 14 = .ok (.aload_n 0, 1) := by decide +kernel
theorem dX0_begin_15 : decode cX0_begin 15 = .ok (.lconst 1, 1) := by decide +kernel
theorem dX0_begin_16 : decode cX0_begin 16 = .ok (.putfield 34, 3) := by decide +kernel
theorem dX0_begin_19 : decode cX0_begin 19 = .ok (.iconst 0, 1) := by decide +kernel
theorem dX0_begin_20 : decode cX0_begin 20 = .ok (.istore_n 2, 1) := by decide +kernel
theorem dX0_begin_21 : decode cX0_begin 21 = .ok (.iload_n 2, 1) := by decide +kernel
theorem dX0_begin_22 : decode cX0_begin 22 = .ok (.aload_n 0, 1) := by decide +kernel
theorem dX0_begin_23 : decode cX0_begin 23 = .ok (.getfield 44, 3) := by decide +kernel
theorem dX0_begin_26 : decode cX0_begin 26 = .ok (.if_icmp .ge 16, 3) := by decide +kernel
theorem dX0_begin_29 : decode cX0_begin 29 = .ok (.aload_n 0, 1) := by decide +kernel
theorem dX0_begin_30 : decode cX0_begin 30 = .ok (.getfield 24, 3) := by decide +kernel
theorem dX0_begin_33 : decode cX0_begin 33 = .ok (.iload_n 2, 1) := by decide +kernel
theorem dX0_begin_34 : decode cX0_begin 34 = .ok (.iload_n 2, 1) := by decide +kernel
theorem dX0_begin_35 : decode cX0_begin 35 = .ok (.iastore, 1) := by decide +kernel
theorem dX0_begin_36 : decode cX0_begin 36 = .ok (.iinc 2 1, 3) := by decide +kernel
theorem dX0_begin_39 : decode cX0_begin 39 = .ok (.goto (-18), 3) := by decide +kernel
theorem dX0_begin_42 : decode cX0_begin 42 = .ok (.aload_n 0, 1) := by decide +kernel
theorem dX0_begin_43 : decode cX0_begin 43 = .ok (.invokevirtual 51, 3) := by decide +kernel
theorem dX0_begin_46 : decode cX0_begin 46 = .ok (.return_, 1) := by decide +kernel
theorem dX0_addAtMost_0 : decode cX0_addAtMost 0 = .ok (.aload_n 0, 1) := by decide +kernel
theorem dX0_addAtMost_1 : decode cX0_addAtMost 1 = .ok (.getfield 48, 3) := by decide +kernel
theorem dX0_addAtMost_4 : decode cX0_addAtMost 4 = .ok (.bipush 21, 2) := by decide +kernel
theorem dX0_addAtMost_6 : decode cX0_addAtMost 6 = .ok (.if_icmp .ge 12, 3) := by decide +kernel
theorem dX0_addAtMost_9 : decode cX0_addAtMost 9 = .ok (.aload_n 1, 1) := by decide +kernel
theorem dX0_addAtMost_10 : decode cX0_addAtMost 10 = .ok (.arraylength, 1) := by decide +kernel
theorem dX0_addAtMost_11 : decode cX0_addAtMost 11 = .ok (.aload_n 0, 1) := by decide +kernel
theorem dX0_addAtMost_12 : decode cX0_addAtMost 12 = .ok (.getfield 44, 3) := by decide +kernel
theorem dX0_addAtMost_15 : decode cX0_addAtMost 15 = .ok (.if_icmp .ge 4, 3) := by decide +kernel
theorem dX0_addAtMost_18 : decode cX0_addAtMost 18 = .ok (.return_, 1) := by decide +kernel
theorem dX0_addAtMost_19 : decode cX0_addAtMost 19 = .ok (.iconst 0, 1) := by decide +kernel
theorem dX0_addAtMost_20 : decode cX0_addAtMost 20 = .ok (.istore 4, 2) := by decide +kernel
theorem dX0_addAtMost_22 : decode cX0_addAtMost 22 = .ok (.iload 4, 2) := by decide +kernel
theorem dX0_addAtMost_24 : decode cX0_addAtMost 24 = .ok (.aload_n 0, 1) := by decide +kernel
theorem dX0_addAtMost_25 : decode cX0_addAtMost 25 = .ok (.getfield 44, 3) := by decide +kernel
theorem dX0_addAtMost_28 : decode cX0_addAtMost 28 = .ok (.if_icmp .ge 28, 3) := by decide +kernel
theorem dX0_addAtMost_31 : decode cX0_addAtMost 31 = .ok (.aload_n 0, 1) := by decide +kernel
theorem dX0_addAtMost_32 : decode cX0_addAtMost 32 = .ok (.getfield 13, 3) := by decide +kernel
theorem dX0_addAtMost_35 : decode cX0_addAtMost 35 = .ok (.aload_n 0, 1) := by decide +kernel
theorem dX0_addAtMost_36 : decode cX0_addAtMost 36 = .ok (.getfield 48, 3) := by decide +kernel
theorem dX0_addAtMost_39 : decode cX0_addAtMost 39 = .ok (.aaload, 1) := by decide +kernel
theorem dX0_addAtMost_40 : decode cX0_addAtMost 40 = .ok (.iload 4, 2) := by decide +kernel
theorem dX0_addAtMost_42 : decode cX0_addAtMost 42 = .ok (.iload_n 2, 1) := by decide +kernel
theorem dX0_addAtMost_43 : decode cX0_addAtMost 43 = .ok (.aload_n 1, 1) := by decide +kernel
theorem dX0_addAtMost_44 : decode cX0_addAtMost 44 = .ok (.iload 4, 2) := by decide +kernel
theorem dX0_addAtMost_46 : decode cX0_addAtMost 46 = .ok (.iaload, 1) := by decide +kernel
theorem dX0_addAtMost_47 : decode cX0_addAtMost 47 = .ok (.imul, 1) := by decide +kernel
theorem dX0_addAtMost_48 : decode cX0_addAtMost 48 = .ok (.i2l, 1) := by decide +kernel
theorem dX0_addAtMost_49 : decode cX0_addAtMost 49 = .ok (.lastore, 1) := by decide +kernel
theorem dX0_addAtMost_50 : decode cX0_addAtMost 50 = .ok (.iinc 4 1, 3) := by decide +kernel
theorem dX0_addAtMost_53 : decode cX0_addAtMost 53 = .ok (.goto (-31), 3) := by decide +kernel
theorem dX0_addAtMost_56 : decode cX0_addAtMost 56 = .ok (.aload_n 0, 1) := by decide +kernel
theorem dX0_addAtMost_57 : decode cX0_addAtMost 57 = .ok (.getfield 16, 3) := by decide +kernel
theorem dX0_addAtMost_60 : decode cX0_addAtMost 60 = .ok (.aload_n 0, 1) := by decide +kernel
theorem dX0_addAtMost_61 : decode cX0_addAtMost 61 = .ok (.getfield 48, 3) := by decide +kernel
theorem dX0_addAtMost_64 : decode cX0_addAtMost 64 = .ok (.iload_n 3, 1) := by decide +kernel
theorem dX0_addAtMost_65 : decode cX0_addAtMost 65 = .ok (.i2l, 1) := by decide +kernel
theorem dX0_addAtMost_66 : decode cX0_addAtMost 66 = .ok (.lastore, 1) := by decide +kernel
theorem dX0_addAtMost_67 : decode cX0_addAtMost 67 = .ok (.aload_n 0, 1) := by decide +kernel
theorem dX0_addAtMost_68 : decode cX0_addAtMost 68 = .ok (.getfield 20, 3) := by decide +kernel
theorem dX0_addAtMost_71 : decode cX0_addAtMost 71 = .ok (.aload_n 0, 1) := by decide +kernel
theorem dX0_addAtMost_72 : decode cX0_addAtMost 72 = .ok (.getfield 48, 3) := by decide +kernel
theorem dX0_addAtMost_75 : decode cX0_addAtMost 75 = .ok (.aload_n 0, 1) := by decide +kernel
theorem dX0_addAtMost_76 : decode cX0_addAtMost 76 = .ok (.getfield 44, 3) := by decide +kernel
theorem dX0_addAtMost_79 : decode cX0_addAtMost 79 = .ok (.aload_n 0, 1) := by decide +kernel
theorem dX0_addAtMost_80 : decode cX0_addAtMost 80 = .ok (.getfield 48, 3) := by decide +kernel
theorem dX0_addAtMost_83 : decode cX0_addAtMost 83 = .ok (.iadd, 1) := by decide +kernel
theorem dX0_addAtMost_84 : decode cX0_addAtMost 84 = .ok (.iastore, 1) := by decide +kernel
theorem dX0_addAtMost_85 : decode cX0_addAtMost 85 = .ok (.aload_n 0, 1) := by decide +kernel
theorem dX0_addAtMost_86 : decode cX0_addAtMost 86 = .ok (.dup, 1) := by decide +kernel
theorem dX0_addAtMost_87 : decode cX0_addAtMost 87 = .ok (.getfield 48, 3) := by decide +kernel
theorem dX0_addAtMost_90 : decode cX0_addAtMost 90 = .ok (.iconst 1, 1) := by decide +kernel
theorem dX0_addAtMost_91 : decode cX0_addAtMost 91 = .ok (.iadd, 1) := by decide +kernel
theorem dX0_addAtMost_92 : decode cX0_addAtMost 92 = .ok (.putfield 48, 3) := by decide +kernel
theorem dX0_addAtMost_95 : decode cX0_addAtMost 95 = .ok (.return_, 1) := by decide +kernel
theorem dX0_denominator_0 : decode cX0_denominator 0 = .ok (.aload_n 0, 1) := by decide +kernel
theorem dX0_denominator_1 : decode cX0_denominator 1 = .ok (.getfield 34, 3) := by decide +kernel
theorem dX0_denominator_4 : decode cX0_denominator 4 = .ok (.lreturn, 1) := by decide +kernel
theorem dX0_numerator_0 : decode cX0_numerator 0 = .ok (.iconst 0, 1) := by decide +kernel
theorem dX0_numerator_1 : decode cX0_numerator 1 = .ok (.istore_n 2, 1) := by decide +kernel
theorem dX0_numerator_2 : decode cX0_numerator 2 = .ok (.iload_n 2, 1) := by decide +kernel
theorem dX0_numerator_3 : decode cX0_numerator 3 = .ok (.aload_n 0, 1) := by decide +kernel
theorem dX0_numerator_4 : decode cX0_numerator 4 = .ok (.getfield 48, 3) := by decide +kernel
theorem dX0_numerator_7 : decode cX0_numerator 7 = .ok (.if_icmp .ge 26, 3) := by decide +kernel
theorem dX0_numerator_10 : decode cX0_numerator 10 = .ok (.aload_n 0, 1) := by decide +kernel
theorem dX0_numerator_11 : decode cX0_numerator 11 = .ok (.getfield 20, 3) := by decide +kernel
theorem dX0_numerator_14 : decode cX0_numerator 14 = .ok (.iload_n 2, 1) := by decide +kernel
theorem dX0_numerator_15 : decode cX0_numerator 15 = .ok (.iaload, 1) := by decide +kernel
theorem dX0_numerator_16 : decode cX0_numerator 16 = .ok (.iload_n 1, 1) := by decide +kernel
theorem dX0_numerator_17 : decode cX0_numerator 17 = .ok (.if_icmp .ne 10, 3) := by decide +kernel
theorem dX0_numerator_20 : decode cX0_numerator 20 = .ok (.aload_n 0, 1) := by decide +kernel
theorem dX0_numerator_21 : decode cX0_numerator 21 = .ok (.getfield 16, 3) := by decide +kernel
theorem dX0_numerator_24 : decode cX0_numerator 24 = .ok (.iload_n 2, 1) := by decide +kernel
theorem dX0_numerator_25 : decode cX0_numerator 25 = .ok (.laload, 1) := by decide +kernel
theorem dX0_numerator_26 : decode cX0_numerator 26 = .ok (.lreturn, 1) := by decide +kernel
theorem dX0_numerator_27 : decode cX0_numerator 27 = .ok (.iinc 2 1, 3) := by decide +kernel
theorem dX0_numerator_30 : decode cX0_numerator 30 = .ok (.goto (-28), 3) := by decide +kernel
theorem dX0_numerator_33 : decode cX0_numerator 33 = .ok (.lconst 0, 1) := by decide +kernel
theorem dX0_numerator_34 : decode cX0_numerator 34 = .ok (.lreturn, 1) := by decide +kernel
set_option maxRecDepth 20000 in
theorem ggX0_findPoint_X0_brokenLine : GoodIn wsX0_findPoint wsX0_brokenLine := goodIn_r _ [6, 7, 8, 9, 34, 35, 36, 37, 38, 39, 40, 41, 42] (by decide +kernel) (by decide +kernel)
set_option maxRecDepth 20000 in
theorem gX0_findPoint_X0_brokenLine : GoodIn wsX0_findPoint (wsV RX0 55 RX0 yX0_brokenLine wsX0_brokenLine) := goodIn_app (goodIn_of _ (by decide +kernel)) ggX0_findPoint_X0_brokenLine
set_option maxRecDepth 20000 in
theorem ggX0_findPoint_X0_mendingColumn : GoodIn wsX0_findPoint wsX0_mendingColumn := goodIn_r _ [13, 14, 15, 16, 34, 35, 36, 37, 38, 39, 40, 41, 42] (by decide +kernel) (by decide +kernel)
set_option maxRecDepth 20000 in
theorem gX0_findPoint_X0_mendingColumn : GoodIn wsX0_findPoint (wsV RX0 59 RX0 yX0_mendingColumn wsX0_mendingColumn) := goodIn_app (goodIn_of _ (by decide +kernel)) ggX0_findPoint_X0_mendingColumn
set_option maxRecDepth 20000 in
theorem ggX0_findPoint_X0_pivot : GoodIn wsX0_findPoint wsX0_pivot := goodIn_r _ [20, 15, 21, 7, 22, 23, 24, 25, 9, 16, 26, 27, 28, 5, 29, 14, 8, 30, 31, 32, 33, 34, 35, 36, 37, 38, 39, 40, 41, 42] (by decide +kernel) (by decide +kernel)
set_option maxRecDepth 20000 in
theorem gX0_findPoint_X0_pivot : GoodIn wsX0_findPoint (wsV RX0 63 RX0 yX0_pivot wsX0_pivot) := goodIn_app (goodIn_of _ (by decide +kernel)) ggX0_findPoint_X0_pivot
theorem dX0_findPoint_0 : decode cX0_findPoint 0 = .ok (.iconst 0, 1) := by decide +kernel
theorem dX0_findPoint_1 : decode cX0_findPoint 1 = .ok (.istore_n 1, 1) := by decide +kernel
theorem dX0_findPoint_2 : decode cX0_findPoint 2 = .ok (.iload_n 1, 1) := by decide +kernel
theorem dX0_findPoint_3 : decode cX0_findPoint 3 = .ok (.ldc 54, 2) := by decide +kernel
theorem dX0_findPoint_5 : decode cX0_findPoint 5 = .ok (.if_icmp .ge 38, 3) := by decide +kernel
theorem dX0_findPoint_8 : decode cX0_findPoint 8 = .ok (.aload_n 0, 1) := by decide +kernel
theorem dX0_findPoint_9 : decode cX0_findPoint 9 = .ok (.invokevirtual 55, 3) := by decide +kernel
theorem dX0_findPoint_12 : decode cX0_findPoint 12 = .ok (.istore_n 2, 1) := by decide +kernel
theorem dX0_findPoint_13 : decode cX0_findPoint 13 = .ok (.iload_n 2, 1) := by decide +kernel
theorem dX0_findPoint_14 : decode cX0_findPoint 14 = .ok (.ifCond .ge 5, 3) := by decide +kernel
theorem dX0_findPoint_17 : decode cX0_findPoint 17 = .ok (.iconst 1, 1) := by decide +kernel
theorem dX0_findPoint_18 : decode cX0_findPoint 18 = .ok (.ireturn, 1) := by decide +kernel
theorem dX0_findPoint_19 : decode cX0_findPoint 19 = .ok (.aload_n 0, 1) := by decide +kernel
theorem dX0_findPoint_20 : decode cX0_findPoint 20 = .ok (.iload_n 2, 1) := by decide +kernel
theorem dX0_findPoint_21 : decode cX0_findPoint 21 = .ok (.invokevirtual 59, 3) := by decide +kernel
theorem dX0_findPoint_24 : decode cX0_findPoint 24 = .ok (.istore_n 3, 1) := by decide +kernel
theorem dX0_findPoint_25 : decode cX0_findPoint 25 = .ok (.iload_n 3, 1) := by decide +kernel
theorem dX0_findPoint_26 : decode cX0_findPoint 26 = .ok (.ifCond .ge 5, 3) := by decide +kernel
theorem dX0_findPoint_29 : decode cX0_findPoint 29 = .ok (.iconst 0, 1) := by decide +kernel
theorem dX0_findPoint_30 : decode cX0_findPoint 30 = .ok (.ireturn, 1) := by decide +kernel
theorem dX0_findPoint_31 : decode cX0_findPoint 31 = .ok (.aload_n 0, 1) := by decide +kernel
theorem dX0_findPoint_32 : decode cX0_findPoint 32 = .ok (.iload_n 2, 1) := by decide +kernel
theorem dX0_findPoint_33 : decode cX0_findPoint 33 = .ok (.iload_n 3, 1) := by decide +kernel
theorem dX0_findPoint_34 : decode cX0_findPoint 34 = .ok (.invokevirtual 63, 3) := by decide +kernel
theorem dX0_findPoint_37 : decode cX0_findPoint 37 = .ok (.iinc 1 1, 3) := by decide +kernel
theorem dX0_findPoint_40 : decode cX0_findPoint 40 = .ok (.goto (-38), 3) := by decide +kernel
theorem dX0_findPoint_43 : decode cX0_findPoint 43 = .ok (.iconst 0, 1) := by decide +kernel
theorem dX0_findPoint_44 : decode cX0_findPoint 44 = .ok (.ireturn, 1) := by decide +kernel
set_option maxRecDepth 20000 in
theorem ggX0_minimise_X0_findSlopes : GoodIn wsX0_minimise wsX0_findSlopes := goodIn_r _ [7, 1, 8, 9, 10, 11, 12, 13, 44, 45, 46, 47, 48, 49, 50, 51, 52] (by decide +kernel) (by decide +kernel)
set_option maxRecDepth 20000 in
theorem gX0_minimise_X0_findSlopes : GoodIn wsX0_minimise (wsV RX0 67 RX0 yX0_findSlopes wsX0_findSlopes) := goodIn_app (goodIn_of _ (by decide +kernel)) ggX0_minimise_X0_findSlopes
set_option maxRecDepth 20000 in
theorem ggX0_minimise_X0_fallingColumn : GoodIn wsX0_minimise wsX0_fallingColumn := goodIn_r _ [17, 1, 18, 8, 9, 44, 45, 46, 47, 48, 49, 50, 51, 52] (by decide +kernel) (by decide +kernel)
set_option maxRecDepth 20000 in
theorem gX0_minimise_X0_fallingColumn : GoodIn wsX0_minimise (wsV RX0 71 RX0 yX0_fallingColumn wsX0_fallingColumn) := goodIn_app (goodIn_of _ (by decide +kernel)) ggX0_minimise_X0_fallingColumn
set_option maxRecDepth 20000 in
theorem ggX0_minimise_X0_firstStop : GoodIn wsX0_minimise wsX0_firstStop := goodIn_r _ [22, 11, 13, 23, 24, 25, 6, 26, 27, 12, 44, 45, 46, 47, 48, 49, 50, 51, 52] (by decide +kernel) (by decide +kernel)
set_option maxRecDepth 20000 in
theorem gX0_minimise_X0_firstStop : GoodIn wsX0_minimise (wsV RX0 74 RX0 yX0_firstStop wsX0_firstStop) := goodIn_app (goodIn_of _ (by decide +kernel)) ggX0_minimise_X0_firstStop
set_option maxRecDepth 20000 in
theorem ggX0_minimise_X0_pivot : GoodIn wsX0_minimise wsX0_pivot := goodIn_r _ [31, 13, 10, 11, 32, 33, 34, 35, 12, 9, 36, 37, 38, 6, 39, 1, 27, 40, 41, 42, 43, 44, 45, 46, 47, 48, 49, 50, 51, 52] (by decide +kernel) (by decide +kernel)
set_option maxRecDepth 20000 in
theorem gX0_minimise_X0_pivot : GoodIn wsX0_minimise (wsV RX0 63 RX0 yX0_pivot wsX0_pivot) := goodIn_app (goodIn_of _ (by decide +kernel)) ggX0_minimise_X0_pivot
theorem dX0_minimise_0 : decode cX0_minimise 0 = .ok (.aload_n 1, 1) := by decide +kernel
theorem dX0_minimise_1 : decode cX0_minimise 1 = .ok (.arraylength, 1) := by decide +kernel
theorem dX0_minimise_2 : decode cX0_minimise 2 = .ok (.aload_n 0, 1) := by decide +kernel
theorem dX0_minimise_3 : decode cX0_minimise 3 = .ok (.getfield 44, 3) := by decide +kernel
theorem dX0_minimise_6 : decode cX0_minimise 6 = .ok (.if_icmp .ge 4, 3) := by decide +kernel
theorem dX0_minimise_9 : decode cX0_minimise 9 = .ok (.return_, 1) := by decide +kernel
theorem dX0_minimise_10 : decode cX0_minimise 10 = .ok (.iconst 0, 1) := by decide +kernel
theorem dX0_minimise_11 : decode cX0_minimise 11 = .ok (.istore_n 2, 1) := by decide +kernel
theorem dX0_minimise_12 : decode cX0_minimise 12 = .ok (.iload_n 2, 1) := by decide +kernel
theorem dX0_minimise_13 : decode cX0_minimise 13 = .ok (.ldc 54, 2) := by decide +kernel
theorem dX0_minimise_15 : decode cX0_minimise 15 = .ok (.if_icmp .ge 47, 3) := by decide +kernel
theorem dX0_minimise_18 : decode cX0_minimise 18 = .ok (.aload_n 0, 1) := by decide +kernel
theorem dX0_minimise_19 : decode cX0_minimise 19 = .ok (.aload_n 1, 1) := by decide +kernel
theorem dX0_minimise_20 : decode cX0_minimise 20 = .ok (.invokevirtual 67, 3) := by decide +kernel
theorem dX0_minimise_23 : decode cX0_minimise 23 = .ok (.aload_n 0, 1) := by decide +kernel
theorem dX0_minimise_24 : decode cX0_minimise 24 = .ok (.invokevirtual 71, 3) := by decide +kernel
theorem dX0_minimise_27 : decode cX0_minimise 27 = .ok (.istore_n 3, 1) := by decide +kernel
theorem dX0_minimise_28 : decode cX0_minimise 28 = .ok (.iload_n 3, 1) := by decide +kernel
theorem dX0_minimise_29 : decode cX0_minimise 29 = .ok (.ifCond .ge 7, 3) := by decide +kernel
theorem dX0_minimise_32 : decode cX0_minimise 32 = .ok (.iconst (-1), 1) := by decide +kernel
theorem dX0_minimise_33 : decode cX0_minimise 33 = .ok (.goto 8, 3) := by decide +kernel
theorem dX0_minimise_36 : decode cX0_minimise 36 = .ok (.aload_n 0, 1) := by decide +kernel
theorem dX0_minimise_37 : decode cX0_minimise 37 = .ok (.iload_n 3, 1) := by decide +kernel
theorem dX0_minimise_38 : decode cX0_minimise 38 = .ok (.invokevirtual 74, 3) := by decide +kernel
theorem dX0_minimise_41 : decode cX0_minimise 41 = .ok (.istore 4, 2) := by decide +kernel
theorem dX0_minimise_43 : decode cX0_minimise 43 = .ok (.iload 4, 2) := by decide +kernel
theorem dX0_minimise_45 : decode cX0_minimise 45 = .ok (.ifCond .ge 4, 3) := by decide +kernel
theorem dX0_minimise_48 : decode cX0_minimise 48 = .ok (.return_, 1) := by decide +kernel
theorem dX0_minimise_49 : decode cX0_minimise 49 = .ok (.aload_n 0, 1) := by decide +kernel
theorem dX0_minimise_50 : decode cX0_minimise 50 = .ok (.iload 4, 2) := by decide +kernel
theorem dX0_minimise_52 : decode cX0_minimise 52 = .ok (.iload_n 3, 1) := by decide +kernel
theorem dX0_minimise_53 : decode cX0_minimise 53 = .ok (.invokevirtual 63, 3) := by decide +kernel
theorem dX0_minimise_56 : decode cX0_minimise 56 = .ok (.iinc 2 1, 3) := by decide +kernel
theorem dX0_minimise_59 : decode cX0_minimise 59 = .ok (.goto (-47), 3) := by decide +kernel
theorem dX0_minimise_62 : decode cX0_minimise 62 = .ok (.return_, 1) := by decide +kernel
theorem dX0_freezeDear_0 : decode cX0_freezeDear 0 = .ok (.iconst 0, 1) := by decide +kernel
theorem dX0_freezeDear_1 : decode cX0_freezeDear 1 = .ok (.istore_n 1, 1) := by decide +kernel
theorem dX0_freezeDear_2 : decode cX0_freezeDear 2 = .ok (.iload_n 1, 1) := by decide +kernel
theorem dX0_freezeDear_3 : decode cX0_freezeDear 3 = .ok (.aload_n 0, 1) := by decide +kernel
theorem dX0_freezeDear_4 : decode cX0_freezeDear 4 = .ok (.getfield 44, 3) := by decide +kernel
theorem dX0_freezeDear_7 : decode cX0_freezeDear 7 = .ok (.if_icmp .ge 27, 3) := by decide +kernel
theorem dX0_freezeDear_10 : decode cX0_freezeDear 10 = .ok (.aload_n 0, 1) := by decide +kernel
theorem dX0_freezeDear_11 : decode cX0_freezeDear 11 = .ok (.getfield 31, 3) := by decide +kernel
theorem dX0_freezeDear_14 : decode cX0_freezeDear 14 = .ok (.iload_n 1, 1) := by decide +kernel
theorem dX0_freezeDear_15 : decode cX0_freezeDear 15 = .ok (.laload, 1) := by decide +kernel
theorem dX0_freezeDear_16 : decode cX0_freezeDear 16 = .ok (.lconst 0, 1) := by decide +kernel
theorem dX0_freezeDear_17 : decode cX0_freezeDear 17 = .ok (.lcmp, 1) := by decide +kernel
theorem dX0_freezeDear_18 : decode cX0_freezeDear 18 = .ok (.ifCond .le 10, 3) := by decide +kernel
theorem dX0_freezeDear_21 : decode cX0_freezeDear 21 = .ok (.aload_n 0, 1) := by decide +kernel
theorem dX0_freezeDear_22 : decode cX0_freezeDear 22 = .ok (.getfield 27, 3) := by decide +kernel
theorem dX0_freezeDear_25 : decode cX0_freezeDear 25 = .ok (.iload_n 1, 1) := by decide +kernel
theorem dX0_freezeDear_26 : decode cX0_freezeDear 26 = .ok (.iconst 1, 1) := by decide +kernel
theorem dX0_freezeDear_27 : decode cX0_freezeDear 27 = .ok (.bastore, 1) := by decide +kernel
theorem dX0_freezeDear_28 : decode cX0_freezeDear 28 = .ok (.iinc 1 1, 3) := by decide +kernel
theorem dX0_freezeDear_31 : decode cX0_freezeDear 31 = .ok (.goto (-29), 3) := by decide +kernel
theorem dX0_freezeDear_34 : decode cX0_freezeDear 34 = .ok (.return_, 1) := by decide +kernel
theorem dX0_thawAll_0 : decode cX0_thawAll 0 = .ok (.iconst 0, 1) := by decide +kernel
theorem dX0_thawAll_1 : decode cX0_thawAll 1 = .ok (.istore_n 1, 1) := by decide +kernel
theorem dX0_thawAll_2 : decode cX0_thawAll 2 = .ok (.iload_n 1, 1) := by decide +kernel
theorem dX0_thawAll_3 : decode cX0_thawAll 3 = .ok (.aload_n 0, 1) := by decide +kernel
theorem dX0_thawAll_4 : decode cX0_thawAll 4 = .ok (.getfield 44, 3) := by decide +kernel
theorem dX0_thawAll_7 : decode cX0_thawAll 7 = .ok (.if_icmp .ge 16, 3) := by decide +kernel
theorem dX0_thawAll_10 : decode cX0_thawAll 10 = .ok (.aload_n 0, 1) := by decide +kernel
theorem dX0_thawAll_11 : decode cX0_thawAll 11 = .ok (.getfield 27, 3) := by decide +kernel
theorem dX0_thawAll_14 : decode cX0_thawAll 14 = .ok (.iload_n 1, 1) := by decide +kernel
theorem dX0_thawAll_15 : decode cX0_thawAll 15 = .ok (.iconst 0, 1) := by decide +kernel
theorem dX0_thawAll_16 : decode cX0_thawAll 16 = .ok (.bastore, 1) := by decide +kernel
theorem dX0_thawAll_17 : decode cX0_thawAll 17 = .ok (.iinc 1 1, 3) := by decide +kernel
theorem dX0_thawAll_20 : decode cX0_thawAll 20 = .ok (.goto (-18), 3) := by decide +kernel
theorem dX0_thawAll_23 : decode cX0_thawAll 23 = .ok (.return_, 1) := by decide +kernel
theorem dX0_brokenLine_0 : decode cX0_brokenLine 0 = .ok (.iconst (-1), 1) := by decide +kernel
theorem dX0_brokenLine_1 : decode cX0_brokenLine 1 = .ok (.istore_n 1, 1) := by decide +kernel
theorem dX0_brokenLine_2 : decode cX0_brokenLine 2 = .ok (.iconst 0, 1) := by decide +kernel
theorem dX0_brokenLine_3 : decode cX0_brokenLine 3 = .ok (.istore_n 2, 1) := by decide +kernel
theorem dX0_brokenLine_4 : decode cX0_brokenLine 4 = .ok (.iload_n 2, 1) := by decide +kernel
theorem dX0_brokenLine_5 : decode cX0_brokenLine 5 = .ok (.aload_n 0, 1) := by decide +kernel
theorem dX0_brokenLine_6 : decode cX0_brokenLine 6 = .ok (.getfield 48, 3) := by decide +kernel
theorem dX0_brokenLine_9 : decode cX0_brokenLine 9 = .ok (.if_icmp .ge 41, 3) := by decide +kernel
theorem dX0_brokenLine_12 : decode cX0_brokenLine 12 = .ok (.aload_n 0, 1) := by decide +kernel
theorem dX0_brokenLine_13 : decode cX0_brokenLine 13 = .ok (.getfield 16, 3) := by decide +kernel
theorem dX0_brokenLine_16 : decode cX0_brokenLine 16 = .ok (.iload_n 2, 1) := by decide +kernel
theorem dX0_brokenLine_17 : decode cX0_brokenLine 17 = .ok (.laload, 1) := by decide +kernel
theorem dX0_brokenLine_18 : decode cX0_brokenLine 18 = .ok (.lconst 0, 1) := by decide +kernel
theorem dX0_brokenLine_19 : decode cX0_brokenLine 19 = .ok (.lcmp, 1) := by decide +kernel
theorem dX0_brokenLine_20 : decode cX0_brokenLine 20 = .ok (.ifCond .ge 24, 3) := by decide +kernel
theorem dX0_brokenLine_23 : decode cX0_brokenLine 23 = .ok (.iload_n 1, 1) := by decide +kernel
theorem dX0_brokenLine_24 : decode cX0_brokenLine 24 = .ok (.ifCond .lt 18, 3) := by decide +kernel
theorem dX0_brokenLine_27 : decode cX0_brokenLine 27 = .ok (.aload_n 0, 1) := by decide +kernel
theorem dX0_brokenLine_28 : decode cX0_brokenLine 28 = .ok (.getfield 20, 3) := by decide +kernel
theorem dX0_brokenLine_31 : decode cX0_brokenLine 31 = .ok (.iload_n 2, 1) := by decide +kernel
theorem dX0_brokenLine_32 : decode cX0_brokenLine 32 = .ok (.iaload, 1) := by decide +kernel
theorem dX0_brokenLine_33 : decode cX0_brokenLine 33 = .ok (.aload_n 0, 1) := by decide +kernel
theorem dX0_brokenLine_34 : decode cX0_brokenLine 34 = .ok (.getfield 20, 3) := by decide +kernel
theorem dX0_brokenLine_37 : decode cX0_brokenLine 37 = .ok (.iload_n 1, 1) := by decide +kernel
theorem dX0_brokenLine_38 : decode cX0_brokenLine 38 = .ok (.iaload, 1) := by decide +kernel
theorem dX0_brokenLine_39 : decode cX0_brokenLine 39 = .ok (.if_icmp .ge 5, 3) := by decide +kernel
theorem dX0_brokenLine_42 : decode cX0_brokenLine 42 = .ok (.iload_n 2, 1) := by decide +kernel
theorem dX0_brokenLine_43 : decode cX0_brokenLine 43 = .ok (.istore_n 1, 1) := by decide +kernel
theorem dX0_brokenLine_44 : decode cX0_brokenLine 44 = .ok (.iinc 2 1, 3) := by decide +kernel
theorem dX0_brokenLine_47 : decode cX0_brokenLine 47 = .ok (.goto (-43), 3) := by decide +kernel
theorem dX0_brokenLine_50 : decode cX0_brokenLine 50 = .ok (.iload_n 1, 1) := by decide +kernel
theorem dX0_brokenLine_51 : decode cX0_brokenLine 51 = .ok (.ireturn, 1) := by decide +kernel
theorem dX0_mendingColumn_0 : decode cX0_mendingColumn 0 = .ok (.iconst (-1), 1) := by decide +kernel
theorem dX0_mendingColumn_1 : decode cX0_mendingColumn 1 = .ok (.istore_n 2, 1) := by decide +kernel
theorem dX0_mendingColumn_2 : decode cX0_mendingColumn 2 = .ok (.iconst 0, 1) := by decide +kernel
theorem dX0_mendingColumn_3 : decode cX0_mendingColumn 3 = .ok (.istore_n 3, 1) := by decide +kernel
theorem dX0_mendingColumn_4 : decode cX0_mendingColumn 4 = .ok (.iload_n 3, 1) := by decide +kernel
theorem dX0_mendingColumn_5 : decode cX0_mendingColumn 5 = .ok (.aload_n 0, 1) := by decide +kernel
theorem dX0_mendingColumn_6 : decode cX0_mendingColumn 6 = .ok (.getfield 44, 3) := by decide +kernel
theorem dX0_mendingColumn_9 : decode cX0_mendingColumn 9 = .ok (.if_icmp .ge 43, 3) := by decide +kernel
theorem dX0_mendingColumn_12 : decode cX0_mendingColumn 12 = .ok (.aload_n 0, 1) := by decide +kernel
theorem dX0_mendingColumn_13 : decode cX0_mendingColumn 13 = .ok (.getfield 13, 3) := by decide +kernel
theorem dX0_mendingColumn_16 : decode cX0_mendingColumn 16 = .ok (.iload_n 1, 1) := by decide +kernel
theorem dX0_mendingColumn_17 : decode cX0_mendingColumn 17 = .ok (.aaload, 1) := by decide +kernel
theorem dX0_mendingColumn_18 : decode cX0_mendingColumn 18 = .ok (.iload_n 3, 1) := by decide +kernel
theorem dX0_mendingColumn_19 : decode cX0_mendingColumn 19 = .ok (.laload, 1) := by decide +kernel
theorem dX0_mendingColumn_20 : decode cX0_mendingColumn 20 = .ok (.lconst 0, 1) := by decide +kernel
theorem dX0_mendingColumn_21 : decode cX0_mendingColumn 21 = .ok (.lcmp, 1) := by decide +kernel
theorem dX0_mendingColumn_22 : decode cX0_mendingColumn 22 = .ok (.ifCond .ge 24, 3) := by decide +kernel
theorem dX0_mendingColumn_25 : decode cX0_mendingColumn 25 = .ok (.iload_n 2, 1) := by decide +kernel
theorem dX0_mendingColumn_26 : decode cX0_mendingColumn 26 = .ok (.ifCond .lt 18, 3) := by decide +kernel
theorem dX0_mendingColumn_29 : decode cX0_mendingColumn 29 = .ok (.aload_n 0, 1) := by decide +kernel
theorem dX0_mendingColumn_30 : decode cX0_mendingColumn 30 = .ok (.getfield 24, 3) := by decide +kernel
theorem dX0_mendingColumn_33 : decode cX0_mendingColumn 33 = .ok (.iload_n 3, 1) := by decide +kernel
theorem dX0_mendingColumn_34 : decode cX0_mendingColumn 34 = .ok (.iaload, 1) := by decide +kernel
theorem dX0_mendingColumn_35 : decode cX0_mendingColumn 35 = .ok (.aload_n 0, 1) := by decide +kernel
theorem dX0_mendingColumn_36 : decode cX0_mendingColumn 36 = .ok (.getfield 24, 3) := by decide +kernel
theorem dX0_mendingColumn_39 : decode cX0_mendingColumn 39 = .ok (.iload_n 2, 1) := by decide +kernel
theorem dX0_mendingColumn_40 : decode cX0_mendingColumn 40 = .ok (.iaload, 1) := by decide +kernel
theorem dX0_mendingColumn_41 : decode cX0_mendingColumn 41 = .ok (.if_icmp .ge 5, 3) := by decide +kernel
theorem dX0_mendingColumn_44 : decode cX0_mendingColumn 44 = .ok (.iload_n 3, 1) := by decide +kernel
theorem dX0_mendingColumn_45 : decode cX0_mendingColumn 45 = .ok (.istore_n 2, 1) := by decide +kernel
theorem dX0_mendingColumn_46 : decode cX0_mendingColumn 46 = .ok (.iinc 3 1, 3) := by decide +kernel
theorem dX0_mendingColumn_49 : decode cX0_mendingColumn 49 = .ok (.goto (-45), 3) := by decide +kernel
theorem dX0_mendingColumn_52 : decode cX0_mendingColumn 52 = .ok (.iload_n 2, 1) := by decide +kernel
theorem dX0_mendingColumn_53 : decode cX0_mendingColumn 53 = .ok (.ireturn, 1) := by decide +kernel
theorem dX0_findSlopes_0 : decode cX0_findSlopes 0 = .ok (.iconst 0, 1) := by decide +kernel
theorem dX0_findSlopes_1 : decode cX0_findSlopes 1 = .ok (.istore_n 2, 1) := by decide +kernel
theorem dX0_findSlopes_2 : decode cX0_findSlopes 2 = .ok (.iload_n 2, 1) := by decide +kernel
theorem dX0_findSlopes_3 : decode cX0_findSlopes 3 = .ok (.aload_n 0, 1) := by decide +kernel
theorem dX0_findSlopes_4 : decode cX0_findSlopes 4 = .ok (.getfield 44, 3) := by decide +kernel
theorem dX0_findSlopes_7 : decode cX0_findSlopes 7 = .ok (.if_icmp .ge 46, 3) := by decide +kernel
theorem dX0_findSlopes_10 : decode cX0_findSlopes 10 = .ok (.aload_n 0, 1) := by decide +kernel
theorem dX0_findSlopes_11 : decode cX0_findSlopes 11 = .ok (.getfield 31, 3) := by decide +kernel
theorem dX0_findSlopes_14 : decode cX0_findSlopes 14 = .ok (.iload_n 2, 1) := by decide +kernel
theorem dX0_findSlopes_15 : decode cX0_findSlopes 15 = .ok (.aload_n 0, 1) := by decide +kernel
theorem dX0_findSlopes_16 : decode cX0_findSlopes 16 = .ok (.getfield 24, 3) := by decide +kernel
theorem dX0_findSlopes_19 : decode cX0_findSlopes 19 = .ok (.iload_n 2, 1) := by decide +kernel
theorem dX0_findSlopes_20 : decode cX0_findSlopes 20 = .ok (.iaload, 1) := by decide +kernel
theorem dX0_findSlopes_21 : decode cX0_findSlopes 21 = .ok (.aload_n 0, 1) := by decide +kernel
theorem dX0_findSlopes_22 : decode cX0_findSlopes 22 = .ok (.getfield 44, 3) := by decide +kernel
theorem dX0_findSlopes_25 : decode cX0_findSlopes 25 = .ok (.if_icmp .ge 20, 3) := by decide +kernel
theorem dX0_findSlopes_28 : decode cX0_findSlopes 28 = .ok (.aload_n 1, 1) := by decide +kernel
theorem dX0_findSlopes_29 : decode cX0_findSlopes 29 = .ok (.aload_n 0, 1) := by decide +kernel
theorem dX0_findSlopes_30 : decode cX0_findSlopes 30 = .ok (.getfield 24, 3) := by decide +kernel
theorem dX0_findSlopes_33 : decode cX0_findSlopes 33 = .ok (.iload_n 2, 1) := by decide +kernel
theorem dX0_findSlopes_34 : decode cX0_findSlopes 34 = .ok (.iaload, 1) := by decide +kernel
theorem dX0_findSlopes_35 : decode cX0_findSlopes 35 = .ok (.iaload, 1) := by decide +kernel
theorem dX0_findSlopes_36 : decode cX0_findSlopes 36 = .ok (.i2l, 1) := by decide +kernel
theorem dX0_findSlopes_37 : decode cX0_findSlopes 37 = .ok (.aload_n 0, 1) := by decide +kernel
theorem dX0_findSlopes_38 : decode cX0_findSlopes 38 = .ok (.getfield 34, 3) := by decide +kernel
theorem dX0_findSlopes_41 : decode cX0_findSlopes 41 = .ok (.lmul, 1) := by decide +kernel
theorem dX0_findSlopes_42 : decode cX0_findSlopes 42 = .ok (.goto 4, 3) := by decide +kernel
theorem dX0_findSlopes_45 : decode cX0_findSlopes 45 = .ok (.lconst 0, 1) := by decide +kernel
theorem dX0_findSlopes_46 : decode cX0_findSlopes 46 = .ok (.lastore, 1) := by decide +kernel
theorem dX0_findSlopes_47 : decode cX0_findSlopes 47 = .ok (.iinc 2 1, 3) := by decide +kernel
theorem dX0_findSlopes_50 : decode cX0_findSlopes 50 = .ok (.goto (-48), 3) := by decide +kernel
theorem dX0_findSlopes_53 : decode cX0_findSlopes 53 = .ok (.iconst 0, 1) := by decide +kernel
theorem dX0_findSlopes_54 : decode cX0_findSlopes 54 = .ok (.istore_n 2, 1) := by decide +kernel
theorem dX0_findSlopes_55 : decode cX0_findSlopes 55 = .ok (.iload_n 2, 1) := by decide +kernel
theorem dX0_findSlopes_56 : decode cX0_findSlopes 56 = .ok (.aload_n 0, 1) := by decide +kernel
theorem dX0_findSlopes_57 : decode cX0_findSlopes 57 = .ok (.getfield 48, 3) := by decide +kernel
theorem dX0_findSlopes_60 : decode cX0_findSlopes 60 = .ok (.if_icmp .ge 79, 3) := by decide +kernel
theorem dX0_findSlopes_63 : decode cX0_findSlopes 63 = .ok (.aload_n 0, 1) := by decide +kernel
theorem dX0_findSlopes_64 : decode cX0_findSlopes 64 = .ok (.getfield 20, 3) := by decide +kernel
theorem dX0_findSlopes_67 : decode cX0_findSlopes 67 = .ok (.iload_n 2, 1) := by decide +kernel
theorem dX0_findSlopes_68 : decode cX0_findSlopes 68 = .ok (.iaload, 1) := by decide +kernel
theorem dX0_findSlopes_69 : decode cX0_findSlopes 69 = .ok (.aload_n 0, 1) := by decide +kernel
theorem dX0_findSlopes_70 : decode cX0_findSlopes 70 = .ok (.getfield 44, 3) := by decide +kernel
theorem dX0_findSlopes_73 : decode cX0_findSlopes 73 = .ok (.if_icmp .ge 14, 3) := by decide +kernel
theorem dX0_findSlopes_76 : decode cX0_findSlopes 76 = .ok (.aload_n 1, 1) := by decide +kernel
theorem dX0_findSlopes_77 : decode cX0_findSlopes 77 = .ok (.aload_n 0, 1) := by decide +kernel
theorem dX0_findSlopes_78 : decode cX0_findSlopes 78 = .ok (.getfield 20, 3) := by decide +kernel
theorem dX0_findSlopes_81 : decode cX0_findSlopes 81 = .ok (.iload_n 2, 1) := by decide +kernel
theorem dX0_findSlopes_82 : decode cX0_findSlopes 82 = .ok (.iaload, 1) := by decide +kernel
theorem dX0_findSlopes_83 : decode cX0_findSlopes 83 = .ok (.iaload, 1) := by decide +kernel
theorem dX0_findSlopes_84 : decode cX0_findSlopes 84 = .ok (.goto 4, 3) := by decide +kernel
theorem dX0_findSlopes_87 : decode cX0_findSlopes 87 = .ok (.iconst 0, 1) := by decide +kernel
theorem dX0_findSlopes_88 : decode cX0_findSlopes 88 = .ok (.istore_n 3, 1) := by decide +kernel
theorem dX0_findSlopes_89 : decode cX0_findSlopes 89 = .ok (.iconst 0, 1) := by decide +kernel
theorem dX0_findSlopes_90 : decode cX0_findSlopes 90 = .ok (.istore 4, 2) := by decide +kernel
theorem dX0_findSlopes_92 : decode cX0_findSlopes 92 = .ok (.iload 4, 2) := by decide +kernel
theorem dX0_findSlopes_94 : decode cX0_findSlopes 94 = .ok (.aload_n 0, 1) := by decide +kernel
theorem dX0_findSlopes_95 : decode cX0_findSlopes 95 = .ok (.getfield 44, 3) := by decide +kernel
theorem dX0_findSlopes_98 : decode cX0_findSlopes 98 = .ok (.if_icmp .ge 35, 3) := by decide +kernel
theorem dX0_findSlopes_101 : decode cX0_findSlopes 101 = .ok (.iload_n 3, 1) := by decide +kernel
theorem dX0_findSlopes_102 : decode cX0_findSlopes 102 = .ok (.ifCond .eq 31, 3) := by decide +kernel
theorem dX0_findSlopes_105 : decode cX0_findSlopes 105 = .ok (.aload_n 0, 1) := by decide +kernel
theorem dX0_findSlopes_106 : decode cX0_findSlopes 106 = .ok (.getfield 31, 3) := by decide +kernel
theorem dX0_findSlopes_109 : decode cX0_findSlopes 109 = .ok (.iload 4, 2) := by decide +kernel
theorem dX0_findSlopes_111 : decode cX0_findSlopes 111 = .ok (.dup2, 1) := by decide +kernel
theorem dX0_findSlopes_112 : decode cX0_findSlopes 112 = .ok (.laload, 1) := by decide +kernel
theorem dX0_findSlopes_113 : decode cX0_findSlopes 113 = .ok (.iload_n 3, 1) := by decide +kernel
theorem dX0_findSlopes_114 : decode cX0_findSlopes 114 = .ok (.i2l, 1) := by decide +kernel
theorem dX0_findSlopes_115 : decode cX0_findSlopes 115 = .ok (.aload_n 0, 1) := by decide +kernel
theorem dX0_findSlopes_116 : decode cX0_findSlopes 116 = .ok (.getfield 13, 3) := by decide +kernel
theorem dX0_findSlopes_119 : decode cX0_findSlopes 119 = .ok (.iload_n 2, 1) := by decide +kernel
theorem dX0_findSlopes_120 : decode cX0_findSlopes 120 = .ok (.aaload, 1) := by decide +kernel
theorem dX0_findSlopes_121 : decode cX0_findSlopes 121 = .ok (.iload 4, 2) := by decide +kernel
theorem dX0_findSlopes_123 : decode cX0_findSlopes 123 = .ok (.laload, 1) := by decide +kernel
theorem dX0_findSlopes_124 : decode cX0_findSlopes 124 = .ok (.lmul, 1) := by decide +kernel
theorem dX0_findSlopes_125 : decode cX0_findSlopes 125 = .ok (.lsub, 1) := by decide +kernel
theorem dX0_findSlopes_126 : decode cX0_findSlopes 126 = .ok (.lastore, 1) := by decide +kernel
theorem dX0_findSlopes_127 : decode cX0_findSlopes 127 = .ok (.iinc 4 1, 3) := by decide +kernel
theorem dX0_findSlopes_130 : decode cX0_findSlopes 130 = .ok (.goto (-38), 3) := by decide +kernel
theorem dX0_findSlopes_133 : decode cX0_findSlopes 133 = .ok (.iinc 2 1, 3) := by decide +kernel
theorem dX0_findSlopes_136 : decode cX0_findSlopes 136 = .ok (.goto (-81), 3) := by decide +kernel
theorem dX0_findSlopes_139 : decode cX0_findSlopes 139 = .ok (.return_, 1) := by decide +kernel
theorem dX0_fallingColumn_0 : decode cX0_fallingColumn 0 = .ok (.iconst (-1), 1) := by decide +kernel
theorem dX0_fallingColumn_1 : decode cX0_fallingColumn 1 = .ok (.istore_n 1, 1) := by decide +kernel
theorem dX0_fallingColumn_2 : decode cX0_fallingColumn 2 = .ok (.iconst 0, 1) := by decide +kernel
theorem dX0_fallingColumn_3 : decode cX0_fallingColumn 3 = .ok (.istore_n 2, 1) := by decide +kernel
theorem dX0_fallingColumn_4 : decode cX0_fallingColumn 4 = .ok (.iload_n 2, 1) := by decide +kernel
theorem dX0_fallingColumn_5 : decode cX0_fallingColumn 5 = .ok (.aload_n 0, 1) := by decide +kernel
theorem dX0_fallingColumn_6 : decode cX0_fallingColumn 6 = .ok (.getfield 44, 3) := by decide +kernel
theorem dX0_fallingColumn_9 : decode cX0_fallingColumn 9 = .ok (.if_icmp .ge 50, 3) := by decide +kernel
theorem dX0_fallingColumn_12 : decode cX0_fallingColumn 12 = .ok (.aload_n 0, 1) := by decide +kernel
theorem dX0_fallingColumn_13 : decode cX0_fallingColumn 13 = .ok (.getfield 27, 3) := by decide +kernel
theorem dX0_fallingColumn_16 : decode cX0_fallingColumn 16 = .ok (.iload_n 2, 1) := by decide +kernel
theorem dX0_fallingColumn_17 : decode cX0_fallingColumn 17 = .ok (.baload, 1) := by decide +kernel
theorem dX0_fallingColumn_18 : decode cX0_fallingColumn 18 = .ok (.ifCond .ne 35, 3) := by decide +kernel
theorem dX0_fallingColumn_21 : decode cX0_fallingColumn 21 = .ok (.aload_n 0, 1) := by decide +kernel
theorem dX0_fallingColumn_22 : decode cX0_fallingColumn 22 = .ok (.getfield 31, 3) := by decide +kernel
theorem dX0_fallingColumn_25 : decode cX0_fallingColumn 25 = .ok (.iload_n 2, 1) := by decide +kernel
theorem dX0_fallingColumn_26 : decode cX0_fallingColumn 26 = .ok (.laload, 1) := by decide +kernel
theorem dX0_fallingColumn_27 : decode cX0_fallingColumn 27 = .ok (.lconst 0, 1) := by decide +kernel
theorem dX0_fallingColumn_28 : decode cX0_fallingColumn 28 = .ok (.lcmp, 1) := by decide +kernel
theorem dX0_fallingColumn_29 : decode cX0_fallingColumn 29 = .ok (.ifCond .ge 24, 3) := by decide +kernel
theorem dX0_fallingColumn_32 : decode cX0_fallingColumn 32 = .ok (.iload_n 1, 1) := by decide +kernel
theorem dX0_fallingColumn_33 : decode cX0_fallingColumn 33 = .ok (.ifCond .lt 18, 3) := by decide +kernel
theorem dX0_fallingColumn_36 : decode cX0_fallingColumn 36 = .ok (.aload_n 0, 1) := by decide +kernel
theorem dX0_fallingColumn_37 : decode cX0_fallingColumn 37 = .ok (.getfield 24, 3) := by decide +kernel
theorem dX0_fallingColumn_40 : decode cX0_fallingColumn 40 = .ok (.iload_n 2, 1) := by decide +kernel
theorem dX0_fallingColumn_41 : decode cX0_fallingColumn 41 = .ok (.iaload, 1) := by decide +kernel
theorem dX0_fallingColumn_42 : decode cX0_fallingColumn 42 = .ok (.aload_n 0, 1) := by decide +kernel
theorem dX0_fallingColumn_43 : decode cX0_fallingColumn 43 = .ok (.getfield 24, 3) := by decide +kernel
theorem dX0_fallingColumn_46 : decode cX0_fallingColumn 46 = .ok (.iload_n 1, 1) := by decide +kernel
theorem dX0_fallingColumn_47 : decode cX0_fallingColumn 47 = .ok (.iaload, 1) := by decide +kernel
theorem dX0_fallingColumn_48 : decode cX0_fallingColumn 48 = .ok (.if_icmp .ge 5, 3) := by decide +kernel
theorem dX0_fallingColumn_51 : decode cX0_fallingColumn 51 = .ok (.iload_n 2, 1) := by decide +kernel
theorem dX0_fallingColumn_52 : decode cX0_fallingColumn 52 = .ok (.istore_n 1, 1) := by decide +kernel
theorem dX0_fallingColumn_53 : decode cX0_fallingColumn 53 = .ok (.iinc 2 1, 3) := by decide +kernel
theorem dX0_fallingColumn_56 : decode cX0_fallingColumn 56 = .ok (.goto (-52), 3) := by decide +kernel
theorem dX0_fallingColumn_59 : decode cX0_fallingColumn 59 = .ok (.iload_n 1, 1) := by decide +kernel
theorem dX0_fallingColumn_60 : decode cX0_fallingColumn 60 = .ok (.ireturn, 1) := by decide +kernel
set_option maxRecDepth 20000 in
theorem ggX0_firstStop_X0_stopsBefore : GoodIn wsX0_firstStop wsX0_stopsBefore := goodIn_r _ [7, 8, 2, 9, 10, 11, 12, 13, 14, 15, 16, 17, 18] (by decide +kernel) (by decide +kernel)
set_option maxRecDepth 20000 in
theorem gX0_firstStop_X0_stopsBefore : GoodIn wsX0_firstStop (wsV RX0 77 RX0 yX0_stopsBefore wsX0_stopsBefore) := goodIn_app (goodIn_of _ (by decide +kernel)) ggX0_firstStop_X0_stopsBefore
theorem dX0_firstStop_0 : decode cX0_firstStop 0 = .ok (.iconst (-1), 1) := by decide +kernel
theorem dX0_firstStop_1 : decode cX0_firstStop 1 = .ok (.istore_n 2, 1) := by decide +kernel
theorem dX0_firstStop_2 : decode cX0_firstStop 2 = .ok (.iconst 0, 1) := by decide +kernel
theorem dX0_firstStop_3 : decode cX0_firstStop 3 = .ok (.istore_n 3, 1) := by decide +kernel
theorem dX0_firstStop_4 : decode cX0_firstStop 4 = .ok (.iload_n 3, 1) := by decide +kernel
theorem dX0_firstStop_5 : decode cX0_firstStop 5 = .ok (.aload_n 0, 1) := by decide +kernel
theorem dX0_firstStop_6 : decode cX0_firstStop 6 = .ok (.getfield 48, 3) := by decide +kernel
theorem dX0_firstStop_9 : decode cX0_firstStop 9 = .ok (.if_icmp .ge 38, 3) := by decide +kernel
theorem dX0_firstStop_12 : decode cX0_firstStop 12 = .ok (.aload_n 0, 1) := by decide +kernel
theorem dX0_firstStop_13 : decode cX0_firstStop 13 = .ok (.getfield 13, 3) := by decide +kernel
theorem dX0_firstStop_16 : decode cX0_firstStop 16 = .ok (.iload_n 3, 1) := by decide +kernel
theorem dX0_firstStop_17 : decode cX0_firstStop 17 = .ok (.aaload, 1) := by decide +kernel
theorem dX0_firstStop_18 : decode cX0_firstStop 18 = .ok (.iload_n 1, 1) := by decide +kernel
theorem dX0_firstStop_19 : decode cX0_firstStop 19 = .ok (.laload, 1) := by decide +kernel
theorem dX0_firstStop_20 : decode cX0_firstStop 20 = .ok (.lconst 0, 1) := by decide +kernel
theorem dX0_firstStop_21 : decode cX0_firstStop 21 = .ok (.lcmp, 1) := by decide +kernel
theorem dX0_firstStop_22 : decode cX0_firstStop 22 = .ok (.ifCond .le 19, 3) := by decide +kernel
theorem dX0_firstStop_25 : decode cX0_firstStop 25 = .ok (.iload_n 2, 1) := by decide +kernel
theorem dX0_firstStop_26 : decode cX0_firstStop 26 = .ok (.ifCond .lt 13, 3) := by decide +kernel
theorem dX0_firstStop_29 : decode cX0_firstStop 29 = .ok (.aload_n 0, 1) := by decide +kernel
theorem dX0_firstStop_30 : decode cX0_firstStop 30 = .ok (.iload_n 3, 1) := by decide +kernel
theorem dX0_firstStop_31 : decode cX0_firstStop 31 = .ok (.iload_n 2, 1) := by decide +kernel
theorem dX0_firstStop_32 : decode cX0_firstStop 32 = .ok (.iload_n 1, 1) := by decide +kernel
theorem dX0_firstStop_33 : decode cX0_firstStop 33 = .ok (.invokevirtual 77, 3) := by decide +kernel
theorem dX0_firstStop_36 : decode cX0_firstStop 36 = .ok (.ifCond .eq 5, 3) := by decide +kernel
theorem dX0_firstStop_39 : decode cX0_firstStop 39 = .ok (.iload_n 3, 1) := by decide +kernel
theorem dX0_firstStop_40 : decode cX0_firstStop 40 = .ok (.istore_n 2, 1) := by decide +kernel
theorem dX0_firstStop_41 : decode cX0_firstStop 41 = .ok (.iinc 3 1, 3) := by decide +kernel
theorem dX0_firstStop_44 : decode cX0_firstStop 44 = .ok (.goto (-40), 3) := by decide +kernel
theorem dX0_firstStop_47 : decode cX0_firstStop 47 = .ok (.iload_n 2, 1) := by decide +kernel
theorem dX0_firstStop_48 : decode cX0_firstStop 48 = .ok (.ireturn, 1) := by decide +kernel
theorem dX0_stopsBefore_0 : decode cX0_stopsBefore 0 = .ok (.aload_n 0, 1) := by decide +kernel
theorem dX0_stopsBefore_1 : decode cX0_stopsBefore 1 = .ok (.getfield 16, 3) := by decide +kernel
theorem dX0_stopsBefore_4 : decode cX0_stopsBefore 4 = .ok (.iload_n 1, 1) := by decide +kernel
theorem dX0_stopsBefore_5 : decode cX0_stopsBefore 5 = .ok (.laload, 1) := by decide +kernel
theorem dX0_stopsBefore_6 : decode cX0_stopsBefore 6 = .ok (.aload_n 0, 1) := by decide +kernel
theorem dX0_stopsBefore_7 : decode cX0_stopsBefore 7 = .ok (.getfield 13, 3) := by decide +kernel
theorem dX0_stopsBefore_10 : decode cX0_stopsBefore 10 = .ok (.iload_n 2, 1) := by decide +kernel
theorem dX0_stopsBefore_11 : decode cX0_stopsBefore 11 = .ok (.aaload, 1) := by decide +kernel
theorem dX0_stopsBefore_12 : decode cX0_stopsBefore 12 = .ok (.iload_n 3, 1) := by decide +kernel
theorem dX0_stopsBefore_13 : decode cX0_stopsBefore 13 = .ok (.laload, 1) := by decide +kernel
theorem dX0_stopsBefore_14 : decode cX0_stopsBefore 14 = .ok (.lmul, 1) := by decide +kernel
theorem dX0_stopsBefore_15 : decode cX0_stopsBefore 15 = .ok (.lstore 4, 2) := by decide +kernel
theorem dX0_stopsBefore_17 : decode cX0_stopsBefore 17 = .ok (.aload_n 0, 1) := by decide +kernel
theorem dX0_stopsBefore_18 : decode cX0_stopsBefore 18 = .ok (.getfield 16, 3) := by decide +kernel
theorem dX0_stopsBefore_21 : decode cX0_stopsBefore 21 = .ok (.iload_n 2, 1) := by decide +kernel
theorem dX0_stopsBefore_22 : decode cX0_stopsBefore 22 = .ok (.laload, 1) := by decide +kernel
theorem dX0_stopsBefore_23 : decode cX0_stopsBefore 23 = .ok (.aload_n 0, 1) := by decide +kernel
theorem dX0_stopsBefore_24 : decode cX0_stopsBefore 24 = .ok (.getfield 13, 3) := by decide +kernel
theorem dX0_stopsBefore_27 : decode cX0_stopsBefore 27 = .ok (.iload_n 1, 1) := by decide +kernel
theorem dX0_stopsBefore_28 : decode cX0_stopsBefore 28 = .ok (.aaload, 1) := by decide +kernel
theorem dX0_stopsBefore_29 : decode cX0_stopsBefore 29 = .ok (.iload_n 3, 1) := by decide +kernel
theorem dX0_stopsBefore_30 : decode cX0_stopsBefore 30 = .ok (.laload, 1) := by decide +kernel
theorem dX0_stopsBefore_31 : decode cX0_stopsBefore 31 = .ok (.lmul, 1) := by decide +kernel
theorem dX0_stopsBefore_32 : decode cX0_stopsBefore 32 = .ok (.lstore 6, 2) := by decide +kernel
theorem dX0_stopsBefore_34 : decode cX0_stopsBefore 34 = .ok (.lload 4, 2) := by decide +kernel
theorem dX0_stopsBefore_36 : decode cX0_stopsBefore 36 = .ok (.lload 6, 2) := by decide +kernel
theorem dX0_stopsBefore_38 : decode cX0_stopsBefore 38 = .ok (.lcmp, 1) := by decide +kernel
theorem dX0_stopsBefore_39 : decode cX0_stopsBefore 39 = .ok (.ifCond .lt 26, 3) := by decide +kernel
theorem dX0_stopsBefore_42 : decode cX0_stopsBefore 42 = .ok (.lload 4, 2) := by decide +kernel
theorem dX0_stopsBefore_44 : decode cX0_stopsBefore 44 = .ok (.lload 6, 2) := by decide +kernel
theorem dX0_stopsBefore_46 : decode cX0_stopsBefore 46 = .ok (.lcmp, 1) := by decide +kernel
theorem dX0_stopsBefore_47 : decode cX0_stopsBefore 47 = .ok (.ifCond .ne 22, 3) := by decide +kernel
theorem dX0_stopsBefore_50 : decode cX0_stopsBefore 50 = .ok (.aload_n 0, 1) := by decide +kernel
theorem dX0_stopsBefore_51 : decode cX0_stopsBefore 51 = .ok (.getfield 20, 3) := by decide +kernel
theorem dX0_stopsBefore_54 : decode cX0_stopsBefore 54 = .ok (.iload_n 1, 1) := by decide +kernel
theorem dX0_stopsBefore_55 : decode cX0_stopsBefore 55 = .ok (.iaload, 1) := by decide +kernel
theorem dX0_stopsBefore_56 : decode cX0_stopsBefore 56 = .ok (.aload_n 0, 1) := by decide +kernel
theorem dX0_stopsBefore_57 : decode cX0_stopsBefore 57 = .ok (.getfield 20, 3) := by decide +kernel
theorem dX0_stopsBefore_60 : decode cX0_stopsBefore 60 = .ok (.iload_n 2, 1) := by decide +kernel
theorem dX0_stopsBefore_61 : decode cX0_stopsBefore 61 = .ok (.iaload, 1) := by decide +kernel
theorem dX0_stopsBefore_62 : decode cX0_stopsBefore 62 = .ok (.if_icmp .ge 7, 3) := by decide +kernel
theorem dX0_stopsBefore_65 : decode cX0_stopsBefore 65 = .ok (.iconst 1, 1) := by decide +kernel
theorem dX0_stopsBefore_66 : decode cX0_stopsBefore 66 = .ok (.goto 4, 3) := by decide +kernel
theorem dX0_stopsBefore_69 : decode cX0_stopsBefore 69 = .ok (.iconst 0, 1) := by decide +kernel
theorem dX0_stopsBefore_70 : decode cX0_stopsBefore 70 = .ok (.ireturn, 1) := by decide +kernel
set_option maxRecDepth 20000 in
theorem ggX0_pivot_X0_sweepLine : GoodIn wsX0_pivot wsX0_sweepLine := goodIn_r _ [14, 1, 15, 16, 21, 22, 23, 24, 25, 26, 27, 28, 29] (by decide +kernel) (by decide +kernel)
set_option maxRecDepth 20000 in
theorem gX0_pivot_X0_sweepLine : GoodIn wsX0_pivot (wsV RX0 81 RX0 yX0_sweepLine wsX0_sweepLine) := goodIn_app (goodIn_of _ (by decide +kernel)) ggX0_pivot_X0_sweepLine
set_option maxRecDepth 20000 in
theorem ggX0_pivot_X0_turnLine : GoodIn wsX0_pivot wsX0_turnLine := goodIn_r _ [20, 15, 1, 16, 21, 22, 23, 24, 25, 26, 27, 28, 29] (by decide +kernel) (by decide +kernel)
set_option maxRecDepth 20000 in
theorem gX0_pivot_X0_turnLine : GoodIn wsX0_pivot (wsV RX0 85 RX0 yX0_turnLine wsX0_turnLine) := goodIn_app (goodIn_of _ (by decide +kernel)) ggX0_pivot_X0_turnLine
theorem dX0_pivot_0 : decode cX0_pivot 0 = .ok (.aload_n 0, 1) := by decide +kernel
theorem dX0_pivot_1 : decode cX0_pivot 1 = .ok (.getfield 13, 3) := by decide +kernel
theorem dX0_pivot_4 : decode cX0_pivot 4 = .ok (.iload_n 1, 1) := by decide +kernel
theorem dX0_pivot_5 : decode cX0_pivot 5 = .ok (.aaload, 1) := by decide +kernel
theorem dX0_pivot_6 : decode cX0_pivot 6 = .ok (.iload_n 2, 1) := by decide +kernel
theorem dX0_pivot_7 : decode cX0_pivot 7 = .ok (.laload, 1) := by decide +kernel
theorem dX0_pivot_8 : decode cX0_pivot 8 = .ok (.lstore_n 3, 1) := by decide +kernel
theorem dX0_pivot_9 : decode cX0_pivot 9 = .ok (.lload_n 3, 1) := by decide +kernel
theorem dX0_pivot_10 : decode cX0_pivot 10 = .ok (.lconst 0, 1) := by decide +kernel
theorem dX0_pivot_11 : decode cX0_pivot 11 = .ok (.lcmp, 1) := by decide +kernel
theorem dX0_pivot_12 : decode cX0_pivot 12 = .ok (.ifCond .ge 11, 3) := by decide +kernel
theorem dX0_pivot_15 : decode cX0_pivot 15 = .ok (.aload_n 0, 1) := by decide +kernel
theorem dX0_pivot_16 : decode cX0_pivot 16 = .ok (.getfield 34, 3) := by decide +kernel
theorem dX0_pivot_19 : decode cX0_pivot 19 = .ok (.lneg, 1) := by decide +kernel
theorem dX0_pivot_20 : decode cX0_pivot 20 = .ok (.goto 7, 3) := by decide +kernel
theorem dX0_pivot_23 : decode cX0_pivot 23 = .ok (.aload_n 0, 1) := by decide +kernel
theorem dX0_pivot_24 : decode cX0_pivot 24 = .ok (.getfield 34, 3) := by decide +kernel
theorem dX0_pivot_27 : decode cX0_pivot 27 = .ok (.lstore 5, 2) := by decide +kernel
theorem dX0_pivot_29 : decode cX0_pivot 29 = .ok (.lload_n 3, 1) := by decide +kernel
theorem dX0_pivot_30 : decode cX0_pivot 30 = .ok (.lconst 0, 1) := by decide +kernel
theorem dX0_pivot_31 : decode cX0_pivot 31 = .ok (.lcmp, 1) := by decide +kernel
theorem dX0_pivot_32 : decode cX0_pivot 32 = .ok (.ifCond .eq 10, 3) := by decide +kernel
theorem dX0_pivot_35 : decode cX0_pivot 35 = .ok (.lload 5, 2) := by decide +kernel
theorem dX0_pivot_37 : decode cX0_pivot 37 = .ok (.lconst 0, 1) := by decide +kernel
theorem dX0_pivot_38 : decode cX0_pivot 38 = .ok (.lcmp, 1) := by decide +kernel
theorem dX0_pivot_39 : decode cX0_pivot 39 = .ok (.ifCond .ne 4, 3) := by decide +kernel
theorem dX0_pivot_42 : decode cX0_pivot 42 = .ok (.return_, 1) := by decide +kernel
theorem dX0_pivot_43 : decode cX0_pivot 43 = .ok (.iconst 0, 1) := by decide +kernel
theorem dX0_pivot_44 : decode cX0_pivot 44 = .ok (.istore 7, 2) := by decide +kernel
theorem dX0_pivot_46 : decode cX0_pivot 46 = .ok (.iload 7, 2) := by decide +kernel
theorem dX0_pivot_48 : decode cX0_pivot 48 = .ok (.aload_n 0, 1) := by decide +kernel
theorem dX0_pivot_49 : decode cX0_pivot 49 = .ok (.getfield 48, 3) := by decide +kernel
theorem dX0_pivot_52 : decode cX0_pivot 52 = .ok (.if_icmp .ge 25, 3) := by decide +kernel
theorem dX0_pivot_55 : decode cX0_pivot 55 = .ok (.iload 7, 2) := by decide +kernel
theorem dX0_pivot_57 : decode cX0_pivot 57 = .ok (.iload_n 1, 1) := by decide +kernel
theorem dX0_pivot_58 : decode cX0_pivot 58 = .ok (.if_icmp .eq 13, 3) := by decide +kernel
theorem dX0_pivot_61 : decode cX0_pivot 61 = .ok (.aload_n 0, 1) := by decide +kernel
theorem dX0_pivot_62 : decode cX0_pivot 62 = .ok (.iload 7, 2) := by decide +kernel
theorem dX0_pivot_64 : decode cX0_pivot 64 = .ok (.iload_n 1, 1) := by decide +kernel
theorem dX0_pivot_65 : decode cX0_pivot 65 = .ok (.iload_n 2, 1) := by decide +kernel
theorem dX0_pivot_66 : decode cX0_pivot 66 = .ok (.lload 5, 2) := by decide +kernel
theorem dX0_pivot_68 : decode cX0_pivot 68 = .ok (.invokevirtual 81, 3) := by decide +kernel
theorem dX0_pivot_71 : decode cX0_pivot 71 = .ok (.iinc 7 1, 3) := by decide +kernel
theorem dX0_pivot_74 : decode cX0_pivot 74 = .ok (.goto (-28), 3) := by decide +kernel
theorem dX0_pivot_77 : decode cX0_pivot 77 = .ok (.lload_n 3, 1) := by decide +kernel
theorem dX0_pivot_78 : decode cX0_pivot 78 = .ok (.lconst 0, 1) := by decide +kernel
theorem dX0_pivot_79 : decode cX0_pivot 79 = .ok (.lcmp, 1) := by decide +kernel
theorem dX0_pivot_80 : decode cX0_pivot 80 = .ok (.ifCond .ge 8, 3) := by decide +kernel
theorem dX0_pivot_83 : decode cX0_pivot 83 = .ok (.aload_n 0, 1) := by decide +kernel
theorem dX0_pivot_84 : decode cX0_pivot 84 = .ok (.iload_n 1, 1) := by decide +kernel
theorem dX0_pivot_85 : decode cX0_pivot 85 = .ok (.invokevirtual 85, 3) := by decide +kernel
theorem dX0_pivot_88 : decode cX0_pivot 88 = .ok (.aload_n 0, 1) := by decide +kernel
theorem dX0_pivot_89 : decode cX0_pivot 89 = .ok (.getfield 13, 3) := by decide +kernel
theorem dX0_pivot_92 : decode cX0_pivot 92 = .ok (.iload_n 1, 1) := by decide +kernel
theorem dX0_pivot_93 : decode cX0_pivot 93 = .ok (.aaload, 1) := by decide +kernel
theorem dX0_pivot_94 : decode cX0_pivot 94 = .ok (.iload_n 2, 1) := by decide +kernel
theorem dX0_pivot_95 : decode cX0_pivot 95 = .ok (.lload 5, 2) := by decide +kernel
theorem dX0_pivot_97 : decode cX0_pivot 97 = .ok (.lastore, 1) := by decide +kernel
theorem dX0_pivot_98 : decode cX0_pivot 98 = .ok (.aload_n 0, 1) := by decide +kernel
theorem dX0_pivot_99 : decode cX0_pivot 99 = .ok (.lload_n 3, 1) := by decide +kernel
theorem dX0_pivot_100 : decode cX0_pivot 100 = .ok (.invokestatic 89, 3) := by decide +kernel
theorem dX0_pivot_103 : decode cX0_pivot 103 = .ok (.putfield 34, 3) := by decide +kernel
theorem dX0_pivot_106 : decode cX0_pivot 106 = .ok (.aload_n 0, 1) := by decide +kernel
theorem dX0_pivot_107 : decode cX0_pivot 107 = .ok (.getfield 20, 3) := by decide +kernel
theorem dX0_pivot_110 : decode cX0_pivot 110 = .ok (.iload_n 1, 1) := by decide +kernel
theorem dX0_pivot_111 : decode cX0_pivot 111 = .ok (.iaload, 1) := by decide +kernel
theorem dX0_pivot_112 : decode cX0_pivot 112 = .ok (.istore 7, 2) := by decide +kernel
theorem dX0_pivot_114 : decode cX0_pivot 114 = .ok (.aload_n 0, 1) := by decide +kernel
theorem dX0_pivot_115 : decode cX0_pivot 115 = .ok (.getfield 20, 3) := by decide +kernel
theorem dX0_pivot_118 : decode cX0_pivot 118 = .ok (.iload_n 1, 1) := by decide +kernel
theorem dX0_pivot_119 : decode cX0_pivot 119 = .ok (.aload_n 0, 1) := by decide +kernel
theorem dX0_pivot_120 : decode cX0_pivot 120 = .ok (.getfield 24, 3) := by decide +kernel
theorem dX0_pivot_123 : decode cX0_pivot 123 = .ok (.iload_n 2, 1) := by decide +kernel
theorem dX0_pivot_124 : decode cX0_pivot 124 = .ok (.iaload, 1) := by decide +kernel
theorem dX0_pivot_125 : decode cX0_pivot 125 = .ok (.iastore, 1) := by decide +kernel
theorem dX0_pivot_126 : decode cX0_pivot 126 = .ok (.aload_n 0, 1) := by decide +kernel
theorem dX0_pivot_127 : decode cX0_pivot 127 = .ok (.getfield 24, 3) := by decide +kernel
theorem dX0_pivot_130 : decode cX0_pivot 130 = .ok (.iload_n 2, 1) := by decide +kernel
theorem dX0_pivot_131 : decode cX0_pivot 131 = .ok (.iload 7, 2) := by decide +kernel
theorem dX0_pivot_133 : decode cX0_pivot 133 = .ok (.iastore, 1) := by decide +kernel
theorem dX0_pivot_134 : decode cX0_pivot 134 = .ok (.return_, 1) := by decide +kernel
theorem dX0_sweepLine_0 : decode cX0_sweepLine 0 = .ok (.aload_n 0, 1) := by decide +kernel
theorem dX0_sweepLine_1 : decode cX0_sweepLine 1 = .ok (.getfield 13, 3) := by decide +kernel
theorem dX0_sweepLine_4 : decode cX0_sweepLine 4 = .ok (.iload_n 2, 1) := by decide +kernel
theorem dX0_sweepLine_5 : decode cX0_sweepLine 5 = .ok (.aaload, 1) := by decide +kernel
theorem dX0_sweepLine_6 : decode cX0_sweepLine 6 = .ok (.iload_n 3, 1) := by decide +kernel
theorem dX0_sweepLine_7 : decode cX0_sweepLine 7 = .ok (.laload, 1) := by decide +kernel
theorem dX0_sweepLine_8 : decode cX0_sweepLine 8 = .ok (.lstore 6, 2) := by decide +kernel
theorem dX0_sweepLine_10 : decode cX0_sweepLine 10 = .ok (.aload_n 0, 1) := by decide +kernel
theorem dX0_sweepLine_11 : decode cX0_sweepLine 11 = .ok (.getfield 13, 3) := by decide +kernel
theorem dX0_sweepLine_14 : decode cX0_sweepLine 14 = .ok (.iload_n 1, 1) := by decide +kernel
theorem dX0_sweepLine_15 : decode cX0_sweepLine 15 = .ok (.aaload, 1) := by decide +kernel
theorem dX0_sweepLine_16 : decode cX0_sweepLine 16 = .ok (.iload_n 3, 1) := by decide +kernel
theorem dX0_sweepLine_17 : decode cX0_sweepLine 17 = .ok (.laload, 1) := by decide +kernel
theorem dX0_sweepLine_18 : decode cX0_sweepLine 18 = .ok (.lstore 8, 2) := by decide +kernel
theorem dX0_sweepLine_20 : decode cX0_sweepLine 20 = .ok (.lload 4, 2) := by decide +kernel
theorem dX0_sweepLine_22 : decode cX0_sweepLine 22 = .ok (.lconst 0, 1) := by decide +kernel
theorem dX0_sweepLine_23 : decode cX0_sweepLine 23 = .ok (.lcmp, 1) := by decide +kernel
theorem dX0_sweepLine_24 : decode cX0_sweepLine 24 = .ok (.ifCond .eq 18, 3) := by decide +kernel
theorem dX0_sweepLine_27 : decode cX0_sweepLine 27 = .ok (.lload 8, 2) := by decide +kernel
theorem dX0_sweepLine_29 : decode cX0_sweepLine 29 = .ok (.lconst 0, 1) := by decide +kernel
theorem dX0_sweepLine_30 : decode cX0_sweepLine 30 = .ok (.lcmp, 1) := by decide +kernel
theorem dX0_sweepLine_31 : decode cX0_sweepLine 31 = .ok (.ifCond .ne 12, 3) := by decide +kernel
theorem dX0_sweepLine_34 : decode cX0_sweepLine 34 = .ok (.lload 6, 2) := by decide +kernel
theorem dX0_sweepLine_36 : decode cX0_sweepLine 36 = .ok (.lload 4, 2) := by decide +kernel
theorem dX0_sweepLine_38 : decode cX0_sweepLine 38 = .ok (.lcmp, 1) := by decide +kernel
theorem dX0_sweepLine_39 : decode cX0_sweepLine 39 = .ok (.ifCond .ne 4, 3) := by decide +kernel
theorem dX0_sweepLine_42 : decode cX0_sweepLine 42 = .ok (.return_, 1) := by decide +kernel
theorem dX0_sweepLine_43 : decode cX0_sweepLine 43 = .ok (.iconst 0, 1) := by decide +kernel
theorem dX0_sweepLine_44 : decode cX0_sweepLine 44 = .ok (.istore 10, 2) := by decide +kernel
theorem dX0_sweepLine_46 : decode cX0_sweepLine 46 = .ok (.iload 10, 2) := by decide +kernel
theorem dX0_sweepLine_48 : decode cX0_sweepLine 48 = .ok (.aload_n 0, 1) := by decide +kernel
theorem dX0_sweepLine_49 : decode cX0_sweepLine 49 = .ok (.getfield 44, 3) := by decide +kernel
theorem dX0_sweepLine_52 : decode cX0_sweepLine 52 = .ok (.if_icmp .ge 52, 3) := by decide +kernel
theorem dX0_sweepLine_55 : decode cX0_sweepLine 55 = .ok (.iload 10, 2) := by decide +kernel
theorem dX0_sweepLine_57 : decode cX0_sweepLine 57 = .ok (.iload_n 3, 1) := by decide +kernel
theorem dX0_sweepLine_58 : decode cX0_sweepLine 58 = .ok (.if_icmp .eq 40, 3) := by decide +kernel
theorem dX0_sweepLine_61 : decode cX0_sweepLine 61 = .ok (.aload_n 0, 1) := by decide +kernel
theorem dX0_sweepLine_62 : decode cX0_sweepLine 62 = .ok (.getfield 13, 3) := by decide +kernel
theorem dX0_sweepLine_65 : decode cX0_sweepLine 65 = .ok (.iload_n 1, 1) := by decide +kernel
theorem dX0_sweepLine_66 : decode cX0_sweepLine 66 = .ok (.aaload, 1) := by decide +kernel
theorem dX0_sweepLine_67 : decode cX0_sweepLine 67 = .ok (.iload 10, 2) := by decide +kernel
theorem dX0_sweepLine_69 : decode cX0_sweepLine 69 = .ok (.lload 6, 2) := by decide +kernel
theorem dX0_sweepLine_71 : decode cX0_sweepLine 71 = .ok (.aload_n 0, 1) := by decide +kernel
theorem dX0_sweepLine_72 : decode cX0_sweepLine 72 = .ok (.getfield 13, 3) := by decide +kernel
theorem dX0_sweepLine_75 : decode cX0_sweepLine 75 = .ok (.iload_n 1, 1) := by decide +kernel
theorem dX0_sweepLine_76 : decode cX0_sweepLine 76 = .ok (.aaload, 1) := by decide +kernel
theorem dX0_sweepLine_77 : decode cX0_sweepLine 77 = .ok (.iload 10, 2) := by decide +kernel
theorem dX0_sweepLine_79 : decode cX0_sweepLine 79 = .ok (.laload, 1) := by decide +kernel
theorem dX0_sweepLine_80 : decode cX0_sweepLine 80 = .ok (.lmul, 1) := by decide +kernel
theorem dX0_sweepLine_81 : decode cX0_sweepLine 81 = .ok (.lload 8, 2) := by decide +kernel
theorem dX0_sweepLine_83 : decode cX0_sweepLine 83 = .ok (.aload_n 0, 1) := by decide +kernel
theorem dX0_sweepLine_84 : decode cX0_sweepLine 84 = .ok (.getfield 13, 3) := by decide +kernel
theorem dX0_sweepLine_87 : decode cX0_sweepLine 87 = .ok (.iload_n 2, 1) := by decide +kernel
theorem dX0_sweepLine_88 : decode cX0_sweepLine 88 = .ok (.aaload, 1) := by decide +kernel
theorem dX0_sweepLine_89 : decode cX0_sweepLine 89 = .ok (.iload 10, 2) := by decide +kernel
theorem dX0_sweepLine_91 : decode cX0_sweepLine 91 = .ok (.laload, 1) := by decide +kernel
theorem dX0_sweepLine_92 : decode cX0_sweepLine 92 = .ok (.lmul, 1) := by decide +kernel
theorem dX0_sweepLine_93 : decode cX0_sweepLine 93 = .ok (.lsub, 1) := by decide +kernel
theorem dX0_sweepLine_94 : decode cX0_sweepLine 94 = .ok (.lload 4, 2) := by decide +kernel
theorem dX0_sweepLine_96 : decode cX0_sweepLine 96 = .ok (.ldiv, 1) := by decide +kernel
theorem dX0_sweepLine_97 : decode cX0_sweepLine 97 = .ok (.lastore, 1) := by decide +kernel
theorem dX0_sweepLine_98 : decode cX0_sweepLine 98 = .ok (.iinc 10 1, 3) := by decide +kernel
theorem dX0_sweepLine_101 : decode cX0_sweepLine 101 = .ok (.goto (-55), 3) := by decide +kernel
theorem dX0_sweepLine_104 : decode cX0_sweepLine 104 = .ok (.aload_n 0, 1) := by decide +kernel
theorem dX0_sweepLine_105 : decode cX0_sweepLine 105 = .ok (.getfield 16, 3) := by decide +kernel
theorem dX0_sweepLine_108 : decode cX0_sweepLine 108 = .ok (.iload_n 1, 1) := by decide +kernel
theorem dX0_sweepLine_109 : decode cX0_sweepLine 109 = .ok (.lload 6, 2) := by decide +kernel
theorem dX0_sweepLine_111 : decode cX0_sweepLine 111 = .ok (.aload_n 0, 1) := by decide +kernel
theorem dX0_sweepLine_112 : decode cX0_sweepLine 112 = .ok (.getfield 16, 3) := by decide +kernel
theorem dX0_sweepLine_115 : decode cX0_sweepLine 115 = .ok (.iload_n 1, 1) := by decide +kernel
theorem dX0_sweepLine_116 : decode cX0_sweepLine 116 = .ok (.laload, 1) := by decide +kernel
theorem dX0_sweepLine_117 : decode cX0_sweepLine 117 = .ok (.lmul, 1) := by decide +kernel
theorem dX0_sweepLine_118 : decode cX0_sweepLine 118 = .ok (.lload 8, 2) := by decide +kernel
theorem dX0_sweepLine_120 : decode cX0_sweepLine 120 = .ok (.aload_n 0, 1) := by decide +kernel
theorem dX0_sweepLine_121 : decode cX0_sweepLine 121 = .ok (.getfield 16, 3) := by decide +kernel
theorem dX0_sweepLine_124 : decode cX0_sweepLine 124 = .ok (.iload_n 2, 1) := by decide +kernel
theorem dX0_sweepLine_125 : decode cX0_sweepLine 125 = .ok (.laload, 1) := by decide +kernel
theorem dX0_sweepLine_126 : decode cX0_sweepLine 126 = .ok (.lmul, 1) := by decide +kernel
theorem dX0_sweepLine_127 : decode cX0_sweepLine 127 = .ok (.lsub, 1) := by decide +kernel
theorem dX0_sweepLine_128 : decode cX0_sweepLine 128 = .ok (.lload 4, 2) := by decide +kernel
theorem dX0_sweepLine_130 : decode cX0_sweepLine 130 = .ok (.ldiv, 1) := by decide +kernel
theorem dX0_sweepLine_131 : decode cX0_sweepLine 131 = .ok (.lastore, 1) := by decide +kernel
theorem dX0_sweepLine_132 : decode cX0_sweepLine 132 = .ok (.aload_n 0, 1) := by decide +kernel
theorem dX0_sweepLine_133 : decode cX0_sweepLine 133 = .ok (.getfield 13, 3) := by decide +kernel
theorem dX0_sweepLine_136 : decode cX0_sweepLine 136 = .ok (.iload_n 1, 1) := by decide +kernel
theorem dX0_sweepLine_137 : decode cX0_sweepLine 137 = .ok (.aaload, 1) := by decide +kernel
theorem dX0_sweepLine_138 : decode cX0_sweepLine 138 = .ok (.iload_n 3, 1) := by decide +kernel
theorem dX0_sweepLine_139 : decode cX0_sweepLine 139 = .ok (.lload 6, 2) := by decide +kernel
theorem dX0_sweepLine_141 : decode cX0_sweepLine 141 = .ok (.lconst 0, 1) := by decide +kernel
theorem dX0_sweepLine_142 : decode cX0_sweepLine 142 = .ok (.lcmp, 1) := by decide +kernel
theorem dX0_sweepLine_143 : decode cX0_sweepLine 143 = .ok (.ifCond .ge 8, 3) := by decide +kernel
theorem dX0_sweepLine_146 : decode cX0_sweepLine 146 = .ok (.lload 8, 2) := by decide +kernel
theorem dX0_sweepLine_148 : decode cX0_sweepLine 148 = .ok (.goto 6, 3) := by decide +kernel
theorem dX0_sweepLine_151 : decode cX0_sweepLine 151 = .ok (.lload 8, 2) := by decide +kernel
theorem dX0_sweepLine_153 : decode cX0_sweepLine 153 = .ok (.lneg, 1) := by decide +kernel
theorem dX0_sweepLine_154 : decode cX0_sweepLine 154 = .ok (.lastore, 1) := by decide +kernel
theorem dX0_sweepLine_155 : decode cX0_sweepLine 155 = .ok (.return_, 1) := by decide +kernel
theorem dX0_turnLine_0 : decode cX0_turnLine 0 = .ok (.iconst 0, 1) := by decide +kernel
theorem dX0_turnLine_1 : decode cX0_turnLine 1 = .ok (.istore_n 2, 1) := by decide +kernel
theorem dX0_turnLine_2 : decode cX0_turnLine 2 = .ok (.iload_n 2, 1) := by decide +kernel
theorem dX0_turnLine_3 : decode cX0_turnLine 3 = .ok (.aload_n 0, 1) := by decide +kernel
theorem dX0_turnLine_4 : decode cX0_turnLine 4 = .ok (.getfield 44, 3) := by decide +kernel
theorem dX0_turnLine_7 : decode cX0_turnLine 7 = .ok (.if_icmp .ge 26, 3) := by decide +kernel
theorem dX0_turnLine_10 : decode cX0_turnLine 10 = .ok (.aload_n 0, 1) := by decide +kernel
theorem dX0_turnLine_11 : decode cX0_turnLine 11 = .ok (.getfield 13, 3) := by decide +kernel
theorem dX0_turnLine_14 : decode cX0_turnLine 14 = .ok (.iload_n 1, 1) := by decide +kernel
theorem dX0_turnLine_15 : decode cX0_turnLine 15 = .ok (.aaload, 1) := by decide +kernel
theorem dX0_turnLine_16 : decode cX0_turnLine 16 = .ok (.iload_n 2, 1) := by decide +kernel
theorem dX0_turnLine_17 : decode cX0_turnLine 17 = .ok (.aload_n 0, 1) := by decide +kernel
theorem dX0_turnLine_18 : decode cX0_turnLine 18 = .ok (.getfield 13, 3) := by decide +kernel
theorem dX0_turnLine_21 : decode cX0_turnLine 21 = .ok (.iload_n 1, 1) := by decide +kernel
theorem dX0_turnLine_22 : decode cX0_turnLine 22 = .ok (.aaload, 1) := by decide +kernel
theorem dX0_turnLine_23 : decode cX0_turnLine 23 = .ok (.iload_n 2, 1) := by decide +kernel
theorem dX0_turnLine_24 : decode cX0_turnLine 24 = .ok (.laload, 1) := by decide +kernel
theorem dX0_turnLine_25 : decode cX0_turnLine 25 = .ok (.lneg, 1) := by decide +kernel
theorem dX0_turnLine_26 : decode cX0_turnLine 26 = .ok (.lastore, 1) := by decide +kernel
theorem dX0_turnLine_27 : decode cX0_turnLine 27 = .ok (.iinc 2 1, 3) := by decide +kernel
theorem dX0_turnLine_30 : decode cX0_turnLine 30 = .ok (.goto (-28), 3) := by decide +kernel
theorem dX0_turnLine_33 : decode cX0_turnLine 33 = .ok (.aload_n 0, 1) := by decide +kernel
theorem dX0_turnLine_34 : decode cX0_turnLine 34 = .ok (.getfield 16, 3) := by decide +kernel
theorem dX0_turnLine_37 : decode cX0_turnLine 37 = .ok (.iload_n 1, 1) := by decide +kernel
theorem dX0_turnLine_38 : decode cX0_turnLine 38 = .ok (.aload_n 0, 1) := by decide +kernel
theorem dX0_turnLine_39 : decode cX0_turnLine 39 = .ok (.getfield 16, 3) := by decide +kernel
theorem dX0_turnLine_42 : decode cX0_turnLine 42 = .ok (.iload_n 1, 1) := by decide +kernel
theorem dX0_turnLine_43 : decode cX0_turnLine 43 = .ok (.laload, 1) := by decide +kernel
theorem dX0_turnLine_44 : decode cX0_turnLine 44 = .ok (.lneg, 1) := by decide +kernel
theorem dX0_turnLine_45 : decode cX0_turnLine 45 = .ok (.lastore, 1) := by decide +kernel
theorem dX0_turnLine_46 : decode cX0_turnLine 46 = .ok (.return_, 1) := by decide +kernel
theorem dX1_init_0 : decode cX1_init 0 = .ok (.aload_n 0, 1) := by decide +kernel
theorem dX1_init_1 : decode cX1_init 1 = .ok (.invokespecial 3, 3) := by decide +kernel
theorem dX1_init_4 : decode cX1_init 4 = .ok (.aload_n 0, 1) := by decide +kernel
theorem dX1_init_5 : decode cX1_init 5 = .ok (.iconst 5, 1) := by decide +kernel
theorem dX1_init_6 : decode cX1_init 6 = .ok (.newarray .int, 2) := by decide +kernel
theorem dX1_init_8 : decode cX1_init 8 = .ok (.putfield 9, 3) := by decide +kernel
theorem dX1_init_11 : decode cX1_init 11 = .ok (.aload_n 0, 1) := by decide +kernel
theorem dX1_init_12 : decode cX1_init 12 = .ok (.iconst 5, 1) := by decide +kernel
theorem dX1_init_13 : decode cX1_init 13 = .ok (.newarray .int, 2) := by decide +kernel
theorem dX1_init_15 : decode cX1_init 15 = .ok (.putfield 15, 3) := by decide +kernel
theorem dX1_init_18 : decode cX1_init 18 = .ok (.aload_n 0, 1) := by decide +kernel
theorem dX1_init_19 : decode cX1_init 19 = .ok (.iconst 5, 1) := by decide +kernel
theorem dX1_init_20 : decode cX1_init 20 = .ok (.newarray .int, 2) := by decide +kernel
theorem dX1_init_22 : decode cX1_init 22 = .ok (.putfield 18, 3) := by decide +kernel
theorem dX1_init_25 : decode cX1_init 25 = .ok (.aload_n 0, 1) := by decide +kernel
theorem dX1_init_26 : decode cX1_init 26 = .ok (.bipush 8, 2) := by decide +kernel
theorem dX1_init_28 : decode cX1_init 28 = .ok (.newarray .int, 2) := by decide +kernel
theorem dX1_init_30 : decode cX1_init 30 = .ok (.putfield 21, 3) := by decide +kernel
theorem dX1_init_33 : decode cX1_init 33 = .ok (.aload_n 0, 1) := by decide +kernel
theorem dX1_init_34 : decode cX1_init 34 = .ok (.bipush 8, 2) := by decide +kernel
theorem dX1_init_36 : decode cX1_init 36 = .ok (.newarray .int, 2) := by decide +kernel
theorem dX1_init_38 : decode cX1_init 38 = .ok (.putfield 24, 3) := by decide +kernel
theorem dX1_init_41 : decode cX1_init 41 = .ok (.aload_n 0, 1) := by decide +kernel
theorem dX1_init_42 : decode cX1_init 42 = .ok (.bipush 8, 2) := by decide +kernel
theorem dX1_init_44 : decode cX1_init 44 = .ok (.iconst 5, 1) := by decide +kernel
theorem dX1_init_45 : decode cX1_init 45 = .ok (.multianewarray 27 2, 4) := by decide +kernel
theorem dX1_init_49 : decode cX1_init 49 = .ok (.putfield 29, 3) := by decide +kernel
theorem dX1_init_52 : decode cX1_init 52 = .ok (.aload_n 0, 1) := by decide +kernel
theorem dX1_init_53 : decode cX1_init 53 = .ok (.bipush 8, 2) := by decide +kernel
theorem dX1_init_55 : decode cX1_init 55 = .ok (.newarray .boolean, 2) := by decide +kernel
theorem dX1_init_57 : decode cX1_init 57 = .ok (.putfield 32, 3) := by decide +kernel
theorem dX1_init_60 : decode cX1_init 60 = .ok (.return_, 1) := by decide +kernel
theorem dX1_hasName_0 : decode cX1_hasName 0 = .ok (.iload_n 1, 1) := by decide +kernel
theorem dX1_hasName_1 : decode cX1_hasName 1 = .ok (.ifCond .lt 15, 3) := by decide +kernel
theorem dX1_hasName_4 : decode cX1_hasName 4 = .ok (.iload_n 1, 1) := by decide +kernel
theorem dX1_hasName_5 : decode cX1_hasName 5 = .ok (.aload_n 0, 1) := by decide +kernel
theorem dX1_hasName_6 : decode cX1_hasName 6 = .ok (.getfield 36, 3) := by decide +kernel
theorem dX1_hasName_9 : decode cX1_hasName 9 = .ok (.if_icmp .ge 7, 3) := by decide +kernel
theorem dX1_hasName_12 : decode cX1_hasName 12 = .ok (.iconst 1, 1) := by decide +kernel
theorem dX1_hasName_13 : decode cX1_hasName 13 = .ok (.goto 4, 3) := by decide +kernel
theorem dX1_hasName_16 : decode cX1_hasName 16 = .ok (.iconst 0, 1) := by decide +kernel
theorem dX1_hasName_17 : decode cX1_hasName 17 = .ok (.ireturn, 1) := by decide +kernel
theorem dX1_hasRow_0 : decode cX1_hasRow 0 = .ok (.iload_n 1, 1) := by decide +kernel
theorem dX1_hasRow_1 : decode cX1_hasRow 1 = .ok (.ifCond .lt 24, 3) := by decide +kernel
theorem dX1_hasRow_4 : decode cX1_hasRow 4 = .ok (.iload_n 1, 1) := by decide +kernel
theorem dX1_hasRow_5 : decode cX1_hasRow 5 = .ok (.aload_n 0, 1) := by decide +kernel
theorem dX1_hasRow_6 : decode cX1_hasRow 6 = .ok (.getfield 40, 3) := by decide +kernel
theorem dX1_hasRow_9 : decode cX1_hasRow 9 = .ok (.if_icmp .ge 16, 3) := by decide +kernel
theorem dX1_hasRow_12 : decode cX1_hasRow 12 = .ok (.aload_n 0, 1) := by decide +kernel
theorem dX1_hasRow_13 : decode cX1_hasRow 13 = .ok (.getfield 32, 3) := by decide +kernel
theorem dX1_hasRow_16 : decode cX1_hasRow 16 = .ok (.iload_n 1, 1) := by decide +kernel
theorem dX1_hasRow_17 : decode cX1_hasRow 17 = .ok (.baload, 1) := by decide +kernel
theorem dX1_hasRow_18 : decode cX1_hasRow 18 = .ok (.ifCond .eq 7, 3) := by decide +kernel
theorem dX1_hasRow_21 : decode cX1_hasRow 21 = .ok (.iconst 1, 1) := by decide +kernel
theorem dX1_hasRow_22 : decode cX1_hasRow 22 = .ok (.goto 4, 3) := by decide +kernel
theorem dX1_hasRow_25 : decode cX1_hasRow 25 = .ok (.iconst 0, 1) := by decide +kernel
theorem dX1_hasRow_26 : decode cX1_hasRow 26 = .ok (.ireturn, 1) := by decide +kernel
theorem dX1_addName_0 : decode cX1_addName 0 = .ok (.aload_n 0, 1) := by decide +kernel
theorem dX1_addName_1 : decode cX1_addName 1 = .ok (.getfield 36, 3) := by decide +kernel
theorem dX1_addName_4 : decode cX1_addName 4 = .ok (.istore_n 3, 1) := by decide +kernel
theorem dX1_addName_5 : decode cX1_addName 5 = .ok (.iload_n 3, 1) := by decide +kernel
theorem dX1_addName_6 : decode cX1_addName 6 = .ok (.iconst 5, 1) := by decide +kernel
theorem dX1_addName_7 : decode cX1_addName 7 = .ok (.if_icmp .lt 6, 3) := by decide +kernel
theorem dX1_addName_10 : decode cX1_addName 10 = .ok (.bipush (-4), 2) := by decide +kernel
theorem dX1_addName_12 : decode cX1_addName 12 = .ok (.ireturn, 1) := by decide +kernel
theorem dX1_addName_13 : decode cX1_addName 13 = .ok (.aload_n 0, 1) := by decide +kernel
theorem dX1_addName_14 : decode cX1_addName 14 = .ok (.getfield 9, 3) := by decide +kernel
theorem dX1_addName_17 : decode cX1_addName 17 = .ok (.iload_n 3, 1) := by decide +kernel
theorem dX1_addName_18 : decode cX1_addName 18 = .ok (.iload_n 1, 1) := by decide +kernel
theorem dX1_addName_19 : decode cX1_addName 19 = .ok (.iastore, 1) := by decide +kernel
theorem dX1_addName_20 : decode cX1_addName 20 = .ok (.aload_n 0, 1) := by decide +kernel
theorem dX1_addName_21 : decode cX1_addName 21 = .ok (.getfield 15, 3) := by decide +kernel
theorem dX1_addName_24 : decode cX1_addName 24 = .ok (.iload_n 3, 1) := by decide +kernel
theorem dX1_addName_25 : decode cX1_addName 25 = .ok (.iload_n 2, 1) := by decide +kernel
theorem dX1_addName_26 : decode cX1_addName 26 = .ok (.iastore, 1) := by decide +kernel
theorem dX1_addName_27 : decode cX1_addName 27 = .ok (.aload_n 0, 1) := by decide +kernel
theorem dX1_addName_28 : decode cX1_addName 28 = .ok (.getfield 18, 3) := by decide +kernel
theorem dX1_addName_31 : decode cX1_addName 31 = .ok (.iload_n 3, 1) := by decide +kernel
theorem dX1_addName_32 : decode cX1_addName 32 = .ok (.iconst 0, 1) := by decide +kernel
theorem dX1_addName_33 : decode cX1_addName 33 = .ok (.iastore, 1) := by decide +kernel
theorem dX1_addName_34 : decode cX1_addName 34 = .ok (.aload_n 0, 1) := by decide +kernel
theorem dX1_addName_35 : decode cX1_addName 35 = .ok (.dup, 1) := by decide +kernel
theorem dX1_addName_36 : decode cX1_addName 36 = .ok (.getfield 36, 3) := by decide +kernel
theorem dX1_addName_39 : decode cX1_addName 39 = .ok (.iconst 1, 1) := by decide +kernel
theorem dX1_addName_40 : decode cX1_addName 40 = .ok (.iadd, 1) := by decide +kernel
theorem dX1_addName_41 : decode cX1_addName 41 = .ok (.putfield 36, 3) := by decide +kernel
theorem dX1_addName_44 : decode cX1_addName 44 = .ok (.iload_n 3, 1) := by decide +kernel
theorem dX1_addName_45 : decode cX1_addName 45 = .ok (.ireturn, 1) := by decide +kernel
theorem dX1_addRow_0 : decode cX1_addRow 0 = .ok (.aload_n 0, 1) := by decide +kernel
theorem dX1_addRow_1 : decode cX1_addRow 1 = .ok (.getfield 40, 3) := by decide +kernel
theorem dX1_addRow_4 : decode cX1_addRow 4 = .ok (.istore_n 3, 1) := by decide +kernel
theorem dX1_addRow_5 : decode cX1_addRow 5 = .ok (.iload_n 3, 1) := by decide +kernel
theorem dX1_addRow_6 : decode cX1_addRow 6 = .ok (.bipush 8, 2) := by decide +kernel
theorem dX1_addRow_8 : decode cX1_addRow 8 = .ok (.if_icmp .lt 6, 3) := by decide +kernel
theorem dX1_addRow_11 : decode cX1_addRow 11 = .ok (.bipush (-4), 2) := by decide +kernel
theorem dX1_addRow_13 : decode cX1_addRow 13 = .ok (.ireturn, 1) := by decide +kernel
theorem dX1_addRow_14 : decode cX1_addRow 14 = .ok (.aload_n 0, 1) := by decide +kernel
theorem dX1_addRow_15 : decode cX1_addRow 15 = .ok (.getfield 21, 3) := by decide +kernel
theorem dX1_addRow_18 : decode cX1_addRow 18 = .ok (.iload_n 3, 1) := by decide +kernel
theorem dX1_addRow_19 : decode cX1_addRow 19 = .ok (.iload_n 1, 1) := by decide +kernel
theorem dX1_addRow_20 : decode cX1_addRow 20 = .ok (.iastore, 1) := by decide +kernel
theorem dX1_addRow_21 : decode cX1_addRow 21 = .ok (.aload_n 0, 1) := by decide +kernel
theorem dX1_addRow_22 : decode cX1_addRow 22 = .ok (.getfield 24, 3) := by decide +kernel
theorem dX1_addRow_25 : decode cX1_addRow 25 = .ok (.iload_n 3, 1) := by decide +kernel
theorem dX1_addRow_26 : decode cX1_addRow 26 = .ok (.iload_n 2, 1) := by decide +kernel
theorem dX1_addRow_27 : decode cX1_addRow 27 = .ok (.iastore, 1) := by decide +kernel
theorem dX1_addRow_28 : decode cX1_addRow 28 = .ok (.aload_n 0, 1) := by decide +kernel
theorem dX1_addRow_29 : decode cX1_addRow 29 = .ok (.getfield 32, 3) := by decide +kernel
theorem dX1_addRow_32 : decode cX1_addRow 32 = .ok (.iload_n 3, 1) := by decide +kernel
theorem dX1_addRow_33 : decode cX1_addRow 33 = .ok (.iconst 1, 1) := by decide +kernel
theorem dX1_addRow_34 : decode cX1_addRow 34 = .ok (.bastore, 1) := by decide +kernel
theorem dX1_addRow_35 : decode cX1_addRow 35 = .ok (.iconst 0, 1) := by decide +kernel
theorem dX1_addRow_36 : decode cX1_addRow 36 = .ok (.istore 4, 2) := by decide +kernel
theorem dX1_addRow_38 : decode cX1_addRow 38 = .ok (.iload 4, 2) := by decide +kernel
theorem dX1_addRow_40 : decode cX1_addRow 40 = .ok (.iconst 5, 1) := by decide +kernel
theorem dX1_addRow_41 : decode cX1_addRow 41 = .ok (.if_icmp .ge 19, 3) := by decide +kernel
theorem dX1_addRow_44 : decode cX1_addRow 44 = .ok (.aload_n 0, 1) := by decide +kernel
theorem dX1_addRow_45 : decode cX1_addRow 45 = .ok (.getfield 29, 3) := by decide +kernel
theorem dX1_addRow_48 : decode cX1_addRow 48 = .ok (.iload_n 3, 1) := by decide +kernel
theorem dX1_addRow_49 : decode cX1_addRow 49 = .ok (.aaload, 1) := by decide +kernel
theorem dX1_addRow_50 : decode cX1_addRow 50 = .ok (.iload 4, 2) := by decide +kernel
theorem dX1_addRow_52 : decode cX1_addRow 52 = .ok (.iconst 0, 1) := by decide +kernel
theorem dX1_addRow_53 : decode cX1_addRow 53 = .ok (.iastore, 1) := by decide +kernel
theorem dX1_addRow_54 : decode cX1_addRow 54 = .ok (.iinc 4 1, 3) := by decide +kernel
theorem dX1_addRow_57 : decode cX1_addRow 57 = .ok (.goto (-19), 3) := by decide +kernel
theorem dX1_addRow_60 : decode cX1_addRow 60 = .ok (.aload_n 0, 1) := by decide +kernel
theorem dX1_addRow_61 : decode cX1_addRow 61 = .ok (.dup, 1) := by decide +kernel
theorem dX1_addRow_62 : decode cX1_addRow 62 = .ok (.getfield 40, 3) := by decide +kernel
theorem dX1_addRow_65 : decode cX1_addRow 65 = .ok (.iconst 1, 1) := by decide +kernel
theorem dX1_addRow_66 : decode cX1_addRow 66 = .ok (.iadd, 1) := by decide +kernel
theorem dX1_addRow_67 : decode cX1_addRow 67 = .ok (.putfield 40, 3) := by decide +kernel
theorem dX1_addRow_70 : decode cX1_addRow 70 = .ok (.iload_n 3, 1) := by decide +kernel
theorem dX1_addRow_71 : decode cX1_addRow 71 = .ok (.ireturn, 1) := by decide +kernel
theorem dX1_countRows_0 : decode cX1_countRows 0 = .ok (.iconst 0, 1) := by decide +kernel
theorem dX1_countRows_1 : decode cX1_countRows 1 = .ok (.istore_n 1, 1) := by decide +kernel
theorem dX1_countRows_2 : decode cX1_countRows 2 = .ok (.iconst 0, 1) := by decide +kernel
theorem dX1_countRows_3 : decode cX1_countRows 3 = .ok (.istore_n 2, 1) := by decide +kernel
theorem dX1_countRows_4 : decode cX1_countRows 4 = .ok (.iload_n 2, 1) := by decide +kernel
theorem dX1_countRows_5 : decode cX1_countRows 5 = .ok (.aload_n 0, 1) := by decide +kernel
theorem dX1_countRows_6 : decode cX1_countRows 6 = .ok (.getfield 40, 3) := by decide +kernel
theorem dX1_countRows_9 : decode cX1_countRows 9 = .ok (.if_icmp .ge 21, 3) := by decide +kernel
theorem dX1_countRows_12 : decode cX1_countRows 12 = .ok (.aload_n 0, 1) := by decide +kernel
theorem dX1_countRows_13 : decode cX1_countRows 13 = .ok (.getfield 32, 3) := by decide +kernel
theorem dX1_countRows_16 : decode cX1_countRows 16 = .ok (.iload_n 2, 1) := by decide +kernel
theorem dX1_countRows_17 : decode cX1_countRows 17 = .ok (.baload, 1) := by decide +kernel
theorem dX1_countRows_18 : decode cX1_countRows 18 = .ok (.ifCond .eq 6, 3) := by decide +kernel
theorem dX1_countRows_21 : decode cX1_countRows 21 = .ok (.iinc 1 1, 3) := by decide +kernel
theorem dX1_countRows_24 : decode cX1_countRows 24 = .ok (.iinc 2 1, 3) := by decide +kernel
theorem dX1_countRows_27 : decode cX1_countRows 27 = .ok (.goto (-23), 3) := by decide +kernel
theorem dX1_countRows_30 : decode cX1_countRows 30 = .ok (.iload_n 1, 1) := by decide +kernel
theorem dX1_countRows_31 : decode cX1_countRows 31 = .ok (.ireturn, 1) := by decide +kernel
theorem dX1_countWhole_0 : decode cX1_countWhole 0 = .ok (.lconst 1, 1) := by decide +kernel
theorem dX1_countWhole_1 : decode cX1_countWhole 1 = .ok (.lstore_n 1, 1) := by decide +kernel
theorem dX1_countWhole_2 : decode cX1_countWhole 2 = .ok (.iconst 0, 1) := by decide +kernel
theorem dX1_countWhole_3 : decode cX1_countWhole 3 = .ok (.istore_n 3, 1) := by decide +kernel
theorem dX1_countWhole_4 : decode cX1_countWhole 4 = .ok (.iload_n 3, 1) := by decide +kernel
theorem dX1_countWhole_5 : decode cX1_countWhole 5 = .ok (.aload_n 0, 1) := by decide +kernel
theorem dX1_countWhole_6 : decode cX1_countWhole 6 = .ok (.getfield 36, 3) := by decide +kernel
theorem dX1_countWhole_9 : decode cX1_countWhole 9 = .ok (.if_icmp .ge 28, 3) := by decide +kernel
theorem dX1_countWhole_12 : decode cX1_countWhole 12 = .ok (.lload_n 1, 1) := by decide +kernel
theorem dX1_countWhole_13 : decode cX1_countWhole 13 = .ok (.aload_n 0, 1) := by decide +kernel
theorem dX1_countWhole_14 : decode cX1_countWhole 14 = .ok (.getfield 15, 3) := by decide +kernel
theorem dX1_countWhole_17 : decode cX1_countWhole 17 = .ok (.iload_n 3, 1) := by decide +kernel
theorem dX1_countWhole_18 : decode cX1_countWhole 18 = .ok (.iaload, 1) := by decide +kernel
theorem dX1_countWhole_19 : decode cX1_countWhole 19 = .ok (.aload_n 0, 1) := by decide +kernel
theorem dX1_countWhole_20 : decode cX1_countWhole 20 = .ok (.getfield 9, 3) := by decide +kernel
theorem dX1_countWhole_23 : decode cX1_countWhole 23 = .ok (.iload_n 3, 1) := by decide +kernel
theorem dX1_countWhole_24 : decode cX1_countWhole 24 = .ok (.iaload, 1) := by decide +kernel
theorem dX1_countWhole_25 : decode cX1_countWhole 25 = .ok (.isub, 1) := by decide +kernel
theorem dX1_countWhole_26 : decode cX1_countWhole 26 = .ok (.iconst 1, 1) := by decide +kernel
theorem dX1_countWhole_27 : decode cX1_countWhole 27 = .ok (.iadd, 1) := by decide +kernel
theorem dX1_countWhole_28 : decode cX1_countWhole 28 = .ok (.i2l, 1) := by decide +kernel
theorem dX1_countWhole_29 : decode cX1_countWhole 29 = .ok (.lmul, 1) := by decide +kernel
theorem dX1_countWhole_30 : decode cX1_countWhole 30 = .ok (.lstore_n 1, 1) := by decide +kernel
theorem dX1_countWhole_31 : decode cX1_countWhole 31 = .ok (.iinc 3 1, 3) := by decide +kernel
theorem dX1_countWhole_34 : decode cX1_countWhole 34 = .ok (.goto (-30), 3) := by decide +kernel
theorem dX1_countWhole_37 : decode cX1_countWhole 37 = .ok (.lload_n 1, 1) := by decide +kernel
theorem dX1_countWhole_38 : decode cX1_countWhole 38 = .ok (.lreturn, 1) := by decide +kernel
theorem dX1_limitsFromAbove_0 : decode cX1_limitsFromAbove 0 = .ok (.aload_n 0, 1) := by decide +kernel
theorem dX1_limitsFromAbove_1 : decode cX1_limitsFromAbove 1 = .ok (.getfield 21, 3) := by decide +kernel
theorem dX1_limitsFromAbove_4 : decode cX1_limitsFromAbove 4 = .ok (.iload_n 1, 1) := by decide +kernel
theorem dX1_limitsFromAbove_5 : decode cX1_limitsFromAbove 5 = .ok (.iaload, 1) := by decide +kernel
theorem dX1_limitsFromAbove_6 : decode cX1_limitsFromAbove 6 = .ok (.ifCond .eq 13, 3) := by decide +kernel
theorem dX1_limitsFromAbove_9 : decode cX1_limitsFromAbove 9 = .ok (.aload_n 0, 1) := by decide +kernel
theorem dX1_limitsFromAbove_10 : decode cX1_limitsFromAbove 10 = .ok (.getfield 21, 3) := by decide +kernel
theorem dX1_limitsFromAbove_13 : decode cX1_limitsFromAbove 13 = .ok (.iload_n 1, 1) := by decide +kernel
theorem dX1_limitsFromAbove_14 : decode cX1_limitsFromAbove 14 = .ok (.iaload, 1) := by decide +kernel
theorem dX1_limitsFromAbove_15 : decode cX1_limitsFromAbove 15 = .ok (.iconst 1, 1) := by decide +kernel
theorem dX1_limitsFromAbove_16 : decode cX1_limitsFromAbove 16 = .ok (.if_icmp .ne 7, 3) := by decide +kernel
theorem dX1_limitsFromAbove_19 : decode cX1_limitsFromAbove 19 = .ok (.iconst 1, 1) := by decide +kernel
theorem dX1_limitsFromAbove_20 : decode cX1_limitsFromAbove 20 = .ok (.goto 4, 3) := by decide +kernel
theorem dX1_limitsFromAbove_23 : decode cX1_limitsFromAbove 23 = .ok (.iconst 0, 1) := by decide +kernel
theorem dX1_limitsFromAbove_24 : decode cX1_limitsFromAbove 24 = .ok (.ireturn, 1) := by decide +kernel
theorem dX1_limitsFromBelow_0 : decode cX1_limitsFromBelow 0 = .ok (.aload_n 0, 1) := by decide +kernel
theorem dX1_limitsFromBelow_1 : decode cX1_limitsFromBelow 1 = .ok (.getfield 21, 3) := by decide +kernel
theorem dX1_limitsFromBelow_4 : decode cX1_limitsFromBelow 4 = .ok (.iload_n 1, 1) := by decide +kernel
theorem dX1_limitsFromBelow_5 : decode cX1_limitsFromBelow 5 = .ok (.iaload, 1) := by decide +kernel
theorem dX1_limitsFromBelow_6 : decode cX1_limitsFromBelow 6 = .ok (.iconst 2, 1) := by decide +kernel
theorem dX1_limitsFromBelow_7 : decode cX1_limitsFromBelow 7 = .ok (.if_icmp .eq 13, 3) := by decide +kernel
theorem dX1_limitsFromBelow_10 : decode cX1_limitsFromBelow 10 = .ok (.aload_n 0, 1) := by decide +kernel
theorem dX1_limitsFromBelow_11 : decode cX1_limitsFromBelow 11 = .ok (.getfield 21, 3) := by decide +kernel
theorem dX1_limitsFromBelow_14 : decode cX1_limitsFromBelow 14 = .ok (.iload_n 1, 1) := by decide +kernel
theorem dX1_limitsFromBelow_15 : decode cX1_limitsFromBelow 15 = .ok (.iaload, 1) := by decide +kernel
theorem dX1_limitsFromBelow_16 : decode cX1_limitsFromBelow 16 = .ok (.iconst 1, 1) := by decide +kernel
theorem dX1_limitsFromBelow_17 : decode cX1_limitsFromBelow 17 = .ok (.if_icmp .ne 7, 3) := by decide +kernel
theorem dX1_limitsFromBelow_20 : decode cX1_limitsFromBelow 20 = .ok (.iconst 1, 1) := by decide +kernel
theorem dX1_limitsFromBelow_21 : decode cX1_limitsFromBelow 21 = .ok (.goto 4, 3) := by decide +kernel
theorem dX1_limitsFromBelow_24 : decode cX1_limitsFromBelow 24 = .ok (.iconst 0, 1) := by decide +kernel
theorem dX1_limitsFromBelow_25 : decode cX1_limitsFromBelow 25 = .ok (.ireturn, 1) := by decide +kernel
set_option maxRecDepth 20000 in
theorem ggX2_init_X0_init : GoodIn wsX2_init wsX0_init := goodIn_r _ [15, 16, 2, 3, 17, 10, 18, 19, 8, 20, 21, 22, 23, 24, 25, 26, 27, 28, 29, 30, 31, 32, 33, 34] (by decide +kernel) (by decide +kernel)
set_option maxRecDepth 20000 in
theorem gX2_init_X0_init_n11 : GoodIn wsX2_init (wsX0_init) := ggX2_init_X0_init
end
section
theorem dX2_init_0 : decode cX2_init 0 = .ok (.aload_n 0, 1) := by decide +kernel
theorem dX2_init_1 : decode cX2_init 1 = .ok (.invokespecial 3, 3) := by decide +kernel
theorem dX2_init_4 : decode cX2_init 4 = .ok (.aload_n 0, 1) := by decide +kernel
theorem dX2_init_5 : decode cX2_init 5 = .ok (.new 9, 3) := by decide +kernel
theorem dX2_init_8 : decode cX2_init 8 = .ok (.dup, 1) := by decide +kernel
theorem dX2_init_9 : decode cX2_init 9 = .ok (.invokespecial 11, 3) := by decide +kernel
theorem dX2_init_12 : decode cX2_init 12 = .ok (.putfield 12, 3) := by decide +kernel
theorem dX2_init_15 : decode cX2_init 15 = .ok (.aload_n 0, 1) := by decide +kernel
theorem dX2_init_16 : decode cX2_init 16 = .ok (.iconst 5, 1) := by decide +kernel
theorem dX2_init_17 : decode cX2_init 17 = .ok (.newarray .int, 2) := by decide +kernel
theorem dX2_init_19 : decode cX2_init 19 = .ok (.putfield 18, 3) := by decide +kernel
theorem dX2_init_22 : decode cX2_init 22 = .ok (.aload_n 0, 1) := by decide +kernel
theorem dX2_init_23 : decode cX2_init 23 = .ok (.iconst 5, 1) := by decide +kernel
theorem dX2_init_24 : decode cX2_init 24 = .ok (.newarray .long, 2) := by decide +kernel
theorem dX2_init_26 : decode cX2_init 26 = .ok (.putfield 22, 3) := by decide +kernel
theorem dX2_init_29 : decode cX2_init 29 = .ok (.aload_n 0, 1) := by decide +kernel
theorem dX2_init_30 : decode cX2_init 30 = .ok (.lconst 1, 1) := by decide +kernel
theorem dX2_init_31 : decode cX2_init 31 = .ok (.putfield 26, 3) := by decide +kernel
theorem dX2_init_34 : decode cX2_init 34 = .ok (.aload_n 0, 1) := by decide +kernel
theorem dX2_init_35 : decode cX2_init 35 = .ok (.aload_n 1, 1) := by decide +kernel
theorem dX2_init_36 : decode cX2_init 36 = .ok (.putfield 30, 3) := by decide +kernel
theorem dX2_init_39 : decode cX2_init 39 = .ok (.return_, 1) := by decide +kernel
theorem dX2_forget_0 : decode cX2_forget 0 = .ok (.aload_n 0, 1) := by decide +kernel
theorem dX2_forget_1 : decode cX2_forget 1 = .ok (.iconst 0, 1) := by decide +kernel
theorem dX2_forget_2 : decode cX2_forget 2 = .ok (.putfield 34, 3) := by decide +kernel
theorem dX2_forget_5 : decode cX2_forget 5 = .ok (.aload_n 0, 1) := by decide +kernel
theorem dX2_forget_6 : decode cX2_forget 6 = .ok (.iconst 0, 1) := by decide +kernel
theorem dX2_forget_7 : decode cX2_forget 7 = .ok (.putfield 38, 3) := by decide +kernel
theorem dX2_forget_10 : decode cX2_forget 10 = .ok (.aload_n 0, 1) := by decide +kernel
theorem dX2_forget_11 : decode cX2_forget 11 = .ok (.iconst 0, 1) := by decide +kernel
theorem dX2_forget_12 : decode cX2_forget 12 = .ok (.putfield 41, 3) := by decide +kernel
theorem dX2_forget_15 : decode cX2_forget 15 = .ok (.return_, 1) := by decide +kernel
set_option maxRecDepth 20000 in
theorem ggX2_hasPoint_X2_allRows : GoodIn wsX2_hasPoint wsX2_allRows := goodIn_r _ [7, 8, 9, 10, 93, 94, 95, 96, 97, 98, 99, 100, 101, 102, 103, 104, 105, 106, 107, 108, 109, 110, 111] (by decide +kernel) (by decide +kernel)
set_option maxRecDepth 20000 in
theorem gX2_hasPoint_X2_allRows : GoodIn wsX2_hasPoint (wsV RX2 44 RX2 yX2_allRows wsX2_allRows) := goodIn_app (goodIn_of _ (by decide +kernel)) ggX2_hasPoint_X2_allRows
set_option maxRecDepth 20000 in
theorem ggX2_hasPoint_X2_canKeep : GoodIn wsX2_hasPoint wsX2_canKeep := goodIn_r _ [14, 15, 8, 16, 17, 18, 19, 9, 20, 21, 22, 23, 24, 25, 26, 27, 28, 29, 30, 31, 32, 33, 34, 35, 36, 37, 38, 39, 40, 6, 41, 42, 43, 44, 45, 46, 47, 48, 49, 50, 51, 52, 53, 54, 55, 56, 57, 58, 59, 60, 61, 62, 63, 64, 65, 66, 67, 68, 69, 70, 71, 72, 73, 74, 75, 76, 77, 78, 79, 80, 81, 82, 83, 84, 85, 86, 87, 88, 89, 90, 91, 92, 93, 94, 95, 96, 97, 98, 99, 100, 101, 102, 103, 104, 105, 106, 107, 108, 109, 110, 111, 112, 113, 114, 115, 116, 117, 118, 119, 120] (by decide +kernel) (by decide +kernel)
set_option maxRecDepth 20000 in
theorem gX2_hasPoint_X2_canKeep : GoodIn wsX2_hasPoint (wsV RX2 48 RX2 yX2_canKeep wsX2_canKeep) := goodIn_app (goodIn_of _ (by decide +kernel)) ggX2_hasPoint_X2_canKeep
theorem dX2_hasPoint_0 : decode cX2_hasPoint 0 = .ok (.aload_n 0, 1) := by decide +kernel
theorem dX2_hasPoint_1 : decode cX2_hasPoint 1 = .ok (.getfield 34, 3) := by decide +kernel
theorem dX2_hasPoint_4 : decode cX2_hasPoint 4 = .ok (.ifCond .ne 20, 3) := by decide +kernel
theorem dX2_hasPoint_7 : decode cX2_hasPoint 7 = .ok (.aload_n 0, 1) := by decide +kernel
theorem dX2_hasPoint_8 : decode cX2_hasPoint 8 = .ok (.aload_n 0, 1) := by decide +kernel
theorem dX2_hasPoint_9 : decode cX2_hasPoint 9 = .ok (.aload_n 0, 1) := by decide +kernel
theorem dX2_hasPoint_10 : decode cX2_hasPoint 10 = .ok (.invokevirtual 44, 3) := by decide +kernel
theorem dX2_hasPoint_13 : decode cX2_hasPoint 13 = .ok (.invokevirtual 48, 3) := by decide +kernel
theorem dX2_hasPoint_16 : decode cX2_hasPoint 16 = .ok (.putfield 52, 3) := by decide +kernel
theorem dX2_hasPoint_19 : decode cX2_hasPoint 19 = .ok (.aload_n 0, 1) := by decide +kernel
theorem dX2_hasPoint_20 : decode cX2_hasPoint 20 = .ok (.iconst 1, 1) := by decide +kernel
theorem dX2_hasPoint_21 : decode cX2_hasPoint 21 = .ok (.putfield 34, 3) := by decide +kernel
theorem dX2_hasPoint_24 : decode cX2_hasPoint 24 = .ok (.aload_n 0, 1) := by decide +kernel
theorem dX2_hasPoint_25 : decode cX2_hasPoint 25 = .ok (.getfield 52, 3) := by decide +kernel
theorem dX2_hasPoint_28 : decode cX2_hasPoint 28 = .ok (.ireturn, 1) := by decide +kernel
set_option maxRecDepth 20000 in
theorem ggX2_leastCost_X2_findFirstBest : GoodIn wsX2_leastCost wsX2_findFirstBest := goodIn_r _ [10, 11, 12, 1, 2, 13, 4, 5, 14, 15, 16, 17, 18, 19, 20, 21, 22, 23, 9, 24, 3, 25, 26, 27, 28, 29, 30, 31, 32, 33, 34, 35, 36, 37, 38, 39, 40, 41, 42, 43, 44, 45, 46, 47, 48, 49, 50, 51, 52, 53, 54, 55, 56, 57, 58, 59, 60, 61, 62, 63, 64, 65, 66, 67, 68, 69, 70, 71, 72, 73, 74, 75, 76, 77, 78, 79, 80, 81, 82, 83, 84, 85, 86, 87, 88, 89, 97, 98, 99, 100, 101, 102, 103, 104, 105, 106, 107, 108, 109, 110, 111, 112, 113, 114, 115, 116, 117, 118, 119, 120, 121, 122, 123, 124] (by decide +kernel) (by decide +kernel)
set_option maxRecDepth 20000 in
theorem gX2_leastCost_X2_findFirstBest : GoodIn wsX2_leastCost (wsV RX2 55 RX2 yX2_findFirstBest wsX2_findFirstBest) := goodIn_app (goodIn_of _ (by decide +kernel)) ggX2_leastCost_X2_findFirstBest
set_option maxRecDepth 20000 in
theorem ggX2_leastCost_X2_partOf : GoodIn wsX2_leastCost wsX2_partOf := goodIn_r _ [92, 93, 94, 9, 95, 96, 58, 59, 60] (by decide +kernel) (by decide +kernel)
set_option maxRecDepth 20000 in
theorem gX2_leastCost_X2_partOf : GoodIn wsX2_leastCost (va_wsS RX2 67 yX2_partOf wsX2_partOf) := goodIn_app (goodIn_of _ (by decide +kernel)) ggX2_leastCost_X2_partOf
theorem dX2_leastCost_0 : decode cX2_leastCost 0 = .ok (.aload_n 0, 1) := by decide +kernel
theorem dX2_leastCost_1 : decode cX2_leastCost 1 = .ok (.invokevirtual 55, 3) := by decide +kernel
theorem dX2_leastCost_4 : decode cX2_leastCost 4 = .ok (.lconst 0, 1) := by decide +kernel
theorem dX2_leastCost_5 : decode cX2_leastCost 5 = .ok (.lstore_n 2, 1) := by decide +kernel
theorem dX2_leastCost_6 : decode cX2_leastCost 6 = .ok (.iconst 0, 1) := by decide +kernel
theorem dX2_leastCost_7 : decode cX2_leastCost 7 = .ok (.istore 4, 2) := by decide +kernel
theorem dX2_leastCost_9 : decode cX2_leastCost 9 = .ok (.iload 4, 2) := by decide +kernel
theorem dX2_leastCost_11 : decode cX2_leastCost 11 = .ok (.aload_n 0, 1) := by decide +kernel
theorem dX2_leastCost_12 : decode cX2_leastCost 12 = .ok (.getfield 30, 3) := by decide +kernel
theorem dX2_leastCost_15 : decode cX2_leastCost 15 = .ok (.getfield 58, 3) := by decide +kernel
theorem dX2_leastCost_18 : decode cX2_leastCost 18 = .ok (.if_icmp .ge 31, 3) := by decide +kernel
theorem dX2_leastCost_21 : decode cX2_leastCost 21 = .ok (.lload_n 2, 1) := by decide +kernel
theorem dX2_leastCost_22 : decode cX2_leastCost 22 = .ok (.aload_n 0, 1) := by decide +kernel
theorem dX2_leastCost_23 : decode cX2_leastCost 23 = .ok (.getfield 30, 3) := by decide +kernel
theorem dX2_leastCost_26 : decode cX2_leastCost 26 = .ok (.getfield 64, 3) := by decide +kernel
theorem dX2_leastCost_29 : decode cX2_leastCost 29 = .ok (.iload 4, 2) := by decide +kernel
theorem dX2_leastCost_31 : decode cX2_leastCost 31 = .ok (.iaload, 1) := by decide +kernel
theorem dX2_leastCost_32 : decode cX2_leastCost 32 = .ok (.i2l, 1) := by decide +kernel
theorem dX2_leastCost_33 : decode cX2_leastCost 33 = .ok (.aload_n 0, 1) := by decide +kernel
theorem dX2_leastCost_34 : decode cX2_leastCost 34 = .ok (.getfield 22, 3) := by decide +kernel
theorem dX2_leastCost_37 : decode cX2_leastCost 37 = .ok (.iload 4, 2) := by decide +kernel
theorem dX2_leastCost_39 : decode cX2_leastCost 39 = .ok (.laload, 1) := by decide +kernel
theorem dX2_leastCost_40 : decode cX2_leastCost 40 = .ok (.lmul, 1) := by decide +kernel
theorem dX2_leastCost_41 : decode cX2_leastCost 41 = .ok (.ladd, 1) := by decide +kernel
theorem dX2_leastCost_42 : decode cX2_leastCost 42 = .ok (.lstore_n 2, 1) := by decide +kernel
theorem dX2_leastCost_43 : decode cX2_leastCost 43 = .ok (.iinc 4 1, 3) := by decide +kernel
theorem dX2_leastCost_46 : decode cX2_leastCost 46 = .ok (.goto (-37), 3) := by decide +kernel
theorem dX2_leastCost_49 : decode cX2_leastCost 49 = .ok (.lload_n 2, 1) := by decide +kernel
theorem dX2_leastCost_50 : decode cX2_leastCost 50 = .ok (.aload_n 0, 1) := by decide +kernel
theorem dX2_leastCost_51 : decode cX2_leastCost 51 = .ok (.getfield 26, 3) := by decide +kernel
theorem dX2_leastCost_54 : decode cX2_leastCost 54 = .ok (.iload_n 1, 1) := by decide +kernel
theorem dX2_leastCost_55 : decode cX2_leastCost 55 = .ok (.invokestatic 67, 3) := by decide +kernel
theorem dX2_leastCost_58 : decode cX2_leastCost 58 = .ok (.lreturn, 1) := by decide +kernel
set_option maxRecDepth 20000 in
theorem ggX2_firstBestOf_X2_findFirstBest : GoodIn wsX2_firstBestOf wsX2_findFirstBest := goodIn_r _ [7, 8, 9, 10, 11, 12, 1, 2, 13, 14, 15, 16, 17, 18, 19, 20, 21, 22, 6, 23, 24, 25, 26, 27, 28, 29, 30, 31, 32, 33, 34, 35, 36, 37, 38, 39, 40, 41, 42, 43, 44, 45, 46, 47, 48, 49, 50, 51, 52, 53, 54, 55, 56, 57, 58, 59, 60, 61, 62, 63, 64, 65, 66, 67, 68, 69, 70, 71, 72, 73, 74, 75, 76, 77, 78, 79, 80, 81, 82, 83, 84, 85, 86, 87, 88, 89, 97, 98, 99, 100, 101, 102, 103, 104, 105, 106, 107, 108, 109, 110, 111, 112, 113, 114, 115, 116, 117, 118, 119, 120, 121, 122, 123, 124] (by decide +kernel) (by decide +kernel)
set_option maxRecDepth 20000 in
theorem gX2_firstBestOf_X2_findFirstBest : GoodIn wsX2_firstBestOf (wsV RX2 55 RX2 yX2_findFirstBest wsX2_findFirstBest) := goodIn_app (goodIn_of _ (by decide +kernel)) ggX2_firstBestOf_X2_findFirstBest
set_option maxRecDepth 20000 in
theorem ggX2_firstBestOf_X2_partOf : GoodIn wsX2_firstBestOf wsX2_partOf := goodIn_r _ [92, 93, 94, 6, 95, 96, 58, 59, 60] (by decide +kernel) (by decide +kernel)
set_option maxRecDepth 20000 in
theorem gX2_firstBestOf_X2_partOf : GoodIn wsX2_firstBestOf (va_wsS RX2 67 yX2_partOf wsX2_partOf) := goodIn_app (goodIn_of _ (by decide +kernel)) ggX2_firstBestOf_X2_partOf
theorem dX2_firstBestOf_0 : decode cX2_firstBestOf 0 = .ok (.aload_n 0, 1) := by decide +kernel
theorem dX2_firstBestOf_1 : decode cX2_firstBestOf 1 = .ok (.invokevirtual 55, 3) := by decide +kernel
theorem dX2_firstBestOf_4 : decode cX2_firstBestOf 4 = .ok (.aload_n 0, 1) := by decide +kernel
theorem dX2_firstBestOf_5 : decode cX2_firstBestOf 5 = .ok (.getfield 22, 3) := by decide +kernel
theorem dX2_firstBestOf_8 : decode cX2_firstBestOf 8 = .ok (.iload_n 1, 1) := by decide +kernel
theorem dX2_firstBestOf_9 : decode cX2_firstBestOf 9 = .ok (.laload, 1) := by decide +kernel
theorem dX2_firstBestOf_10 : decode cX2_firstBestOf 10 = .ok (.aload_n 0, 1) := by decide +kernel
theorem dX2_firstBestOf_11 : decode cX2_firstBestOf 11 = .ok (.getfield 26, 3) := by decide +kernel
theorem dX2_firstBestOf_14 : decode cX2_firstBestOf 14 = .ok (.iload_n 2, 1) := by decide +kernel
theorem dX2_firstBestOf_15 : decode cX2_firstBestOf 15 = .ok (.invokestatic 67, 3) := by decide +kernel
theorem dX2_firstBestOf_18 : decode cX2_firstBestOf 18 = .ok (.lreturn, 1) := by decide +kernel
set_option maxRecDepth 20000 in
theorem ggX2_isTight_X2_findFirstBest : GoodIn wsX2_isTight wsX2_findFirstBest := goodIn_r _ [11, 12, 13, 1, 2, 14, 4, 6, 15, 16, 17, 18, 19, 20, 21, 22, 23, 24, 10, 25, 26, 27, 28, 29, 30, 31, 32, 33, 34, 35, 36, 37, 38, 39, 40, 41, 42, 43, 44, 45, 46, 47, 48, 49, 50, 51, 52, 53, 54, 55, 56, 57, 58, 59, 60, 61, 62, 63, 64, 65, 66, 67, 68, 69, 70, 71, 72, 73, 74, 75, 76, 77, 78, 79, 80, 81, 82, 83, 84, 85, 86, 87, 88, 89, 90, 91, 92, 93, 94, 95, 96, 97, 98, 99, 100, 101, 102, 103, 104, 105, 106, 107, 108, 109, 110, 111, 112, 113, 114, 115, 116, 117, 118, 119] (by decide +kernel) (by decide +kernel)
set_option maxRecDepth 20000 in
theorem gX2_isTight_X2_findFirstBest : GoodIn wsX2_isTight (wsV RX2 55 RX2 yX2_findFirstBest wsX2_findFirstBest) := goodIn_app (goodIn_of _ (by decide +kernel)) ggX2_isTight_X2_findFirstBest
theorem dX2_isTight_0 : decode cX2_isTight 0 = .ok (.aload_n 0, 1) := by decide +kernel
theorem dX2_isTight_1 : decode cX2_isTight 1 = .ok (.invokevirtual 55, 3) := by decide +kernel
theorem dX2_isTight_4 : decode cX2_isTight 4 = .ok (.lconst 0, 1) := by decide +kernel
theorem dX2_isTight_5 : decode cX2_isTight 5 = .ok (.lstore_n 2, 1) := by decide +kernel
theorem dX2_isTight_6 : decode cX2_isTight 6 = .ok (.iconst 0, 1) := by decide +kernel
theorem dX2_isTight_7 : decode cX2_isTight 7 = .ok (.istore 4, 2) := by decide +kernel
theorem dX2_isTight_9 : decode cX2_isTight 9 = .ok (.iload 4, 2) := by decide +kernel
theorem dX2_isTight_11 : decode cX2_isTight 11 = .ok (.aload_n 0, 1) := by decide +kernel
theorem dX2_isTight_12 : decode cX2_isTight 12 = .ok (.getfield 30, 3) := by decide +kernel
theorem dX2_isTight_15 : decode cX2_isTight 15 = .ok (.getfield 58, 3) := by decide +kernel
theorem dX2_isTight_18 : decode cX2_isTight 18 = .ok (.if_icmp .ge 33, 3) := by decide +kernel
theorem dX2_isTight_21 : decode cX2_isTight 21 = .ok (.lload_n 2, 1) := by decide +kernel
theorem dX2_isTight_22 : decode cX2_isTight 22 = .ok (.aload_n 0, 1) := by decide +kernel
theorem dX2_isTight_23 : decode cX2_isTight 23 = .ok (.getfield 30, 3) := by decide +kernel
theorem dX2_isTight_26 : decode cX2_isTight 26 = .ok (.getfield 71, 3) := by decide +kernel
theorem dX2_isTight_29 : decode cX2_isTight 29 = .ok (.iload_n 1, 1) := by decide +kernel
theorem dX2_isTight_30 : decode cX2_isTight 30 = .ok (.aaload, 1) := by decide +kernel
theorem dX2_isTight_31 : decode cX2_isTight 31 = .ok (.iload 4, 2) := by decide +kernel
theorem dX2_isTight_33 : decode cX2_isTight 33 = .ok (.iaload, 1) := by decide +kernel
theorem dX2_isTight_34 : decode cX2_isTight 34 = .ok (.i2l, 1) := by decide +kernel
theorem dX2_isTight_35 : decode cX2_isTight 35 = .ok (.aload_n 0, 1) := by decide +kernel
theorem dX2_isTight_36 : decode cX2_isTight 36 = .ok (.getfield 22, 3) := by decide +kernel
theorem dX2_isTight_39 : decode cX2_isTight 39 = .ok (.iload 4, 2) := by decide +kernel
theorem dX2_isTight_41 : decode cX2_isTight 41 = .ok (.laload, 1) := by decide +kernel
theorem dX2_isTight_42 : decode cX2_isTight 42 = .ok (.lmul, 1) := by decide +kernel
theorem dX2_isTight_43 : decode cX2_isTight 43 = .ok (.ladd, 1) := by decide +kernel
theorem dX2_isTight_44 : decode cX2_isTight 44 = .ok (.lstore_n 2, 1) := by decide +kernel
theorem dX2_isTight_45 : decode cX2_isTight 45 = .ok (.iinc 4 1, 3) := by decide +kernel
theorem dX2_isTight_48 : decode cX2_isTight 48 = .ok (.goto (-39), 3) := by decide +kernel
theorem dX2_isTight_51 : decode cX2_isTight 51 = .ok (.lload_n 2, 1) := by decide +kernel
theorem dX2_isTight_52 : decode cX2_isTight 52 = .ok (.aload_n 0, 1) := by decide +kernel
theorem dX2_isTight_53 : decode cX2_isTight 53 = .ok (.getfield 30, 3) := by decide +kernel
theorem dX2_isTight_56 : decode cX2_isTight 56 = .ok (.getfield 75, 3) := by decide +kernel
theorem dX2_isTight_59 : decode cX2_isTight 59 = .ok (.iload_n 1, 1) := by decide +kernel
theorem dX2_isTight_60 : decode cX2_isTight 60 = .ok (.iaload, 1) := by decide +kernel
theorem dX2_isTight_61 : decode cX2_isTight 61 = .ok (.i2l, 1) := by decide +kernel
theorem dX2_isTight_62 : decode cX2_isTight 62 = .ok (.aload_n 0, 1) := by decide +kernel
theorem dX2_isTight_63 : decode cX2_isTight 63 = .ok (.getfield 26, 3) := by decide +kernel
theorem dX2_isTight_66 : decode cX2_isTight 66 = .ok (.lmul, 1) := by decide +kernel
theorem dX2_isTight_67 : decode cX2_isTight 67 = .ok (.lcmp, 1) := by decide +kernel
theorem dX2_isTight_68 : decode cX2_isTight 68 = .ok (.ifCond .ne 7, 3) := by decide +kernel
theorem dX2_isTight_71 : decode cX2_isTight 71 = .ok (.iconst 1, 1) := by decide +kernel
theorem dX2_isTight_72 : decode cX2_isTight 72 = .ok (.goto 4, 3) := by decide +kernel
theorem dX2_isTight_75 : decode cX2_isTight 75 = .ok (.iconst 0, 1) := by decide +kernel
theorem dX2_isTight_76 : decode cX2_isTight 76 = .ok (.ireturn, 1) := by decide +kernel
set_option maxRecDepth 20000 in
theorem ggX2_endAmongBest_X0_thawAll : GoodIn wsX2_endAmongBest wsX0_thawAll := goodIn_r _ [6, 7, 8, 103, 104, 105, 106, 107, 108, 109, 110, 111] (by decide +kernel) (by decide +kernel)
set_option maxRecDepth 20000 in
theorem gX2_endAmongBest_X0_thawAll : GoodIn wsX2_endAmongBest (wsV RX2 78 RX0 yX0_thawAll wsX0_thawAll) := goodIn_app (goodIn_of _ (by decide +kernel)) ggX2_endAmongBest_X0_thawAll
set_option maxRecDepth 20000 in
theorem ggX2_endAmongBest_X2_keepToBest : GoodIn wsX2_endAmongBest wsX2_keepToBest := goodIn_r _ [13, 1, 14, 15, 16, 17, 18, 5, 19, 7, 20, 21, 22, 23, 24, 25, 26, 27, 28, 29, 30, 31, 32, 33, 34, 8, 35, 36, 37, 38, 39, 40, 41, 42, 43, 44, 45, 46, 47, 48, 49, 50, 51, 52, 53, 54, 55, 56, 57, 58, 59, 60, 61, 62, 63, 93, 94, 95, 96, 97, 98, 99, 100, 101, 102, 112, 113, 114, 115, 116, 117, 118, 119, 120, 103, 104, 105, 106, 107, 108, 109, 110, 111] (by decide +kernel) (by decide +kernel)
set_option maxRecDepth 20000 in
theorem gX2_endAmongBest_X2_keepToBest : GoodIn wsX2_endAmongBest (wsV RX2 81 RX2 yX2_keepToBest wsX2_keepToBest) := goodIn_app (goodIn_of _ (by decide +kernel)) ggX2_endAmongBest_X2_keepToBest
set_option maxRecDepth 20000 in
theorem ggX2_endAmongBest_X2_endFromHere : GoodIn wsX2_endAmongBest wsX2_endFromHere := goodIn_r _ [67, 1, 68, 69, 70, 71, 12, 72, 16, 17, 18, 5, 19, 7, 20, 21, 22, 23, 24, 25, 26, 27, 28, 29, 30, 31, 32, 33, 34, 8, 35, 36, 37, 38, 39, 40, 41, 42, 43, 44, 45, 46, 47, 48, 49, 50, 51, 52, 53, 54, 55, 56, 57, 58, 59, 73, 74, 75, 76, 14, 77, 78, 79, 80, 81, 82, 83, 84, 85, 86, 87, 88, 89, 90, 91, 92, 93, 94, 95, 96, 97, 98, 99, 100, 101, 102, 103, 104, 105, 106, 107, 108, 109, 110, 111, 112, 113, 114, 115, 116, 117, 118, 119, 120] (by decide +kernel) (by decide +kernel)
set_option maxRecDepth 20000 in
theorem gX2_endAmongBest_X2_endFromHere : GoodIn wsX2_endAmongBest (wsV RX2 84 RX2 yX2_endFromHere wsX2_endFromHere) := goodIn_app (goodIn_of _ (by decide +kernel)) ggX2_endAmongBest_X2_endFromHere
theorem dX2_endAmongBest_0 : decode cX2_endAmongBest 0 = .ok (.aload_n 0, 1) := by decide +kernel
theorem dX2_endAmongBest_1 : decode cX2_endAmongBest 1 = .ok (.getfield 12, 3) := by decide +kernel
theorem dX2_endAmongBest_4 : decode cX2_endAmongBest 4 = .ok (.invokevirtual 78, 3) := by decide +kernel
theorem dX2_endAmongBest_7 : decode cX2_endAmongBest 7 = .ok (.aload_n 0, 1) := by decide +kernel
theorem dX2_endAmongBest_8 : decode cX2_endAmongBest 8 = .ok (.invokevirtual 81, 3) := by decide +kernel
theorem dX2_endAmongBest_11 : decode cX2_endAmongBest 11 = .ok (.aload_n 0, 1) := by decide +kernel
theorem dX2_endAmongBest_12 : decode cX2_endAmongBest 12 = .ok (.iload_n 1, 1) := by decide +kernel
theorem dX2_endAmongBest_13 : decode cX2_endAmongBest 13 = .ok (.iload_n 2, 1) := by decide +kernel
theorem dX2_endAmongBest_14 : decode cX2_endAmongBest 14 = .ok (.iload_n 3, 1) := by decide +kernel
theorem dX2_endAmongBest_15 : decode cX2_endAmongBest 15 = .ok (.invokevirtual 84, 3) := by decide +kernel
theorem dX2_endAmongBest_18 : decode cX2_endAmongBest 18 = .ok (.lreturn, 1) := by decide +kernel
set_option maxRecDepth 20000 in
theorem ggX2_endAmongAll_X0_thawAll : GoodIn wsX2_endAmongAll wsX0_thawAll := goodIn_r _ [6, 7, 8, 94, 95, 96, 97, 98, 99, 100, 101, 102] (by decide +kernel) (by decide +kernel)
set_option maxRecDepth 20000 in
theorem gX2_endAmongAll_X0_thawAll : GoodIn wsX2_endAmongAll (wsV RX2 78 RX0 yX0_thawAll wsX0_thawAll) := goodIn_app (goodIn_of _ (by decide +kernel)) ggX2_endAmongAll_X0_thawAll
set_option maxRecDepth 20000 in
theorem ggX2_endAmongAll_X2_endFromHere : GoodIn wsX2_endAmongAll wsX2_endFromHere := goodIn_r _ [13, 1, 14, 15, 16, 17, 12, 18, 19, 20, 21, 5, 22, 7, 23, 24, 25, 26, 27, 28, 29, 30, 31, 32, 33, 34, 35, 36, 37, 8, 38, 39, 40, 41, 42, 43, 44, 45, 46, 47, 48, 49, 50, 51, 52, 53, 54, 55, 56, 57, 58, 59, 60, 61, 62, 63, 64, 65, 66, 67, 68, 69, 70, 71, 72, 73, 74, 75, 76, 77, 78, 79, 80, 81, 82, 83, 84, 85, 86, 87, 88, 89, 90, 91, 92, 93, 94, 95, 96, 97, 98, 99, 100, 101, 102, 103, 104, 105, 106, 107, 108, 109, 110, 111] (by decide +kernel) (by decide +kernel)
set_option maxRecDepth 20000 in
theorem gX2_endAmongAll_X2_endFromHere : GoodIn wsX2_endAmongAll (wsV RX2 84 RX2 yX2_endFromHere wsX2_endFromHere) := goodIn_app (goodIn_of _ (by decide +kernel)) ggX2_endAmongAll_X2_endFromHere
theorem dX2_endAmongAll_0 : decode cX2_endAmongAll 0 = .ok (.aload_n 0, 1) := by decide +kernel
theorem dX2_endAmongAll_1 : decode cX2_endAmongAll 1 = .ok (.getfield 12, 3) := by decide +kernel
theorem dX2_endAmongAll_4 : decode cX2_endAmongAll 4 = .ok (.invokevirtual 78, 3) := by decide +kernel
theorem dX2_endAmongAll_7 : decode cX2_endAmongAll 7 = .ok (.aload_n 0, 1) := by decide +kernel
theorem dX2_endAmongAll_8 : decode cX2_endAmongAll 8 = .ok (.iload_n 1, 1) := by decide +kernel
theorem dX2_endAmongAll_9 : decode cX2_endAmongAll 9 = .ok (.iload_n 2, 1) := by decide +kernel
theorem dX2_endAmongAll_10 : decode cX2_endAmongAll 10 = .ok (.iload_n 3, 1) := by decide +kernel
theorem dX2_endAmongAll_11 : decode cX2_endAmongAll 11 = .ok (.invokevirtual 84, 3) := by decide +kernel
theorem dX2_endAmongAll_14 : decode cX2_endAmongAll 14 = .ok (.lreturn, 1) := by decide +kernel
set_option maxRecDepth 20000 in
theorem ggX2_barredRow_X2_findBarred : GoodIn wsX2_barredRow wsX2_findBarred := goodIn_r _ [8, 9, 1, 2, 3, 10, 11, 12, 7, 13, 14, 15, 16, 17, 18, 19, 20, 21, 22, 23, 24, 25, 26, 27, 28, 29, 30, 31, 32, 33, 34, 35, 36, 37, 38, 39, 40, 41, 42, 43, 44, 45, 46, 47, 48, 49, 50, 51, 52, 53, 54, 55, 56, 57, 58, 59, 60, 61, 62, 63, 64, 65, 66, 67, 68, 69, 70, 71, 72, 73, 74, 75, 76, 77, 78, 79, 80, 81, 82, 83, 84, 85, 86, 87, 88, 89, 90, 91, 92, 93, 94, 95, 96, 97, 98, 99, 100, 101, 102, 103, 104, 105, 106, 107, 108, 109, 110, 111, 112, 113, 114, 115, 116, 117, 118, 119, 120, 121, 122, 123, 124] (by decide +kernel) (by decide +kernel)
set_option maxRecDepth 20000 in
theorem gX2_barredRow_X2_findBarred : GoodIn wsX2_barredRow (wsV RX2 88 RX2 yX2_findBarred wsX2_findBarred) := goodIn_app (goodIn_of _ (by decide +kernel)) ggX2_barredRow_X2_findBarred
theorem dX2_barredRow_0 : decode cX2_barredRow 0 = .ok (.aload_n 0, 1) := by decide +kernel
theorem dX2_barredRow_1 : decode cX2_barredRow 1 = .ok (.invokevirtual 88, 3) := by decide +kernel
theorem dX2_barredRow_4 : decode cX2_barredRow 4 = .ok (.iconst 0, 1) := by decide +kernel
theorem dX2_barredRow_5 : decode cX2_barredRow 5 = .ok (.istore_n 2, 1) := by decide +kernel
theorem dX2_barredRow_6 : decode cX2_barredRow 6 = .ok (.iconst 0, 1) := by decide +kernel
theorem dX2_barredRow_7 : decode cX2_barredRow 7 = .ok (.istore_n 3, 1) := by decide +kernel
theorem dX2_barredRow_8 : decode cX2_barredRow 8 = .ok (.iload_n 3, 1) := by decide +kernel
theorem dX2_barredRow_9 : decode cX2_barredRow 9 = .ok (.aload_n 0, 1) := by decide +kernel
theorem dX2_barredRow_10 : decode cX2_barredRow 10 = .ok (.getfield 30, 3) := by decide +kernel
theorem dX2_barredRow_13 : decode cX2_barredRow 13 = .ok (.getfield 91, 3) := by decide +kernel
theorem dX2_barredRow_16 : decode cX2_barredRow 16 = .ok (.if_icmp .ge 30, 3) := by decide +kernel
theorem dX2_barredRow_19 : decode cX2_barredRow 19 = .ok (.aload_n 0, 1) := by decide +kernel
theorem dX2_barredRow_20 : decode cX2_barredRow 20 = .ok (.getfield 94, 3) := by decide +kernel
theorem dX2_barredRow_23 : decode cX2_barredRow 23 = .ok (.iconst 1, 1) := by decide +kernel
theorem dX2_barredRow_24 : decode cX2_barredRow 24 = .ok (.iload_n 3, 1) := by decide +kernel
theorem dX2_barredRow_25 : decode cX2_barredRow 25 = .ok (.ishl, 1) := by decide +kernel
theorem dX2_barredRow_26 : decode cX2_barredRow 26 = .ok (.iand, 1) := by decide +kernel
theorem dX2_barredRow_27 : decode cX2_barredRow 27 = .ok (.ifCond .eq 13, 3) := by decide +kernel
theorem dX2_barredRow_30 : decode cX2_barredRow 30 = .ok (.iload_n 2, 1) := by decide +kernel
theorem dX2_barredRow_31 : decode cX2_barredRow 31 = .ok (.iload_n 1, 1) := by decide +kernel
theorem dX2_barredRow_32 : decode cX2_barredRow 32 = .ok (.if_icmp .ne 5, 3) := by decide +kernel
theorem dX2_barredRow_35 : decode cX2_barredRow 35 = .ok (.iload_n 3, 1) := by decide +kernel
theorem dX2_barredRow_36 : decode cX2_barredRow 36 = .ok (.ireturn, 1) := by decide +kernel
theorem dX2_barredRow_37 : decode cX2_barredRow 37 = .ok (.iinc 2 1, 3) := by decide +kernel
theorem dX2_barredRow_40 : decode cX2_barredRow 40 = .ok (.iinc 3 1, 3) := by decide +kernel
theorem dX2_barredRow_43 : decode cX2_barredRow 43 = .ok (.goto (-35), 3) := by decide +kernel
theorem dX2_barredRow_46 : decode cX2_barredRow 46 = .ok (.iconst (-1), 1) := by decide +kernel
theorem dX2_barredRow_47 : decode cX2_barredRow 47 = .ok (.ireturn, 1) := by decide +kernel
set_option maxRecDepth 20000 in
theorem ggX2_endFromHere_X2_aimAt : GoodIn wsX2_endFromHere wsX2_aimAt := goodIn_r _ [7, 2, 76, 77, 78, 79, 80, 81, 82, 83, 84, 85] (by decide +kernel) (by decide +kernel)
set_option maxRecDepth 20000 in
theorem gX2_endFromHere_X2_aimAt : GoodIn wsX2_endFromHere (wsV RX2 97 RX2 yX2_aimAt wsX2_aimAt) := goodIn_app (goodIn_of _ (by decide +kernel)) ggX2_endFromHere_X2_aimAt
set_option maxRecDepth 20000 in
theorem ggX2_endFromHere_X0_minimise : GoodIn wsX2_endFromHere wsX0_minimise := goodIn_r _ [12, 13, 14, 15, 16, 17, 11, 18, 19, 20, 21, 22, 23, 24, 25, 26, 27, 28, 29, 30, 31, 32, 33, 34, 35, 36, 37, 38, 39, 40, 41, 42, 43, 44, 45, 46, 47, 48, 49, 50, 51, 52, 53, 54, 86, 87, 88, 89, 90, 91, 92, 93, 94] (by decide +kernel) (by decide +kernel)
set_option maxRecDepth 20000 in
theorem gX2_endFromHere_X0_minimise : GoodIn wsX2_endFromHere (wsV RX2 101 RX0 yX0_minimise wsX0_minimise) := goodIn_app (goodIn_of _ (by decide +kernel)) ggX2_endFromHere_X0_minimise
set_option maxRecDepth 20000 in
theorem ggX2_endFromHere_X2_numeratorOf : GoodIn wsX2_endFromHere wsX2_numeratorOf := goodIn_r _ [58, 59, 60, 1, 61, 62, 63, 11, 64, 21, 65, 66, 67, 68, 22, 23, 38, 76, 77, 78, 79, 80, 81, 82, 83, 84, 85, 95, 96, 97, 98, 99, 100, 101, 102, 103, 86, 87, 88, 89, 90, 91, 92, 93, 94] (by decide +kernel) (by decide +kernel)
set_option maxRecDepth 20000 in
theorem gX2_endFromHere_X2_numeratorOf : GoodIn wsX2_endFromHere (wsV RX2 105 RX2 yX2_numeratorOf wsX2_numeratorOf) := goodIn_app (goodIn_of _ (by decide +kernel)) ggX2_endFromHere_X2_numeratorOf
set_option maxRecDepth 20000 in
theorem ggX2_endFromHere_X0_denominator : GoodIn wsX2_endFromHere wsX0_denominator := goodIn_r _ [64, 21, 86, 87, 88, 89, 90, 91, 92, 93, 94] (by decide +kernel) (by decide +kernel)
set_option maxRecDepth 20000 in
theorem gX2_endFromHere_X0_denominator : GoodIn wsX2_endFromHere (wsV RX2 109 RX0 yX0_denominator wsX0_denominator) := goodIn_app (goodIn_of _ (by decide +kernel)) ggX2_endFromHere_X0_denominator
set_option maxRecDepth 20000 in
theorem ggX2_endFromHere_X2_partOf : GoodIn wsX2_endFromHere wsX2_partOf := goodIn_r _ [71, 72, 73, 6, 74, 75, 44, 45, 46] (by decide +kernel) (by decide +kernel)
set_option maxRecDepth 20000 in
theorem gX2_endFromHere_X2_partOf : GoodIn wsX2_endFromHere (va_wsS RX2 67 yX2_partOf wsX2_partOf) := goodIn_app (goodIn_of _ (by decide +kernel)) ggX2_endFromHere_X2_partOf
theorem dX2_endFromHere_0 : decode cX2_endFromHere 0 = .ok (.aload_n 0, 1) := by decide +kernel
theorem dX2_endFromHere_1 : decode cX2_endFromHere 1 = .ok (.iload_n 1, 1) := by decide +kernel
theorem dX2_endFromHere_2 : decode cX2_endFromHere 2 = .ok (.iload_n 2, 1) := by decide +kernel
theorem dX2_endFromHere_3 : decode cX2_endFromHere 3 = .ok (.ifCond .ne 7, 3) := by decide +kernel
theorem dX2_endFromHere_6 : decode cX2_endFromHere 6 = .ok (.iconst 1, 1) := by decide +kernel
theorem dX2_endFromHere_7 : decode cX2_endFromHere 7 = .ok (.goto 4, 3) := by decide +kernel
theorem dX2_endFromHere_10 : decode cX2_endFromHere 10 = .ok (.iconst (-1), 1) := by decide +kernel
theorem dX2_endFromHere_11 : decode cX2_endFromHere 11 = .ok (.invokevirtual 97, 3) := by decide +kernel
theorem dX2_endFromHere_14 : decode cX2_endFromHere 14 = .ok (.aload_n 0, 1) := by decide +kernel
theorem dX2_endFromHere_15 : decode cX2_endFromHere 15 = .ok (.getfield 12, 3) := by decide +kernel
theorem dX2_endFromHere_18 : decode cX2_endFromHere 18 = .ok (.aload_n 0, 1) := by decide +kernel
theorem dX2_endFromHere_19 : decode cX2_endFromHere 19 = .ok (.getfield 18, 3) := by decide +kernel
theorem dX2_endFromHere_22 : decode cX2_endFromHere 22 = .ok (.invokevirtual 101, 3) := by decide +kernel
theorem dX2_endFromHere_25 : decode cX2_endFromHere 25 = .ok (.aload_n 0, 1) := by decide +kernel
theorem dX2_endFromHere_26 : decode cX2_endFromHere 26 = .ok (.iload_n 1, 1) := by decide +kernel
theorem dX2_endFromHere_27 : decode cX2_endFromHere 27 = .ok (.invokevirtual 105, 3) := by decide +kernel
theorem dX2_endFromHere_30 : decode cX2_endFromHere 30 = .ok (.aload_n 0, 1) := by decide +kernel
theorem dX2_endFromHere_31 : decode cX2_endFromHere 31 = .ok (.getfield 12, 3) := by decide +kernel
theorem dX2_endFromHere_34 : decode cX2_endFromHere 34 = .ok (.invokevirtual 109, 3) := by decide +kernel
theorem dX2_endFromHere_37 : decode cX2_endFromHere 37 = .ok (.iload_n 3, 1) := by decide +kernel
theorem dX2_endFromHere_38 : decode cX2_endFromHere 38 = .ok (.invokestatic 67, 3) := by decide +kernel
theorem dX2_endFromHere_41 : decode cX2_endFromHere 41 = .ok (.lreturn, 1) := by decide +kernel
set_option maxRecDepth 20000 in
theorem ggX2_findFirstBest_X0_thawAll : GoodIn wsX2_findFirstBest wsX0_thawAll := goodIn_r _ [12, 13, 14, 105, 106, 107, 108, 109, 110, 111, 112, 113] (by decide +kernel) (by decide +kernel)
set_option maxRecDepth 20000 in
theorem gX2_findFirstBest_X0_thawAll : GoodIn wsX2_findFirstBest (wsV RX2 78 RX0 yX0_thawAll wsX0_thawAll) := goodIn_app (goodIn_of _ (by decide +kernel)) ggX2_findFirstBest_X0_thawAll
set_option maxRecDepth 20000 in
theorem ggX2_findFirstBest_X2_keepToBest : GoodIn wsX2_findFirstBest wsX2_keepToBest := goodIn_r _ [19, 2, 3, 20, 21, 22, 23, 11, 24, 13, 25, 26, 27, 28, 29, 30, 31, 32, 33, 34, 35, 36, 37, 38, 39, 14, 40, 41, 42, 43, 44, 45, 46, 47, 48, 49, 50, 51, 52, 53, 54, 55, 56, 57, 58, 59, 60, 61, 62, 63, 64, 65, 66, 67, 68, 86, 87, 88, 89, 90, 91, 92, 93, 94, 95, 96, 97, 98, 99, 100, 101, 102, 103, 104, 105, 106, 107, 108, 109, 110, 111, 112, 113] (by decide +kernel) (by decide +kernel)
set_option maxRecDepth 20000 in
theorem gX2_findFirstBest_X2_keepToBest : GoodIn wsX2_findFirstBest (wsV RX2 81 RX2 yX2_keepToBest wsX2_keepToBest) := goodIn_app (goodIn_of _ (by decide +kernel)) ggX2_findFirstBest_X2_keepToBest
set_option maxRecDepth 20000 in
theorem ggX2_findFirstBest_X2_aimAt : GoodIn wsX2_findFirstBest wsX2_aimAt := goodIn_r _ [72, 5, 86, 87, 88, 89, 90, 91, 92, 93, 94, 95] (by decide +kernel) (by decide +kernel)
set_option maxRecDepth 20000 in
theorem gX2_findFirstBest_X2_aimAt : GoodIn wsX2_findFirstBest (wsV RX2 97 RX2 yX2_aimAt wsX2_aimAt) := goodIn_app (goodIn_of _ (by decide +kernel)) ggX2_findFirstBest_X2_aimAt
set_option maxRecDepth 20000 in
theorem ggX2_findFirstBest_X0_minimise : GoodIn wsX2_findFirstBest wsX0_minimise := goodIn_r _ [24, 13, 25, 26, 27, 28, 11, 29, 30, 31, 32, 33, 34, 35, 36, 37, 38, 39, 14, 40, 41, 42, 43, 44, 45, 46, 47, 48, 49, 50, 51, 52, 53, 54, 55, 56, 57, 58, 59, 60, 61, 62, 63, 64, 105, 106, 107, 108, 109, 110, 111, 112, 113] (by decide +kernel) (by decide +kernel)
set_option maxRecDepth 20000 in
theorem gX2_findFirstBest_X0_minimise : GoodIn wsX2_findFirstBest (wsV RX2 101 RX0 yX0_minimise wsX0_minimise) := goodIn_app (goodIn_of _ (by decide +kernel)) ggX2_findFirstBest_X0_minimise
set_option maxRecDepth 20000 in
theorem ggX2_findFirstBest_X0_freezeDear : GoodIn wsX2_findFirstBest wsX0_freezeDear := goodIn_r _ [68, 13, 30, 14, 105, 106, 107, 108, 109, 110, 111, 112, 113] (by decide +kernel) (by decide +kernel)
set_option maxRecDepth 20000 in
theorem gX2_findFirstBest_X0_freezeDear : GoodIn wsX2_findFirstBest (wsV RX2 113 RX0 yX0_freezeDear wsX0_freezeDear) := goodIn_app (goodIn_of _ (by decide +kernel)) ggX2_findFirstBest_X0_freezeDear
set_option maxRecDepth 20000 in
theorem ggX2_findFirstBest_X2_numeratorOf : GoodIn wsX2_findFirstBest wsX2_numeratorOf := goodIn_r _ [76, 3, 77, 2, 78, 79, 80, 11, 81, 32, 82, 83, 84, 85, 33, 34, 48, 86, 87, 88, 89, 90, 91, 92, 93, 94, 95, 96, 97, 98, 99, 100, 101, 102, 103, 104, 105, 106, 107, 108, 109, 110, 111, 112, 113] (by decide +kernel) (by decide +kernel)
set_option maxRecDepth 20000 in
theorem gX2_findFirstBest_X2_numeratorOf : GoodIn wsX2_findFirstBest (wsV RX2 105 RX2 yX2_numeratorOf wsX2_numeratorOf) := goodIn_app (goodIn_of _ (by decide +kernel)) ggX2_findFirstBest_X2_numeratorOf
set_option maxRecDepth 20000 in
theorem ggX2_findFirstBest_X0_denominator : GoodIn wsX2_findFirstBest wsX0_denominator := goodIn_r _ [81, 32, 105, 106, 107, 108, 109, 110, 111, 112, 113] (by decide +kernel) (by decide +kernel)
set_option maxRecDepth 20000 in
theorem gX2_findFirstBest_X0_denominator : GoodIn wsX2_findFirstBest (wsV RX2 109 RX0 yX0_denominator wsX0_denominator) := goodIn_app (goodIn_of _ (by decide +kernel)) ggX2_findFirstBest_X0_denominator
theorem dX2_findFirstBest_0 : decode cX2_findFirstBest 0 = .ok (.aload_n 0, 1) := by decide +kernel
theorem dX2_findFirstBest_1 : decode cX2_findFirstBest 1 = .ok (.getfield 38, 3) := by decide +kernel
theorem dX2_findFirstBest_4 : decode cX2_findFirstBest 4 = .ok (.ifCond .eq 4, 3) := by decide +kernel
theorem dX2_findFirstBest_7 : decode cX2_findFirstBest 7 = .ok (.return_, 1) := by decide +kernel
theorem dX2_findFirstBest_8 : decode cX2_findFirstBest 8 = .ok (.aload_n 0, 1) := by decide +kernel
theorem dX2_findFirstBest_9 : decode cX2_findFirstBest 9 = .ok (.getfield 12, 3) := by decide +kernel
theorem dX2_findFirstBest_12 : decode cX2_findFirstBest 12 = .ok (.invokevirtual 78, 3) := by decide +kernel
theorem dX2_findFirstBest_15 : decode cX2_findFirstBest 15 = .ok (.aload_n 0, 1) := by decide +kernel
theorem dX2_findFirstBest_16 : decode cX2_findFirstBest 16 = .ok (.invokevirtual 81, 3) := by decide +kernel
theorem dX2_findFirstBest_19 : decode cX2_findFirstBest 19 = .ok (.iconst 0, 1) := by decide +kernel
theorem dX2_findFirstBest_20 : decode cX2_findFirstBest 20 = .ok (.istore_n 1, 1) := by decide +kernel
theorem dX2_findFirstBest_21 : decode cX2_findFirstBest 21 = .ok (.iload_n 1, 1) := by decide +kernel
theorem dX2_findFirstBest_22 : decode cX2_findFirstBest 22 = .ok (.aload_n 0, 1) := by decide +kernel
theorem dX2_findFirstBest_23 : decode cX2_findFirstBest 23 = .ok (.getfield 30, 3) := by decide +kernel
theorem dX2_findFirstBest_26 : decode cX2_findFirstBest 26 = .ok (.getfield 58, 3) := by decide +kernel
theorem dX2_findFirstBest_29 : decode cX2_findFirstBest 29 = .ok (.if_icmp .ge 33, 3) := by decide +kernel
theorem dX2_findFirstBest_32 : decode cX2_findFirstBest 32 = .ok (.aload_n 0, 1) := by decide +kernel
theorem dX2_findFirstBest_33 : decode cX2_findFirstBest 33 = .ok (.iload_n 1, 1) := by decide +kernel
theorem dX2_findFirstBest_34 : decode cX2_findFirstBest 34 = .ok (.iconst 1, 1) := by decide +kernel
theorem dX2_findFirstBest_35 : decode cX2_findFirstBest 35 = .ok (.invokevirtual 97, 3) := by decide +kernel
theorem dX2_findFirstBest_38 : decode cX2_findFirstBest 38 = .ok (.aload_n 0, 1) := by decide +kernel
theorem dX2_findFirstBest_39 : decode cX2_findFirstBest 39 = .ok (.getfield 12, 3) := by decide +kernel
theorem dX2_findFirstBest_42 : decode cX2_findFirstBest 42 = .ok (.aload_n 0, 1) := by decide +kernel
theorem dX2_findFirstBest_43 : decode cX2_findFirstBest 43 = .ok (.getfield 18, 3) := by decide +kernel
theorem dX2_findFirstBest_46 : decode cX2_findFirstBest 46 = .ok (.invokevirtual 101, 3) := by decide +kernel
theorem dX2_findFirstBest_49 : decode cX2_findFirstBest 49 = .ok (.aload_n 0, 1) := by decide +kernel
theorem dX2_findFirstBest_50 : decode cX2_findFirstBest 50 = .ok (.getfield 12, 3) := by decide +kernel
theorem dX2_findFirstBest_53 : decode cX2_findFirstBest 53 = .ok (.invokevirtual 113, 3) := by decide +kernel
theorem dX2_findFirstBest_56 : decode cX2_findFirstBest 56 = .ok (.iinc 1 1, 3) := by decide +kernel
theorem dX2_findFirstBest_59 : decode cX2_findFirstBest 59 = .ok (.goto (-38), 3) := by decide +kernel
theorem dX2_findFirstBest_62 : decode cX2_findFirstBest 62 = .ok (.iconst 0, 1) := by decide +kernel
theorem dX2_findFirstBest_63 : decode cX2_findFirstBest 63 = .ok (.istore_n 1, 1) := by decide +kernel
theorem dX2_findFirstBest_64 : decode cX2_findFirstBest 64 = .ok (.iload_n 1, 1) := by decide +kernel
theorem dX2_findFirstBest_65 : decode cX2_findFirstBest 65 = .ok (.aload_n 0, 1) := by decide +kernel
theorem dX2_findFirstBest_66 : decode cX2_findFirstBest 66 = .ok (.getfield 30, 3) := by decide +kernel
theorem dX2_findFirstBest_69 : decode cX2_findFirstBest 69 = .ok (.getfield 58, 3) := by decide +kernel
theorem dX2_findFirstBest_72 : decode cX2_findFirstBest 72 = .ok (.if_icmp .ge 20, 3) := by decide +kernel
theorem dX2_findFirstBest_75 : decode cX2_findFirstBest 75 = .ok (.aload_n 0, 1) := by decide +kernel
theorem dX2_findFirstBest_76 : decode cX2_findFirstBest 76 = .ok (.getfield 22, 3) := by decide +kernel
theorem dX2_findFirstBest_79 : decode cX2_findFirstBest 79 = .ok (.iload_n 1, 1) := by decide +kernel
theorem dX2_findFirstBest_80 : decode cX2_findFirstBest 80 = .ok (.aload_n 0, 1) := by decide +kernel
theorem dX2_findFirstBest_81 : decode cX2_findFirstBest 81 = .ok (.iload_n 1, 1) := by decide +kernel
theorem dX2_findFirstBest_82 : decode cX2_findFirstBest 82 = .ok (.invokevirtual 105, 3) := by decide +kernel
theorem dX2_findFirstBest_85 : decode cX2_findFirstBest 85 = .ok (.lastore, 1) := by decide +kernel
theorem dX2_findFirstBest_86 : decode cX2_findFirstBest 86 = .ok (.iinc 1 1, 3) := by decide +kernel
theorem dX2_findFirstBest_89 : decode cX2_findFirstBest 89 = .ok (.goto (-25), 3) := by decide +kernel
theorem dX2_findFirstBest_92 : decode cX2_findFirstBest 92 = .ok (.aload_n 0, 1) := by decide +kernel
theorem dX2_findFirstBest_93 : decode cX2_findFirstBest 93 = .ok (.aload_n 0, 1) := by decide +kernel
theorem dX2_findFirstBest_94 : decode cX2_findFirstBest 94 = .ok (.getfield 12, 3) := by decide +kernel
theorem dX2_findFirstBest_97 : decode cX2_findFirstBest 97 = .ok (.invokevirtual 109, 3) := by decide +kernel
theorem dX2_findFirstBest_100 : decode cX2_findFirstBest 100 = .ok (.putfield 26, 3) := by decide +kernel
theorem dX2_findFirstBest_103 : decode cX2_findFirstBest 103 = .ok (.aload_n 0, 1) := by decide +kernel
theorem dX2_findFirstBest_104 : decode cX2_findFirstBest 104 = .ok (.iconst 1, 1) := by decide +kernel
theorem dX2_findFirstBest_105 : decode cX2_findFirstBest 105 = .ok (.putfield 38, 3) := by decide +kernel
theorem dX2_findFirstBest_108 : decode cX2_findFirstBest 108 = .ok (.return_, 1) := by decide +kernel
set_option maxRecDepth 20000 in
theorem ggX2_keepToBest_X0_minimise : GoodIn wsX2_keepToBest wsX0_minimise := goodIn_r _ [8, 9, 10, 11, 12, 13, 7, 14, 15, 16, 17, 18, 19, 20, 21, 22, 23, 24, 25, 26, 27, 28, 29, 30, 31, 32, 33, 34, 35, 36, 37, 38, 39, 40, 41, 42, 43, 44, 45, 46, 47, 48, 49, 50, 74, 75, 76, 77, 78, 79, 80, 81, 82] (by decide +kernel) (by decide +kernel)
set_option maxRecDepth 20000 in
theorem gX2_keepToBest_X0_minimise : GoodIn wsX2_keepToBest (wsV RX2 101 RX0 yX0_minimise wsX0_minimise) := goodIn_app (goodIn_of _ (by decide +kernel)) ggX2_keepToBest_X0_minimise
set_option maxRecDepth 20000 in
theorem ggX2_keepToBest_X0_freezeDear : GoodIn wsX2_keepToBest wsX0_freezeDear := goodIn_r _ [54, 9, 15, 25, 74, 75, 76, 77, 78, 79, 80, 81, 82] (by decide +kernel) (by decide +kernel)
set_option maxRecDepth 20000 in
theorem gX2_keepToBest_X0_freezeDear : GoodIn wsX2_keepToBest (wsV RX2 113 RX0 yX0_freezeDear wsX0_freezeDear) := goodIn_app (goodIn_of _ (by decide +kernel)) ggX2_keepToBest_X0_freezeDear
theorem dX2_keepToBest_0 : decode cX2_keepToBest 0 = .ok (.aload_n 0, 1) := by decide +kernel
theorem dX2_keepToBest_1 : decode cX2_keepToBest 1 = .ok (.getfield 12, 3) := by decide +kernel
theorem dX2_keepToBest_4 : decode cX2_keepToBest 4 = .ok (.aload_n 0, 1) := by decide +kernel
theorem dX2_keepToBest_5 : decode cX2_keepToBest 5 = .ok (.getfield 30, 3) := by decide +kernel
theorem dX2_keepToBest_8 : decode cX2_keepToBest 8 = .ok (.getfield 64, 3) := by decide +kernel
theorem dX2_keepToBest_11 : decode cX2_keepToBest 11 = .ok (.invokevirtual 101, 3) := by decide +kernel
theorem dX2_keepToBest_14 : decode cX2_keepToBest 14 = .ok (.aload_n 0, 1) := by decide +kernel
theorem dX2_keepToBest_15 : decode cX2_keepToBest 15 = .ok (.getfield 12, 3) := by decide +kernel
theorem dX2_keepToBest_18 : decode cX2_keepToBest 18 = .ok (.invokevirtual 113, 3) := by decide +kernel
theorem dX2_keepToBest_21 : decode cX2_keepToBest 21 = .ok (.return_, 1) := by decide +kernel
theorem dX2_aimAt_0 : decode cX2_aimAt 0 = .ok (.iconst 0, 1) := by decide +kernel
theorem dX2_aimAt_1 : decode cX2_aimAt 1 = .ok (.istore_n 3, 1) := by decide +kernel
theorem dX2_aimAt_2 : decode cX2_aimAt 2 = .ok (.iload_n 3, 1) := by decide +kernel
theorem dX2_aimAt_3 : decode cX2_aimAt 3 = .ok (.iconst 5, 1) := by decide +kernel
theorem dX2_aimAt_4 : decode cX2_aimAt 4 = .ok (.if_icmp .ge 25, 3) := by decide +kernel
theorem dX2_aimAt_7 : decode cX2_aimAt 7 = .ok (.aload_n 0, 1) := by decide +kernel
theorem dX2_aimAt_8 : decode cX2_aimAt 8 = .ok (.getfield 18, 3) := by decide +kernel
theorem dX2_aimAt_11 : decode cX2_aimAt 11 = .ok (.iload_n 3, 1) := by decide +kernel
theorem dX2_aimAt_12 : decode cX2_aimAt 12 = .ok (.iload_n 3, 1) := by decide +kernel
theorem dX2_aimAt_13 : decode cX2_aimAt 13 = .ok (.iload_n 1, 1) := by decide +kernel
theorem dX2_aimAt_14 : decode cX2_aimAt 14 = .ok (.if_icmp .ne 7, 3) := by decide +kernel
theorem dX2_aimAt_17 : decode cX2_aimAt 17 = .ok (.iload_n 2, 1) := by decide +kernel
theorem dX2_aimAt_18 : decode cX2_aimAt 18 = .ok (.goto 4, 3) := by decide +kernel
theorem dX2_aimAt_21 : decode cX2_aimAt 21 = .ok (.iconst 0, 1) := by decide +kernel
theorem dX2_aimAt_22 : decode cX2_aimAt 22 = .ok (.iastore, 1) := by decide +kernel
theorem dX2_aimAt_23 : decode cX2_aimAt 23 = .ok (.iinc 3 1, 3) := by decide +kernel
theorem dX2_aimAt_26 : decode cX2_aimAt 26 = .ok (.goto (-24), 3) := by decide +kernel
theorem dX2_aimAt_29 : decode cX2_aimAt 29 = .ok (.return_, 1) := by decide +kernel
set_option maxRecDepth 20000 in
theorem ggX2_numeratorOf_X0_denominator : GoodIn wsX2_numeratorOf wsX0_denominator := goodIn_r _ [8, 9, 36, 37, 38, 39, 40, 41, 42, 43, 44] (by decide +kernel) (by decide +kernel)
set_option maxRecDepth 20000 in
theorem gX2_numeratorOf_X0_denominator : GoodIn wsX2_numeratorOf (wsV RX2 109 RX0 yX0_denominator wsX0_denominator) := goodIn_app (goodIn_of _ (by decide +kernel)) ggX2_numeratorOf_X0_denominator
set_option maxRecDepth 20000 in
theorem ggX2_numeratorOf_X0_numerator : GoodIn wsX2_numeratorOf wsX0_numerator := goodIn_r _ [13, 14, 15, 16, 36, 37, 38, 39, 40, 41, 42, 43, 44] (by decide +kernel) (by decide +kernel)
set_option maxRecDepth 20000 in
theorem gX2_numeratorOf_X0_numerator : GoodIn wsX2_numeratorOf (wsV RX2 119 RX0 yX0_numerator wsX0_numerator) := goodIn_app (goodIn_of _ (by decide +kernel)) ggX2_numeratorOf_X0_numerator
theorem dX2_numeratorOf_0 : decode cX2_numeratorOf 0 = .ok (.aload_n 0, 1) := by decide +kernel
theorem dX2_numeratorOf_1 : decode cX2_numeratorOf 1 = .ok (.getfield 30, 3) := by decide +kernel
theorem dX2_numeratorOf_4 : decode cX2_numeratorOf 4 = .ok (.getfield 116, 3) := by decide +kernel
theorem dX2_numeratorOf_7 : decode cX2_numeratorOf 7 = .ok (.iload_n 1, 1) := by decide +kernel
theorem dX2_numeratorOf_8 : decode cX2_numeratorOf 8 = .ok (.iaload, 1) := by decide +kernel
theorem dX2_numeratorOf_9 : decode cX2_numeratorOf 9 = .ok (.i2l, 1) := by decide +kernel
theorem dX2_numeratorOf_10 : decode cX2_numeratorOf 10 = .ok (.aload_n 0, 1) := by decide +kernel
theorem dX2_numeratorOf_11 : decode cX2_numeratorOf 11 = .ok (.getfield 12, 3) := by decide +kernel
theorem dX2_numeratorOf_14 : decode cX2_numeratorOf 14 = .ok (.invokevirtual 109, 3) := by decide +kernel
theorem dX2_numeratorOf_17 : decode cX2_numeratorOf 17 = .ok (.lmul, 1) := by decide +kernel
theorem dX2_numeratorOf_18 : decode cX2_numeratorOf 18 = .ok (.aload_n 0, 1) := by decide +kernel
theorem dX2_numeratorOf_19 : decode cX2_numeratorOf 19 = .ok (.getfield 12, 3) := by decide +kernel
theorem dX2_numeratorOf_22 : decode cX2_numeratorOf 22 = .ok (.iload_n 1, 1) := by decide +kernel
theorem dX2_numeratorOf_23 : decode cX2_numeratorOf 23 = .ok (.invokevirtual 119, 3) := by decide +kernel
theorem dX2_numeratorOf_26 : decode cX2_numeratorOf 26 = .ok (.ladd, 1) := by decide +kernel
theorem dX2_numeratorOf_27 : decode cX2_numeratorOf 27 = .ok (.lreturn, 1) := by decide +kernel
set_option maxRecDepth 20000 in
theorem ggX2_findBarred_X2_allRows : GoodIn wsX2_findBarred wsX2_allRows := goodIn_r _ [9, 2, 3, 10, 93, 94, 95, 96, 97, 98, 99, 100, 101, 102, 103, 104, 105, 106, 107, 108, 109, 110, 111] (by decide +kernel) (by decide +kernel)
set_option maxRecDepth 20000 in
theorem gX2_findBarred_X2_allRows : GoodIn wsX2_findBarred (wsV RX2 44 RX2 yX2_allRows wsX2_allRows) := goodIn_app (goodIn_of _ (by decide +kernel)) ggX2_findBarred_X2_allRows
set_option maxRecDepth 20000 in
theorem ggX2_findBarred_X2_canKeep : GoodIn wsX2_findBarred wsX2_canKeep := goodIn_r _ [14, 15, 2, 16, 17, 18, 19, 3, 20, 21, 22, 23, 24, 25, 26, 27, 28, 29, 30, 31, 32, 33, 34, 35, 36, 37, 38, 39, 40, 8, 41, 42, 43, 44, 45, 46, 47, 48, 49, 50, 51, 52, 53, 54, 55, 56, 57, 58, 59, 60, 61, 62, 63, 64, 65, 66, 67, 68, 69, 70, 71, 72, 73, 74, 75, 76, 77, 78, 79, 80, 81, 82, 83, 84, 85, 86, 87, 88, 89, 90, 91, 92, 93, 94, 95, 96, 97, 98, 99, 100, 101, 102, 103, 104, 105, 106, 107, 108, 109, 110, 111, 112, 113, 114, 115, 116, 117, 118, 119, 120] (by decide +kernel) (by decide +kernel)
set_option maxRecDepth 20000 in
theorem gX2_findBarred_X2_canKeep : GoodIn wsX2_findBarred (wsV RX2 48 RX2 yX2_canKeep wsX2_canKeep) := goodIn_app (goodIn_of _ (by decide +kernel)) ggX2_findBarred_X2_canKeep
theorem dX2_findBarred_0 : decode cX2_findBarred 0 = .ok (.aload_n 0, 1) := by decide +kernel
theorem dX2_findBarred_1 : decode cX2_findBarred 1 = .ok (.getfield 41, 3) := by decide +kernel
theorem dX2_findBarred_4 : decode cX2_findBarred 4 = .ok (.ifCond .eq 4, 3) := by decide +kernel
theorem dX2_findBarred_7 : decode cX2_findBarred 7 = .ok (.return_, 1) := by decide +kernel
theorem dX2_findBarred_8 : decode cX2_findBarred 8 = .ok (.aload_n 0, 1) := by decide +kernel
theorem dX2_findBarred_9 : decode cX2_findBarred 9 = .ok (.invokevirtual 44, 3) := by decide +kernel
theorem dX2_findBarred_12 : decode cX2_findBarred 12 = .ok (.istore_n 1, 1) := by decide +kernel
theorem dX2_findBarred_13 : decode cX2_findBarred 13 = .ok (.aload_n 0, 1) := by decide +kernel
theorem dX2_findBarred_14 : decode cX2_findBarred 14 = .ok (.getfield 30, 3) := by decide +kernel
theorem dX2_findBarred_17 : decode cX2_findBarred 17 = .ok (.getfield 91, 3) := by decide +kernel
theorem dX2_findBarred_20 : decode cX2_findBarred 20 = .ok (.iconst 1, 1) := by decide +kernel
theorem dX2_findBarred_21 : decode cX2_findBarred 21 = .ok (.isub, 1) := by decide +kernel
theorem dX2_findBarred_22 : decode cX2_findBarred 22 = .ok (.istore_n 2, 1) := by decide +kernel
theorem dX2_findBarred_23 : decode cX2_findBarred 23 = .ok (.iload_n 2, 1) := by decide +kernel
theorem dX2_findBarred_24 : decode cX2_findBarred 24 = .ok (.ifCond .lt 32, 3) := by decide +kernel
theorem dX2_findBarred_27 : decode cX2_findBarred 27 = .ok (.iload_n 1, 1) := by decide +kernel
theorem dX2_findBarred_28 : decode cX2_findBarred 28 = .ok (.iconst 1, 1) := by decide +kernel
theorem dX2_findBarred_29 : decode cX2_findBarred 29 = .ok (.iload_n 2, 1) := by decide +kernel
theorem dX2_findBarred_30 : decode cX2_findBarred 30 = .ok (.ishl, 1) := by decide +kernel
theorem dX2_findBarred_31 : decode cX2_findBarred 31 = .ok (.iconst (-1), 1) := by decide +kernel
theorem dX2_findBarred_32 : decode cX2_findBarred 32 = .ok (.ixor, 1) := by decide +kernel
theorem dX2_findBarred_33 : decode cX2_findBarred 33 = .ok (.iand, 1) := by decide +kernel
theorem dX2_findBarred_34 : decode cX2_findBarred 34 = .ok (.istore_n 3, 1) := by decide +kernel
theorem dX2_findBarred_35 : decode cX2_findBarred 35 = .ok (.iload_n 3, 1) := by decide +kernel
theorem dX2_findBarred_36 : decode cX2_findBarred 36 = .ok (.iload_n 1, 1) := by decide +kernel
theorem dX2_findBarred_37 : decode cX2_findBarred 37 = .ok (.if_icmp .eq 13, 3) := by decide +kernel
theorem dX2_findBarred_40 : decode cX2_findBarred 40 = .ok (.aload_n 0, 1) := by decide +kernel
theorem dX2_findBarred_41 : decode cX2_findBarred 41 = .ok (.iload_n 3, 1) := by decide +kernel
theorem dX2_findBarred_42 : decode cX2_findBarred 42 = .ok (.invokevirtual 48, 3) := by decide +kernel
theorem dX2_findBarred_45 : decode cX2_findBarred 45 = .ok (.ifCond .ne 5, 3) := by decide +kernel
theorem dX2_findBarred_48 : decode cX2_findBarred 48 = .ok (.iload_n 3, 1) := by decide +kernel
theorem dX2_findBarred_49 : decode cX2_findBarred 49 = .ok (.istore_n 1, 1) := by decide +kernel
theorem dX2_findBarred_50 : decode cX2_findBarred 50 = .ok (.iinc 2 (-1), 3) := by decide +kernel
theorem dX2_findBarred_53 : decode cX2_findBarred 53 = .ok (.goto (-30), 3) := by decide +kernel
theorem dX2_findBarred_56 : decode cX2_findBarred 56 = .ok (.aload_n 0, 1) := by decide +kernel
theorem dX2_findBarred_57 : decode cX2_findBarred 57 = .ok (.iload_n 1, 1) := by decide +kernel
theorem dX2_findBarred_58 : decode cX2_findBarred 58 = .ok (.putfield 94, 3) := by decide +kernel
theorem dX2_findBarred_61 : decode cX2_findBarred 61 = .ok (.aload_n 0, 1) := by decide +kernel
theorem dX2_findBarred_62 : decode cX2_findBarred 62 = .ok (.iconst 1, 1) := by decide +kernel
theorem dX2_findBarred_63 : decode cX2_findBarred 63 = .ok (.putfield 41, 3) := by decide +kernel
theorem dX2_findBarred_66 : decode cX2_findBarred 66 = .ok (.return_, 1) := by decide +kernel
theorem dX2_allRows_0 : decode cX2_allRows 0 = .ok (.iconst 0, 1) := by decide +kernel
theorem dX2_allRows_1 : decode cX2_allRows 1 = .ok (.istore_n 1, 1) := by decide +kernel
theorem dX2_allRows_2 : decode cX2_allRows 2 = .ok (.iconst 0, 1) := by decide +kernel
theorem dX2_allRows_3 : decode cX2_allRows 3 = .ok (.istore_n 2, 1) := by decide +kernel
theorem dX2_allRows_4 : decode cX2_allRows 4 = .ok (.iload_n 2, 1) := by decide +kernel
theorem dX2_allRows_5 : decode cX2_allRows 5 = .ok (.aload_n 0, 1) := by decide +kernel
theorem dX2_allRows_6 : decode cX2_allRows 6 = .ok (.getfield 30, 3) := by decide +kernel
theorem dX2_allRows_9 : decode cX2_allRows 9 = .ok (.getfield 91, 3) := by decide +kernel
theorem dX2_allRows_12 : decode cX2_allRows 12 = .ok (.if_icmp .ge 27, 3) := by decide +kernel
theorem dX2_allRows_15 : decode cX2_allRows 15 = .ok (.aload_n 0, 1) := by decide +kernel
theorem dX2_allRows_16 : decode cX2_allRows 16 = .ok (.getfield 30, 3) := by decide +kernel
theorem dX2_allRows_19 : decode cX2_allRows 19 = .ok (.getfield 122, 3) := by decide +kernel
theorem dX2_allRows_22 : decode cX2_allRows 22 = .ok (.iload_n 2, 1) := by decide +kernel
theorem dX2_allRows_23 : decode cX2_allRows 23 = .ok (.baload, 1) := by decide +kernel
theorem dX2_allRows_24 : decode cX2_allRows 24 = .ok (.ifCond .eq 9, 3) := by decide +kernel
theorem dX2_allRows_27 : decode cX2_allRows 27 = .ok (.iload_n 1, 1) := by decide +kernel
theorem dX2_allRows_28 : decode cX2_allRows 28 = .ok (.iconst 1, 1) := by decide +kernel
theorem dX2_allRows_29 : decode cX2_allRows 29 = .ok (.iload_n 2, 1) := by decide +kernel
theorem dX2_allRows_30 : decode cX2_allRows 30 = .ok (.ishl, 1) := by decide +kernel
theorem dX2_allRows_31 : decode cX2_allRows 31 = .ok (.ior, 1) := by decide +kernel
theorem dX2_allRows_32 : decode cX2_allRows 32 = .ok (.istore_n 1, 1) := by decide +kernel
theorem dX2_allRows_33 : decode cX2_allRows 33 = .ok (.iinc 2 1, 3) := by decide +kernel
theorem dX2_allRows_36 : decode cX2_allRows 36 = .ok (.goto (-32), 3) := by decide +kernel
theorem dX2_allRows_39 : decode cX2_allRows 39 = .ok (.iload_n 1, 1) := by decide +kernel
theorem dX2_allRows_40 : decode cX2_allRows 40 = .ok (.ireturn, 1) := by decide +kernel
set_option maxRecDepth 20000 in
theorem ggX2_canKeep_X0_begin : GoodIn wsX2_canKeep wsX0_begin := goodIn_r _ [12, 13, 14, 15, 16, 17, 18, 19, 20, 21, 22, 23, 11, 24, 25, 101, 102, 103, 104, 105, 106, 107, 108, 109] (by decide +kernel) (by decide +kernel)
set_option maxRecDepth 20000 in
theorem gX2_canKeep_X0_begin : GoodIn wsX2_canKeep (wsV RX2 126 RX0 yX0_begin wsX0_begin) := goodIn_app (goodIn_of _ (by decide +kernel)) ggX2_canKeep_X0_begin
set_option maxRecDepth 20000 in
theorem ggX2_canKeep_X2_aimAt : GoodIn wsX2_canKeep wsX2_aimAt := goodIn_r _ [30, 4, 82, 83, 84, 85, 86, 87, 88, 89, 90, 91] (by decide +kernel) (by decide +kernel)
set_option maxRecDepth 20000 in
theorem gX2_canKeep_X2_aimAt : GoodIn wsX2_canKeep (wsV RX2 97 RX2 yX2_aimAt wsX2_aimAt) := goodIn_app (goodIn_of _ (by decide +kernel)) ggX2_canKeep_X2_aimAt
set_option maxRecDepth 20000 in
theorem ggX2_canKeep_X0_addAtMost : GoodIn wsX2_canKeep wsX0_addAtMost := goodIn_r _ [34, 18, 17, 35, 36, 37, 101, 102, 103, 104, 105, 106, 107, 108, 109] (by decide +kernel) (by decide +kernel)
set_option maxRecDepth 20000 in
theorem gX2_canKeep_X0_addAtMost : GoodIn wsX2_canKeep (wsV RX2 133 RX0 yX0_addAtMost wsX0_addAtMost) := goodIn_app (goodIn_of _ (by decide +kernel)) ggX2_canKeep_X0_addAtMost
set_option maxRecDepth 20000 in
theorem ggX2_canKeep_X2_addRow : GoodIn wsX2_canKeep wsX2_addRow := goodIn_r _ [41, 2, 42, 43, 3, 6, 1, 44, 45, 46, 47, 48, 49, 31, 32, 33, 11, 34, 18, 17, 35, 36, 37, 50, 51, 52, 53, 82, 83, 84, 85, 86, 87, 88, 89, 90, 91, 92, 93, 94, 95, 96, 97, 98, 99, 100, 101, 102, 103, 104, 105, 106, 107, 108, 109] (by decide +kernel) (by decide +kernel)
set_option maxRecDepth 20000 in
theorem gX2_canKeep_X2_addRow : GoodIn wsX2_canKeep (wsV RX2 137 RX2 yX2_addRow wsX2_addRow) := goodIn_app (goodIn_of _ (by decide +kernel)) ggX2_canKeep_X2_addRow
set_option maxRecDepth 20000 in
theorem ggX2_canKeep_X0_findPoint : GoodIn wsX2_canKeep wsX0_findPoint := goodIn_r _ [57, 58, 59, 60, 61, 11, 62, 18, 36, 37, 63, 64, 65, 66, 17, 35, 20, 67, 68, 69, 70, 19, 71, 72, 15, 73, 74, 75, 76, 77, 78, 79, 80, 81, 101, 102, 103, 104, 105, 106, 107, 108, 109] (by decide +kernel) (by decide +kernel)
set_option maxRecDepth 20000 in
theorem gX2_canKeep_X0_findPoint : GoodIn wsX2_canKeep (wsV RX2 140 RX0 yX0_findPoint wsX0_findPoint) := goodIn_app (goodIn_of _ (by decide +kernel)) ggX2_canKeep_X0_findPoint
theorem dX2_canKeep_0 : decode cX2_canKeep 0 = .ok (.aload_n 0, 1) := by decide +kernel
theorem dX2_canKeep_1 : decode cX2_canKeep 1 = .ok (.getfield 12, 3) := by decide +kernel
theorem dX2_canKeep_4 : decode cX2_canKeep 4 = .ok (.aload_n 0, 1) := by decide +kernel
theorem dX2_canKeep_5 : decode cX2_canKeep 5 = .ok (.getfield 30, 3) := by decide +kernel
theorem dX2_canKeep_8 : decode cX2_canKeep 8 = .ok (.getfield 58, 3) := by decide +kernel
theorem dX2_canKeep_11 : decode cX2_canKeep 11 = .ok (.invokevirtual 126, 3) := by decide +kernel
theorem dX2_canKeep_14 : decode cX2_canKeep 14 = .ok (.iconst 0, 1) := by decide +kernel
theorem dX2_canKeep_15 : decode cX2_canKeep 15 = .ok (.istore_n 2, 1) := by decide +kernel
theorem dX2_canKeep_16 : decode cX2_canKeep 16 = .ok (.iload_n 2, 1) := by decide +kernel
theorem dX2_canKeep_17 : decode cX2_canKeep 17 = .ok (.aload_n 0, 1) := by decide +kernel
theorem dX2_canKeep_18 : decode cX2_canKeep 18 = .ok (.getfield 30, 3) := by decide +kernel
theorem dX2_canKeep_21 : decode cX2_canKeep 21 = .ok (.getfield 58, 3) := by decide +kernel
theorem dX2_canKeep_24 : decode cX2_canKeep 24 = .ok (.if_icmp .ge 46, 3) := by decide +kernel
theorem dX2_canKeep_27 : decode cX2_canKeep 27 = .ok (.aload_n 0, 1) := by decide +kernel
theorem dX2_canKeep_28 : decode cX2_canKeep 28 = .ok (.iload_n 2, 1) := by decide +kernel
theorem dX2_canKeep_29 : decode cX2_canKeep 29 = .ok (.iconst 1, 1) := by decide +kernel
theorem dX2_canKeep_30 : decode cX2_canKeep 30 = .ok (.invokevirtual 97, 3) := by decide +kernel
theorem dX2_canKeep_33 : decode cX2_canKeep 33 = .ok (.aload_n 0, 1) := by decide +kernel
theorem dX2_canKeep_34 : decode cX2_canKeep 34 = .ok (.getfield 12, 3) := by decide +kernel
theorem dX2_canKeep_37 : decode cX2_canKeep 37 = .ok (.aload_n 0, 1) := by decide +kernel
theorem dX2_canKeep_38 : decode cX2_canKeep 38 = .ok (.getfield 18, 3) := by decide +kernel
theorem dX2_canKeep_41 : decode cX2_canKeep 41 = .ok (.iconst 1, 1) := by decide +kernel
theorem dX2_canKeep_42 : decode cX2_canKeep 42 = .ok (.aload_n 0, 1) := by decide +kernel
theorem dX2_canKeep_43 : decode cX2_canKeep 43 = .ok (.getfield 30, 3) := by decide +kernel
theorem dX2_canKeep_46 : decode cX2_canKeep 46 = .ok (.getfield 130, 3) := by decide +kernel
theorem dX2_canKeep_49 : decode cX2_canKeep 49 = .ok (.iload_n 2, 1) := by decide +kernel
theorem dX2_canKeep_50 : decode cX2_canKeep 50 = .ok (.iaload, 1) := by decide +kernel
theorem dX2_canKeep_51 : decode cX2_canKeep 51 = .ok (.aload_n 0, 1) := by decide +kernel
theorem dX2_canKeep_52 : decode cX2_canKeep 52 = .ok (.getfield 30, 3) := by decide +kernel
theorem dX2_canKeep_55 : decode cX2_canKeep 55 = .ok (.getfield 116, 3) := by decide +kernel
theorem dX2_canKeep_58 : decode cX2_canKeep 58 = .ok (.iload_n 2, 1) := by decide +kernel
theorem dX2_canKeep_59 : decode cX2_canKeep 59 = .ok (.iaload, 1) := by decide +kernel
theorem dX2_canKeep_60 : decode cX2_canKeep 60 = .ok (.isub, 1) := by decide +kernel
theorem dX2_canKeep_61 : decode cX2_canKeep 61 = .ok (.invokevirtual 133, 3) := by decide +kernel
theorem dX2_canKeep_64 : decode cX2_canKeep 64 = .ok (.iinc 2 1, 3) := by decide +kernel
theorem dX2_canKeep_67 : decode cX2_canKeep 67 = .ok (.goto (-51), 3) := by decide +kernel
theorem dX2_canKeep_70 : decode cX2_canKeep 70 = .ok (.iconst 0, 1) := by decide +kernel
theorem dX2_canKeep_71 : decode cX2_canKeep 71 = .ok (.istore_n 2, 1) := by decide +kernel
theorem dX2_canKeep_72 : decode cX2_canKeep 72 = .ok (.iload_n 2, 1) := by decide +kernel
theorem dX2_canKeep_73 : decode cX2_canKeep 73 = .ok (.aload_n 0, 1) := by decide +kernel
theorem dX2_canKeep_74 : decode cX2_canKeep 74 = .ok (.getfield 30, 3) := by decide +kernel
theorem dX2_canKeep_77 : decode cX2_canKeep 77 = .ok (.getfield 91, 3) := by decide +kernel
theorem dX2_canKeep_80 : decode cX2_canKeep 80 = .ok (.if_icmp .ge 22, 3) := by decide +kernel
theorem dX2_canKeep_83 : decode cX2_canKeep 83 = .ok (.iload_n 1, 1) := by decide +kernel
theorem dX2_canKeep_84 : decode cX2_canKeep 84 = .ok (.iconst 1, 1) := by decide +kernel
theorem dX2_canKeep_85 : decode cX2_canKeep 85 = .ok (.iload_n 2, 1) := by decide +kernel
theorem dX2_canKeep_86 : decode cX2_canKeep 86 = .ok (.ishl, 1) := by decide +kernel
theorem dX2_canKeep_87 : decode cX2_canKeep 87 = .ok (.iand, 1) := by decide +kernel
theorem dX2_canKeep_88 : decode cX2_canKeep 88 = .ok (.ifCond .eq 8, 3) := by decide +kernel
theorem dX2_canKeep_91 : decode cX2_canKeep 91 = .ok (.aload_n 0, 1) := by decide +kernel
theorem dX2_canKeep_92 : decode cX2_canKeep 92 = .ok (.iload_n 2, 1) := by decide +kernel
theorem dX2_canKeep_93 : decode cX2_canKeep 93 = .ok (.invokevirtual 137, 3) := by decide +kernel
theorem dX2_canKeep_96 : decode cX2_canKeep 96 = .ok (.iinc 2 1, 3) := by decide +kernel
theorem dX2_canKeep_99 : decode cX2_canKeep 99 = .ok (.goto (-27), 3) := by decide +kernel
theorem dX2_canKeep_102 : decode cX2_canKeep 102 = .ok (.aload_n 0, 1) := by decide +kernel
theorem dX2_canKeep_103 : decode cX2_canKeep 103 = .ok (.getfield 12, 3) := by decide +kernel
theorem dX2_canKeep_106 : decode cX2_canKeep 106 = .ok (.invokevirtual 140, 3) := by decide +kernel
theorem dX2_canKeep_109 : decode cX2_canKeep 109 = .ok (.ireturn, 1) := by decide +kernel
set_option maxRecDepth 20000 in
theorem ggX2_addRow_X1_limitsFromAbove : GoodIn wsX2_addRow wsX1_limitsFromAbove := goodIn_r _ [11, 12, 37, 38, 39, 40, 41, 42, 43, 44, 45] (by decide +kernel) (by decide +kernel)
set_option maxRecDepth 20000 in
theorem gX2_addRow_X1_limitsFromAbove : GoodIn wsX2_addRow (wsV RX2 144 RX1 yX1_limitsFromAbove wsX1_limitsFromAbove) := goodIn_app (goodIn_of _ (by decide +kernel)) ggX2_addRow_X1_limitsFromAbove
set_option maxRecDepth 20000 in
theorem ggX2_addRow_X0_addAtMost : GoodIn wsX2_addRow wsX0_addAtMost := goodIn_r _ [17, 18, 19, 20, 21, 22, 46, 47, 48, 49, 50, 51, 52, 53, 54] (by decide +kernel) (by decide +kernel)
set_option maxRecDepth 20000 in
theorem gX2_addRow_X0_addAtMost : GoodIn wsX2_addRow (wsV RX2 133 RX0 yX0_addAtMost wsX0_addAtMost) := goodIn_app (goodIn_of _ (by decide +kernel)) ggX2_addRow_X0_addAtMost
set_option maxRecDepth 20000 in
theorem ggX2_addRow_X1_limitsFromBelow : GoodIn wsX2_addRow wsX1_limitsFromBelow := goodIn_r _ [26, 12, 37, 38, 39, 40, 41, 42, 43, 44, 45] (by decide +kernel) (by decide +kernel)
set_option maxRecDepth 20000 in
theorem gX2_addRow_X1_limitsFromBelow : GoodIn wsX2_addRow (wsV RX2 147 RX1 yX1_limitsFromBelow wsX1_limitsFromBelow) := goodIn_app (goodIn_of _ (by decide +kernel)) ggX2_addRow_X1_limitsFromBelow
theorem dX2_addRow_0 : decode cX2_addRow 0 = .ok (.aload_n 0, 1) := by decide +kernel
theorem dX2_addRow_1 : decode cX2_addRow 1 = .ok (.getfield 30, 3) := by decide +kernel
theorem dX2_addRow_4 : decode cX2_addRow 4 = .ok (.getfield 71, 3) := by decide +kernel
theorem dX2_addRow_7 : decode cX2_addRow 7 = .ok (.iload_n 1, 1) := by decide +kernel
theorem dX2_addRow_8 : decode cX2_addRow 8 = .ok (.aaload, 1) := by decide +kernel
theorem dX2_addRow_9 : decode cX2_addRow 9 = .ok (.astore_n 2, 1) := by decide +kernel
theorem dX2_addRow_10 : decode cX2_addRow 10 = .ok (.aload_n 0, 1) := by decide +kernel
theorem dX2_addRow_11 : decode cX2_addRow 11 = .ok (.getfield 30, 3) := by decide +kernel
theorem dX2_addRow_14 : decode cX2_addRow 14 = .ok (.getfield 75, 3) := by decide +kernel
theorem dX2_addRow_17 : decode cX2_addRow 17 = .ok (.iload_n 1, 1) := by decide +kernel
theorem dX2_addRow_18 : decode cX2_addRow 18 = .ok (.iaload, 1) := by decide +kernel
theorem dX2_addRow_19 : decode cX2_addRow 19 = .ok (.istore_n 3, 1) := by decide +kernel
theorem dX2_addRow_20 : decode cX2_addRow 20 = .ok (.iconst 0, 1) := by decide +kernel
theorem dX2_addRow_21 : decode cX2_addRow 21 = .ok (.istore 4, 2) := by decide +kernel
theorem dX2_addRow_23 : decode cX2_addRow 23 = .ok (.iload 4, 2) := by decide +kernel
theorem dX2_addRow_25 : decode cX2_addRow 25 = .ok (.aload_n 0, 1) := by decide +kernel
theorem dX2_addRow_26 : decode cX2_addRow 26 = .ok (.getfield 30, 3) := by decide +kernel
theorem dX2_addRow_29 : decode cX2_addRow 29 = .ok (.getfield 58, 3) := by decide +kernel
theorem dX2_addRow_32 : decode cX2_addRow 32 = .ok (.if_icmp .ge 27, 3) := by decide +kernel
theorem dX2_addRow_35 : decode cX2_addRow 35 = .ok (.iload_n 3, 1) := by decide +kernel
theorem dX2_addRow_36 : decode cX2_addRow 36 = .ok (.aload_n 2, 1) := by decide +kernel
theorem dX2_addRow_37 : decode cX2_addRow 37 = .ok (.iload 4, 2) := by decide +kernel
theorem dX2_addRow_39 : decode cX2_addRow 39 = .ok (.iaload, 1) := by decide +kernel
theorem dX2_addRow_40 : decode cX2_addRow 40 = .ok (.aload_n 0, 1) := by decide +kernel
theorem dX2_addRow_41 : decode cX2_addRow 41 = .ok (.getfield 30, 3) := by decide +kernel
theorem dX2_addRow_44 : decode cX2_addRow 44 = .ok (.getfield 116, 3) := by decide +kernel
theorem dX2_addRow_47 : decode cX2_addRow 47 = .ok (.iload 4, 2) := by decide +kernel
theorem dX2_addRow_49 : decode cX2_addRow 49 = .ok (.iaload, 1) := by decide +kernel
theorem dX2_addRow_50 : decode cX2_addRow 50 = .ok (.imul, 1) := by decide +kernel
theorem dX2_addRow_51 : decode cX2_addRow 51 = .ok (.isub, 1) := by decide +kernel
theorem dX2_addRow_52 : decode cX2_addRow 52 = .ok (.istore_n 3, 1) := by decide +kernel
theorem dX2_addRow_53 : decode cX2_addRow 53 = .ok (.iinc 4 1, 3) := by decide +kernel
theorem dX2_addRow_56 : decode cX2_addRow 56 = .ok (.goto (-33), 3) := by decide +kernel
theorem dX2_addRow_59 : decode cX2_addRow 59 = .ok (.aload_n 0, 1) := by decide +kernel
theorem dX2_addRow_60 : decode cX2_addRow 60 = .ok (.getfield 30, 3) := by decide +kernel
theorem dX2_addRow_63 : decode cX2_addRow 63 = .ok (.iload_n 1, 1) := by decide +kernel
theorem dX2_addRow_64 : decode cX2_addRow 64 = .ok (.invokevirtual 144, 3) := by decide +kernel
theorem dX2_addRow_67 : decode cX2_addRow 67 = .ok (.ifCond .eq 13, 3) := by decide +kernel
theorem dX2_addRow_70 : decode cX2_addRow 70 = .ok (.aload_n 0, 1) := by decide +kernel
theorem dX2_addRow_71 : decode cX2_addRow 71 = .ok (.getfield 12, 3) := by decide +kernel
theorem dX2_addRow_74 : decode cX2_addRow 74 = .ok (.aload_n 2, 1) := by decide +kernel
theorem dX2_addRow_75 : decode cX2_addRow 75 = .ok (.iconst 1, 1) := by decide +kernel
theorem dX2_addRow_76 : decode cX2_addRow 76 = .ok (.iload_n 3, 1) := by decide +kernel
theorem dX2_addRow_77 : decode cX2_addRow 77 = .ok (.invokevirtual 133, 3) := by decide +kernel
theorem dX2_addRow_80 : decode cX2_addRow 80 = .ok (.aload_n 0, 1) := by decide +kernel
theorem dX2_addRow_81 : decode cX2_addRow 81 = .ok (.getfield 30, 3) := by decide +kernel
theorem dX2_addRow_84 : decode cX2_addRow 84 = .ok (.iload_n 1, 1) := by decide +kernel
theorem dX2_addRow_85 : decode cX2_addRow 85 = .ok (.invokevirtual 147, 3) := by decide +kernel
theorem dX2_addRow_88 : decode cX2_addRow 88 = .ok (.ifCond .eq 14, 3) := by decide +kernel
theorem dX2_addRow_91 : decode cX2_addRow 91 = .ok (.aload_n 0, 1) := by decide +kernel
theorem dX2_addRow_92 : decode cX2_addRow 92 = .ok (.getfield 12, 3) := by decide +kernel
theorem dX2_addRow_95 : decode cX2_addRow 95 = .ok (.aload_n 2, 1) := by decide +kernel
theorem dX2_addRow_96 : decode cX2_addRow 96 = .ok (.iconst (-1), 1) := by decide +kernel
theorem dX2_addRow_97 : decode cX2_addRow 97 = .ok (.iload_n 3, 1) := by decide +kernel
theorem dX2_addRow_98 : decode cX2_addRow 98 = .ok (.ineg, 1) := by decide +kernel
theorem dX2_addRow_99 : decode cX2_addRow 99 = .ok (.invokevirtual 133, 3) := by decide +kernel
theorem dX2_addRow_102 : decode cX2_addRow 102 = .ok (.return_, 1) := by decide +kernel
set_option maxRecDepth 20000 in
theorem ggX2_partOf_X2_greatestDivisor : GoodIn wsX2_partOf wsX2_greatestDivisor := goodIn_r _ [4, 5, 6, 7, 8] (by decide +kernel) (by decide +kernel)
set_option maxRecDepth 20000 in
theorem gX2_partOf_X2_greatestDivisor : GoodIn wsX2_partOf (va_wsS RX2 150 yX2_greatestDivisor wsX2_greatestDivisor) := goodIn_app (goodIn_of _ (by decide +kernel)) ggX2_partOf_X2_greatestDivisor
theorem dX2_partOf_0 : decode cX2_partOf 0 = .ok (.lload_n 0, 1) := by decide +kernel
theorem dX2_partOf_1 : decode cX2_partOf 1 = .ok (.lload_n 2, 1) := by decide +kernel
theorem dX2_partOf_2 : decode cX2_partOf 2 = .ok (.invokestatic 150, 3) := by decide +kernel
theorem dX2_partOf_5 : decode cX2_partOf 5 = .ok (.lstore 5, 2) := by decide +kernel
theorem dX2_partOf_7 : decode cX2_partOf 7 = .ok (.lload 5, 2) := by decide +kernel
theorem dX2_partOf_9 : decode cX2_partOf 9 = .ok (.lconst 0, 1) := by decide +kernel
theorem dX2_partOf_10 : decode cX2_partOf 10 = .ok (.lcmp, 1) := by decide +kernel
theorem dX2_partOf_11 : decode cX2_partOf 11 = .ok (.ifCond .ne 5, 3) := by decide +kernel
theorem dX2_partOf_14 : decode cX2_partOf 14 = .ok (.lconst 0, 1) := by decide +kernel
theorem dX2_partOf_15 : decode cX2_partOf 15 = .ok (.lreturn, 1) := by decide +kernel
theorem dX2_partOf_16 : decode cX2_partOf 16 = .ok (.iload 4, 2) := by decide +kernel
theorem dX2_partOf_18 : decode cX2_partOf 18 = .ok (.ifCond .ne 10, 3) := by decide +kernel
theorem dX2_partOf_21 : decode cX2_partOf 21 = .ok (.lload_n 0, 1) := by decide +kernel
theorem dX2_partOf_22 : decode cX2_partOf 22 = .ok (.lload 5, 2) := by decide +kernel
theorem dX2_partOf_24 : decode cX2_partOf 24 = .ok (.ldiv, 1) := by decide +kernel
theorem dX2_partOf_25 : decode cX2_partOf 25 = .ok (.goto 7, 3) := by decide +kernel
theorem dX2_partOf_28 : decode cX2_partOf 28 = .ok (.lload_n 2, 1) := by decide +kernel
theorem dX2_partOf_29 : decode cX2_partOf 29 = .ok (.lload 5, 2) := by decide +kernel
theorem dX2_partOf_31 : decode cX2_partOf 31 = .ok (.ldiv, 1) := by decide +kernel
theorem dX2_partOf_32 : decode cX2_partOf 32 = .ok (.lreturn, 1) := by decide +kernel
theorem dX2_greatestDivisor_0 : decode cX2_greatestDivisor 0 = .ok (.lload_n 0, 1) := by decide +kernel
theorem dX2_greatestDivisor_1 : decode cX2_greatestDivisor 1 = .ok (.invokestatic 154, 3) := by decide +kernel
theorem dX2_greatestDivisor_4 : decode cX2_greatestDivisor 4 = .ok (.lstore 4, 2) := by decide +kernel
theorem dX2_greatestDivisor_6 : decode cX2_greatestDivisor 6 = .ok (.lload_n 2, 1) := by decide +kernel
theorem dX2_greatestDivisor_7 : decode cX2_greatestDivisor 7 = .ok (.invokestatic 154, 3) := by decide +kernel
theorem dX2_greatestDivisor_10 : decode cX2_greatestDivisor 10 = .ok (.lstore 6, 2) := by decide +kernel
theorem dX2_greatestDivisor_12 : decode cX2_greatestDivisor 12 = .ok (.iconst 0, 1) := by decide +kernel
theorem dX2_greatestDivisor_13 : decode cX2_greatestDivisor 13 = .ok (.istore 8, 2) := by decide +kernel
theorem dX2_greatestDivisor_15 : decode cX2_greatestDivisor 15 = .ok (.iload 8, 2) := by decide +kernel
theorem dX2_greatestDivisor_17 : decode cX2_greatestDivisor 17 = .ok (.sipush 200, 3) := by decide +kernel
theorem dX2_greatestDivisor_20 : decode cX2_greatestDivisor 20 = .ok (.if_icmp .ge 31, 3) := by decide +kernel
theorem dX2_greatestDivisor_23 : decode cX2_greatestDivisor 23 = .ok (.lload 6, 2) := by decide +kernel
theorem dX2_greatestDivisor_25 : decode cX2_greatestDivisor 25 = .ok (.lconst 0, 1) := by decide +kernel
theorem dX2_greatestDivisor_26 : decode cX2_greatestDivisor 26 = .ok (.lcmp, 1) := by decide +kernel
theorem dX2_greatestDivisor_27 : decode cX2_greatestDivisor 27 = .ok (.ifCond .eq 24, 3) := by decide +kernel
theorem dX2_greatestDivisor_30 : decode cX2_greatestDivisor 30 = .ok (.lload 4, 2) := by decide +kernel
theorem dX2_greatestDivisor_32 : decode cX2_greatestDivisor 32 = .ok (.lload 6, 2) := by decide +kernel
theorem dX2_greatestDivisor_34 : decode cX2_greatestDivisor 34 = .ok (.lrem, 1) := by decide +kernel
theorem dX2_greatestDivisor_35 : decode cX2_greatestDivisor 35 = .ok (.lstore 9, 2) := by decide +kernel
theorem dX2_greatestDivisor_37 : decode cX2_greatestDivisor 37 = .ok (.lload 6, 2) := by decide +kernel
theorem dX2_greatestDivisor_39 : decode cX2_greatestDivisor 39 = .ok (.lstore 4, 2) := by decide +kernel
theorem dX2_greatestDivisor_41 : decode cX2_greatestDivisor 41 = .ok (.lload 9, 2) := by decide +kernel
theorem dX2_greatestDivisor_43 : decode cX2_greatestDivisor 43 = .ok (.lstore 6, 2) := by decide +kernel
theorem dX2_greatestDivisor_45 : decode cX2_greatestDivisor 45 = .ok (.iinc 8 1, 3) := by decide +kernel
theorem dX2_greatestDivisor_48 : decode cX2_greatestDivisor 48 = .ok (.goto (-33), 3) := by decide +kernel
theorem dX2_greatestDivisor_51 : decode cX2_greatestDivisor 51 = .ok (.lload 4, 2) := by decide +kernel
theorem dX2_greatestDivisor_53 : decode cX2_greatestDivisor 53 = .ok (.lreturn, 1) := by decide +kernel
theorem dX3_init_0 : decode cX3_init 0 = .ok (.aload_n 0, 1) := by decide +kernel
theorem dX3_init_1 : decode cX3_init 1 = .ok (.invokespecial 3, 3) := by decide +kernel
theorem dX3_init_4 : decode cX3_init 4 = .ok (.aload_n 0, 1) := by decide +kernel
theorem dX3_init_5 : decode cX3_init 5 = .ok (.iconst 5, 1) := by decide +kernel
theorem dX3_init_6 : decode cX3_init 6 = .ok (.newarray .int, 2) := by decide +kernel
theorem dX3_init_8 : decode cX3_init 8 = .ok (.putfield 9, 3) := by decide +kernel
theorem dX3_init_11 : decode cX3_init 11 = .ok (.aload_n 0, 1) := by decide +kernel
theorem dX3_init_12 : decode cX3_init 12 = .ok (.iconst 5, 1) := by decide +kernel
theorem dX3_init_13 : decode cX3_init 13 = .ok (.newarray .int, 2) := by decide +kernel
theorem dX3_init_15 : decode cX3_init 15 = .ok (.putfield 15, 3) := by decide +kernel
theorem dX3_init_18 : decode cX3_init 18 = .ok (.aload_n 0, 1) := by decide +kernel
theorem dX3_init_19 : decode cX3_init 19 = .ok (.iconst 5, 1) := by decide +kernel
theorem dX3_init_20 : decode cX3_init 20 = .ok (.newarray .int, 2) := by decide +kernel
theorem dX3_init_22 : decode cX3_init 22 = .ok (.putfield 18, 3) := by decide +kernel
theorem dX3_init_25 : decode cX3_init 25 = .ok (.aload_n 0, 1) := by decide +kernel
theorem dX3_init_26 : decode cX3_init 26 = .ok (.bipush 6, 2) := by decide +kernel
theorem dX3_init_28 : decode cX3_init 28 = .ok (.bipush 9, 2) := by decide +kernel
theorem dX3_init_30 : decode cX3_init 30 = .ok (.multianewarray 21 2, 4) := by decide +kernel
theorem dX3_init_34 : decode cX3_init 34 = .ok (.putfield 23, 3) := by decide +kernel
theorem dX3_init_37 : decode cX3_init 37 = .ok (.aload_n 0, 1) := by decide +kernel
theorem dX3_init_38 : decode cX3_init 38 = .ok (.bipush 6, 2) := by decide +kernel
theorem dX3_init_40 : decode cX3_init 40 = .ok (.bipush 9, 2) := by decide +kernel
theorem dX3_init_42 : decode cX3_init 42 = .ok (.multianewarray 21 2, 4) := by decide +kernel
theorem dX3_init_46 : decode cX3_init 46 = .ok (.putfield 26, 3) := by decide +kernel
theorem dX3_init_49 : decode cX3_init 49 = .ok (.aload_n 0, 1) := by decide +kernel
theorem dX3_init_50 : decode cX3_init 50 = .ok (.bipush 6, 2) := by decide +kernel
theorem dX3_init_52 : decode cX3_init 52 = .ok (.bipush 9, 2) := by decide +kernel
theorem dX3_init_54 : decode cX3_init 54 = .ok (.multianewarray 21 2, 4) := by decide +kernel
theorem dX3_init_58 : decode cX3_init 58 = .ok (.putfield 29, 3) := by decide +kernel
theorem dX3_init_61 : decode cX3_init 61 = .ok (.aload_n 0, 1) := by decide +kernel
theorem dX3_init_62 : decode cX3_init 62 = .ok (.aload_n 1, 1) := by decide +kernel
theorem dX3_init_63 : decode cX3_init 63 = .ok (.putfield 32, 3) := by decide +kernel
theorem dX3_init_66 : decode cX3_init 66 = .ok (.return_, 1) := by decide +kernel
theorem dX3_forget_0 : decode cX3_forget 0 = .ok (.aload_n 0, 1) := by decide +kernel
theorem dX3_forget_1 : decode cX3_forget 1 = .ok (.iconst 0, 1) := by decide +kernel
theorem dX3_forget_2 : decode cX3_forget 2 = .ok (.putfield 36, 3) := by decide +kernel
theorem dX3_forget_5 : decode cX3_forget 5 = .ok (.return_, 1) := by decide +kernel
set_option maxRecDepth 20000 in
theorem ggX3_hasPoint_X3_weighOthers : GoodIn wsX3_hasPoint wsX3_weighOthers := goodIn_r _ [12, 4, 5, 13, 14, 15, 16, 17, 18, 19, 20, 21, 22, 23, 24, 25, 26, 27, 11, 28, 29, 30, 87, 88, 89, 90, 91, 92, 93, 94, 95, 96, 97, 98, 99, 100, 101, 102, 103, 104, 105] (by decide +kernel) (by decide +kernel)
set_option maxRecDepth 20000 in
theorem gX3_hasPoint_X3_weighOthers : GoodIn wsX3_hasPoint (wsV RX3 43 RX3 yX3_weighOthers wsX3_weighOthers) := goodIn_app (goodIn_of _ (by decide +kernel)) ggX3_hasPoint_X3_weighOthers
set_option maxRecDepth 20000 in
theorem ggX3_hasPoint_X3_openName : GoodIn wsX3_hasPoint wsX3_openName := goodIn_r _ [34, 4, 5, 6, 16, 7, 17, 35, 2, 36, 13, 14, 29, 37, 38, 39, 40, 41, 42, 43, 44, 45, 46, 11, 47, 30, 48, 15, 49, 50, 51, 52, 53, 54, 55, 56, 57, 18, 19, 20, 21, 22, 23, 24, 58, 59, 60, 61, 62, 63, 64, 65, 66, 67, 68, 69, 87, 88, 89, 90, 91, 92, 93, 94, 95, 96, 97, 98, 99, 100, 101, 102, 103, 104, 105] (by decide +kernel) (by decide +kernel)
set_option maxRecDepth 20000 in
theorem gX3_hasPoint_X3_openName : GoodIn wsX3_hasPoint (wsV RX3 46 RX3 yX3_openName wsX3_openName) := goodIn_app (goodIn_of _ (by decide +kernel)) ggX3_hasPoint_X3_openName
set_option maxRecDepth 20000 in
theorem ggX3_hasPoint_X3_takePoint : GoodIn wsX3_hasPoint wsX3_takePoint := goodIn_r _ [73, 4, 5, 2, 13, 36, 74, 6, 75, 76, 77, 11, 78, 35, 48, 37, 38, 39, 40, 41, 42, 43, 49, 50, 51, 52, 53, 62, 63, 64, 65, 79, 80, 81, 82, 14, 87, 88, 89, 90, 91, 92, 93, 94, 95, 96, 97, 98, 99, 100, 101, 102, 103, 104, 105] (by decide +kernel) (by decide +kernel)
set_option maxRecDepth 20000 in
theorem gX3_hasPoint_X3_takePoint : GoodIn wsX3_hasPoint (wsV RX3 57 RX3 yX3_takePoint wsX3_takePoint) := goodIn_app (goodIn_of _ (by decide +kernel)) ggX3_hasPoint_X3_takePoint
set_option maxRecDepth 20000 in
theorem ggX3_hasPoint_X3_addUp : GoodIn wsX3_hasPoint wsX3_addUp := goodIn_r _ [86, 4, 35, 13, 30, 6, 29, 87, 88, 89, 90, 91, 92, 93, 94, 95, 96, 97, 98, 99, 100, 101, 102, 103, 104, 105] (by decide +kernel) (by decide +kernel)
set_option maxRecDepth 20000 in
theorem gX3_hasPoint_X3_addUp : GoodIn wsX3_hasPoint (wsV RX3 60 RX3 yX3_addUp wsX3_addUp) := goodIn_app (goodIn_of _ (by decide +kernel)) ggX3_hasPoint_X3_addUp
set_option maxRecDepth 20000 in
theorem ggX3_hasPoint_X3_mayBeCheaper : GoodIn wsX3_hasPoint wsX3_mayBeCheaper := goodIn_r _ [82, 2, 13, 14, 36, 87, 88, 89, 90, 91, 92, 93, 94, 95, 96] (by decide +kernel) (by decide +kernel)
set_option maxRecDepth 20000 in
theorem gX3_hasPoint_X3_mayBeCheaper : GoodIn wsX3_hasPoint (wsV RX3 63 RX3 yX3_mayBeCheaper wsX3_mayBeCheaper) := goodIn_app (goodIn_of _ (by decide +kernel)) ggX3_hasPoint_X3_mayBeCheaper
theorem dX3_hasPoint_0 : decode cX3_hasPoint 0 = .ok (.aload_n 0, 1) := by decide +kernel
theorem dX3_hasPoint_1 : decode cX3_hasPoint 1 = .ok (.getfield 36, 3) := by decide +kernel
theorem dX3_hasPoint_4 : decode cX3_hasPoint 4 = .ok (.ifCond .eq 8, 3) := by decide +kernel
theorem dX3_hasPoint_7 : decode cX3_hasPoint 7 = .ok (.aload_n 0, 1) := by decide +kernel
theorem dX3_hasPoint_8 : decode cX3_hasPoint 8 = .ok (.getfield 40, 3) := by decide +kernel
theorem dX3_hasPoint_11 : decode cX3_hasPoint 11 = .ok (.ireturn, 1) := by decide +kernel
theorem dX3_hasPoint_12 : decode cX3_hasPoint 12 = .ok (.aload_n 0, 1) := by decide +kernel
theorem dX3_hasPoint_13 : decode cX3_hasPoint 13 = .ok (.iconst 0, 1) := by decide +kernel
theorem dX3_hasPoint_14 : decode cX3_hasPoint 14 = .ok (.putfield 40, 3) := by decide +kernel
theorem dX3_hasPoint_17 : decode cX3_hasPoint 17 = .ok (.aload_n 0, 1) := by decide +kernel
theorem dX3_hasPoint_18 : decode cX3_hasPoint 18 = .ok (.iconst 1, 1) := by decide +kernel
theorem dX3_hasPoint_19 : decode cX3_hasPoint 19 = .ok (.putfield 36, 3) := by decide +kernel
theorem dX3_hasPoint_22 : decode cX3_hasPoint 22 = .ok (.aload_n 0, 1) := by decide +kernel
theorem dX3_hasPoint_23 : decode cX3_hasPoint 23 = .ok (.invokevirtual 43, 3) := by decide +kernel
theorem dX3_hasPoint_26 : decode cX3_hasPoint 26 = .ok (.iconst 0, 1) := by decide +kernel
theorem dX3_hasPoint_27 : decode cX3_hasPoint 27 = .ok (.istore_n 1, 1) := by decide +kernel
theorem dX3_hasPoint_28 : decode cX3_hasPoint 28 = .ok (.aload_n 0, 1) := by decide +kernel
theorem dX3_hasPoint_29 : decode cX3_hasPoint 29 = .ok (.iload_n 1, 1) := by decide +kernel
theorem dX3_hasPoint_30 : decode cX3_hasPoint 30 = .ok (.invokevirtual 46, 3) := by decide +kernel
theorem dX3_hasPoint_33 : decode cX3_hasPoint 33 = .ok (.iconst 0, 1) := by decide +kernel
theorem dX3_hasPoint_34 : decode cX3_hasPoint 34 = .ok (.istore_n 2, 1) := by decide +kernel
theorem dX3_hasPoint_35 : decode cX3_hasPoint 35 = .ok (.iload_n 2, 1) := by decide +kernel
theorem dX3_hasPoint_36 : decode cX3_hasPoint 36 = .ok (.ldc 50, 2) := by decide +kernel
theorem dX3_hasPoint_38 : decode cX3_hasPoint 38 = .ok (.if_icmp .ge 88, 3) := by decide +kernel
theorem dX3_hasPoint_41 : decode cX3_hasPoint 41 = .ok (.iload_n 1, 1) := by decide +kernel
theorem dX3_hasPoint_42 : decode cX3_hasPoint 42 = .ok (.ifCond .lt 84, 3) := by decide +kernel
theorem dX3_hasPoint_45 : decode cX3_hasPoint 45 = .ok (.iload_n 1, 1) := by decide +kernel
theorem dX3_hasPoint_46 : decode cX3_hasPoint 46 = .ok (.aload_n 0, 1) := by decide +kernel
theorem dX3_hasPoint_47 : decode cX3_hasPoint 47 = .ok (.getfield 32, 3) := by decide +kernel
theorem dX3_hasPoint_50 : decode cX3_hasPoint 50 = .ok (.getfield 51, 3) := by decide +kernel
theorem dX3_hasPoint_53 : decode cX3_hasPoint 53 = .ok (.if_icmp .lt 13, 3) := by decide +kernel
theorem dX3_hasPoint_56 : decode cX3_hasPoint 56 = .ok (.aload_n 0, 1) := by decide +kernel
theorem dX3_hasPoint_57 : decode cX3_hasPoint 57 = .ok (.invokevirtual 57, 3) := by decide +kernel
theorem dX3_hasPoint_60 : decode cX3_hasPoint 60 = .ok (.iinc 1 (-1), 3) := by decide +kernel
theorem dX3_hasPoint_63 : decode cX3_hasPoint 63 = .ok (.goto 57, 3) := by decide +kernel
theorem dX3_hasPoint_66 : decode cX3_hasPoint 66 = .ok (.aload_n 0, 1) := by decide +kernel
theorem dX3_hasPoint_67 : decode cX3_hasPoint 67 = .ok (.getfield 9, 3) := by decide +kernel
theorem dX3_hasPoint_70 : decode cX3_hasPoint 70 = .ok (.iload_n 1, 1) := by decide +kernel
theorem dX3_hasPoint_71 : decode cX3_hasPoint 71 = .ok (.iaload, 1) := by decide +kernel
theorem dX3_hasPoint_72 : decode cX3_hasPoint 72 = .ok (.aload_n 0, 1) := by decide +kernel
theorem dX3_hasPoint_73 : decode cX3_hasPoint 73 = .ok (.getfield 15, 3) := by decide +kernel
theorem dX3_hasPoint_76 : decode cX3_hasPoint 76 = .ok (.iload_n 1, 1) := by decide +kernel
theorem dX3_hasPoint_77 : decode cX3_hasPoint 77 = .ok (.iaload, 1) := by decide +kernel
theorem dX3_hasPoint_78 : decode cX3_hasPoint 78 = .ok (.if_icmp .lt 9, 3) := by decide +kernel
theorem dX3_hasPoint_81 : decode cX3_hasPoint 81 = .ok (.iinc 1 (-1), 3) := by decide +kernel
theorem dX3_hasPoint_84 : decode cX3_hasPoint 84 = .ok (.goto 36, 3) := by decide +kernel
theorem dX3_hasPoint_87 : decode cX3_hasPoint 87 = .ok (.aload_n 0, 1) := by decide +kernel
theorem dX3_hasPoint_88 : decode cX3_hasPoint 88 = .ok (.getfield 9, 3) := by decide +kernel
theorem dX3_hasPoint_91 : decode cX3_hasPoint 91 = .ok (.iload_n 1, 1) := by decide +kernel
theorem dX3_hasPoint_92 : decode cX3_hasPoint 92 = .ok (.dup2, 1) := by decide +kernel
theorem dX3_hasPoint_93 : decode cX3_hasPoint 93 = .ok (.iaload, 1) := by decide +kernel
theorem dX3_hasPoint_94 : decode cX3_hasPoint 94 = .ok (.iconst 1, 1) := by decide +kernel
theorem dX3_hasPoint_95 : decode cX3_hasPoint 95 = .ok (.iadd, 1) := by decide +kernel
theorem dX3_hasPoint_96 : decode cX3_hasPoint 96 = .ok (.iastore, 1) := by decide +kernel
theorem dX3_hasPoint_97 : decode cX3_hasPoint 97 = .ok (.aload_n 0, 1) := by decide +kernel
theorem dX3_hasPoint_98 : decode cX3_hasPoint 98 = .ok (.iload_n 1, 1) := by decide +kernel
theorem dX3_hasPoint_99 : decode cX3_hasPoint 99 = .ok (.invokevirtual 60, 3) := by decide +kernel
theorem dX3_hasPoint_102 : decode cX3_hasPoint 102 = .ok (.aload_n 0, 1) := by decide +kernel
theorem dX3_hasPoint_103 : decode cX3_hasPoint 103 = .ok (.iload_n 1, 1) := by decide +kernel
theorem dX3_hasPoint_104 : decode cX3_hasPoint 104 = .ok (.iconst 1, 1) := by decide +kernel
theorem dX3_hasPoint_105 : decode cX3_hasPoint 105 = .ok (.iadd, 1) := by decide +kernel
theorem dX3_hasPoint_106 : decode cX3_hasPoint 106 = .ok (.invokevirtual 63, 3) := by decide +kernel
theorem dX3_hasPoint_109 : decode cX3_hasPoint 109 = .ok (.ifCond .eq 11, 3) := by decide +kernel
theorem dX3_hasPoint_112 : decode cX3_hasPoint 112 = .ok (.iinc 1 1, 3) := by decide +kernel
theorem dX3_hasPoint_115 : decode cX3_hasPoint 115 = .ok (.aload_n 0, 1) := by decide +kernel
theorem dX3_hasPoint_116 : decode cX3_hasPoint 116 = .ok (.iload_n 1, 1) := by decide +kernel
theorem dX3_hasPoint_117 : decode cX3_hasPoint 117 = .ok (.invokevirtual 46, 3) := by decide +kernel
theorem dX3_hasPoint_120 : decode cX3_hasPoint 120 = .ok (.iinc 2 1, 3) := by decide +kernel
theorem dX3_hasPoint_123 : decode cX3_hasPoint 123 = .ok (.goto (-88), 3) := by decide +kernel
theorem dX3_hasPoint_126 : decode cX3_hasPoint 126 = .ok (.aload_n 0, 1) := by decide +kernel
theorem dX3_hasPoint_127 : decode cX3_hasPoint 127 = .ok (.getfield 40, 3) := by decide +kernel
theorem dX3_hasPoint_130 : decode cX3_hasPoint 130 = .ok (.ireturn, 1) := by decide +kernel
theorem dX3_leastCost_0 : decode cX3_leastCost 0 = .ok (.aload_n 0, 1) := by decide +kernel
theorem dX3_leastCost_1 : decode cX3_leastCost 1 = .ok (.getfield 67, 3) := by decide +kernel
theorem dX3_leastCost_4 : decode cX3_leastCost 4 = .ok (.ireturn, 1) := by decide +kernel
theorem dX3_firstBestOf_0 : decode cX3_firstBestOf 0 = .ok (.aload_n 0, 1) := by decide +kernel
theorem dX3_firstBestOf_1 : decode cX3_firstBestOf 1 = .ok (.getfield 18, 3) := by decide +kernel
theorem dX3_firstBestOf_4 : decode cX3_firstBestOf 4 = .ok (.iload_n 1, 1) := by decide +kernel
theorem dX3_firstBestOf_5 : decode cX3_firstBestOf 5 = .ok (.iaload, 1) := by decide +kernel
theorem dX3_firstBestOf_6 : decode cX3_firstBestOf 6 = .ok (.ireturn, 1) := by decide +kernel
set_option maxRecDepth 20000 in
theorem ggX3_weighOthers_X3_weight : GoodIn wsX3_weighOthers wsX3_weight := goodIn_r _ [19, 1, 20, 21, 22, 23, 24, 25, 26, 27, 28, 29, 30, 31, 32, 33, 34, 35, 36, 37, 38, 39, 40] (by decide +kernel) (by decide +kernel)
set_option maxRecDepth 20000 in
theorem gX3_weighOthers_X3_weight : GoodIn wsX3_weighOthers (wsV RX3 70 RX3 yX3_weight wsX3_weight) := goodIn_app (goodIn_of _ (by decide +kernel)) ggX3_weighOthers_X3_weight
theorem dX3_weighOthers_0 : decode cX3_weighOthers 0 = .ok (.aload_n 0, 1) := by decide +kernel
theorem dX3_weighOthers_1 : decode cX3_weighOthers 1 = .ok (.getfield 32, 3) := by decide +kernel
theorem dX3_weighOthers_4 : decode cX3_weighOthers 4 = .ok (.getfield 51, 3) := by decide +kernel
theorem dX3_weighOthers_7 : decode cX3_weighOthers 7 = .ok (.istore_n 1, 1) := by decide +kernel
theorem dX3_weighOthers_8 : decode cX3_weighOthers 8 = .ok (.iconst 0, 1) := by decide +kernel
theorem dX3_weighOthers_9 : decode cX3_weighOthers 9 = .ok (.istore_n 2, 1) := by decide +kernel
theorem dX3_weighOthers_10 : decode cX3_weighOthers 10 = .ok (.iload_n 2, 1) := by decide +kernel
theorem dX3_weighOthers_11 : decode cX3_weighOthers 11 = .ok (.bipush 9, 2) := by decide +kernel
theorem dX3_weighOthers_13 : decode cX3_weighOthers 13 = .ok (.if_icmp .ge 138, 3) := by decide +kernel
theorem dX3_weighOthers_16 : decode cX3_weighOthers 16 = .ok (.aload_n 0, 1) := by decide +kernel
theorem dX3_weighOthers_17 : decode cX3_weighOthers 17 = .ok (.getfield 23, 3) := by decide +kernel
theorem dX3_weighOthers_20 : decode cX3_weighOthers 20 = .ok (.iconst 0, 1) := by decide +kernel
theorem dX3_weighOthers_21 : decode cX3_weighOthers 21 = .ok (.aaload, 1) := by decide +kernel
theorem dX3_weighOthers_22 : decode cX3_weighOthers 22 = .ok (.iload_n 2, 1) := by decide +kernel
theorem dX3_weighOthers_23 : decode cX3_weighOthers 23 = .ok (.iconst 0, 1) := by decide +kernel
theorem dX3_weighOthers_24 : decode cX3_weighOthers 24 = .ok (.iastore, 1) := by decide +kernel
theorem dX3_weighOthers_25 : decode cX3_weighOthers 25 = .ok (.aload_n 0, 1) := by decide +kernel
theorem dX3_weighOthers_26 : decode cX3_weighOthers 26 = .ok (.getfield 26, 3) := by decide +kernel
theorem dX3_weighOthers_29 : decode cX3_weighOthers 29 = .ok (.iload_n 1, 1) := by decide +kernel
theorem dX3_weighOthers_30 : decode cX3_weighOthers 30 = .ok (.aaload, 1) := by decide +kernel
theorem dX3_weighOthers_31 : decode cX3_weighOthers 31 = .ok (.iload_n 2, 1) := by decide +kernel
theorem dX3_weighOthers_32 : decode cX3_weighOthers 32 = .ok (.iconst 0, 1) := by decide +kernel
theorem dX3_weighOthers_33 : decode cX3_weighOthers 33 = .ok (.iastore, 1) := by decide +kernel
theorem dX3_weighOthers_34 : decode cX3_weighOthers 34 = .ok (.aload_n 0, 1) := by decide +kernel
theorem dX3_weighOthers_35 : decode cX3_weighOthers 35 = .ok (.getfield 29, 3) := by decide +kernel
theorem dX3_weighOthers_38 : decode cX3_weighOthers 38 = .ok (.iload_n 1, 1) := by decide +kernel
theorem dX3_weighOthers_39 : decode cX3_weighOthers 39 = .ok (.aaload, 1) := by decide +kernel
theorem dX3_weighOthers_40 : decode cX3_weighOthers 40 = .ok (.iload_n 2, 1) := by decide +kernel
theorem dX3_weighOthers_41 : decode cX3_weighOthers 41 = .ok (.iconst 0, 1) := by decide +kernel
theorem dX3_weighOthers_42 : decode cX3_weighOthers 42 = .ok (.iastore, 1) := by decide +kernel
theorem dX3_weighOthers_43 : decode cX3_weighOthers 43 = .ok (.iload_n 1, 1) := by decide +kernel
theorem dX3_weighOthers_44 : decode cX3_weighOthers 44 = .ok (.iconst 1, 1) := by decide +kernel
theorem dX3_weighOthers_45 : decode cX3_weighOthers 45 = .ok (.isub, 1) := by decide +kernel
theorem dX3_weighOthers_46 : decode cX3_weighOthers 46 = .ok (.istore_n 3, 1) := by decide +kernel
theorem dX3_weighOthers_47 : decode cX3_weighOthers 47 = .ok (.iload_n 3, 1) := by decide +kernel
theorem dX3_weighOthers_48 : decode cX3_weighOthers 48 = .ok (.ifCond .lt 97, 3) := by decide +kernel
theorem dX3_weighOthers_51 : decode cX3_weighOthers 51 = .ok (.aload_n 0, 1) := by decide +kernel
theorem dX3_weighOthers_52 : decode cX3_weighOthers 52 = .ok (.iload_n 2, 1) := by decide +kernel
theorem dX3_weighOthers_53 : decode cX3_weighOthers 53 = .ok (.iload_n 3, 1) := by decide +kernel
theorem dX3_weighOthers_54 : decode cX3_weighOthers 54 = .ok (.invokevirtual 70, 3) := by decide +kernel
theorem dX3_weighOthers_57 : decode cX3_weighOthers 57 = .ok (.aload_n 0, 1) := by decide +kernel
theorem dX3_weighOthers_58 : decode cX3_weighOthers 58 = .ok (.getfield 32, 3) := by decide +kernel
theorem dX3_weighOthers_61 : decode cX3_weighOthers 61 = .ok (.getfield 74, 3) := by decide +kernel
theorem dX3_weighOthers_64 : decode cX3_weighOthers 64 = .ok (.iload_n 3, 1) := by decide +kernel
theorem dX3_weighOthers_65 : decode cX3_weighOthers 65 = .ok (.iaload, 1) := by decide +kernel
theorem dX3_weighOthers_66 : decode cX3_weighOthers 66 = .ok (.imul, 1) := by decide +kernel
theorem dX3_weighOthers_67 : decode cX3_weighOthers 67 = .ok (.istore 4, 2) := by decide +kernel
theorem dX3_weighOthers_69 : decode cX3_weighOthers 69 = .ok (.aload_n 0, 1) := by decide +kernel
theorem dX3_weighOthers_70 : decode cX3_weighOthers 70 = .ok (.iload_n 2, 1) := by decide +kernel
theorem dX3_weighOthers_71 : decode cX3_weighOthers 71 = .ok (.iload_n 3, 1) := by decide +kernel
theorem dX3_weighOthers_72 : decode cX3_weighOthers 72 = .ok (.invokevirtual 70, 3) := by decide +kernel
theorem dX3_weighOthers_75 : decode cX3_weighOthers 75 = .ok (.aload_n 0, 1) := by decide +kernel
theorem dX3_weighOthers_76 : decode cX3_weighOthers 76 = .ok (.getfield 32, 3) := by decide +kernel
theorem dX3_weighOthers_79 : decode cX3_weighOthers 79 = .ok (.getfield 77, 3) := by decide +kernel
theorem dX3_weighOthers_82 : decode cX3_weighOthers 82 = .ok (.iload_n 3, 1) := by decide +kernel
theorem dX3_weighOthers_83 : decode cX3_weighOthers 83 = .ok (.iaload, 1) := by decide +kernel
theorem dX3_weighOthers_84 : decode cX3_weighOthers 84 = .ok (.imul, 1) := by decide +kernel
theorem dX3_weighOthers_85 : decode cX3_weighOthers 85 = .ok (.istore 5, 2) := by decide +kernel
theorem dX3_weighOthers_87 : decode cX3_weighOthers 87 = .ok (.aload_n 0, 1) := by decide +kernel
theorem dX3_weighOthers_88 : decode cX3_weighOthers 88 = .ok (.getfield 26, 3) := by decide +kernel
theorem dX3_weighOthers_91 : decode cX3_weighOthers 91 = .ok (.iload_n 3, 1) := by decide +kernel
theorem dX3_weighOthers_92 : decode cX3_weighOthers 92 = .ok (.aaload, 1) := by decide +kernel
theorem dX3_weighOthers_93 : decode cX3_weighOthers 93 = .ok (.iload_n 2, 1) := by decide +kernel
theorem dX3_weighOthers_94 : decode cX3_weighOthers 94 = .ok (.aload_n 0, 1) := by decide +kernel
theorem dX3_weighOthers_95 : decode cX3_weighOthers 95 = .ok (.getfield 26, 3) := by decide +kernel
theorem dX3_weighOthers_98 : decode cX3_weighOthers 98 = .ok (.iload_n 3, 1) := by decide +kernel
theorem dX3_weighOthers_99 : decode cX3_weighOthers 99 = .ok (.iconst 1, 1) := by decide +kernel
theorem dX3_weighOthers_100 : decode cX3_weighOthers 100 = .ok (.iadd, 1) := by decide +kernel
theorem dX3_weighOthers_101 : decode cX3_weighOthers 101 = .ok (.aaload, 1) := by decide +kernel
theorem dX3_weighOthers_102 : decode cX3_weighOthers 102 = .ok (.iload_n 2, 1) := by decide +kernel
theorem dX3_weighOthers_103 : decode cX3_weighOthers 103 = .ok (.iaload, 1) := by decide +kernel
theorem dX3_weighOthers_104 : decode cX3_weighOthers 104 = .ok (.iload 4, 2) := by decide +kernel
theorem dX3_weighOthers_106 : decode cX3_weighOthers 106 = .ok (.iload 5, 2) := by decide +kernel
theorem dX3_weighOthers_108 : decode cX3_weighOthers 108 = .ok (.invokestatic 80, 3) := by decide +kernel
theorem dX3_weighOthers_111 : decode cX3_weighOthers 111 = .ok (.iadd, 1) := by decide +kernel
theorem dX3_weighOthers_112 : decode cX3_weighOthers 112 = .ok (.iastore, 1) := by decide +kernel
theorem dX3_weighOthers_113 : decode cX3_weighOthers 113 = .ok (.aload_n 0, 1) := by decide +kernel
theorem dX3_weighOthers_114 : decode cX3_weighOthers 114 = .ok (.getfield 29, 3) := by decide +kernel
theorem dX3_weighOthers_117 : decode cX3_weighOthers 117 = .ok (.iload_n 3, 1) := by decide +kernel
theorem dX3_weighOthers_118 : decode cX3_weighOthers 118 = .ok (.aaload, 1) := by decide +kernel
theorem dX3_weighOthers_119 : decode cX3_weighOthers 119 = .ok (.iload_n 2, 1) := by decide +kernel
theorem dX3_weighOthers_120 : decode cX3_weighOthers 120 = .ok (.aload_n 0, 1) := by decide +kernel
theorem dX3_weighOthers_121 : decode cX3_weighOthers 121 = .ok (.getfield 29, 3) := by decide +kernel
theorem dX3_weighOthers_124 : decode cX3_weighOthers 124 = .ok (.iload_n 3, 1) := by decide +kernel
theorem dX3_weighOthers_125 : decode cX3_weighOthers 125 = .ok (.iconst 1, 1) := by decide +kernel
theorem dX3_weighOthers_126 : decode cX3_weighOthers 126 = .ok (.iadd, 1) := by decide +kernel
theorem dX3_weighOthers_127 : decode cX3_weighOthers 127 = .ok (.aaload, 1) := by decide +kernel
theorem dX3_weighOthers_128 : decode cX3_weighOthers 128 = .ok (.iload_n 2, 1) := by decide +kernel
theorem dX3_weighOthers_129 : decode cX3_weighOthers 129 = .ok (.iaload, 1) := by decide +kernel
theorem dX3_weighOthers_130 : decode cX3_weighOthers 130 = .ok (.iload 4, 2) := by decide +kernel
theorem dX3_weighOthers_132 : decode cX3_weighOthers 132 = .ok (.iload 5, 2) := by decide +kernel
theorem dX3_weighOthers_134 : decode cX3_weighOthers 134 = .ok (.invokestatic 85, 3) := by decide +kernel
theorem dX3_weighOthers_137 : decode cX3_weighOthers 137 = .ok (.iadd, 1) := by decide +kernel
theorem dX3_weighOthers_138 : decode cX3_weighOthers 138 = .ok (.iastore, 1) := by decide +kernel
theorem dX3_weighOthers_139 : decode cX3_weighOthers 139 = .ok (.iinc 3 (-1), 3) := by decide +kernel
theorem dX3_weighOthers_142 : decode cX3_weighOthers 142 = .ok (.goto (-95), 3) := by decide +kernel
theorem dX3_weighOthers_145 : decode cX3_weighOthers 145 = .ok (.iinc 2 1, 3) := by decide +kernel
theorem dX3_weighOthers_148 : decode cX3_weighOthers 148 = .ok (.goto (-138), 3) := by decide +kernel
theorem dX3_weighOthers_151 : decode cX3_weighOthers 151 = .ok (.return_, 1) := by decide +kernel
theorem dX3_weight_0 : decode cX3_weight 0 = .ok (.iload_n 1, 1) := by decide +kernel
theorem dX3_weight_1 : decode cX3_weight 1 = .ok (.bipush 8, 2) := by decide +kernel
theorem dX3_weight_3 : decode cX3_weight 3 = .ok (.if_icmp .ne 15, 3) := by decide +kernel
theorem dX3_weight_6 : decode cX3_weight 6 = .ok (.aload_n 0, 1) := by decide +kernel
theorem dX3_weight_7 : decode cX3_weight 7 = .ok (.getfield 32, 3) := by decide +kernel
theorem dX3_weight_10 : decode cX3_weight 10 = .ok (.getfield 88, 3) := by decide +kernel
theorem dX3_weight_13 : decode cX3_weight 13 = .ok (.iload_n 2, 1) := by decide +kernel
theorem dX3_weight_14 : decode cX3_weight 14 = .ok (.iaload, 1) := by decide +kernel
theorem dX3_weight_15 : decode cX3_weight 15 = .ok (.goto 14, 3) := by decide +kernel
theorem dX3_weight_18 : decode cX3_weight 18 = .ok (.aload_n 0, 1) := by decide +kernel
theorem dX3_weight_19 : decode cX3_weight 19 = .ok (.getfield 32, 3) := by decide +kernel
theorem dX3_weight_22 : decode cX3_weight 22 = .ok (.getfield 91, 3) := by decide +kernel
theorem dX3_weight_25 : decode cX3_weight 25 = .ok (.iload_n 1, 1) := by decide +kernel
theorem dX3_weight_26 : decode cX3_weight 26 = .ok (.aaload, 1) := by decide +kernel
theorem dX3_weight_27 : decode cX3_weight 27 = .ok (.iload_n 2, 1) := by decide +kernel
theorem dX3_weight_28 : decode cX3_weight 28 = .ok (.iaload, 1) := by decide +kernel
theorem dX3_weight_29 : decode cX3_weight 29 = .ok (.ireturn, 1) := by decide +kernel
set_option maxRecDepth 20000 in
theorem ggX3_openName_X1_hasRow : GoodIn wsX3_openName wsX1_hasRow := goodIn_r _ [17, 18, 19, 66, 67, 68, 69, 70, 71, 72, 73, 74] (by decide +kernel) (by decide +kernel)
set_option maxRecDepth 20000 in
theorem gX3_openName_X1_hasRow : GoodIn wsX3_openName (wsV RX3 97 RX1 yX1_hasRow wsX1_hasRow) := goodIn_app (goodIn_of _ (by decide +kernel)) ggX3_openName_X1_hasRow
set_option maxRecDepth 20000 in
theorem ggX3_openName_X3_narrowByRow : GoodIn wsX3_openName wsX3_narrowByRow := goodIn_r _ [24, 1, 25, 26, 10, 11, 27, 28, 29, 30, 16, 31, 32, 33, 34, 35, 23, 36, 5, 37, 38, 39, 40, 3, 41, 42, 43, 4, 44, 45, 46, 47, 48, 49, 50, 51, 56, 57, 58, 59, 60, 61, 62, 63, 64, 65, 66, 67, 68, 69, 70, 71, 72, 73, 74] (by decide +kernel) (by decide +kernel)
set_option maxRecDepth 20000 in
theorem gX3_openName_X3_narrowByRow : GoodIn wsX3_openName (wsV RX3 100 RX3 yX3_narrowByRow wsX3_narrowByRow) := goodIn_app (goodIn_of _ (by decide +kernel)) ggX3_openName_X3_narrowByRow
set_option maxRecDepth 20000 in
theorem ggX3_openName_X3_narrow : GoodIn wsX3_openName wsX3_narrow := goodIn_r _ [36, 5, 37, 38, 39, 40, 3, 41, 42, 43, 1, 4, 44, 45, 46, 47, 56, 57, 58, 59, 60, 61, 62, 63, 64, 65, 66, 67, 68, 69, 70, 71, 72, 73, 74] (by decide +kernel) (by decide +kernel)
set_option maxRecDepth 20000 in
theorem gX3_openName_X3_narrow : GoodIn wsX3_openName (wsV RX3 104 RX3 yX3_narrow wsX3_narrow) := goodIn_app (goodIn_of _ (by decide +kernel)) ggX3_openName_X3_narrow
set_option maxRecDepth 20000 in
theorem ggX3_openName_X3_keepCheapest : GoodIn wsX3_openName wsX3_keepCheapest := goodIn_r _ [55, 1, 12, 3, 5, 41, 42, 39, 43, 37, 38, 40, 56, 57, 58, 59, 60, 61, 62, 63, 64, 65, 66, 67, 68, 69, 70, 71, 72, 73, 74] (by decide +kernel) (by decide +kernel)
set_option maxRecDepth 20000 in
theorem gX3_openName_X3_keepCheapest : GoodIn wsX3_openName (wsV RX3 108 RX3 yX3_keepCheapest wsX3_keepCheapest) := goodIn_app (goodIn_of _ (by decide +kernel)) ggX3_openName_X3_keepCheapest
theorem dX3_openName_0 : decode cX3_openName 0 = .ok (.iload_n 1, 1) := by decide +kernel
theorem dX3_openName_1 : decode cX3_openName 1 = .ok (.aload_n 0, 1) := by decide +kernel
theorem dX3_openName_2 : decode cX3_openName 2 = .ok (.getfield 32, 3) := by decide +kernel
theorem dX3_openName_5 : decode cX3_openName 5 = .ok (.getfield 51, 3) := by decide +kernel
theorem dX3_openName_8 : decode cX3_openName 8 = .ok (.if_icmp .lt 4, 3) := by decide +kernel
theorem dX3_openName_11 : decode cX3_openName 11 = .ok (.return_, 1) := by decide +kernel
theorem dX3_openName_12 : decode cX3_openName 12 = .ok (.aload_n 0, 1) := by decide +kernel
theorem dX3_openName_13 : decode cX3_openName 13 = .ok (.getfield 9, 3) := by decide +kernel
theorem dX3_openName_16 : decode cX3_openName 16 = .ok (.iload_n 1, 1) := by decide +kernel
theorem dX3_openName_17 : decode cX3_openName 17 = .ok (.aload_n 0, 1) := by decide +kernel
theorem dX3_openName_18 : decode cX3_openName 18 = .ok (.getfield 32, 3) := by decide +kernel
theorem dX3_openName_21 : decode cX3_openName 21 = .ok (.getfield 74, 3) := by decide +kernel
theorem dX3_openName_24 : decode cX3_openName 24 = .ok (.iload_n 1, 1) := by decide +kernel
theorem dX3_openName_25 : decode cX3_openName 25 = .ok (.iaload, 1) := by decide +kernel
theorem dX3_openName_26 : decode cX3_openName 26 = .ok (.iconst 1, 1) := by decide +kernel
theorem dX3_openName_27 : decode cX3_openName 27 = .ok (.isub, 1) := by decide +kernel
theorem dX3_openName_28 : decode cX3_openName 28 = .ok (.iastore, 1) := by decide +kernel
theorem dX3_openName_29 : decode cX3_openName 29 = .ok (.aload_n 0, 1) := by decide +kernel
theorem dX3_openName_30 : decode cX3_openName 30 = .ok (.getfield 15, 3) := by decide +kernel
theorem dX3_openName_33 : decode cX3_openName 33 = .ok (.iload_n 1, 1) := by decide +kernel
theorem dX3_openName_34 : decode cX3_openName 34 = .ok (.aload_n 0, 1) := by decide +kernel
theorem dX3_openName_35 : decode cX3_openName 35 = .ok (.getfield 32, 3) := by decide +kernel
theorem dX3_openName_38 : decode cX3_openName 38 = .ok (.getfield 77, 3) := by decide +kernel
theorem dX3_openName_41 : decode cX3_openName 41 = .ok (.iload_n 1, 1) := by decide +kernel
theorem dX3_openName_42 : decode cX3_openName 42 = .ok (.iaload, 1) := by decide +kernel
theorem dX3_openName_43 : decode cX3_openName 43 = .ok (.iastore, 1) := by decide +kernel
theorem dX3_openName_44 : decode cX3_openName 44 = .ok (.iconst 0, 1) := by decide +kernel
theorem dX3_openName_45 : decode cX3_openName 45 = .ok (.istore_n 2, 1) := by decide +kernel
theorem dX3_openName_46 : decode cX3_openName 46 = .ok (.iload_n 2, 1) := by decide +kernel
theorem dX3_openName_47 : decode cX3_openName 47 = .ok (.aload_n 0, 1) := by decide +kernel
theorem dX3_openName_48 : decode cX3_openName 48 = .ok (.getfield 32, 3) := by decide +kernel
theorem dX3_openName_51 : decode cX3_openName 51 = .ok (.getfield 94, 3) := by decide +kernel
theorem dX3_openName_54 : decode cX3_openName 54 = .ok (.if_icmp .ge 26, 3) := by decide +kernel
theorem dX3_openName_57 : decode cX3_openName 57 = .ok (.aload_n 0, 1) := by decide +kernel
theorem dX3_openName_58 : decode cX3_openName 58 = .ok (.getfield 32, 3) := by decide +kernel
theorem dX3_openName_61 : decode cX3_openName 61 = .ok (.iload_n 2, 1) := by decide +kernel
theorem dX3_openName_62 : decode cX3_openName 62 = .ok (.invokevirtual 97, 3) := by decide +kernel
theorem dX3_openName_65 : decode cX3_openName 65 = .ok (.ifCond .eq 9, 3) := by decide +kernel
theorem dX3_openName_68 : decode cX3_openName 68 = .ok (.aload_n 0, 1) := by decide +kernel
theorem dX3_openName_69 : decode cX3_openName 69 = .ok (.iload_n 1, 1) := by decide +kernel
theorem dX3_openName_70 : decode cX3_openName 70 = .ok (.iload_n 2, 1) := by decide +kernel
theorem dX3_openName_71 : decode cX3_openName 71 = .ok (.invokevirtual 100, 3) := by decide +kernel
theorem dX3_openName_74 : decode cX3_openName 74 = .ok (.iinc 2 1, 3) := by decide +kernel
theorem dX3_openName_77 : decode cX3_openName 77 = .ok (.goto (-31), 3) := by decide +kernel
theorem dX3_openName_80 : decode cX3_openName 80 = .ok (.aload_n 0, 1) := by decide +kernel
theorem dX3_openName_81 : decode cX3_openName 81 = .ok (.getfield 40, 3) := by decide +kernel
theorem dX3_openName_84 : decode cX3_openName 84 = .ok (.ifCond .eq 47, 3) := by decide +kernel
theorem dX3_openName_87 : decode cX3_openName 87 = .ok (.aload_n 0, 1) := by decide +kernel
theorem dX3_openName_88 : decode cX3_openName 88 = .ok (.getfield 67, 3) := by decide +kernel
theorem dX3_openName_91 : decode cX3_openName 91 = .ok (.iconst 1, 1) := by decide +kernel
theorem dX3_openName_92 : decode cX3_openName 92 = .ok (.isub, 1) := by decide +kernel
theorem dX3_openName_93 : decode cX3_openName 93 = .ok (.aload_n 0, 1) := by decide +kernel
theorem dX3_openName_94 : decode cX3_openName 94 = .ok (.getfield 23, 3) := by decide +kernel
theorem dX3_openName_97 : decode cX3_openName 97 = .ok (.iload_n 1, 1) := by decide +kernel
theorem dX3_openName_98 : decode cX3_openName 98 = .ok (.aaload, 1) := by decide +kernel
theorem dX3_openName_99 : decode cX3_openName 99 = .ok (.bipush 8, 2) := by decide +kernel
theorem dX3_openName_101 : decode cX3_openName 101 = .ok (.iaload, 1) := by decide +kernel
theorem dX3_openName_102 : decode cX3_openName 102 = .ok (.isub, 1) := by decide +kernel
theorem dX3_openName_103 : decode cX3_openName 103 = .ok (.aload_n 0, 1) := by decide +kernel
theorem dX3_openName_104 : decode cX3_openName 104 = .ok (.getfield 26, 3) := by decide +kernel
theorem dX3_openName_107 : decode cX3_openName 107 = .ok (.iload_n 1, 1) := by decide +kernel
theorem dX3_openName_108 : decode cX3_openName 108 = .ok (.iconst 1, 1) := by decide +kernel
theorem dX3_openName_109 : decode cX3_openName 109 = .ok (.iadd, 1) := by decide +kernel
theorem dX3_openName_110 : decode cX3_openName 110 = .ok (.aaload, 1) := by decide +kernel
theorem dX3_openName_111 : decode cX3_openName 111 = .ok (.bipush 8, 2) := by decide +kernel
theorem dX3_openName_113 : decode cX3_openName 113 = .ok (.iaload, 1) := by decide +kernel
theorem dX3_openName_114 : decode cX3_openName 114 = .ok (.isub, 1) := by decide +kernel
theorem dX3_openName_115 : decode cX3_openName 115 = .ok (.istore_n 2, 1) := by decide +kernel
theorem dX3_openName_116 : decode cX3_openName 116 = .ok (.aload_n 0, 1) := by decide +kernel
theorem dX3_openName_117 : decode cX3_openName 117 = .ok (.iload_n 1, 1) := by decide +kernel
theorem dX3_openName_118 : decode cX3_openName 118 = .ok (.aload_n 0, 1) := by decide +kernel
theorem dX3_openName_119 : decode cX3_openName 119 = .ok (.getfield 32, 3) := by decide +kernel
theorem dX3_openName_122 : decode cX3_openName 122 = .ok (.getfield 88, 3) := by decide +kernel
theorem dX3_openName_125 : decode cX3_openName 125 = .ok (.iload_n 1, 1) := by decide +kernel
theorem dX3_openName_126 : decode cX3_openName 126 = .ok (.iaload, 1) := by decide +kernel
theorem dX3_openName_127 : decode cX3_openName 127 = .ok (.iload_n 2, 1) := by decide +kernel
theorem dX3_openName_128 : decode cX3_openName 128 = .ok (.invokevirtual 104, 3) := by decide +kernel
theorem dX3_openName_131 : decode cX3_openName 131 = .ok (.iload_n 1, 1) := by decide +kernel
theorem dX3_openName_132 : decode cX3_openName 132 = .ok (.aload_n 0, 1) := by decide +kernel
theorem dX3_openName_133 : decode cX3_openName 133 = .ok (.getfield 32, 3) := by decide +kernel
theorem dX3_openName_136 : decode cX3_openName 136 = .ok (.getfield 51, 3) := by decide +kernel
theorem dX3_openName_139 : decode cX3_openName 139 = .ok (.iconst 1, 1) := by decide +kernel
theorem dX3_openName_140 : decode cX3_openName 140 = .ok (.isub, 1) := by decide +kernel
theorem dX3_openName_141 : decode cX3_openName 141 = .ok (.if_icmp .ne 8, 3) := by decide +kernel
theorem dX3_openName_144 : decode cX3_openName 144 = .ok (.aload_n 0, 1) := by decide +kernel
theorem dX3_openName_145 : decode cX3_openName 145 = .ok (.iload_n 1, 1) := by decide +kernel
theorem dX3_openName_146 : decode cX3_openName 146 = .ok (.invokevirtual 108, 3) := by decide +kernel
theorem dX3_openName_149 : decode cX3_openName 149 = .ok (.return_, 1) := by decide +kernel
set_option maxRecDepth 20000 in
theorem ggX3_narrowByRow_X1_limitsFromAbove : GoodIn wsX3_narrowByRow wsX1_limitsFromAbove := goodIn_r _ [11, 12, 46, 47, 48, 49, 50, 51, 52, 53, 54] (by decide +kernel) (by decide +kernel)
set_option maxRecDepth 20000 in
theorem gX3_narrowByRow_X1_limitsFromAbove : GoodIn wsX3_narrowByRow (wsV RX3 114 RX1 yX1_limitsFromAbove wsX1_limitsFromAbove) := goodIn_app (goodIn_of _ (by decide +kernel)) ggX3_narrowByRow_X1_limitsFromAbove
set_option maxRecDepth 20000 in
theorem ggX3_narrowByRow_X3_narrow : GoodIn wsX3_narrowByRow wsX3_narrow := goodIn_r _ [17, 18, 19, 20, 21, 22, 23, 24, 25, 26, 1, 27, 28, 29, 30, 31, 36, 37, 38, 39, 40, 41, 42, 43, 44, 45, 46, 47, 48, 49, 50, 51, 52, 53, 54] (by decide +kernel) (by decide +kernel)
set_option maxRecDepth 20000 in
theorem gX3_narrowByRow_X3_narrow : GoodIn wsX3_narrowByRow (wsV RX3 104 RX3 yX3_narrow wsX3_narrow) := goodIn_app (goodIn_of _ (by decide +kernel)) ggX3_narrowByRow_X3_narrow
set_option maxRecDepth 20000 in
theorem ggX3_narrowByRow_X1_limitsFromBelow : GoodIn wsX3_narrowByRow wsX1_limitsFromBelow := goodIn_r _ [35, 12, 46, 47, 48, 49, 50, 51, 52, 53, 54] (by decide +kernel) (by decide +kernel)
set_option maxRecDepth 20000 in
theorem gX3_narrowByRow_X1_limitsFromBelow : GoodIn wsX3_narrowByRow (wsV RX3 117 RX1 yX1_limitsFromBelow wsX1_limitsFromBelow) := goodIn_app (goodIn_of _ (by decide +kernel)) ggX3_narrowByRow_X1_limitsFromBelow
theorem dX3_narrowByRow_0 : decode cX3_narrowByRow 0 = .ok (.aload_n 0, 1) := by decide +kernel
theorem dX3_narrowByRow_1 : decode cX3_narrowByRow 1 = .ok (.getfield 32, 3) := by decide +kernel
theorem dX3_narrowByRow_4 : decode cX3_narrowByRow 4 = .ok (.getfield 91, 3) := by decide +kernel
theorem dX3_narrowByRow_7 : decode cX3_narrowByRow 7 = .ok (.iload_n 2, 1) := by decide +kernel
theorem dX3_narrowByRow_8 : decode cX3_narrowByRow 8 = .ok (.aaload, 1) := by decide +kernel
theorem dX3_narrowByRow_9 : decode cX3_narrowByRow 9 = .ok (.iload_n 1, 1) := by decide +kernel
theorem dX3_narrowByRow_10 : decode cX3_narrowByRow 10 = .ok (.iaload, 1) := by decide +kernel
theorem dX3_narrowByRow_11 : decode cX3_narrowByRow 11 = .ok (.istore_n 3, 1) := by decide +kernel
theorem dX3_narrowByRow_12 : decode cX3_narrowByRow 12 = .ok (.aload_n 0, 1) := by decide +kernel
theorem dX3_narrowByRow_13 : decode cX3_narrowByRow 13 = .ok (.getfield 32, 3) := by decide +kernel
theorem dX3_narrowByRow_16 : decode cX3_narrowByRow 16 = .ok (.getfield 111, 3) := by decide +kernel
theorem dX3_narrowByRow_19 : decode cX3_narrowByRow 19 = .ok (.iload_n 2, 1) := by decide +kernel
theorem dX3_narrowByRow_20 : decode cX3_narrowByRow 20 = .ok (.iaload, 1) := by decide +kernel
theorem dX3_narrowByRow_21 : decode cX3_narrowByRow 21 = .ok (.aload_n 0, 1) := by decide +kernel
theorem dX3_narrowByRow_22 : decode cX3_narrowByRow 22 = .ok (.getfield 23, 3) := by decide +kernel
theorem dX3_narrowByRow_25 : decode cX3_narrowByRow 25 = .ok (.iload_n 1, 1) := by decide +kernel
theorem dX3_narrowByRow_26 : decode cX3_narrowByRow 26 = .ok (.aaload, 1) := by decide +kernel
theorem dX3_narrowByRow_27 : decode cX3_narrowByRow 27 = .ok (.iload_n 2, 1) := by decide +kernel
theorem dX3_narrowByRow_28 : decode cX3_narrowByRow 28 = .ok (.iaload, 1) := by decide +kernel
theorem dX3_narrowByRow_29 : decode cX3_narrowByRow 29 = .ok (.isub, 1) := by decide +kernel
theorem dX3_narrowByRow_30 : decode cX3_narrowByRow 30 = .ok (.istore 4, 2) := by decide +kernel
theorem dX3_narrowByRow_32 : decode cX3_narrowByRow 32 = .ok (.aload_n 0, 1) := by decide +kernel
theorem dX3_narrowByRow_33 : decode cX3_narrowByRow 33 = .ok (.getfield 32, 3) := by decide +kernel
theorem dX3_narrowByRow_36 : decode cX3_narrowByRow 36 = .ok (.iload_n 2, 1) := by decide +kernel
theorem dX3_narrowByRow_37 : decode cX3_narrowByRow 37 = .ok (.invokevirtual 114, 3) := by decide +kernel
theorem dX3_narrowByRow_40 : decode cX3_narrowByRow 40 = .ok (.ifCond .eq 22, 3) := by decide +kernel
theorem dX3_narrowByRow_43 : decode cX3_narrowByRow 43 = .ok (.aload_n 0, 1) := by decide +kernel
theorem dX3_narrowByRow_44 : decode cX3_narrowByRow 44 = .ok (.iload_n 1, 1) := by decide +kernel
theorem dX3_narrowByRow_45 : decode cX3_narrowByRow 45 = .ok (.iload_n 3, 1) := by decide +kernel
theorem dX3_narrowByRow_46 : decode cX3_narrowByRow 46 = .ok (.iload 4, 2) := by decide +kernel
theorem dX3_narrowByRow_48 : decode cX3_narrowByRow 48 = .ok (.aload_n 0, 1) := by decide +kernel
theorem dX3_narrowByRow_49 : decode cX3_narrowByRow 49 = .ok (.getfield 26, 3) := by decide +kernel
theorem dX3_narrowByRow_52 : decode cX3_narrowByRow 52 = .ok (.iload_n 1, 1) := by decide +kernel
theorem dX3_narrowByRow_53 : decode cX3_narrowByRow 53 = .ok (.iconst 1, 1) := by decide +kernel
theorem dX3_narrowByRow_54 : decode cX3_narrowByRow 54 = .ok (.iadd, 1) := by decide +kernel
theorem dX3_narrowByRow_55 : decode cX3_narrowByRow 55 = .ok (.aaload, 1) := by decide +kernel
theorem dX3_narrowByRow_56 : decode cX3_narrowByRow 56 = .ok (.iload_n 2, 1) := by decide +kernel
theorem dX3_narrowByRow_57 : decode cX3_narrowByRow 57 = .ok (.iaload, 1) := by decide +kernel
theorem dX3_narrowByRow_58 : decode cX3_narrowByRow 58 = .ok (.isub, 1) := by decide +kernel
theorem dX3_narrowByRow_59 : decode cX3_narrowByRow 59 = .ok (.invokevirtual 104, 3) := by decide +kernel
theorem dX3_narrowByRow_62 : decode cX3_narrowByRow 62 = .ok (.aload_n 0, 1) := by decide +kernel
theorem dX3_narrowByRow_63 : decode cX3_narrowByRow 63 = .ok (.getfield 32, 3) := by decide +kernel
theorem dX3_narrowByRow_66 : decode cX3_narrowByRow 66 = .ok (.iload_n 2, 1) := by decide +kernel
theorem dX3_narrowByRow_67 : decode cX3_narrowByRow 67 = .ok (.invokevirtual 117, 3) := by decide +kernel
theorem dX3_narrowByRow_70 : decode cX3_narrowByRow 70 = .ok (.ifCond .eq 23, 3) := by decide +kernel
theorem dX3_narrowByRow_73 : decode cX3_narrowByRow 73 = .ok (.aload_n 0, 1) := by decide +kernel
theorem dX3_narrowByRow_74 : decode cX3_narrowByRow 74 = .ok (.iload_n 1, 1) := by decide +kernel
theorem dX3_narrowByRow_75 : decode cX3_narrowByRow 75 = .ok (.iload_n 3, 1) := by decide +kernel
theorem dX3_narrowByRow_76 : decode cX3_narrowByRow 76 = .ok (.ineg, 1) := by decide +kernel
theorem dX3_narrowByRow_77 : decode cX3_narrowByRow 77 = .ok (.aload_n 0, 1) := by decide +kernel
theorem dX3_narrowByRow_78 : decode cX3_narrowByRow 78 = .ok (.getfield 29, 3) := by decide +kernel
theorem dX3_narrowByRow_81 : decode cX3_narrowByRow 81 = .ok (.iload_n 1, 1) := by decide +kernel
theorem dX3_narrowByRow_82 : decode cX3_narrowByRow 82 = .ok (.iconst 1, 1) := by decide +kernel
theorem dX3_narrowByRow_83 : decode cX3_narrowByRow 83 = .ok (.iadd, 1) := by decide +kernel
theorem dX3_narrowByRow_84 : decode cX3_narrowByRow 84 = .ok (.aaload, 1) := by decide +kernel
theorem dX3_narrowByRow_85 : decode cX3_narrowByRow 85 = .ok (.iload_n 2, 1) := by decide +kernel
theorem dX3_narrowByRow_86 : decode cX3_narrowByRow 86 = .ok (.iaload, 1) := by decide +kernel
theorem dX3_narrowByRow_87 : decode cX3_narrowByRow 87 = .ok (.iload 4, 2) := by decide +kernel
theorem dX3_narrowByRow_89 : decode cX3_narrowByRow 89 = .ok (.isub, 1) := by decide +kernel
theorem dX3_narrowByRow_90 : decode cX3_narrowByRow 90 = .ok (.invokevirtual 104, 3) := by decide +kernel
theorem dX3_narrowByRow_93 : decode cX3_narrowByRow 93 = .ok (.return_, 1) := by decide +kernel
set_option maxRecDepth 20000 in
theorem ggX3_narrow_J9_floorDiv_7cf53 : GoodIn wsX3_narrow wsJ9_floorDiv_7cf53 := goodIn_r _ [15] (by decide +kernel) (by decide +kernel)
set_option maxRecDepth 20000 in
theorem gX3_narrow_J9_floorDiv_7cf53 : GoodIn wsX3_narrow (va_wsS RX3 120 yJ9_floorDiv_7cf53 wsJ9_floorDiv_7cf53) := goodIn_app (goodIn_of _ (by decide +kernel)) ggX3_narrow_J9_floorDiv_7cf53
theorem dX3_narrow_0 : decode cX3_narrow 0 = .ok (.iload_n 2, 1) := by decide +kernel
theorem dX3_narrow_1 : decode cX3_narrow 1 = .ok (.ifCond .le 26, 3) := by decide +kernel
theorem dX3_narrow_4 : decode cX3_narrow 4 = .ok (.aload_n 0, 1) := by decide +kernel
theorem dX3_narrow_5 : decode cX3_narrow 5 = .ok (.getfield 15, 3) := by decide +kernel
theorem dX3_narrow_8 : decode cX3_narrow 8 = .ok (.iload_n 1, 1) := by decide +kernel
theorem dX3_narrow_9 : decode cX3_narrow 9 = .ok (.aload_n 0, 1) := by decide +kernel
theorem dX3_narrow_10 : decode cX3_narrow 10 = .ok (.getfield 15, 3) := by decide +kernel
theorem dX3_narrow_13 : decode cX3_narrow 13 = .ok (.iload_n 1, 1) := by decide +kernel
theorem dX3_narrow_14 : decode cX3_narrow 14 = .ok (.iaload, 1) := by decide +kernel
theorem dX3_narrow_15 : decode cX3_narrow 15 = .ok (.iload_n 3, 1) := by decide +kernel
theorem dX3_narrow_16 : decode cX3_narrow 16 = .ok (.iload_n 2, 1) := by decide +kernel
theorem dX3_narrow_17 : decode cX3_narrow 17 = .ok (.invokestatic 120, 3) := by decide +kernel
theorem dX3_narrow_20 : decode cX3_narrow 20 = .ok (.invokestatic 80, 3) := by decide +kernel
theorem dX3_narrow_23 : decode cX3_narrow 23 = .ok (.iastore, 1) := by decide +kernel
theorem dX3_narrow_24 : decode cX3_narrow 24 = .ok (.goto 55, 3) := by decide +kernel
theorem dX3_narrow_27 : decode cX3_narrow 27 = .ok (.iload_n 2, 1) := by decide +kernel
theorem dX3_narrow_28 : decode cX3_narrow 28 = .ok (.ifCond .ge 30, 3) := by decide +kernel
theorem dX3_narrow_31 : decode cX3_narrow 31 = .ok (.aload_n 0, 1) := by decide +kernel
theorem dX3_narrow_32 : decode cX3_narrow 32 = .ok (.getfield 9, 3) := by decide +kernel
theorem dX3_narrow_35 : decode cX3_narrow 35 = .ok (.iload_n 1, 1) := by decide +kernel
theorem dX3_narrow_36 : decode cX3_narrow 36 = .ok (.aload_n 0, 1) := by decide +kernel
theorem dX3_narrow_37 : decode cX3_narrow 37 = .ok (.getfield 9, 3) := by decide +kernel
theorem dX3_narrow_40 : decode cX3_narrow 40 = .ok (.iload_n 1, 1) := by decide +kernel
theorem dX3_narrow_41 : decode cX3_narrow 41 = .ok (.iaload, 1) := by decide +kernel
theorem dX3_narrow_42 : decode cX3_narrow 42 = .ok (.iload_n 3, 1) := by decide +kernel
theorem dX3_narrow_43 : decode cX3_narrow 43 = .ok (.iload_n 2, 1) := by decide +kernel
theorem dX3_narrow_44 : decode cX3_narrow 44 = .ok (.ineg, 1) := by decide +kernel
theorem dX3_narrow_45 : decode cX3_narrow 45 = .ok (.invokestatic 120, 3) := by decide +kernel
theorem dX3_narrow_48 : decode cX3_narrow 48 = .ok (.ineg, 1) := by decide +kernel
theorem dX3_narrow_49 : decode cX3_narrow 49 = .ok (.iconst 1, 1) := by decide +kernel
theorem dX3_narrow_50 : decode cX3_narrow 50 = .ok (.isub, 1) := by decide +kernel
theorem dX3_narrow_51 : decode cX3_narrow 51 = .ok (.invokestatic 85, 3) := by decide +kernel
theorem dX3_narrow_54 : decode cX3_narrow 54 = .ok (.iastore, 1) := by decide +kernel
theorem dX3_narrow_55 : decode cX3_narrow 55 = .ok (.goto 24, 3) := by decide +kernel
theorem dX3_narrow_58 : decode cX3_narrow 58 = .ok (.iload_n 3, 1) := by decide +kernel
theorem dX3_narrow_59 : decode cX3_narrow 59 = .ok (.ifCond .ge 20, 3) := by decide +kernel
theorem dX3_narrow_62 : decode cX3_narrow 62 = .ok (.aload_n 0, 1) := by decide +kernel
theorem dX3_narrow_63 : decode cX3_narrow 63 = .ok (.getfield 15, 3) := by decide +kernel
theorem dX3_narrow_66 : decode cX3_narrow 66 = .ok (.iload_n 1, 1) := by decide +kernel
theorem dX3_narrow_67 : decode cX3_narrow 67 = .ok (.aload_n 0, 1) := by decide +kernel
theorem dX3_narrow_68 : decode cX3_narrow 68 = .ok (.getfield 32, 3) := by decide +kernel
theorem dX3_narrow_71 : decode cX3_narrow 71 = .ok (.getfield 74, 3) := by decide +kernel
theorem dX3_narrow_74 : decode cX3_narrow 74 = .ok (.iload_n 1, 1) := by decide +kernel
theorem dX3_narrow_75 : decode cX3_narrow 75 = .ok (.iaload, 1) := by decide +kernel
theorem dX3_narrow_76 : decode cX3_narrow 76 = .ok (.iconst 1, 1) := by decide +kernel
theorem dX3_narrow_77 : decode cX3_narrow 77 = .ok (.isub, 1) := by decide +kernel
theorem dX3_narrow_78 : decode cX3_narrow 78 = .ok (.iastore, 1) := by decide +kernel
theorem dX3_narrow_79 : decode cX3_narrow 79 = .ok (.return_, 1) := by decide +kernel
theorem dX3_keepCheapest_0 : decode cX3_keepCheapest 0 = .ok (.aload_n 0, 1) := by decide +kernel
theorem dX3_keepCheapest_1 : decode cX3_keepCheapest 1 = .ok (.getfield 32, 3) := by decide +kernel
theorem dX3_keepCheapest_4 : decode cX3_keepCheapest 4 = .ok (.getfield 88, 3) := by decide +kernel
theorem dX3_keepCheapest_7 : decode cX3_keepCheapest 7 = .ok (.iload_n 1, 1) := by decide +kernel
theorem dX3_keepCheapest_8 : decode cX3_keepCheapest 8 = .ok (.iaload, 1) := by decide +kernel
theorem dX3_keepCheapest_9 : decode cX3_keepCheapest 9 = .ok (.ifCond .ge 29, 3) := by decide +kernel
theorem dX3_keepCheapest_12 : decode cX3_keepCheapest 12 = .ok (.aload_n 0, 1) := by decide +kernel
theorem dX3_keepCheapest_13 : decode cX3_keepCheapest 13 = .ok (.getfield 9, 3) := by decide +kernel
theorem dX3_keepCheapest_16 : decode cX3_keepCheapest 16 = .ok (.iload_n 1, 1) := by decide +kernel
theorem dX3_keepCheapest_17 : decode cX3_keepCheapest 17 = .ok (.aload_n 0, 1) := by decide +kernel
theorem dX3_keepCheapest_18 : decode cX3_keepCheapest 18 = .ok (.getfield 9, 3) := by decide +kernel
theorem dX3_keepCheapest_21 : decode cX3_keepCheapest 21 = .ok (.iload_n 1, 1) := by decide +kernel
theorem dX3_keepCheapest_22 : decode cX3_keepCheapest 22 = .ok (.iaload, 1) := by decide +kernel
theorem dX3_keepCheapest_23 : decode cX3_keepCheapest 23 = .ok (.aload_n 0, 1) := by decide +kernel
theorem dX3_keepCheapest_24 : decode cX3_keepCheapest 24 = .ok (.getfield 15, 3) := by decide +kernel
theorem dX3_keepCheapest_27 : decode cX3_keepCheapest 27 = .ok (.iload_n 1, 1) := by decide +kernel
theorem dX3_keepCheapest_28 : decode cX3_keepCheapest 28 = .ok (.iaload, 1) := by decide +kernel
theorem dX3_keepCheapest_29 : decode cX3_keepCheapest 29 = .ok (.iconst 1, 1) := by decide +kernel
theorem dX3_keepCheapest_30 : decode cX3_keepCheapest 30 = .ok (.isub, 1) := by decide +kernel
theorem dX3_keepCheapest_31 : decode cX3_keepCheapest 31 = .ok (.invokestatic 85, 3) := by decide +kernel
theorem dX3_keepCheapest_34 : decode cX3_keepCheapest 34 = .ok (.iastore, 1) := by decide +kernel
theorem dX3_keepCheapest_35 : decode cX3_keepCheapest 35 = .ok (.goto 26, 3) := by decide +kernel
theorem dX3_keepCheapest_38 : decode cX3_keepCheapest 38 = .ok (.aload_n 0, 1) := by decide +kernel
theorem dX3_keepCheapest_39 : decode cX3_keepCheapest 39 = .ok (.getfield 15, 3) := by decide +kernel
theorem dX3_keepCheapest_42 : decode cX3_keepCheapest 42 = .ok (.iload_n 1, 1) := by decide +kernel
theorem dX3_keepCheapest_43 : decode cX3_keepCheapest 43 = .ok (.aload_n 0, 1) := by decide +kernel
theorem dX3_keepCheapest_44 : decode cX3_keepCheapest 44 = .ok (.getfield 15, 3) := by decide +kernel
theorem dX3_keepCheapest_47 : decode cX3_keepCheapest 47 = .ok (.iload_n 1, 1) := by decide +kernel
theorem dX3_keepCheapest_48 : decode cX3_keepCheapest 48 = .ok (.iaload, 1) := by decide +kernel
theorem dX3_keepCheapest_49 : decode cX3_keepCheapest 49 = .ok (.aload_n 0, 1) := by decide +kernel
theorem dX3_keepCheapest_50 : decode cX3_keepCheapest 50 = .ok (.getfield 9, 3) := by decide +kernel
theorem dX3_keepCheapest_53 : decode cX3_keepCheapest 53 = .ok (.iload_n 1, 1) := by decide +kernel
theorem dX3_keepCheapest_54 : decode cX3_keepCheapest 54 = .ok (.iaload, 1) := by decide +kernel
theorem dX3_keepCheapest_55 : decode cX3_keepCheapest 55 = .ok (.iconst 1, 1) := by decide +kernel
theorem dX3_keepCheapest_56 : decode cX3_keepCheapest 56 = .ok (.iadd, 1) := by decide +kernel
theorem dX3_keepCheapest_57 : decode cX3_keepCheapest 57 = .ok (.invokestatic 80, 3) := by decide +kernel
theorem dX3_keepCheapest_60 : decode cX3_keepCheapest 60 = .ok (.iastore, 1) := by decide +kernel
theorem dX3_keepCheapest_61 : decode cX3_keepCheapest 61 = .ok (.return_, 1) := by decide +kernel
theorem dX3_addUp_0 : decode cX3_addUp 0 = .ok (.iconst 0, 1) := by decide +kernel
theorem dX3_addUp_1 : decode cX3_addUp 1 = .ok (.istore_n 2, 1) := by decide +kernel
theorem dX3_addUp_2 : decode cX3_addUp 2 = .ok (.iload_n 2, 1) := by decide +kernel
theorem dX3_addUp_3 : decode cX3_addUp 3 = .ok (.aload_n 0, 1) := by decide +kernel
theorem dX3_addUp_4 : decode cX3_addUp 4 = .ok (.getfield 32, 3) := by decide +kernel
theorem dX3_addUp_7 : decode cX3_addUp 7 = .ok (.getfield 94, 3) := by decide +kernel
theorem dX3_addUp_10 : decode cX3_addUp 10 = .ok (.if_icmp .ge 46, 3) := by decide +kernel
theorem dX3_addUp_13 : decode cX3_addUp 13 = .ok (.aload_n 0, 1) := by decide +kernel
theorem dX3_addUp_14 : decode cX3_addUp 14 = .ok (.getfield 23, 3) := by decide +kernel
theorem dX3_addUp_17 : decode cX3_addUp 17 = .ok (.iload_n 1, 1) := by decide +kernel
theorem dX3_addUp_18 : decode cX3_addUp 18 = .ok (.iconst 1, 1) := by decide +kernel
theorem dX3_addUp_19 : decode cX3_addUp 19 = .ok (.iadd, 1) := by decide +kernel
theorem dX3_addUp_20 : decode cX3_addUp 20 = .ok (.aaload, 1) := by decide +kernel
theorem dX3_addUp_21 : decode cX3_addUp 21 = .ok (.iload_n 2, 1) := by decide +kernel
theorem dX3_addUp_22 : decode cX3_addUp 22 = .ok (.aload_n 0, 1) := by decide +kernel
theorem dX3_addUp_23 : decode cX3_addUp 23 = .ok (.getfield 23, 3) := by decide +kernel
theorem dX3_addUp_26 : decode cX3_addUp 26 = .ok (.iload_n 1, 1) := by decide +kernel
theorem dX3_addUp_27 : decode cX3_addUp 27 = .ok (.aaload, 1) := by decide +kernel
theorem dX3_addUp_28 : decode cX3_addUp 28 = .ok (.iload_n 2, 1) := by decide +kernel
theorem dX3_addUp_29 : decode cX3_addUp 29 = .ok (.iaload, 1) := by decide +kernel
theorem dX3_addUp_30 : decode cX3_addUp 30 = .ok (.aload_n 0, 1) := by decide +kernel
theorem dX3_addUp_31 : decode cX3_addUp 31 = .ok (.getfield 32, 3) := by decide +kernel
theorem dX3_addUp_34 : decode cX3_addUp 34 = .ok (.getfield 91, 3) := by decide +kernel
theorem dX3_addUp_37 : decode cX3_addUp 37 = .ok (.iload_n 2, 1) := by decide +kernel
theorem dX3_addUp_38 : decode cX3_addUp 38 = .ok (.aaload, 1) := by decide +kernel
theorem dX3_addUp_39 : decode cX3_addUp 39 = .ok (.iload_n 1, 1) := by decide +kernel
theorem dX3_addUp_40 : decode cX3_addUp 40 = .ok (.iaload, 1) := by decide +kernel
theorem dX3_addUp_41 : decode cX3_addUp 41 = .ok (.aload_n 0, 1) := by decide +kernel
theorem dX3_addUp_42 : decode cX3_addUp 42 = .ok (.getfield 9, 3) := by decide +kernel
theorem dX3_addUp_45 : decode cX3_addUp 45 = .ok (.iload_n 1, 1) := by decide +kernel
theorem dX3_addUp_46 : decode cX3_addUp 46 = .ok (.iaload, 1) := by decide +kernel
theorem dX3_addUp_47 : decode cX3_addUp 47 = .ok (.imul, 1) := by decide +kernel
theorem dX3_addUp_48 : decode cX3_addUp 48 = .ok (.iadd, 1) := by decide +kernel
theorem dX3_addUp_49 : decode cX3_addUp 49 = .ok (.iastore, 1) := by decide +kernel
theorem dX3_addUp_50 : decode cX3_addUp 50 = .ok (.iinc 2 1, 3) := by decide +kernel
theorem dX3_addUp_53 : decode cX3_addUp 53 = .ok (.goto (-51), 3) := by decide +kernel
theorem dX3_addUp_56 : decode cX3_addUp 56 = .ok (.aload_n 0, 1) := by decide +kernel
theorem dX3_addUp_57 : decode cX3_addUp 57 = .ok (.getfield 23, 3) := by decide +kernel
theorem dX3_addUp_60 : decode cX3_addUp 60 = .ok (.iload_n 1, 1) := by decide +kernel
theorem dX3_addUp_61 : decode cX3_addUp 61 = .ok (.iconst 1, 1) := by decide +kernel
theorem dX3_addUp_62 : decode cX3_addUp 62 = .ok (.iadd, 1) := by decide +kernel
theorem dX3_addUp_63 : decode cX3_addUp 63 = .ok (.aaload, 1) := by decide +kernel
theorem dX3_addUp_64 : decode cX3_addUp 64 = .ok (.bipush 8, 2) := by decide +kernel
theorem dX3_addUp_66 : decode cX3_addUp 66 = .ok (.aload_n 0, 1) := by decide +kernel
theorem dX3_addUp_67 : decode cX3_addUp 67 = .ok (.getfield 23, 3) := by decide +kernel
theorem dX3_addUp_70 : decode cX3_addUp 70 = .ok (.iload_n 1, 1) := by decide +kernel
theorem dX3_addUp_71 : decode cX3_addUp 71 = .ok (.aaload, 1) := by decide +kernel
theorem dX3_addUp_72 : decode cX3_addUp 72 = .ok (.bipush 8, 2) := by decide +kernel
theorem dX3_addUp_74 : decode cX3_addUp 74 = .ok (.iaload, 1) := by decide +kernel
theorem dX3_addUp_75 : decode cX3_addUp 75 = .ok (.aload_n 0, 1) := by decide +kernel
theorem dX3_addUp_76 : decode cX3_addUp 76 = .ok (.getfield 32, 3) := by decide +kernel
theorem dX3_addUp_79 : decode cX3_addUp 79 = .ok (.getfield 88, 3) := by decide +kernel
theorem dX3_addUp_82 : decode cX3_addUp 82 = .ok (.iload_n 1, 1) := by decide +kernel
theorem dX3_addUp_83 : decode cX3_addUp 83 = .ok (.iaload, 1) := by decide +kernel
theorem dX3_addUp_84 : decode cX3_addUp 84 = .ok (.aload_n 0, 1) := by decide +kernel
theorem dX3_addUp_85 : decode cX3_addUp 85 = .ok (.getfield 9, 3) := by decide +kernel
theorem dX3_addUp_88 : decode cX3_addUp 88 = .ok (.iload_n 1, 1) := by decide +kernel
theorem dX3_addUp_89 : decode cX3_addUp 89 = .ok (.iaload, 1) := by decide +kernel
theorem dX3_addUp_90 : decode cX3_addUp 90 = .ok (.imul, 1) := by decide +kernel
theorem dX3_addUp_91 : decode cX3_addUp 91 = .ok (.iadd, 1) := by decide +kernel
theorem dX3_addUp_92 : decode cX3_addUp 92 = .ok (.iastore, 1) := by decide +kernel
theorem dX3_addUp_93 : decode cX3_addUp 93 = .ok (.return_, 1) := by decide +kernel
theorem dX3_mayBeCheaper_0 : decode cX3_mayBeCheaper 0 = .ok (.aload_n 0, 1) := by decide +kernel
theorem dX3_mayBeCheaper_1 : decode cX3_mayBeCheaper 1 = .ok (.getfield 40, 3) := by decide +kernel
theorem dX3_mayBeCheaper_4 : decode cX3_mayBeCheaper 4 = .ok (.ifCond .eq 29, 3) := by decide +kernel
theorem dX3_mayBeCheaper_7 : decode cX3_mayBeCheaper 7 = .ok (.aload_n 0, 1) := by decide +kernel
theorem dX3_mayBeCheaper_8 : decode cX3_mayBeCheaper 8 = .ok (.getfield 23, 3) := by decide +kernel
theorem dX3_mayBeCheaper_11 : decode cX3_mayBeCheaper 11 = .ok (.iload_n 1, 1) := by decide +kernel
theorem dX3_mayBeCheaper_12 : decode cX3_mayBeCheaper 12 = .ok (.aaload, 1) := by decide +kernel
theorem dX3_mayBeCheaper_13 : decode cX3_mayBeCheaper 13 = .ok (.bipush 8, 2) := by decide +kernel
theorem dX3_mayBeCheaper_15 : decode cX3_mayBeCheaper 15 = .ok (.iaload, 1) := by decide +kernel
theorem dX3_mayBeCheaper_16 : decode cX3_mayBeCheaper 16 = .ok (.aload_n 0, 1) := by decide +kernel
theorem dX3_mayBeCheaper_17 : decode cX3_mayBeCheaper 17 = .ok (.getfield 26, 3) := by decide +kernel
theorem dX3_mayBeCheaper_20 : decode cX3_mayBeCheaper 20 = .ok (.iload_n 1, 1) := by decide +kernel
theorem dX3_mayBeCheaper_21 : decode cX3_mayBeCheaper 21 = .ok (.aaload, 1) := by decide +kernel
theorem dX3_mayBeCheaper_22 : decode cX3_mayBeCheaper 22 = .ok (.bipush 8, 2) := by decide +kernel
theorem dX3_mayBeCheaper_24 : decode cX3_mayBeCheaper 24 = .ok (.iaload, 1) := by decide +kernel
theorem dX3_mayBeCheaper_25 : decode cX3_mayBeCheaper 25 = .ok (.iadd, 1) := by decide +kernel
theorem dX3_mayBeCheaper_26 : decode cX3_mayBeCheaper 26 = .ok (.aload_n 0, 1) := by decide +kernel
theorem dX3_mayBeCheaper_27 : decode cX3_mayBeCheaper 27 = .ok (.getfield 67, 3) := by decide +kernel
theorem dX3_mayBeCheaper_30 : decode cX3_mayBeCheaper 30 = .ok (.if_icmp .ge 7, 3) := by decide +kernel
theorem dX3_mayBeCheaper_33 : decode cX3_mayBeCheaper 33 = .ok (.iconst 1, 1) := by decide +kernel
theorem dX3_mayBeCheaper_34 : decode cX3_mayBeCheaper 34 = .ok (.goto 4, 3) := by decide +kernel
theorem dX3_mayBeCheaper_37 : decode cX3_mayBeCheaper 37 = .ok (.iconst 0, 1) := by decide +kernel
theorem dX3_mayBeCheaper_38 : decode cX3_mayBeCheaper 38 = .ok (.ireturn, 1) := by decide +kernel
set_option maxRecDepth 20000 in
theorem ggX3_takePoint_X3_keepsRows : GoodIn wsX3_takePoint wsX3_keepsRows := goodIn_r _ [12, 1, 13, 4, 2, 14, 15, 16, 17, 18, 19, 20, 21, 22, 23, 24, 25, 26, 27, 28, 29, 30, 36, 37, 38, 39, 40, 41, 42, 43, 44, 45, 46, 47, 48, 49, 50, 51, 52, 53, 54] (by decide +kernel) (by decide +kernel)
set_option maxRecDepth 20000 in
theorem gX3_takePoint_X3_keepsRows : GoodIn wsX3_takePoint (wsV RX3 123 RX3 yX3_keepsRows wsX3_keepsRows) := goodIn_app (goodIn_of _ (by decide +kernel)) ggX3_takePoint_X3_keepsRows
set_option maxRecDepth 20000 in
theorem ggX3_takePoint_X3_mayBeCheaper : GoodIn wsX3_takePoint wsX3_mayBeCheaper := goodIn_r _ [34, 3, 4, 35, 5, 36, 37, 38, 39, 40, 41, 42, 43, 44, 45] (by decide +kernel) (by decide +kernel)
set_option maxRecDepth 20000 in
theorem gX3_takePoint_X3_mayBeCheaper : GoodIn wsX3_takePoint (wsV RX3 63 RX3 yX3_mayBeCheaper wsX3_mayBeCheaper) := goodIn_app (goodIn_of _ (by decide +kernel)) ggX3_takePoint_X3_mayBeCheaper
theorem dX3_takePoint_0 : decode cX3_takePoint 0 = .ok (.aload_n 0, 1) := by decide +kernel
theorem dX3_takePoint_1 : decode cX3_takePoint 1 = .ok (.getfield 32, 3) := by decide +kernel
theorem dX3_takePoint_4 : decode cX3_takePoint 4 = .ok (.getfield 51, 3) := by decide +kernel
theorem dX3_takePoint_7 : decode cX3_takePoint 7 = .ok (.istore_n 1, 1) := by decide +kernel
theorem dX3_takePoint_8 : decode cX3_takePoint 8 = .ok (.aload_n 0, 1) := by decide +kernel
theorem dX3_takePoint_9 : decode cX3_takePoint 9 = .ok (.invokevirtual 123, 3) := by decide +kernel
theorem dX3_takePoint_12 : decode cX3_takePoint 12 = .ok (.ifCond .eq 11, 3) := by decide +kernel
theorem dX3_takePoint_15 : decode cX3_takePoint 15 = .ok (.aload_n 0, 1) := by decide +kernel
theorem dX3_takePoint_16 : decode cX3_takePoint 16 = .ok (.iload_n 1, 1) := by decide +kernel
theorem dX3_takePoint_17 : decode cX3_takePoint 17 = .ok (.invokevirtual 63, 3) := by decide +kernel
theorem dX3_takePoint_20 : decode cX3_takePoint 20 = .ok (.ifCond .ne 4, 3) := by decide +kernel
theorem dX3_takePoint_23 : decode cX3_takePoint 23 = .ok (.return_, 1) := by decide +kernel
theorem dX3_takePoint_24 : decode cX3_takePoint 24 = .ok (.aload_n 0, 1) := by decide +kernel
theorem dX3_takePoint_25 : decode cX3_takePoint 25 = .ok (.iconst 1, 1) := by decide +kernel
theorem dX3_takePoint_26 : decode cX3_takePoint 26 = .ok (.putfield 40, 3) := by decide +kernel
theorem dX3_takePoint_29 : decode cX3_takePoint 29 = .ok (.aload_n 0, 1) := by decide +kernel
theorem dX3_takePoint_30 : decode cX3_takePoint 30 = .ok (.aload_n 0, 1) := by decide +kernel
theorem dX3_takePoint_31 : decode cX3_takePoint 31 = .ok (.getfield 23, 3) := by decide +kernel
theorem dX3_takePoint_34 : decode cX3_takePoint 34 = .ok (.iload_n 1, 1) := by decide +kernel
theorem dX3_takePoint_35 : decode cX3_takePoint 35 = .ok (.aaload, 1) := by decide +kernel
theorem dX3_takePoint_36 : decode cX3_takePoint 36 = .ok (.bipush 8, 2) := by decide +kernel
theorem dX3_takePoint_38 : decode cX3_takePoint 38 = .ok (.iaload, 1) := by decide +kernel
theorem dX3_takePoint_39 : decode cX3_takePoint 39 = .ok (.putfield 67, 3) := by decide +kernel
theorem dX3_takePoint_42 : decode cX3_takePoint 42 = .ok (.iconst 0, 1) := by decide +kernel
theorem dX3_takePoint_43 : decode cX3_takePoint 43 = .ok (.istore_n 2, 1) := by decide +kernel
theorem dX3_takePoint_44 : decode cX3_takePoint 44 = .ok (.iload_n 2, 1) := by decide +kernel
theorem dX3_takePoint_45 : decode cX3_takePoint 45 = .ok (.iload_n 1, 1) := by decide +kernel
theorem dX3_takePoint_46 : decode cX3_takePoint 46 = .ok (.if_icmp .ge 21, 3) := by decide +kernel
theorem dX3_takePoint_49 : decode cX3_takePoint 49 = .ok (.aload_n 0, 1) := by decide +kernel
theorem dX3_takePoint_50 : decode cX3_takePoint 50 = .ok (.getfield 18, 3) := by decide +kernel
theorem dX3_takePoint_53 : decode cX3_takePoint 53 = .ok (.iload_n 2, 1) := by decide +kernel
theorem dX3_takePoint_54 : decode cX3_takePoint 54 = .ok (.aload_n 0, 1) := by decide +kernel
theorem dX3_takePoint_55 : decode cX3_takePoint 55 = .ok (.getfield 9, 3) := by decide +kernel
theorem dX3_takePoint_58 : decode cX3_takePoint 58 = .ok (.iload_n 2, 1) := by decide +kernel
theorem dX3_takePoint_59 : decode cX3_takePoint 59 = .ok (.iaload, 1) := by decide +kernel
theorem dX3_takePoint_60 : decode cX3_takePoint 60 = .ok (.iastore, 1) := by decide +kernel
theorem dX3_takePoint_61 : decode cX3_takePoint 61 = .ok (.iinc 2 1, 3) := by decide +kernel
theorem dX3_takePoint_64 : decode cX3_takePoint 64 = .ok (.goto (-20), 3) := by decide +kernel
theorem dX3_takePoint_67 : decode cX3_takePoint 67 = .ok (.return_, 1) := by decide +kernel
set_option maxRecDepth 20000 in
theorem ggX3_keepsRows_X1_hasRow : GoodIn wsX3_keepsRows wsX1_hasRow := goodIn_r _ [10, 11, 12, 32, 33, 34, 35, 36, 37, 38, 39, 40] (by decide +kernel) (by decide +kernel)
set_option maxRecDepth 20000 in
theorem gX3_keepsRows_X1_hasRow : GoodIn wsX3_keepsRows (wsV RX3 97 RX1 yX1_hasRow wsX1_hasRow) := goodIn_app (goodIn_of _ (by decide +kernel)) ggX3_keepsRows_X1_hasRow
set_option maxRecDepth 20000 in
theorem ggX3_keepsRows_X1_limitsFromAbove : GoodIn wsX3_keepsRows wsX1_limitsFromAbove := goodIn_r _ [16, 17, 32, 33, 34, 35, 36, 37, 38, 39, 40] (by decide +kernel) (by decide +kernel)
set_option maxRecDepth 20000 in
theorem gX3_keepsRows_X1_limitsFromAbove : GoodIn wsX3_keepsRows (wsV RX3 114 RX1 yX1_limitsFromAbove wsX1_limitsFromAbove) := goodIn_app (goodIn_of _ (by decide +kernel)) ggX3_keepsRows_X1_limitsFromAbove
set_option maxRecDepth 20000 in
theorem ggX3_keepsRows_X1_limitsFromBelow : GoodIn wsX3_keepsRows wsX1_limitsFromBelow := goodIn_r _ [21, 17, 32, 33, 34, 35, 36, 37, 38, 39, 40] (by decide +kernel) (by decide +kernel)
set_option maxRecDepth 20000 in
theorem gX3_keepsRows_X1_limitsFromBelow : GoodIn wsX3_keepsRows (wsV RX3 117 RX1 yX1_limitsFromBelow wsX1_limitsFromBelow) := goodIn_app (goodIn_of _ (by decide +kernel)) ggX3_keepsRows_X1_limitsFromBelow
theorem dX3_keepsRows_0 : decode cX3_keepsRows 0 = .ok (.iconst 0, 1) := by decide +kernel
theorem dX3_keepsRows_1 : decode cX3_keepsRows 1 = .ok (.istore_n 1, 1) := by decide +kernel
theorem dX3_keepsRows_2 : decode cX3_keepsRows 2 = .ok (.iload_n 1, 1) := by decide +kernel
theorem dX3_keepsRows_3 : decode cX3_keepsRows 3 = .ok (.aload_n 0, 1) := by decide +kernel
theorem dX3_keepsRows_4 : decode cX3_keepsRows 4 = .ok (.getfield 32, 3) := by decide +kernel
theorem dX3_keepsRows_7 : decode cX3_keepsRows 7 = .ok (.getfield 94, 3) := by decide +kernel
theorem dX3_keepsRows_10 : decode cX3_keepsRows 10 = .ok (.if_icmp .ge 77, 3) := by decide +kernel
theorem dX3_keepsRows_13 : decode cX3_keepsRows 13 = .ok (.aload_n 0, 1) := by decide +kernel
theorem dX3_keepsRows_14 : decode cX3_keepsRows 14 = .ok (.getfield 23, 3) := by decide +kernel
theorem dX3_keepsRows_17 : decode cX3_keepsRows 17 = .ok (.aload_n 0, 1) := by decide +kernel
theorem dX3_keepsRows_18 : decode cX3_keepsRows 18 = .ok (.getfield 32, 3) := by decide +kernel
theorem dX3_keepsRows_21 : decode cX3_keepsRows 21 = .ok (.getfield 51, 3) := by decide +kernel
theorem dX3_keepsRows_24 : decode cX3_keepsRows 24 = .ok (.aaload, 1) := by decide +kernel
theorem dX3_keepsRows_25 : decode cX3_keepsRows 25 = .ok (.iload_n 1, 1) := by decide +kernel
theorem dX3_keepsRows_26 : decode cX3_keepsRows 26 = .ok (.iaload, 1) := by decide +kernel
theorem dX3_keepsRows_27 : decode cX3_keepsRows 27 = .ok (.aload_n 0, 1) := by decide +kernel
theorem dX3_keepsRows_28 : decode cX3_keepsRows 28 = .ok (.getfield 32, 3) := by decide +kernel
theorem dX3_keepsRows_31 : decode cX3_keepsRows 31 = .ok (.getfield 111, 3) := by decide +kernel
theorem dX3_keepsRows_34 : decode cX3_keepsRows 34 = .ok (.iload_n 1, 1) := by decide +kernel
theorem dX3_keepsRows_35 : decode cX3_keepsRows 35 = .ok (.iaload, 1) := by decide +kernel
theorem dX3_keepsRows_36 : decode cX3_keepsRows 36 = .ok (.isub, 1) := by decide +kernel
theorem dX3_keepsRows_37 : decode cX3_keepsRows 37 = .ok (.istore_n 2, 1) := by decide +kernel
theorem dX3_keepsRows_38 : decode cX3_keepsRows 38 = .ok (.aload_n 0, 1) := by decide +kernel
theorem dX3_keepsRows_39 : decode cX3_keepsRows 39 = .ok (.getfield 32, 3) := by decide +kernel
theorem dX3_keepsRows_42 : decode cX3_keepsRows 42 = .ok (.iload_n 1, 1) := by decide +kernel
theorem dX3_keepsRows_43 : decode cX3_keepsRows 43 = .ok (.invokevirtual 97, 3) := by decide +kernel
theorem dX3_keepsRows_46 : decode cX3_keepsRows 46 = .ok (.ifCond .eq 35, 3) := by decide +kernel
theorem dX3_keepsRows_49 : decode cX3_keepsRows 49 = .ok (.iload_n 2, 1) := by decide +kernel
theorem dX3_keepsRows_50 : decode cX3_keepsRows 50 = .ok (.ifCond .le 14, 3) := by decide +kernel
theorem dX3_keepsRows_53 : decode cX3_keepsRows 53 = .ok (.aload_n 0, 1) := by decide +kernel
theorem dX3_keepsRows_54 : decode cX3_keepsRows 54 = .ok (.getfield 32, 3) := by decide +kernel
theorem dX3_keepsRows_57 : decode cX3_keepsRows 57 = .ok (.iload_n 1, 1) := by decide +kernel
theorem dX3_keepsRows_58 : decode cX3_keepsRows 58 = .ok (.invokevirtual 114, 3) := by decide +kernel
theorem dX3_keepsRows_61 : decode cX3_keepsRows 61 = .ok (.ifCond .ne 18, 3) := by decide +kernel
theorem dX3_keepsRows_64 : decode cX3_keepsRows 64 = .ok (.iload_n 2, 1) := by decide +kernel
theorem dX3_keepsRows_65 : decode cX3_keepsRows 65 = .ok (.ifCond .ge 16, 3) := by decide +kernel
theorem dX3_keepsRows_68 : decode cX3_keepsRows 68 = .ok (.aload_n 0, 1) := by decide +kernel
theorem dX3_keepsRows_69 : decode cX3_keepsRows 69 = .ok (.getfield 32, 3) := by decide +kernel
theorem dX3_keepsRows_72 : decode cX3_keepsRows 72 = .ok (.iload_n 1, 1) := by decide +kernel
theorem dX3_keepsRows_73 : decode cX3_keepsRows 73 = .ok (.invokevirtual 117, 3) := by decide +kernel
theorem dX3_keepsRows_76 : decode cX3_keepsRows 76 = .ok (.ifCond .eq 5, 3) := by decide +kernel
theorem dX3_keepsRows_79 : decode cX3_keepsRows 79 = .ok (.iconst 0, 1) := by decide +kernel
theorem dX3_keepsRows_80 : decode cX3_keepsRows 80 = .ok (.ireturn, 1) := by decide +kernel
theorem dX3_keepsRows_81 : decode cX3_keepsRows 81 = .ok (.iinc 1 1, 3) := by decide +kernel
theorem dX3_keepsRows_84 : decode cX3_keepsRows 84 = .ok (.goto (-82), 3) := by decide +kernel
theorem dX3_keepsRows_87 : decode cX3_keepsRows 87 = .ok (.iconst 1, 1) := by decide +kernel
theorem dX3_keepsRows_88 : decode cX3_keepsRows 88 = .ok (.ireturn, 1) := by decide +kernel
set_option maxRecDepth 20000 in
theorem ggX4_init_X1_init : GoodIn wsX4_init wsX1_init := goodIn_r _ [17, 18, 2, 3, 19, 20, 21, 22, 23, 24, 25, 26, 27, 28, 65, 66, 67, 68, 69, 70, 71, 72, 73] (by decide +kernel) (by decide +kernel)
set_option maxRecDepth 20000 in
theorem gX4_init_X1_init_n9 : GoodIn wsX4_init (wsX1_init) := ggX4_init_X1_init
set_option maxRecDepth 20000 in
theorem ggX4_init_X2_init : GoodIn wsX4_init wsX2_init := goodIn_r _ [31, 32, 2, 3, 33, 34, 35, 36, 19, 37, 38, 39, 40, 41, 42, 43, 44, 45, 46, 47, 48, 49, 27, 50, 51, 52, 97, 98, 99, 100, 101, 102, 103, 104, 105, 77, 78, 79, 80, 81, 82, 83, 84, 85, 86] (by decide +kernel) (by decide +kernel)
set_option maxRecDepth 20000 in
theorem gX4_init_X2_init : GoodIn wsX4_init (wsX2_init) := ggX4_init_X2_init
set_option maxRecDepth 20000 in
theorem ggX4_init_X3_init : GoodIn wsX4_init wsX3_init := goodIn_r _ [55, 56, 2, 3, 19, 57, 58, 59, 60, 61, 62, 63, 64, 87, 88, 89, 90, 91, 92, 93, 94, 95, 96] (by decide +kernel) (by decide +kernel)
set_option maxRecDepth 20000 in
theorem gX4_init_X3_init : GoodIn wsX4_init (wsX3_init) := ggX4_init_X3_init
end
section
/-! Dictionary: what its methods do, over the cells 13 .. 18 and 48 .. 68 (b 14: rests, a 15: basic, a 16: outside, a 17: frozen, b 18: slopes, b (48 + r): row r of the table; I 4 7: lines, I 4 8: columns, J 4 6: under) -/
/-- frozen, the first n columns thawed -/
def d_thaw (a : gF) : Nat → gF
  | 0 => a
  | n + 1 => gU (d_thaw a n) 17 n 0
def d_freeze (a : gF) (b : gL) : Nat → gF
  | 0 => a
  | n + 1 => if b 18 n ≤ 0 then d_freeze a b n else gU (d_freeze a b n) 17 n 1
/-- the broken line among the first n -/
def d_broken (a : gF) (b : gL) : Nat → Int32
  | 0 => -1
  | n + 1 => if 0 ≤ b 14 n then d_broken a b n else if d_broken a b n < 0 then nI n else if a 15 (d_broken a b n).toNatClampNeg ≤ a 15 n then d_broken a b n else nI n
def d_mend (a : gF) (b : gL) (r : Nat) : Nat → Int32
  | 0 => -1
  | n + 1 => if 0 ≤ b (48 + r) n then d_mend a b r n else if d_mend a b r n < 0 then nI n else if a 16 (d_mend a b r n).toNatClampNeg ≤ a 16 n then d_mend a b r n else nI n
def d_fall (a : gF) (b : gL) : Nat → Int32
  | 0 => -1
  | n + 1 => if a 17 n = 0 then if 0 ≤ b 18 n then d_fall a b n else if d_fall a b n < 0 then nI n else if a 16 (d_fall a b n).toNatClampNeg ≤ a 16 n then d_fall a b n else nI n else d_fall a b n
theorem d_broken_ix (a : gF) (b : gL) : ∀ n, d_broken a b n < 0 ∨ ∃ j, j < n ∧ d_broken a b n = nI j
  | 0 => Or.inl (show (-1 : Int32) < 0 by decide)
  | n + 1 => by
    have h := d_broken_ix a b n
    have h2 : d_broken a b (n + 1) = d_broken a b n ∨ d_broken a b (n + 1) = nI n := by
      simp only [d_broken]
      split
      · exact Or.inl rfl
      · split
        · exact Or.inr rfl
        · split
          · exact Or.inl rfl
          · exact Or.inr rfl
    rcases h2 with h2 | h2 <;> rw [h2]
    · rcases h with h | ⟨j, hj, e⟩
      · exact Or.inl h
      · exact Or.inr ⟨j, by omega, e⟩
    · exact Or.inr ⟨n, by omega, rfl⟩
theorem d_mend_ix (a : gF) (b : gL) (r : Nat) : ∀ n, d_mend a b r n < 0 ∨ ∃ j, j < n ∧ d_mend a b r n = nI j
  | 0 => Or.inl (show (-1 : Int32) < 0 by decide)
  | n + 1 => by
    have h := d_mend_ix a b r n
    have h2 : d_mend a b r (n + 1) = d_mend a b r n ∨ d_mend a b r (n + 1) = nI n := by
      simp only [d_mend]
      split
      · exact Or.inl rfl
      · split
        · exact Or.inr rfl
        · split
          · exact Or.inl rfl
          · exact Or.inr rfl
    rcases h2 with h2 | h2 <;> rw [h2]
    · rcases h with h | ⟨j, hj, e⟩
      · exact Or.inl h
      · exact Or.inr ⟨j, by omega, e⟩
    · exact Or.inr ⟨n, by omega, rfl⟩
theorem d_fall_ix (a : gF) (b : gL) : ∀ n, d_fall a b n < 0 ∨ ∃ j, j < n ∧ d_fall a b n = nI j
  | 0 => Or.inl (show (-1 : Int32) < 0 by decide)
  | n + 1 => by
    have h := d_fall_ix a b n
    have h2 : d_fall a b (n + 1) = d_fall a b n ∨ d_fall a b (n + 1) = nI n := by
      simp only [d_fall]
      split
      · split
        · exact Or.inl rfl
        · split
          · exact Or.inr rfl
          · split
            · exact Or.inl rfl
            · exact Or.inr rfl
      · exact Or.inl rfl
    rcases h2 with h2 | h2 <;> rw [h2]
    · rcases h with h | ⟨j, hj, e⟩
      · exact Or.inl h
      · exact Or.inr ⟨j, by omega, e⟩
    · exact Or.inr ⟨n, by omega, rfl⟩
/-- what a variable is at the dictionary's point: from line r on, n lines left -/
def d_num (a : gF) (b : gL) (v : Int32) : Nat → Nat → Int64
  | 0, _ => 0
  | n + 1, r => if a 15 r = v then b 14 r else d_num a b v n (r + 1)
theorem d_num_s (a : gF) (b : gL) (v : Int32) {n r : Nat} (h : r < n) : d_num a b v (n - r) r = if a 15 r = v then b 14 r else d_num a b v (n - (r + 1)) (r + 1) := by
  rw [show n - r = (n - (r + 1)) + 1 by omega]
  rfl
theorem gx_clamp {x : Int32} {j : Nat} (h : x = nI j) (hj : j < 2 ^ 31) : x.toNatClampNeg = j := by rw [h, nI_clamp hj]


def d_stops (a : gF) (b : gL) (r o s : Nat) : Int32 := if b 14 r * b (48 + o) s < b 14 o * b (48 + r) s then 1 else if b 14 r * b (48 + o) s = b 14 o * b (48 + r) s then if a 15 o ≤ a 15 r then 0 else 1 else 0
def d_stop (a : gF) (b : gL) (s : Nat) : Nat → Int32
  | 0 => -1
  | n + 1 => if b (48 + n) s ≤ 0 then d_stop a b s n else if d_stop a b s n < 0 then nI n else if d_stops a b n (d_stop a b s n).toNatClampNeg s = 0 then d_stop a b s n else nI n
theorem d_stop_ix (a : gF) (b : gL) (s : Nat) : ∀ n, d_stop a b s n < 0 ∨ ∃ j, j < n ∧ d_stop a b s n = nI j
  | 0 => Or.inl (show (-1 : Int32) < 0 by decide)
  | n + 1 => by
    have h := d_stop_ix a b s n
    have h2 : d_stop a b s (n + 1) = d_stop a b s n ∨ d_stop a b s (n + 1) = nI n := by
      simp only [d_stop]
      split
      · exact Or.inl rfl
      · split
        · exact Or.inr rfl
        · split
          · exact Or.inl rfl
          · exact Or.inr rfl
    rcases h2 with h2 | h2 <;> rw [h2]
    · rcases h with h | ⟨j, hj, e⟩
      · exact Or.inl h
      · exact Or.inr ⟨j, by omega, e⟩
    · exact Or.inr ⟨n, by omega, rfl⟩
/-- the first n columns of line r turned -/
def d_turnL (b : gL) (r : Nat) : Nat → gL
  | 0 => b
  | n + 1 => gU (d_turnL b r n) (48 + r) n (-(d_turnL b r n (48 + r) n))
def d_turn (b : gL) (r nc : Nat) : gL := gU (d_turnL b r nc) 14 r (-(d_turnL b r nc 14 r))
/-- line i swept with line r at column s: the first n columns -/
def d_swL (b : gL) (i r s : Nat) (p q dv : Int64) : Nat → gL
  | 0 => b
  | n + 1 => if nI n = nI s then d_swL b i r s p q dv n else gU (d_swL b i r s p q dv n) (48 + i) n ((p * d_swL b i r s p q dv n (48 + i) n - q * d_swL b i r s p q dv n (48 + r) n) / dv)
def d_swR (b : gL) (nc i r s : Nat) (p q dv : Int64) : gL := gU (d_swL b i r s p q dv nc) 14 i ((p * d_swL b i r s p q dv nc 14 i - q * d_swL b i r s p q dv nc 14 r) / dv)
def d_swF (b : gL) (nc i r s : Nat) (p q dv : Int64) : gL := if 0 ≤ p then gU (d_swR b nc i r s p q dv) (48 + i) s (-q) else gU (d_swR b nc i r s p q dv) (48 + i) s q
def d_sweep (b : gL) (nc i r s : Nat) (dv : Int64) : gL := if dv = 0 then b else if b (48 + i) s = 0 then if b (48 + r) s = dv then b else d_swF b nc i r s (b (48 + r) s) (b (48 + i) s) dv else d_swF b nc i r s (b (48 + r) s) (b (48 + i) s) dv
def d_sweeps (b : gL) (nc r s : Nat) (dv : Int64) : Nat → gL
  | 0 => b
  | n + 1 => if nI n = nI r then d_sweeps b nc r s dv n else d_sweep (d_sweeps b nc r s dv n) nc n r s dv

set_option maxHeartbeats 4000000 in
set_option maxRecDepth 100000 in
theorem kX0_denominator (l : Launch) (D : va_G) (ad : Nat → Nat) (cy : Nat → ClassId) (I : gF) (J : gL) (a : gF) (b : gL) (sz : Nat)   : gMl l yX0_denominator wsX0_denominator ({ frames := 0, cells := 0, slots := 0, locals := 0 }) D ad cy I J a b sz [.ref (ad 4)] (fun r u => r = J 4 6 ∧ u = (I, J, a, b)) := by
  refine Met.ofW (cc := cX0_denominator) (maxL := 1) (ret := some .long) (by decide) rfl ?_
  intro p e s m args below meth c s₁ B hml hv
  obtain ⟨hargs, hsz, G⟩ := gx_begin hv
  subst hsz
  have hx := B.exec
  have hb := B.bytes
  have hr := B.returns
  have hts := atoms_spec (ws := wsX0_denominator) B.pre
  have hown : s.vm.findClass RX0 = some m.cls := findClass_of_methodNamed B.named
  have hlocks := B.notSynchronized
  have hinX0 : ∀ w ∈ wsX00, w ∈ wsX0_denominator := by decide +kernel
  have lk34 := hts (.fieldLink RX0 34 "ExactSimplex$Dictionary" "under" "J") (by decide +kernel)
  have hl := lv_entry ([.ref (ad 4)]) (n := 1) (Nat.le_of_ble_eq_true rfl)
  have hent := lg_entry_eq m ([.ref (ad 4)]) 1
  rw [← hargs] at hent
  rw [hent]
  clear hent
  generalize (lg_sl ([.ref (ad 4)]) ++ List.replicate (1 - (lg_sl ([.ref (ad 4)])).length) Slot.unset).toArray = ls at hl ⊢
  have hl : lv_has ls 1 [(0, .ref (ad 4))] := hl
  generalize hA : gA ad s.heap.size = A at G ⊢
  generalize hH : s.heap = H at G ⊢
  refine gx_q (fun Q hQ => ?_)
  refine lv_aload_n hx hb dX0_denominator_0 rfl (lv_at hl 0 rfl) ?_
  refine gx_get hx hb hts hinX0 hown G 4 (by decide) rfl rfl 6 (by decide) rfl lk34 rfl (v := .long (J 4 6)) rfl dX0_denominator_1 ?_
  exact gx_lr hx hb hr hlocks G hQ ⟨by first | rfl | (simp only [reduceIte]; done) | (simp [reduceIte]; done), rfl⟩ dX0_denominator_4

set_option maxHeartbeats 4000000 in
set_option maxRecDepth 100000 in
theorem kX0_thawAll (l : Launch) (D : va_G) (ad : Nat → Nat) (cy : Nat → ClassId) (I : gF) (J : gL) (a : gF) (b : gL) (sz : Nat) (nc : Nat) (hnc : I 4 8 = nI nc) (hnc2 : nc ≤ 5) : gMv l yX0_thawAll wsX0_thawAll ({ frames := 0, cells := 0, slots := 0, locals := 0 }) D ad cy I J a b sz [.ref (ad 4)] (fun u => u = (I, J, d_thaw a nc, b)) := by
  refine Met.ofW (cc := cX0_thawAll) (maxL := 2) (ret := none) (by decide) rfl ?_
  intro p e s m args below meth c s₁ B hml hv
  obtain ⟨hargs, hsz, G⟩ := gx_begin hv
  subst hsz
  have hx := B.exec
  have hb := B.bytes
  have hr := B.returns
  have hts := atoms_spec (ws := wsX0_thawAll) B.pre
  have hown : s.vm.findClass RX0 = some m.cls := findClass_of_methodNamed B.named
  have hlocks := B.notSynchronized
  have hinX0 : ∀ w ∈ wsX00, w ∈ wsX0_thawAll := by decide +kernel
  have lk27 := hts (.fieldLink RX0 27 "ExactSimplex$Dictionary" "frozen" "[Z") (by decide +kernel)
  have lk44 := hts (.fieldLink RX0 44 "ExactSimplex$Dictionary" "columns" "I") (by decide +kernel)
  have hl := lv_entry ([.ref (ad 4)]) (n := 2) (Nat.le_of_ble_eq_true rfl)
  have hent := lg_entry_eq m ([.ref (ad 4)]) 2
  rw [← hargs] at hent
  rw [hent]
  clear hent
  generalize (lg_sl ([.ref (ad 4)]) ++ List.replicate (2 - (lg_sl ([.ref (ad 4)])).length) Slot.unset).toArray = ls at hl ⊢
  have hl : lv_has ls 2 [(0, .ref (ad 4))] := hl
  generalize hA : gA ad s.heap.size = A at G ⊢
  generalize hH : s.heap = H at G ⊢
  refine gx_q (fun Q hQ => ?_)
  refine lv_iconst (v := 0) hx hb dX0_thawAll_0 (by decide) ?_
  refine lv_istore_n (lv' := [(1, .int 0), (0, .ref (ad 4))]) hx hb dX0_thawAll_1 rfl hl (by decide) rfl (fun ls hl => ?_)
  have K2 : ∀ (nf : Nat) (r : Nat) (H : Heap) (locs : List Loc) (ls : Array Slot), (r ≤ nc) → nc - r < nf → GG D ad cy A s I J (d_thaw a r) b H locs → lv_has ls 2 [(0, .ref (ad 4)), (1, .int (nI r))] → W p l e ({ frames := 0, cells := 0, slots := 0, locals := 0 }) s m args below meth c H locs 0 0 Q (F0 m 2 ls []) := by
    intro nf
    induction nf with
    | zero => exact fun _ _ _ _ _ hz => absurd hz (Nat.not_lt_zero _)
    | succ nf ih =>
      intro r H locs ls h1 hmeas G hl
      have ih2 := ih
      clear ih
      refine lv_iload_n hx hb dX0_thawAll_2 rfl (lv_at hl 1 rfl) ?_
      refine lv_aload_n hx hb dX0_thawAll_3 rfl (lv_at hl 0 rfl) ?_
      refine gx_get hx hb hts hinX0 hown G 4 (by decide) rfl rfl 8 (by decide) rfl lk44 rfl (v := .int (I 4 8)) rfl dX0_thawAll_4 ?_
      refine lv_icmp_ge (tgt := 23) hx hb dX0_thawAll_7 (by decide) (fun c7 => ?_) (fun c7 => ?_)
      · skip
        have n7 := gn_le (X := nc) (Y := r) hnc rfl (by omega) (by omega) c7
        exact gx_vr hx hb hr hlocks G hQ (by first | rfl | (simp only [d_thaw, c7, reduceIte]; done) | (rw [show nc = r by omega]; done) | (rw [show nc = r by omega]; simp only [d_thaw, c7, reduceIte]; done) | (simp [d_thaw, c7, reduceIte]; done)) dX0_thawAll_23
      · skip
        have n7 := gn_nle (X := nc) (Y := r) hnc rfl (by omega) (by omega) c7
        refine lv_aload_n hx hb dX0_thawAll_10 rfl (lv_at hl 0 rfl) ?_
        refine gx_get hx hb hts hinX0 hown G 4 (by decide) rfl rfl 4 (by decide) rfl lk27 rfl (v := .ref (ad 17)) rfl dX0_thawAll_11 ?_
        refine lv_iload_n hx hb dX0_thawAll_14 rfl (lv_at hl 1 rfl) ?_
        refine lv_iconst (v := 0) hx hb dX0_thawAll_15 (by decide) ?_
        refine gx_zast hx hb G 17 (by decide) (rfl) (by decide) r rfl (by omega) (rfl) dX0_thawAll_16 (fun H locs G => ?_)
        refine lv_iinc (v := (nI (r + 1))) (lv' := [(1, .int (nI (r + 1))), (0, .ref (ad 4))]) hx hb dX0_thawAll_17 hl (k := 1) rfl (gn_add (X := r) (Y := 1) rfl rfl) (by decide) rfl (fun ls hl => ?_)
        refine lv_goto (tgt := 2) hx hb dX0_thawAll_20 (by decide) ?_
        exact ih2  (r + 1) _ _ _ (by omega) (by omega) (gg_eq G rfl rfl (by first | rfl | (simp only [d_thaw, c7, reduceIte]; done) | (rw [show nc = r by omega]; done) | (rw [show nc = r by omega]; simp only [d_thaw, c7, reduceIte]; done) | (simp [d_thaw, c7, reduceIte]; done)) rfl) (lv_sub hl [1, 0] rfl)
  have q1 : 0 = nI 0 := by first | rfl | (simp only [d_thaw, reduceIte]; done) | (rw [show nc = r by omega]; done) | (rw [show nc = r by omega]; simp only [d_thaw, reduceIte]; done) | (simp [d_thaw, reduceIte]; done)
  rw [q1] at hl
  exact K2 (nc - 0 + 1) 0 _ _ _ (by omega) (Nat.lt_succ_self _) (gg_eq G rfl rfl (by first | rfl | (simp only [d_thaw, reduceIte]; done) | (rw [show nc = r by omega]; done) | (rw [show nc = r by omega]; simp only [d_thaw, reduceIte]; done) | (simp [d_thaw, reduceIte]; done)) rfl) (lv_sub hl [1, 0] rfl)

set_option maxHeartbeats 4000000 in
set_option maxRecDepth 100000 in
theorem kX0_freezeDear (l : Launch) (D : va_G) (ad : Nat → Nat) (cy : Nat → ClassId) (I : gF) (J : gL) (a : gF) (b : gL) (sz : Nat) (nc : Nat) (hnc : I 4 8 = nI nc) (hnc2 : nc ≤ 5) : gMv l yX0_freezeDear wsX0_freezeDear ({ frames := 0, cells := 0, slots := 0, locals := 0 }) D ad cy I J a b sz [.ref (ad 4)] (fun u => u = (I, J, d_freeze a b nc, b)) := by
  refine Met.ofW (cc := cX0_freezeDear) (maxL := 2) (ret := none) (by decide) rfl ?_
  intro p e s m args below meth c s₁ B hml hv
  obtain ⟨hargs, hsz, G⟩ := gx_begin hv
  subst hsz
  have hx := B.exec
  have hb := B.bytes
  have hr := B.returns
  have hts := atoms_spec (ws := wsX0_freezeDear) B.pre
  have hown : s.vm.findClass RX0 = some m.cls := findClass_of_methodNamed B.named
  have hlocks := B.notSynchronized
  have hinX0 : ∀ w ∈ wsX00, w ∈ wsX0_freezeDear := by decide +kernel
  have lk27 := hts (.fieldLink RX0 27 "ExactSimplex$Dictionary" "frozen" "[Z") (by decide +kernel)
  have lk31 := hts (.fieldLink RX0 31 "ExactSimplex$Dictionary" "slopes" "[J") (by decide +kernel)
  have lk44 := hts (.fieldLink RX0 44 "ExactSimplex$Dictionary" "columns" "I") (by decide +kernel)
  have hl := lv_entry ([.ref (ad 4)]) (n := 2) (Nat.le_of_ble_eq_true rfl)
  have hent := lg_entry_eq m ([.ref (ad 4)]) 2
  rw [← hargs] at hent
  rw [hent]
  clear hent
  generalize (lg_sl ([.ref (ad 4)]) ++ List.replicate (2 - (lg_sl ([.ref (ad 4)])).length) Slot.unset).toArray = ls at hl ⊢
  have hl : lv_has ls 2 [(0, .ref (ad 4))] := hl
  generalize hA : gA ad s.heap.size = A at G ⊢
  generalize hH : s.heap = H at G ⊢
  refine gx_q (fun Q hQ => ?_)
  refine lv_iconst (v := 0) hx hb dX0_freezeDear_0 (by decide) ?_
  refine lv_istore_n (lv' := [(1, .int 0), (0, .ref (ad 4))]) hx hb dX0_freezeDear_1 rfl hl (by decide) rfl (fun ls hl => ?_)
  have K2 : ∀ (nf : Nat) (r : Nat) (H : Heap) (locs : List Loc) (ls : Array Slot), (r ≤ nc) → nc - r < nf → GG D ad cy A s I J (d_freeze a b r) b H locs → lv_has ls 2 [(0, .ref (ad 4)), (1, .int (nI r))] → W p l e ({ frames := 0, cells := 0, slots := 0, locals := 0 }) s m args below meth c H locs 0 0 Q (F0 m 2 ls []) := by
    intro nf
    induction nf with
    | zero => exact fun _ _ _ _ _ hz => absurd hz (Nat.not_lt_zero _)
    | succ nf ih =>
      intro r H locs ls h1 hmeas G hl
      have ih2 := ih
      clear ih
      refine lv_iload_n hx hb dX0_freezeDear_2 rfl (lv_at hl 1 rfl) ?_
      refine lv_aload_n hx hb dX0_freezeDear_3 rfl (lv_at hl 0 rfl) ?_
      refine gx_get hx hb hts hinX0 hown G 4 (by decide) rfl rfl 8 (by decide) rfl lk44 rfl (v := .int (I 4 8)) rfl dX0_freezeDear_4 ?_
      refine lv_icmp_ge (tgt := 34) hx hb dX0_freezeDear_7 (by decide) (fun c7 => ?_) (fun c7 => ?_)
      · skip
        have n7 := gn_le (X := nc) (Y := r) hnc rfl (by omega) (by omega) c7
        exact gx_vr hx hb hr hlocks G hQ (by first | rfl | (simp only [d_freeze, c7, reduceIte]; done) | (rw [show nc = r by omega]; done) | (rw [show nc = r by omega]; simp only [d_freeze, c7, reduceIte]; done) | (simp [d_freeze, c7, reduceIte]; done)) dX0_freezeDear_34
      · skip
        have n7 := gn_nle (X := nc) (Y := r) hnc rfl (by omega) (by omega) c7
        refine lv_aload_n hx hb dX0_freezeDear_10 rfl (lv_at hl 0 rfl) ?_
        refine gx_get hx hb hts hinX0 hown G 4 (by decide) rfl rfl 5 (by decide) rfl lk31 rfl (v := .ref (ad 18)) rfl dX0_freezeDear_11 ?_
        refine lv_iload_n hx hb dX0_freezeDear_14 rfl (lv_at hl 1 rfl) ?_
        refine gx_lald hx hb G 18 (by decide) (rfl) (by decide) r rfl (by omega) dX0_freezeDear_15 ?_
        refine lv_lconst (v := 0) hx hb dX0_freezeDear_16 (by decide) ?_
        refine gx_lc_le (tgt := 28) hx hb dX0_freezeDear_17 dX0_freezeDear_18 (by decide) (fun c18 => ?_) (fun c18 => ?_)
        · skip
          refine lv_iinc (v := (nI (r + 1))) (lv' := [(1, .int (nI (r + 1))), (0, .ref (ad 4))]) hx hb dX0_freezeDear_28 hl (k := 1) rfl (gn_add (X := r) (Y := 1) rfl rfl) (by decide) rfl (fun ls hl => ?_)
          refine lv_goto (tgt := 2) hx hb dX0_freezeDear_31 (by decide) ?_
          exact ih2  (r + 1) _ _ _ (by omega) (by omega) (gg_eq G rfl rfl (by first | rfl | (simp only [d_freeze, c7, c18, reduceIte]; done) | (rw [show nc = r by omega]; done) | (rw [show nc = r by omega]; simp only [d_freeze, c7, c18, reduceIte]; done) | (simp [d_freeze, c7, c18, reduceIte]; done)) rfl) (lv_sub hl [1, 0] rfl)
        · skip
          refine lv_aload_n hx hb dX0_freezeDear_21 rfl (lv_at hl 0 rfl) ?_
          refine gx_get hx hb hts hinX0 hown G 4 (by decide) rfl rfl 4 (by decide) rfl lk27 rfl (v := .ref (ad 17)) rfl dX0_freezeDear_22 ?_
          refine lv_iload_n hx hb dX0_freezeDear_25 rfl (lv_at hl 1 rfl) ?_
          refine lv_iconst (v := 1) hx hb dX0_freezeDear_26 (by decide) ?_
          refine gx_zast hx hb G 17 (by decide) (rfl) (by decide) r rfl (by omega) (rfl) dX0_freezeDear_27 (fun H locs G => ?_)
          refine lv_iinc (v := (nI (r + 1))) (lv' := [(1, .int (nI (r + 1))), (0, .ref (ad 4))]) hx hb dX0_freezeDear_28 hl (k := 1) rfl (gn_add (X := r) (Y := 1) rfl rfl) (by decide) rfl (fun ls hl => ?_)
          refine lv_goto (tgt := 2) hx hb dX0_freezeDear_31 (by decide) ?_
          exact ih2  (r + 1) _ _ _ (by omega) (by omega) (gg_eq G rfl rfl (by first | rfl | (simp only [d_freeze, c7, c18, reduceIte]; done) | (rw [show nc = r by omega]; done) | (rw [show nc = r by omega]; simp only [d_freeze, c7, c18, reduceIte]; done) | (simp [d_freeze, c7, c18, reduceIte]; done)) rfl) (lv_sub hl [1, 0] rfl)
  have q1 : 0 = nI 0 := by first | rfl | (simp only [d_freeze, reduceIte]; done) | (rw [show nc = r by omega]; done) | (rw [show nc = r by omega]; simp only [d_freeze, reduceIte]; done) | (simp [d_freeze, reduceIte]; done)
  rw [q1] at hl
  exact K2 (nc - 0 + 1) 0 _ _ _ (by omega) (Nat.lt_succ_self _) (gg_eq G rfl rfl (by first | rfl | (simp only [d_freeze, reduceIte]; done) | (rw [show nc = r by omega]; done) | (rw [show nc = r by omega]; simp only [d_freeze, reduceIte]; done) | (simp [d_freeze, reduceIte]; done)) rfl) (lv_sub hl [1, 0] rfl)

set_option maxHeartbeats 4000000 in
set_option maxRecDepth 100000 in
theorem kX0_brokenLine (l : Launch) (D : va_G) (ad : Nat → Nat) (cy : Nat → ClassId) (I : gF) (J : gL) (a : gF) (b : gL) (sz : Nat) (nl : Nat) (hnl : I 4 7 = nI nl) (hnl2 : nl ≤ 21) : gMi l yX0_brokenLine wsX0_brokenLine ({ frames := 0, cells := 0, slots := 0, locals := 0 }) D ad cy I J a b sz [.ref (ad 4)] (fun r u => r = d_broken a b nl ∧ u = (I, J, a, b)) := by
  refine Met.ofW (cc := cX0_brokenLine) (maxL := 3) (ret := some .int) (by decide) rfl ?_
  intro p e s m args below meth c s₁ B hml hv
  obtain ⟨hargs, hsz, G⟩ := gx_begin hv
  subst hsz
  have hx := B.exec
  have hb := B.bytes
  have hr := B.returns
  have hts := atoms_spec (ws := wsX0_brokenLine) B.pre
  have hown : s.vm.findClass RX0 = some m.cls := findClass_of_methodNamed B.named
  have hlocks := B.notSynchronized
  have hinX0 : ∀ w ∈ wsX00, w ∈ wsX0_brokenLine := by decide +kernel
  have lk16 := hts (.fieldLink RX0 16 "ExactSimplex$Dictionary" "rests" "[J") (by decide +kernel)
  have lk20 := hts (.fieldLink RX0 20 "ExactSimplex$Dictionary" "basic" "[I") (by decide +kernel)
  have lk48 := hts (.fieldLink RX0 48 "ExactSimplex$Dictionary" "lines" "I") (by decide +kernel)
  have hl := lv_entry ([.ref (ad 4)]) (n := 3) (Nat.le_of_ble_eq_true rfl)
  have hent := lg_entry_eq m ([.ref (ad 4)]) 3
  rw [← hargs] at hent
  rw [hent]
  clear hent
  generalize (lg_sl ([.ref (ad 4)]) ++ List.replicate (3 - (lg_sl ([.ref (ad 4)])).length) Slot.unset).toArray = ls at hl ⊢
  have hl : lv_has ls 3 [(0, .ref (ad 4))] := hl
  generalize hA : gA ad s.heap.size = A at G ⊢
  generalize hH : s.heap = H at G ⊢
  refine gx_q (fun Q hQ => ?_)
  refine lv_iconst (v := -1) hx hb dX0_brokenLine_0 (by decide) ?_
  refine lv_istore_n (lv' := [(1, .int (-1)), (0, .ref (ad 4))]) hx hb dX0_brokenLine_1 rfl hl (by decide) rfl (fun ls hl => ?_)
  refine lv_iconst (v := 0) hx hb dX0_brokenLine_2 (by decide) ?_
  refine lv_istore_n (lv' := [(2, .int 0), (1, .int (-1)), (0, .ref (ad 4))]) hx hb dX0_brokenLine_3 rfl hl (by decide) rfl (fun ls hl => ?_)
  have K4 : ∀ (nf : Nat) (r : Nat) (H : Heap) (locs : List Loc) (ls : Array Slot), (r ≤ nl) → nl - r < nf → GG D ad cy A s I J a b H locs → lv_has ls 3 [(0, .ref (ad 4)), (1, .int (d_broken a b r)), (2, .int (nI r))] → W p l e ({ frames := 0, cells := 0, slots := 0, locals := 0 }) s m args below meth c H locs 0 0 Q (F0 m 4 ls []) := by
    intro nf
    induction nf with
    | zero => exact fun _ _ _ _ _ hz => absurd hz (Nat.not_lt_zero _)
    | succ nf ih =>
      intro r H locs ls h1 hmeas G hl
      have ih4 := ih
      clear ih
      refine lv_iload_n hx hb dX0_brokenLine_4 rfl (lv_at hl 2 rfl) ?_
      refine lv_aload_n hx hb dX0_brokenLine_5 rfl (lv_at hl 0 rfl) ?_
      refine gx_get hx hb hts hinX0 hown G 4 (by decide) rfl rfl 7 (by decide) rfl lk48 rfl (v := .int (I 4 7)) rfl dX0_brokenLine_6 ?_
      refine lv_icmp_ge (tgt := 50) hx hb dX0_brokenLine_9 (by decide) (fun c9 => ?_) (fun c9 => ?_)
      · skip
        have n9 := gn_le (X := nl) (Y := r) hnl rfl (by omega) (by omega) c9
        refine lv_iload_n hx hb dX0_brokenLine_50 rfl (lv_at hl 1 rfl) ?_
        exact gx_ir hx hb hr hlocks G hQ ⟨by first | rfl | (simp only [d_broken, c9, reduceIte]; done) | (rw [show nl = r by omega]; done) | (rw [show nl = r by omega]; simp only [d_broken, c9, reduceIte]; done) | (simp [d_broken, c9, reduceIte]; done), rfl⟩ dX0_brokenLine_51
      · skip
        have n9 := gn_nle (X := nl) (Y := r) hnl rfl (by omega) (by omega) c9
        refine lv_aload_n hx hb dX0_brokenLine_12 rfl (lv_at hl 0 rfl) ?_
        refine gx_get hx hb hts hinX0 hown G 4 (by decide) rfl rfl 1 (by decide) rfl lk16 rfl (v := .ref (ad 14)) rfl dX0_brokenLine_13 ?_
        refine lv_iload_n hx hb dX0_brokenLine_16 rfl (lv_at hl 2 rfl) ?_
        refine gx_lald hx hb G 14 (by decide) (rfl) (by decide) r rfl (by omega) dX0_brokenLine_17 ?_
        refine lv_lconst (v := 0) hx hb dX0_brokenLine_18 (by decide) ?_
        refine gx_lc_ge (tgt := 44) hx hb dX0_brokenLine_19 dX0_brokenLine_20 (by decide) (fun c20 => ?_) (fun c20 => ?_)
        · skip
          refine lv_iinc (v := (nI (r + 1))) (lv' := [(2, .int (nI (r + 1))), (0, .ref (ad 4)), (1, .int (d_broken a b r))]) hx hb dX0_brokenLine_44 hl (k := 2) rfl (gn_add (X := r) (Y := 1) rfl rfl) (by decide) rfl (fun ls hl => ?_)
          refine lv_goto (tgt := 4) hx hb dX0_brokenLine_47 (by decide) ?_
          have q1 : d_broken a b r = d_broken a b (r + 1) := by first | rfl | (simp only [d_broken, c9, c20, reduceIte]; done) | (rw [show nl = r by omega]; done) | (rw [show nl = r by omega]; simp only [d_broken, c9, c20, reduceIte]; done) | (simp [d_broken, c9, c20, reduceIte]; done)
          rw [q1] at hl
          exact ih4  (r + 1) _ _ _ (by omega) (by omega) G (lv_sub hl [1, 2, 0] rfl)
        · skip
          refine lv_iload_n hx hb dX0_brokenLine_23 rfl (lv_at hl 1 rfl) ?_
          refine lv_if_lt (tgt := 42) hx hb dX0_brokenLine_24 (by decide) (fun c24 => ?_) (fun c24 => ?_)
          · skip
            refine lv_iload_n hx hb dX0_brokenLine_42 rfl (lv_at hl 2 rfl) ?_
            refine lv_istore_n (lv' := [(1, .int (nI r)), (0, .ref (ad 4)), (2, .int (nI r))]) hx hb dX0_brokenLine_43 rfl hl (by decide) rfl (fun ls hl => ?_)
            refine lv_iinc (v := (nI (r + 1))) (lv' := [(2, .int (nI (r + 1))), (1, .int (nI r)), (0, .ref (ad 4))]) hx hb dX0_brokenLine_44 hl (k := 2) rfl (gn_add (X := r) (Y := 1) rfl rfl) (by decide) rfl (fun ls hl => ?_)
            refine lv_goto (tgt := 4) hx hb dX0_brokenLine_47 (by decide) ?_
            have q1 : nI r = d_broken a b (r + 1) := by first | rfl | (simp only [d_broken, c9, c20, c24, reduceIte]; done) | (rw [show nl = r by omega]; done) | (rw [show nl = r by omega]; simp only [d_broken, c9, c20, c24, reduceIte]; done) | (simp [d_broken, c9, c20, c24, reduceIte]; done)
            rw [q1] at hl
            exact ih4  (r + 1) _ _ _ (by omega) (by omega) G (lv_sub hl [2, 1, 0] rfl)
          · skip
            obtain ⟨jb, hjb, ejb⟩ := (d_broken_ix a b r).resolve_left c24
            have ecl := gx_clamp ejb (by omega)
            refine lv_aload_n hx hb dX0_brokenLine_27 rfl (lv_at hl 0 rfl) ?_
            refine gx_get hx hb hts hinX0 hown G 4 (by decide) rfl rfl 2 (by decide) rfl lk20 rfl (v := .ref (ad 15)) rfl dX0_brokenLine_28 ?_
            refine lv_iload_n hx hb dX0_brokenLine_31 rfl (lv_at hl 2 rfl) ?_
            refine gx_iald hx hb G 15 (by decide) (rfl) (by decide) r rfl (by omega) dX0_brokenLine_32 ?_
            refine lv_aload_n hx hb dX0_brokenLine_33 rfl (lv_at hl 0 rfl) ?_
            refine gx_get hx hb hts hinX0 hown G 4 (by decide) rfl rfl 2 (by decide) rfl lk20 rfl (v := .ref (ad 15)) rfl dX0_brokenLine_34 ?_
            refine lv_iload_n hx hb dX0_brokenLine_37 rfl (lv_at hl 1 rfl) ?_
            refine gx_iald hx hb G 15 (by decide) (rfl) (by decide) jb ejb (by omega) dX0_brokenLine_38 ?_
            refine lv_icmp_ge (tgt := 44) hx hb dX0_brokenLine_39 (by decide) (fun c39 => ?_) (fun c39 => ?_)
            · skip
              refine lv_iinc (v := (nI (r + 1))) (lv' := [(2, .int (nI (r + 1))), (0, .ref (ad 4)), (1, .int (d_broken a b r))]) hx hb dX0_brokenLine_44 hl (k := 2) rfl (gn_add (X := r) (Y := 1) rfl rfl) (by decide) rfl (fun ls hl => ?_)
              refine lv_goto (tgt := 4) hx hb dX0_brokenLine_47 (by decide) ?_
              have q1 : d_broken a b r = d_broken a b (r + 1) := by first | rfl | (simp only [d_broken, c9, c20, c24, ecl, c39, reduceIte]; done) | (rw [show nl = r by omega]; done) | (rw [show nl = r by omega]; simp only [d_broken, c9, c20, c24, ecl, c39, reduceIte]; done) | (simp [d_broken, c9, c20, c24, ecl, c39, reduceIte]; done)
              rw [q1] at hl
              exact ih4  (r + 1) _ _ _ (by omega) (by omega) G (lv_sub hl [1, 2, 0] rfl)
            · skip
              refine lv_iload_n hx hb dX0_brokenLine_42 rfl (lv_at hl 2 rfl) ?_
              refine lv_istore_n (lv' := [(1, .int (nI r)), (0, .ref (ad 4)), (2, .int (nI r))]) hx hb dX0_brokenLine_43 rfl hl (by decide) rfl (fun ls hl => ?_)
              refine lv_iinc (v := (nI (r + 1))) (lv' := [(2, .int (nI (r + 1))), (1, .int (nI r)), (0, .ref (ad 4))]) hx hb dX0_brokenLine_44 hl (k := 2) rfl (gn_add (X := r) (Y := 1) rfl rfl) (by decide) rfl (fun ls hl => ?_)
              refine lv_goto (tgt := 4) hx hb dX0_brokenLine_47 (by decide) ?_
              have q1 : nI r = d_broken a b (r + 1) := by first | rfl | (simp only [d_broken, c9, c20, c24, ecl, c39, reduceIte]; done) | (rw [show nl = r by omega]; done) | (rw [show nl = r by omega]; simp only [d_broken, c9, c20, c24, ecl, c39, reduceIte]; done) | (simp [d_broken, c9, c20, c24, ecl, c39, reduceIte]; done)
              rw [q1] at hl
              exact ih4  (r + 1) _ _ _ (by omega) (by omega) G (lv_sub hl [2, 1, 0] rfl)
  have q1 : -1 = d_broken a b 0 := by first | rfl | (simp only [d_broken, reduceIte]; done) | (rw [show nl = r by omega]; done) | (rw [show nl = r by omega]; simp only [d_broken, reduceIte]; done) | (simp [d_broken, reduceIte]; done)
  rw [q1] at hl
  have q2 : 0 = nI 0 := by first | rfl | (simp only [d_broken, reduceIte]; done) | (rw [show nl = r by omega]; done) | (rw [show nl = r by omega]; simp only [d_broken, reduceIte]; done) | (simp [d_broken, reduceIte]; done)
  rw [q2] at hl
  exact K4 (nl - 0 + 1) 0 _ _ _ (by omega) (Nat.lt_succ_self _) G (lv_sub hl [2, 1, 0] rfl)

set_option maxHeartbeats 4000000 in
set_option maxRecDepth 100000 in
theorem kX0_mendingColumn (l : Launch) (D : va_G) (ad : Nat → Nat) (cy : Nat → ClassId) (I : gF) (J : gL) (a : gF) (b : gL) (sz : Nat) (nc r0 : Nat) (hnc : I 4 8 = nI nc) (hnc2 : nc ≤ 5) (hr0 : r0 < 21) : gMi l yX0_mendingColumn wsX0_mendingColumn ({ frames := 0, cells := 0, slots := 0, locals := 0 }) D ad cy I J a b sz [.ref (ad 4), .int (nI r0)] (fun r u => r = d_mend a b r0 nc ∧ u = (I, J, a, b)) := by
  refine Met.ofW (cc := cX0_mendingColumn) (maxL := 4) (ret := some .int) (by decide) rfl ?_
  intro p e s m args below meth c s₁ B hml hv
  obtain ⟨hargs, hsz, G⟩ := gx_begin hv
  subst hsz
  have hx := B.exec
  have hb := B.bytes
  have hr := B.returns
  have hts := atoms_spec (ws := wsX0_mendingColumn) B.pre
  have hown : s.vm.findClass RX0 = some m.cls := findClass_of_methodNamed B.named
  have hlocks := B.notSynchronized
  have hinX0 : ∀ w ∈ wsX00, w ∈ wsX0_mendingColumn := by decide +kernel
  have lk13 := hts (.fieldLink RX0 13 "ExactSimplex$Dictionary" "table" "[[J") (by decide +kernel)
  have lk24 := hts (.fieldLink RX0 24 "ExactSimplex$Dictionary" "outside" "[I") (by decide +kernel)
  have lk44 := hts (.fieldLink RX0 44 "ExactSimplex$Dictionary" "columns" "I") (by decide +kernel)
  have hl := lv_entry ([.ref (ad 4), .int (nI r0)]) (n := 4) (Nat.le_of_ble_eq_true rfl)
  have hent := lg_entry_eq m ([.ref (ad 4), .int (nI r0)]) 4
  rw [← hargs] at hent
  rw [hent]
  clear hent
  generalize (lg_sl ([.ref (ad 4), .int (nI r0)]) ++ List.replicate (4 - (lg_sl ([.ref (ad 4), .int (nI r0)])).length) Slot.unset).toArray = ls at hl ⊢
  have hl : lv_has ls 4 [(0, .ref (ad 4)), (1, .int (nI r0))] := hl
  generalize hA : gA ad s.heap.size = A at G ⊢
  generalize hH : s.heap = H at G ⊢
  refine gx_q (fun Q hQ => ?_)
  refine lv_iconst (v := -1) hx hb dX0_mendingColumn_0 (by decide) ?_
  refine lv_istore_n (lv' := [(2, .int (-1)), (0, .ref (ad 4)), (1, .int (nI r0))]) hx hb dX0_mendingColumn_1 rfl hl (by decide) rfl (fun ls hl => ?_)
  refine lv_iconst (v := 0) hx hb dX0_mendingColumn_2 (by decide) ?_
  refine lv_istore_n (lv' := [(3, .int 0), (2, .int (-1)), (0, .ref (ad 4)), (1, .int (nI r0))]) hx hb dX0_mendingColumn_3 rfl hl (by decide) rfl (fun ls hl => ?_)
  have K4 : ∀ (nf : Nat) (r : Nat) (H : Heap) (locs : List Loc) (ls : Array Slot), (r ≤ nc) → nc - r < nf → GG D ad cy A s I J a b H locs → lv_has ls 4 [(0, .ref (ad 4)), (1, .int (nI r0)), (2, .int (d_mend a b r0 r)), (3, .int (nI r))] → W p l e ({ frames := 0, cells := 0, slots := 0, locals := 0 }) s m args below meth c H locs 0 0 Q (F0 m 4 ls []) := by
    intro nf
    induction nf with
    | zero => exact fun _ _ _ _ _ hz => absurd hz (Nat.not_lt_zero _)
    | succ nf ih =>
      intro r H locs ls h1 hmeas G hl
      have ih4 := ih
      clear ih
      refine lv_iload_n hx hb dX0_mendingColumn_4 rfl (lv_at hl 3 rfl) ?_
      refine lv_aload_n hx hb dX0_mendingColumn_5 rfl (lv_at hl 0 rfl) ?_
      refine gx_get hx hb hts hinX0 hown G 4 (by decide) rfl rfl 8 (by decide) rfl lk44 rfl (v := .int (I 4 8)) rfl dX0_mendingColumn_6 ?_
      refine lv_icmp_ge (tgt := 52) hx hb dX0_mendingColumn_9 (by decide) (fun c9 => ?_) (fun c9 => ?_)
      · skip
        have n9 := gn_le (X := nc) (Y := r) hnc rfl (by omega) (by omega) c9
        refine lv_iload_n hx hb dX0_mendingColumn_52 rfl (lv_at hl 2 rfl) ?_
        exact gx_ir hx hb hr hlocks G hQ ⟨by first | rfl | (simp only [d_mend, c9, reduceIte]; done) | (rw [show nc = r by omega]; done) | (rw [show nc = r by omega]; simp only [d_mend, c9, reduceIte]; done) | (simp [d_mend, c9, reduceIte]; done), rfl⟩ dX0_mendingColumn_53
      · skip
        have n9 := gn_nle (X := nc) (Y := r) hnc rfl (by omega) (by omega) c9
        refine lv_aload_n hx hb dX0_mendingColumn_12 rfl (lv_at hl 0 rfl) ?_
        refine gx_get hx hb hts hinX0 hown G 4 (by decide) rfl rfl 0 (by decide) rfl lk13 rfl (v := .ref (ad 13)) rfl dX0_mendingColumn_13 ?_
        refine lv_iload_n hx hb dX0_mendingColumn_16 rfl (lv_at hl 1 rfl) ?_
        refine gx_aald hx hb G 13 (by decide) rfl (Or.inr rfl) (by decide) r0 rfl (by omega) dX0_mendingColumn_17 ?_
        refine lv_iload_n hx hb dX0_mendingColumn_18 rfl (lv_at hl 3 rfl) ?_
        refine gx_lald hx hb G (48 + r0) (by omega) (gsh_T _ (by omega)) (by decide) r rfl (by omega) dX0_mendingColumn_19 ?_
        refine lv_lconst (v := 0) hx hb dX0_mendingColumn_20 (by decide) ?_
        refine gx_lc_ge (tgt := 46) hx hb dX0_mendingColumn_21 dX0_mendingColumn_22 (by decide) (fun c22 => ?_) (fun c22 => ?_)
        · skip
          refine lv_iinc (v := (nI (r + 1))) (lv' := [(3, .int (nI (r + 1))), (0, .ref (ad 4)), (1, .int (nI r0)), (2, .int (d_mend a b r0 r))]) hx hb dX0_mendingColumn_46 hl (k := 3) rfl (gn_add (X := r) (Y := 1) rfl rfl) (by decide) rfl (fun ls hl => ?_)
          refine lv_goto (tgt := 4) hx hb dX0_mendingColumn_49 (by decide) ?_
          have q2 : d_mend a b r0 r = d_mend a b r0 (r + 1) := by first | rfl | (simp only [d_mend, c9, c22, reduceIte]; done) | (rw [show nc = r by omega]; done) | (rw [show nc = r by omega]; simp only [d_mend, c9, c22, reduceIte]; done) | (simp [d_mend, c9, c22, reduceIte]; done)
          rw [q2] at hl
          exact ih4  (r + 1) _ _ _ (by omega) (by omega) G (lv_sub hl [1, 2, 3, 0] rfl)
        · skip
          refine lv_iload_n hx hb dX0_mendingColumn_25 rfl (lv_at hl 2 rfl) ?_
          refine lv_if_lt (tgt := 44) hx hb dX0_mendingColumn_26 (by decide) (fun c26 => ?_) (fun c26 => ?_)
          · skip
            refine lv_iload_n hx hb dX0_mendingColumn_44 rfl (lv_at hl 3 rfl) ?_
            refine lv_istore_n (lv' := [(2, .int (nI r)), (0, .ref (ad 4)), (1, .int (nI r0)), (3, .int (nI r))]) hx hb dX0_mendingColumn_45 rfl hl (by decide) rfl (fun ls hl => ?_)
            refine lv_iinc (v := (nI (r + 1))) (lv' := [(3, .int (nI (r + 1))), (2, .int (nI r)), (0, .ref (ad 4)), (1, .int (nI r0))]) hx hb dX0_mendingColumn_46 hl (k := 3) rfl (gn_add (X := r) (Y := 1) rfl rfl) (by decide) rfl (fun ls hl => ?_)
            refine lv_goto (tgt := 4) hx hb dX0_mendingColumn_49 (by decide) ?_
            have q2 : nI r = d_mend a b r0 (r + 1) := by first | rfl | (simp only [d_mend, c9, c22, c26, reduceIte]; done) | (rw [show nc = r by omega]; done) | (rw [show nc = r by omega]; simp only [d_mend, c9, c22, c26, reduceIte]; done) | (simp [d_mend, c9, c22, c26, reduceIte]; done)
            rw [q2] at hl
            exact ih4  (r + 1) _ _ _ (by omega) (by omega) G (lv_sub hl [2, 3, 1, 0] rfl)
          · skip
            obtain ⟨jb, hjb, ejb⟩ := (d_mend_ix a b r0 r).resolve_left c26
            have ecl := gx_clamp ejb (by omega)
            refine lv_aload_n hx hb dX0_mendingColumn_29 rfl (lv_at hl 0 rfl) ?_
            refine gx_get hx hb hts hinX0 hown G 4 (by decide) rfl rfl 3 (by decide) rfl lk24 rfl (v := .ref (ad 16)) rfl dX0_mendingColumn_30 ?_
            refine lv_iload_n hx hb dX0_mendingColumn_33 rfl (lv_at hl 3 rfl) ?_
            refine gx_iald hx hb G 16 (by decide) (rfl) (by decide) r rfl (by omega) dX0_mendingColumn_34 ?_
            refine lv_aload_n hx hb dX0_mendingColumn_35 rfl (lv_at hl 0 rfl) ?_
            refine gx_get hx hb hts hinX0 hown G 4 (by decide) rfl rfl 3 (by decide) rfl lk24 rfl (v := .ref (ad 16)) rfl dX0_mendingColumn_36 ?_
            refine lv_iload_n hx hb dX0_mendingColumn_39 rfl (lv_at hl 2 rfl) ?_
            refine gx_iald hx hb G 16 (by decide) (rfl) (by decide) jb ejb (by omega) dX0_mendingColumn_40 ?_
            refine lv_icmp_ge (tgt := 46) hx hb dX0_mendingColumn_41 (by decide) (fun c41 => ?_) (fun c41 => ?_)
            · skip
              refine lv_iinc (v := (nI (r + 1))) (lv' := [(3, .int (nI (r + 1))), (0, .ref (ad 4)), (1, .int (nI r0)), (2, .int (d_mend a b r0 r))]) hx hb dX0_mendingColumn_46 hl (k := 3) rfl (gn_add (X := r) (Y := 1) rfl rfl) (by decide) rfl (fun ls hl => ?_)
              refine lv_goto (tgt := 4) hx hb dX0_mendingColumn_49 (by decide) ?_
              have q2 : d_mend a b r0 r = d_mend a b r0 (r + 1) := by first | rfl | (simp only [d_mend, c9, c22, c26, ecl, c41, reduceIte]; done) | (rw [show nc = r by omega]; done) | (rw [show nc = r by omega]; simp only [d_mend, c9, c22, c26, ecl, c41, reduceIte]; done) | (simp [d_mend, c9, c22, c26, ecl, c41, reduceIte]; done)
              rw [q2] at hl
              exact ih4  (r + 1) _ _ _ (by omega) (by omega) G (lv_sub hl [1, 2, 3, 0] rfl)
            · skip
              refine lv_iload_n hx hb dX0_mendingColumn_44 rfl (lv_at hl 3 rfl) ?_
              refine lv_istore_n (lv' := [(2, .int (nI r)), (0, .ref (ad 4)), (1, .int (nI r0)), (3, .int (nI r))]) hx hb dX0_mendingColumn_45 rfl hl (by decide) rfl (fun ls hl => ?_)
              refine lv_iinc (v := (nI (r + 1))) (lv' := [(3, .int (nI (r + 1))), (2, .int (nI r)), (0, .ref (ad 4)), (1, .int (nI r0))]) hx hb dX0_mendingColumn_46 hl (k := 3) rfl (gn_add (X := r) (Y := 1) rfl rfl) (by decide) rfl (fun ls hl => ?_)
              refine lv_goto (tgt := 4) hx hb dX0_mendingColumn_49 (by decide) ?_
              have q2 : nI r = d_mend a b r0 (r + 1) := by first | rfl | (simp only [d_mend, c9, c22, c26, ecl, c41, reduceIte]; done) | (rw [show nc = r by omega]; done) | (rw [show nc = r by omega]; simp only [d_mend, c9, c22, c26, ecl, c41, reduceIte]; done) | (simp [d_mend, c9, c22, c26, ecl, c41, reduceIte]; done)
              rw [q2] at hl
              exact ih4  (r + 1) _ _ _ (by omega) (by omega) G (lv_sub hl [2, 3, 1, 0] rfl)
  have q2 : -1 = d_mend a b r0 0 := by first | rfl | (simp only [d_mend, reduceIte]; done) | (rw [show nc = r by omega]; done) | (rw [show nc = r by omega]; simp only [d_mend, reduceIte]; done) | (simp [d_mend, reduceIte]; done)
  rw [q2] at hl
  have q3 : 0 = nI 0 := by first | rfl | (simp only [d_mend, reduceIte]; done) | (rw [show nc = r by omega]; done) | (rw [show nc = r by omega]; simp only [d_mend, reduceIte]; done) | (simp [d_mend, reduceIte]; done)
  rw [q3] at hl
  exact K4 (nc - 0 + 1) 0 _ _ _ (by omega) (Nat.lt_succ_self _) G (lv_sub hl [2, 3, 1, 0] rfl)

set_option maxHeartbeats 4000000 in
set_option maxRecDepth 100000 in
theorem kX0_fallingColumn (l : Launch) (D : va_G) (ad : Nat → Nat) (cy : Nat → ClassId) (I : gF) (J : gL) (a : gF) (b : gL) (sz : Nat) (nc : Nat) (hnc : I 4 8 = nI nc) (hnc2 : nc ≤ 5) : gMi l yX0_fallingColumn wsX0_fallingColumn ({ frames := 0, cells := 0, slots := 0, locals := 0 }) D ad cy I J a b sz [.ref (ad 4)] (fun r u => r = d_fall a b nc ∧ u = (I, J, a, b)) := by
  refine Met.ofW (cc := cX0_fallingColumn) (maxL := 3) (ret := some .int) (by decide) rfl ?_
  intro p e s m args below meth c s₁ B hml hv
  obtain ⟨hargs, hsz, G⟩ := gx_begin hv
  subst hsz
  have hx := B.exec
  have hb := B.bytes
  have hr := B.returns
  have hts := atoms_spec (ws := wsX0_fallingColumn) B.pre
  have hown : s.vm.findClass RX0 = some m.cls := findClass_of_methodNamed B.named
  have hlocks := B.notSynchronized
  have hinX0 : ∀ w ∈ wsX00, w ∈ wsX0_fallingColumn := by decide +kernel
  have lk24 := hts (.fieldLink RX0 24 "ExactSimplex$Dictionary" "outside" "[I") (by decide +kernel)
  have lk27 := hts (.fieldLink RX0 27 "ExactSimplex$Dictionary" "frozen" "[Z") (by decide +kernel)
  have lk31 := hts (.fieldLink RX0 31 "ExactSimplex$Dictionary" "slopes" "[J") (by decide +kernel)
  have lk44 := hts (.fieldLink RX0 44 "ExactSimplex$Dictionary" "columns" "I") (by decide +kernel)
  have hl := lv_entry ([.ref (ad 4)]) (n := 3) (Nat.le_of_ble_eq_true rfl)
  have hent := lg_entry_eq m ([.ref (ad 4)]) 3
  rw [← hargs] at hent
  rw [hent]
  clear hent
  generalize (lg_sl ([.ref (ad 4)]) ++ List.replicate (3 - (lg_sl ([.ref (ad 4)])).length) Slot.unset).toArray = ls at hl ⊢
  have hl : lv_has ls 3 [(0, .ref (ad 4))] := hl
  generalize hA : gA ad s.heap.size = A at G ⊢
  generalize hH : s.heap = H at G ⊢
  refine gx_q (fun Q hQ => ?_)
  refine lv_iconst (v := -1) hx hb dX0_fallingColumn_0 (by decide) ?_
  refine lv_istore_n (lv' := [(1, .int (-1)), (0, .ref (ad 4))]) hx hb dX0_fallingColumn_1 rfl hl (by decide) rfl (fun ls hl => ?_)
  refine lv_iconst (v := 0) hx hb dX0_fallingColumn_2 (by decide) ?_
  refine lv_istore_n (lv' := [(2, .int 0), (1, .int (-1)), (0, .ref (ad 4))]) hx hb dX0_fallingColumn_3 rfl hl (by decide) rfl (fun ls hl => ?_)
  have K4 : ∀ (nf : Nat) (r : Nat) (H : Heap) (locs : List Loc) (ls : Array Slot), (r ≤ nc) → nc - r < nf → GG D ad cy A s I J a b H locs → lv_has ls 3 [(0, .ref (ad 4)), (1, .int (d_fall a b r)), (2, .int (nI r))] → W p l e ({ frames := 0, cells := 0, slots := 0, locals := 0 }) s m args below meth c H locs 0 0 Q (F0 m 4 ls []) := by
    intro nf
    induction nf with
    | zero => exact fun _ _ _ _ _ hz => absurd hz (Nat.not_lt_zero _)
    | succ nf ih =>
      intro r H locs ls h1 hmeas G hl
      have ih4 := ih
      clear ih
      refine lv_iload_n hx hb dX0_fallingColumn_4 rfl (lv_at hl 2 rfl) ?_
      refine lv_aload_n hx hb dX0_fallingColumn_5 rfl (lv_at hl 0 rfl) ?_
      refine gx_get hx hb hts hinX0 hown G 4 (by decide) rfl rfl 8 (by decide) rfl lk44 rfl (v := .int (I 4 8)) rfl dX0_fallingColumn_6 ?_
      refine lv_icmp_ge (tgt := 59) hx hb dX0_fallingColumn_9 (by decide) (fun c9 => ?_) (fun c9 => ?_)
      · skip
        have n9 := gn_le (X := nc) (Y := r) hnc rfl (by omega) (by omega) c9
        refine lv_iload_n hx hb dX0_fallingColumn_59 rfl (lv_at hl 1 rfl) ?_
        exact gx_ir hx hb hr hlocks G hQ ⟨by first | rfl | (simp only [d_fall, c9, reduceIte]; done) | (rw [show nc = r by omega]; done) | (rw [show nc = r by omega]; simp only [d_fall, c9, reduceIte]; done) | (simp [d_fall, c9, reduceIte]; done), rfl⟩ dX0_fallingColumn_60
      · skip
        have n9 := gn_nle (X := nc) (Y := r) hnc rfl (by omega) (by omega) c9
        refine lv_aload_n hx hb dX0_fallingColumn_12 rfl (lv_at hl 0 rfl) ?_
        refine gx_get hx hb hts hinX0 hown G 4 (by decide) rfl rfl 4 (by decide) rfl lk27 rfl (v := .ref (ad 17)) rfl dX0_fallingColumn_13 ?_
        refine lv_iload_n hx hb dX0_fallingColumn_16 rfl (lv_at hl 2 rfl) ?_
        refine gx_zald hx hb G 17 (by decide) (rfl) (by decide) r rfl (by omega) dX0_fallingColumn_17 ?_
        refine lv_if_ne (tgt := 53) hx hb dX0_fallingColumn_18 (by decide) (fun c18 => ?_) (fun c18 => ?_)
        · skip
          refine lv_iinc (v := (nI (r + 1))) (lv' := [(2, .int (nI (r + 1))), (0, .ref (ad 4)), (1, .int (d_fall a b r))]) hx hb dX0_fallingColumn_53 hl (k := 2) rfl (gn_add (X := r) (Y := 1) rfl rfl) (by decide) rfl (fun ls hl => ?_)
          refine lv_goto (tgt := 4) hx hb dX0_fallingColumn_56 (by decide) ?_
          have q1 : d_fall a b r = d_fall a b (r + 1) := by first | rfl | (simp only [d_fall, c9, c18, reduceIte]; done) | (rw [show nc = r by omega]; done) | (rw [show nc = r by omega]; simp only [d_fall, c9, c18, reduceIte]; done) | (simp [d_fall, c9, c18, reduceIte]; done)
          rw [q1] at hl
          exact ih4  (r + 1) _ _ _ (by omega) (by omega) G (lv_sub hl [1, 2, 0] rfl)
        · skip
          refine lv_aload_n hx hb dX0_fallingColumn_21 rfl (lv_at hl 0 rfl) ?_
          refine gx_get hx hb hts hinX0 hown G 4 (by decide) rfl rfl 5 (by decide) rfl lk31 rfl (v := .ref (ad 18)) rfl dX0_fallingColumn_22 ?_
          refine lv_iload_n hx hb dX0_fallingColumn_25 rfl (lv_at hl 2 rfl) ?_
          refine gx_lald hx hb G 18 (by decide) (rfl) (by decide) r rfl (by omega) dX0_fallingColumn_26 ?_
          refine lv_lconst (v := 0) hx hb dX0_fallingColumn_27 (by decide) ?_
          refine gx_lc_ge (tgt := 53) hx hb dX0_fallingColumn_28 dX0_fallingColumn_29 (by decide) (fun c29 => ?_) (fun c29 => ?_)
          · skip
            refine lv_iinc (v := (nI (r + 1))) (lv' := [(2, .int (nI (r + 1))), (0, .ref (ad 4)), (1, .int (d_fall a b r))]) hx hb dX0_fallingColumn_53 hl (k := 2) rfl (gn_add (X := r) (Y := 1) rfl rfl) (by decide) rfl (fun ls hl => ?_)
            refine lv_goto (tgt := 4) hx hb dX0_fallingColumn_56 (by decide) ?_
            have q1 : d_fall a b r = d_fall a b (r + 1) := by first | rfl | (simp only [d_fall, c9, c18, c29, reduceIte]; done) | (rw [show nc = r by omega]; done) | (rw [show nc = r by omega]; simp only [d_fall, c9, c18, c29, reduceIte]; done) | (simp [d_fall, c9, c18, c29, reduceIte]; done)
            rw [q1] at hl
            exact ih4  (r + 1) _ _ _ (by omega) (by omega) G (lv_sub hl [1, 2, 0] rfl)
          · skip
            refine lv_iload_n hx hb dX0_fallingColumn_32 rfl (lv_at hl 1 rfl) ?_
            refine lv_if_lt (tgt := 51) hx hb dX0_fallingColumn_33 (by decide) (fun c33 => ?_) (fun c33 => ?_)
            · skip
              refine lv_iload_n hx hb dX0_fallingColumn_51 rfl (lv_at hl 2 rfl) ?_
              refine lv_istore_n (lv' := [(1, .int (nI r)), (0, .ref (ad 4)), (2, .int (nI r))]) hx hb dX0_fallingColumn_52 rfl hl (by decide) rfl (fun ls hl => ?_)
              refine lv_iinc (v := (nI (r + 1))) (lv' := [(2, .int (nI (r + 1))), (1, .int (nI r)), (0, .ref (ad 4))]) hx hb dX0_fallingColumn_53 hl (k := 2) rfl (gn_add (X := r) (Y := 1) rfl rfl) (by decide) rfl (fun ls hl => ?_)
              refine lv_goto (tgt := 4) hx hb dX0_fallingColumn_56 (by decide) ?_
              have q1 : nI r = d_fall a b (r + 1) := by first | rfl | (simp only [d_fall, c9, c18, c29, c33, reduceIte]; done) | (rw [show nc = r by omega]; done) | (rw [show nc = r by omega]; simp only [d_fall, c9, c18, c29, c33, reduceIte]; done) | (simp [d_fall, c9, c18, c29, c33, reduceIte]; done)
              rw [q1] at hl
              exact ih4  (r + 1) _ _ _ (by omega) (by omega) G (lv_sub hl [2, 1, 0] rfl)
            · skip
              obtain ⟨jb, hjb, ejb⟩ := (d_fall_ix a b r).resolve_left c33
              have ecl := gx_clamp ejb (by omega)
              refine lv_aload_n hx hb dX0_fallingColumn_36 rfl (lv_at hl 0 rfl) ?_
              refine gx_get hx hb hts hinX0 hown G 4 (by decide) rfl rfl 3 (by decide) rfl lk24 rfl (v := .ref (ad 16)) rfl dX0_fallingColumn_37 ?_
              refine lv_iload_n hx hb dX0_fallingColumn_40 rfl (lv_at hl 2 rfl) ?_
              refine gx_iald hx hb G 16 (by decide) (rfl) (by decide) r rfl (by omega) dX0_fallingColumn_41 ?_
              refine lv_aload_n hx hb dX0_fallingColumn_42 rfl (lv_at hl 0 rfl) ?_
              refine gx_get hx hb hts hinX0 hown G 4 (by decide) rfl rfl 3 (by decide) rfl lk24 rfl (v := .ref (ad 16)) rfl dX0_fallingColumn_43 ?_
              refine lv_iload_n hx hb dX0_fallingColumn_46 rfl (lv_at hl 1 rfl) ?_
              refine gx_iald hx hb G 16 (by decide) (rfl) (by decide) jb ejb (by omega) dX0_fallingColumn_47 ?_
              refine lv_icmp_ge (tgt := 53) hx hb dX0_fallingColumn_48 (by decide) (fun c48 => ?_) (fun c48 => ?_)
              · skip
                refine lv_iinc (v := (nI (r + 1))) (lv' := [(2, .int (nI (r + 1))), (0, .ref (ad 4)), (1, .int (d_fall a b r))]) hx hb dX0_fallingColumn_53 hl (k := 2) rfl (gn_add (X := r) (Y := 1) rfl rfl) (by decide) rfl (fun ls hl => ?_)
                refine lv_goto (tgt := 4) hx hb dX0_fallingColumn_56 (by decide) ?_
                have q1 : d_fall a b r = d_fall a b (r + 1) := by first | rfl | (simp only [d_fall, c9, c18, c29, c33, ecl, c48, reduceIte]; done) | (rw [show nc = r by omega]; done) | (rw [show nc = r by omega]; simp only [d_fall, c9, c18, c29, c33, ecl, c48, reduceIte]; done) | (simp [d_fall, c9, c18, c29, c33, ecl, c48, reduceIte]; done)
                rw [q1] at hl
                exact ih4  (r + 1) _ _ _ (by omega) (by omega) G (lv_sub hl [1, 2, 0] rfl)
              · skip
                refine lv_iload_n hx hb dX0_fallingColumn_51 rfl (lv_at hl 2 rfl) ?_
                refine lv_istore_n (lv' := [(1, .int (nI r)), (0, .ref (ad 4)), (2, .int (nI r))]) hx hb dX0_fallingColumn_52 rfl hl (by decide) rfl (fun ls hl => ?_)
                refine lv_iinc (v := (nI (r + 1))) (lv' := [(2, .int (nI (r + 1))), (1, .int (nI r)), (0, .ref (ad 4))]) hx hb dX0_fallingColumn_53 hl (k := 2) rfl (gn_add (X := r) (Y := 1) rfl rfl) (by decide) rfl (fun ls hl => ?_)
                refine lv_goto (tgt := 4) hx hb dX0_fallingColumn_56 (by decide) ?_
                have q1 : nI r = d_fall a b (r + 1) := by first | rfl | (simp only [d_fall, c9, c18, c29, c33, ecl, c48, reduceIte]; done) | (rw [show nc = r by omega]; done) | (rw [show nc = r by omega]; simp only [d_fall, c9, c18, c29, c33, ecl, c48, reduceIte]; done) | (simp [d_fall, c9, c18, c29, c33, ecl, c48, reduceIte]; done)
                rw [q1] at hl
                exact ih4  (r + 1) _ _ _ (by omega) (by omega) G (lv_sub hl [2, 1, 0] rfl)
  have q1 : -1 = d_fall a b 0 := by first | rfl | (simp only [d_fall, reduceIte]; done) | (rw [show nc = r by omega]; done) | (rw [show nc = r by omega]; simp only [d_fall, reduceIte]; done) | (simp [d_fall, reduceIte]; done)
  rw [q1] at hl
  have q2 : 0 = nI 0 := by first | rfl | (simp only [d_fall, reduceIte]; done) | (rw [show nc = r by omega]; done) | (rw [show nc = r by omega]; simp only [d_fall, reduceIte]; done) | (simp [d_fall, reduceIte]; done)
  rw [q2] at hl
  exact K4 (nc - 0 + 1) 0 _ _ _ (by omega) (Nat.lt_succ_self _) G (lv_sub hl [2, 1, 0] rfl)

set_option maxHeartbeats 4000000 in
set_option maxRecDepth 100000 in
theorem kX0_numerator (l : Launch) (D : va_G) (ad : Nat → Nat) (cy : Nat → ClassId) (I : gF) (J : gL) (a : gF) (b : gL) (sz : Nat) (nl : Nat) (v : Int32) (hnl : I 4 7 = nI nl) (hnl2 : nl ≤ 21) : gMl l yX0_numerator wsX0_numerator ({ frames := 0, cells := 0, slots := 0, locals := 0 }) D ad cy I J a b sz [.ref (ad 4), .int v] (fun r u => r = d_num a b v nl 0 ∧ u = (I, J, a, b)) := by
  refine Met.ofW (cc := cX0_numerator) (maxL := 3) (ret := some .long) (by decide) rfl ?_
  intro p e s m args below meth c s₁ B hml hv
  obtain ⟨hargs, hsz, G⟩ := gx_begin hv
  subst hsz
  have hx := B.exec
  have hb := B.bytes
  have hr := B.returns
  have hts := atoms_spec (ws := wsX0_numerator) B.pre
  have hown : s.vm.findClass RX0 = some m.cls := findClass_of_methodNamed B.named
  have hlocks := B.notSynchronized
  have hinX0 : ∀ w ∈ wsX00, w ∈ wsX0_numerator := by decide +kernel
  have lk16 := hts (.fieldLink RX0 16 "ExactSimplex$Dictionary" "rests" "[J") (by decide +kernel)
  have lk20 := hts (.fieldLink RX0 20 "ExactSimplex$Dictionary" "basic" "[I") (by decide +kernel)
  have lk48 := hts (.fieldLink RX0 48 "ExactSimplex$Dictionary" "lines" "I") (by decide +kernel)
  have hl := lv_entry ([.ref (ad 4), .int v]) (n := 3) (Nat.le_of_ble_eq_true rfl)
  have hent := lg_entry_eq m ([.ref (ad 4), .int v]) 3
  rw [← hargs] at hent
  rw [hent]
  clear hent
  generalize (lg_sl ([.ref (ad 4), .int v]) ++ List.replicate (3 - (lg_sl ([.ref (ad 4), .int v])).length) Slot.unset).toArray = ls at hl ⊢
  have hl : lv_has ls 3 [(0, .ref (ad 4)), (1, .int v)] := hl
  generalize hA : gA ad s.heap.size = A at G ⊢
  generalize hH : s.heap = H at G ⊢
  refine gx_q (fun Q hQ => ?_)
  refine lv_iconst (v := 0) hx hb dX0_numerator_0 (by decide) ?_
  refine lv_istore_n (lv' := [(2, .int 0), (0, .ref (ad 4)), (1, .int v)]) hx hb dX0_numerator_1 rfl hl (by decide) rfl (fun ls hl => ?_)
  have K2 : ∀ (nf : Nat) (r : Nat) (H : Heap) (locs : List Loc) (ls : Array Slot), (r ≤ nl) → (d_num a b v nl 0 = d_num a b v (nl - r) r) → nl - r < nf → GG D ad cy A s I J a b H locs → lv_has ls 3 [(0, .ref (ad 4)), (1, .int v), (2, .int (nI r))] → W p l e ({ frames := 0, cells := 0, slots := 0, locals := 0 }) s m args below meth c H locs 0 0 Q (F0 m 2 ls []) := by
    intro nf
    induction nf with
    | zero => exact fun _ _ _ _ _ _ hz => absurd hz (Nat.not_lt_zero _)
    | succ nf ih =>
      intro r H locs ls h1 h2 hmeas G hl
      have ih2 := ih
      clear ih
      refine lv_iload_n hx hb dX0_numerator_2 rfl (lv_at hl 2 rfl) ?_
      refine lv_aload_n hx hb dX0_numerator_3 rfl (lv_at hl 0 rfl) ?_
      refine gx_get hx hb hts hinX0 hown G 4 (by decide) rfl rfl 7 (by decide) rfl lk48 rfl (v := .int (I 4 7)) rfl dX0_numerator_4 ?_
      refine lv_icmp_ge (tgt := 33) hx hb dX0_numerator_7 (by decide) (fun c7 => ?_) (fun c7 => ?_)
      · skip
        have n7 := gn_le (X := nl) (Y := r) hnl rfl (by omega) (by omega) c7
        refine lv_lconst (v := 0) hx hb dX0_numerator_33 (by decide) ?_
        exact gx_lr hx hb hr hlocks G hQ ⟨by rw [h2, show nl - r = 0 by omega]; rfl, rfl⟩ dX0_numerator_34
      · skip
        have n7 := gn_nle (X := nl) (Y := r) hnl rfl (by omega) (by omega) c7
        refine lv_aload_n hx hb dX0_numerator_10 rfl (lv_at hl 0 rfl) ?_
        refine gx_get hx hb hts hinX0 hown G 4 (by decide) rfl rfl 2 (by decide) rfl lk20 rfl (v := .ref (ad 15)) rfl dX0_numerator_11 ?_
        refine lv_iload_n hx hb dX0_numerator_14 rfl (lv_at hl 2 rfl) ?_
        refine gx_iald hx hb G 15 (by decide) (rfl) (by decide) r rfl (by omega) dX0_numerator_15 ?_
        refine lv_iload_n hx hb dX0_numerator_16 rfl (lv_at hl 1 rfl) ?_
        refine lv_icmp_ne (tgt := 27) hx hb dX0_numerator_17 (by decide) (fun c17 => ?_) (fun c17 => ?_)
        · skip
          refine lv_iinc (v := (nI (r + 1))) (lv' := [(2, .int (nI (r + 1))), (0, .ref (ad 4)), (1, .int v)]) hx hb dX0_numerator_27 hl (k := 2) rfl (gn_add (X := r) (Y := 1) rfl rfl) (by decide) rfl (fun ls hl => ?_)
          refine lv_goto (tgt := 2) hx hb dX0_numerator_30 (by decide) ?_
          exact ih2  (r + 1) _ _ _ (by omega) (by rw [h2, d_num_s a b v n7]; simp only [c7, c17, reduceIte]) (by omega) G (lv_sub hl [1, 2, 0] rfl)
        · skip
          refine lv_aload_n hx hb dX0_numerator_20 rfl (lv_at hl 0 rfl) ?_
          refine gx_get hx hb hts hinX0 hown G 4 (by decide) rfl rfl 1 (by decide) rfl lk16 rfl (v := .ref (ad 14)) rfl dX0_numerator_21 ?_
          refine lv_iload_n hx hb dX0_numerator_24 rfl (lv_at hl 2 rfl) ?_
          refine gx_lald hx hb G 14 (by decide) (rfl) (by decide) r rfl (by omega) dX0_numerator_25 ?_
          exact gx_lr hx hb hr hlocks G hQ ⟨by rw [h2, d_num_s a b v n7]; simp only [c7, c17, reduceIte], rfl⟩ dX0_numerator_26
  have q2 : 0 = nI 0 := by first | rfl | (simp only [d_num, reduceIte]; done) | (simp [d_num, reduceIte]; done)
  rw [q2] at hl
  exact K2 (nl - 0 + 1) 0 _ _ _ (by omega) (rfl) (Nat.lt_succ_self _) G (lv_sub hl [1, 2, 0] rfl)

set_option maxHeartbeats 4000000 in
set_option maxRecDepth 100000 in
theorem kX0_stopsBefore (l : Launch) (D : va_G) (ad : Nat → Nat) (cy : Nat → ClassId) (I : gF) (J : gL) (a : gF) (b : gL) (sz : Nat) (r o s0 : Nat) (hr0 : r < 21) (ho : o < 21) (hs0 : s0 < 5) : gMi l yX0_stopsBefore wsX0_stopsBefore ({ frames := 0, cells := 0, slots := 0, locals := 0 }) D ad cy I J a b sz [.ref (ad 4), .int (nI r), .int (nI o), .int (nI s0)] (fun q u => q = d_stops a b r o s0 ∧ u = (I, J, a, b)) := by
  refine Met.ofW (cc := cX0_stopsBefore) (maxL := 8) (ret := some .boolean) (by decide) rfl ?_
  intro p e s m args below meth c s₁ B hml hv
  obtain ⟨hargs, hsz, G⟩ := gx_begin hv
  subst hsz
  have hx := B.exec
  have hb := B.bytes
  have hr := B.returns
  have hts := atoms_spec (ws := wsX0_stopsBefore) B.pre
  have hown : s.vm.findClass RX0 = some m.cls := findClass_of_methodNamed B.named
  have hlocks := B.notSynchronized
  have hinX0 : ∀ w ∈ wsX00, w ∈ wsX0_stopsBefore := by decide +kernel
  have lk13 := hts (.fieldLink RX0 13 "ExactSimplex$Dictionary" "table" "[[J") (by decide +kernel)
  have lk16 := hts (.fieldLink RX0 16 "ExactSimplex$Dictionary" "rests" "[J") (by decide +kernel)
  have lk20 := hts (.fieldLink RX0 20 "ExactSimplex$Dictionary" "basic" "[I") (by decide +kernel)
  have hl := lv_entry ([.ref (ad 4), .int (nI r), .int (nI o), .int (nI s0)]) (n := 8) (Nat.le_of_ble_eq_true rfl)
  have hent := lg_entry_eq m ([.ref (ad 4), .int (nI r), .int (nI o), .int (nI s0)]) 8
  rw [← hargs] at hent
  rw [hent]
  clear hent
  generalize (lg_sl ([.ref (ad 4), .int (nI r), .int (nI o), .int (nI s0)]) ++ List.replicate (8 - (lg_sl ([.ref (ad 4), .int (nI r), .int (nI o), .int (nI s0)])).length) Slot.unset).toArray = ls at hl ⊢
  have hl : lv_has ls 8 [(0, .ref (ad 4)), (1, .int (nI r)), (2, .int (nI o)), (3, .int (nI s0))] := hl
  generalize hA : gA ad s.heap.size = A at G ⊢
  generalize hH : s.heap = H at G ⊢
  refine gx_q (fun Q hQ => ?_)
  refine lv_aload_n hx hb dX0_stopsBefore_0 rfl (lv_at hl 0 rfl) ?_
  refine gx_get hx hb hts hinX0 hown G 4 (by decide) rfl rfl 1 (by decide) rfl lk16 rfl (v := .ref (ad 14)) rfl dX0_stopsBefore_1 ?_
  refine lv_iload_n hx hb dX0_stopsBefore_4 rfl (lv_at hl 1 rfl) ?_
  refine gx_lald hx hb G 14 (by decide) (rfl) (by decide) r rfl (by omega) dX0_stopsBefore_5 ?_
  refine lv_aload_n hx hb dX0_stopsBefore_6 rfl (lv_at hl 0 rfl) ?_
  refine gx_get hx hb hts hinX0 hown G 4 (by decide) rfl rfl 0 (by decide) rfl lk13 rfl (v := .ref (ad 13)) rfl dX0_stopsBefore_7 ?_
  refine lv_iload_n hx hb dX0_stopsBefore_10 rfl (lv_at hl 2 rfl) ?_
  refine gx_aald hx hb G 13 (by decide) rfl (Or.inr rfl) (by decide) o rfl (by omega) dX0_stopsBefore_11 ?_
  refine lv_iload_n hx hb dX0_stopsBefore_12 rfl (lv_at hl 3 rfl) ?_
  refine gx_lald hx hb G (48 + o) (by omega) (gsh_T _ (by omega)) (by decide) s0 rfl (by omega) dX0_stopsBefore_13 ?_
  refine lv_lmul hx hb dX0_stopsBefore_14 ?_
  refine lv_lstore (lv' := [(4, .long ((b 14 r) * (b (48 + o) s0))), (0, .ref (ad 4)), (1, .int (nI r)), (2, .int (nI o)), (3, .int (nI s0))]) hx hb dX0_stopsBefore_15 hl (by decide) rfl (fun ls hl => ?_)
  refine lv_aload_n hx hb dX0_stopsBefore_17 rfl (lv_at hl 1 rfl) ?_
  refine gx_get hx hb hts hinX0 hown G 4 (by decide) rfl rfl 1 (by decide) rfl lk16 rfl (v := .ref (ad 14)) rfl dX0_stopsBefore_18 ?_
  refine lv_iload_n hx hb dX0_stopsBefore_21 rfl (lv_at hl 3 rfl) ?_
  refine gx_lald hx hb G 14 (by decide) (rfl) (by decide) o rfl (by omega) dX0_stopsBefore_22 ?_
  refine lv_aload_n hx hb dX0_stopsBefore_23 rfl (lv_at hl 1 rfl) ?_
  refine gx_get hx hb hts hinX0 hown G 4 (by decide) rfl rfl 0 (by decide) rfl lk13 rfl (v := .ref (ad 13)) rfl dX0_stopsBefore_24 ?_
  refine lv_iload_n hx hb dX0_stopsBefore_27 rfl (lv_at hl 2 rfl) ?_
  refine gx_aald hx hb G 13 (by decide) rfl (Or.inr rfl) (by decide) r rfl (by omega) dX0_stopsBefore_28 ?_
  refine lv_iload_n hx hb dX0_stopsBefore_29 rfl (lv_at hl 4 rfl) ?_
  refine gx_lald hx hb G (48 + r) (by omega) (gsh_T _ (by omega)) (by decide) s0 rfl (by omega) dX0_stopsBefore_30 ?_
  refine lv_lmul hx hb dX0_stopsBefore_31 ?_
  refine lv_lstore (lv' := [(6, .long ((b 14 o) * (b (48 + r) s0))), (4, .long ((b 14 r) * (b (48 + o) s0))), (0, .ref (ad 4)), (1, .int (nI r)), (2, .int (nI o)), (3, .int (nI s0))]) hx hb dX0_stopsBefore_32 hl (by decide) rfl (fun ls hl => ?_)
  refine lv_lload hx hb dX0_stopsBefore_34 (lv_at hl 1 rfl) ?_
  refine lv_lload hx hb dX0_stopsBefore_36 (lv_at hl 0 rfl) ?_
  refine gx_lc_lt (tgt := 65) hx hb dX0_stopsBefore_38 dX0_stopsBefore_39 (by decide) (fun c39 => ?_) (fun c39 => ?_)
  · skip
    refine lv_iconst (v := 1) hx hb dX0_stopsBefore_65 (by decide) ?_
    refine lv_goto (tgt := 70) hx hb dX0_stopsBefore_66 (by decide) ?_
    exact gx_zr hx hb hr hlocks G hQ (rfl) ⟨by first | rfl | (simp only [d_stops, c39, reduceIte]; done) | (simp [d_stops, c39, reduceIte]; done), rfl⟩ dX0_stopsBefore_70
  · skip
    refine lv_lload hx hb dX0_stopsBefore_42 (lv_at hl 1 rfl) ?_
    refine lv_lload hx hb dX0_stopsBefore_44 (lv_at hl 0 rfl) ?_
    refine gx_lc_ne (tgt := 69) hx hb dX0_stopsBefore_46 dX0_stopsBefore_47 (by decide) (fun c47 => ?_) (fun c47 => ?_)
    · skip
      refine lv_iconst (v := 0) hx hb dX0_stopsBefore_69 (by decide) ?_
      exact gx_zr hx hb hr hlocks G hQ (rfl) ⟨by first | rfl | (simp only [d_stops, c39, c47, reduceIte]; done) | (simp [d_stops, c39, c47, reduceIte]; done), rfl⟩ dX0_stopsBefore_70
    · skip
      refine lv_aload_n hx hb dX0_stopsBefore_50 rfl (lv_at hl 2 rfl) ?_
      refine gx_get hx hb hts hinX0 hown G 4 (by decide) rfl rfl 2 (by decide) rfl lk20 rfl (v := .ref (ad 15)) rfl dX0_stopsBefore_51 ?_
      refine lv_iload_n hx hb dX0_stopsBefore_54 rfl (lv_at hl 3 rfl) ?_
      refine gx_iald hx hb G 15 (by decide) (rfl) (by decide) r rfl (by omega) dX0_stopsBefore_55 ?_
      refine lv_aload_n hx hb dX0_stopsBefore_56 rfl (lv_at hl 2 rfl) ?_
      refine gx_get hx hb hts hinX0 hown G 4 (by decide) rfl rfl 2 (by decide) rfl lk20 rfl (v := .ref (ad 15)) rfl dX0_stopsBefore_57 ?_
      refine lv_iload_n hx hb dX0_stopsBefore_60 rfl (lv_at hl 4 rfl) ?_
      refine gx_iald hx hb G 15 (by decide) (rfl) (by decide) o rfl (by omega) dX0_stopsBefore_61 ?_
      refine lv_icmp_ge (tgt := 69) hx hb dX0_stopsBefore_62 (by decide) (fun c62 => ?_) (fun c62 => ?_)
      · skip
        refine lv_iconst (v := 0) hx hb dX0_stopsBefore_69 (by decide) ?_
        exact gx_zr hx hb hr hlocks G hQ (rfl) ⟨by first | rfl | (simp only [d_stops, c39, c47, c62, reduceIte]; done) | (simp [d_stops, c39, c47, c62, reduceIte]; done), rfl⟩ dX0_stopsBefore_70
      · skip
        refine lv_iconst (v := 1) hx hb dX0_stopsBefore_65 (by decide) ?_
        refine lv_goto (tgt := 70) hx hb dX0_stopsBefore_66 (by decide) ?_
        exact gx_zr hx hb hr hlocks G hQ (rfl) ⟨by first | rfl | (simp only [d_stops, c39, c47, c62, reduceIte]; done) | (simp [d_stops, c39, c47, c62, reduceIte]; done), rfl⟩ dX0_stopsBefore_70

set_option maxHeartbeats 4000000 in
set_option maxRecDepth 100000 in
theorem kX0_turnLine (l : Launch) (D : va_G) (ad : Nat → Nat) (cy : Nat → ClassId) (I : gF) (J : gL) (a : gF) (b : gL) (sz : Nat) (nc r0 : Nat) (hnc : I 4 8 = nI nc) (hnc2 : nc ≤ 5) (hr0 : r0 < 21) : gMv l yX0_turnLine wsX0_turnLine ({ frames := 0, cells := 0, slots := 0, locals := 0 }) D ad cy I J a b sz [.ref (ad 4), .int (nI r0)] (fun u => u = (I, J, a, d_turn b r0 nc)) := by
  refine Met.ofW (cc := cX0_turnLine) (maxL := 3) (ret := none) (by decide) rfl ?_
  intro p e s m args below meth c s₁ B hml hv
  obtain ⟨hargs, hsz, G⟩ := gx_begin hv
  subst hsz
  have hx := B.exec
  have hb := B.bytes
  have hr := B.returns
  have hts := atoms_spec (ws := wsX0_turnLine) B.pre
  have hown : s.vm.findClass RX0 = some m.cls := findClass_of_methodNamed B.named
  have hlocks := B.notSynchronized
  have hinX0 : ∀ w ∈ wsX00, w ∈ wsX0_turnLine := by decide +kernel
  have lk13 := hts (.fieldLink RX0 13 "ExactSimplex$Dictionary" "table" "[[J") (by decide +kernel)
  have lk16 := hts (.fieldLink RX0 16 "ExactSimplex$Dictionary" "rests" "[J") (by decide +kernel)
  have lk44 := hts (.fieldLink RX0 44 "ExactSimplex$Dictionary" "columns" "I") (by decide +kernel)
  have hl := lv_entry ([.ref (ad 4), .int (nI r0)]) (n := 3) (Nat.le_of_ble_eq_true rfl)
  have hent := lg_entry_eq m ([.ref (ad 4), .int (nI r0)]) 3
  rw [← hargs] at hent
  rw [hent]
  clear hent
  generalize (lg_sl ([.ref (ad 4), .int (nI r0)]) ++ List.replicate (3 - (lg_sl ([.ref (ad 4), .int (nI r0)])).length) Slot.unset).toArray = ls at hl ⊢
  have hl : lv_has ls 3 [(0, .ref (ad 4)), (1, .int (nI r0))] := hl
  generalize hA : gA ad s.heap.size = A at G ⊢
  generalize hH : s.heap = H at G ⊢
  refine gx_q (fun Q hQ => ?_)
  refine lv_iconst (v := 0) hx hb dX0_turnLine_0 (by decide) ?_
  refine lv_istore_n (lv' := [(2, .int 0), (0, .ref (ad 4)), (1, .int (nI r0))]) hx hb dX0_turnLine_1 rfl hl (by decide) rfl (fun ls hl => ?_)
  have K2 : ∀ (nf : Nat) (r : Nat) (H : Heap) (locs : List Loc) (ls : Array Slot), (r ≤ nc) → nc - r < nf → GG D ad cy A s I J a (d_turnL b r0 r) H locs → lv_has ls 3 [(0, .ref (ad 4)), (1, .int (nI r0)), (2, .int (nI r))] → W p l e ({ frames := 0, cells := 0, slots := 0, locals := 0 }) s m args below meth c H locs 0 0 Q (F0 m 2 ls []) := by
    intro nf
    induction nf with
    | zero => exact fun _ _ _ _ _ hz => absurd hz (Nat.not_lt_zero _)
    | succ nf ih =>
      intro r H locs ls h1 hmeas G hl
      have ih2 := ih
      clear ih
      refine lv_iload_n hx hb dX0_turnLine_2 rfl (lv_at hl 2 rfl) ?_
      refine lv_aload_n hx hb dX0_turnLine_3 rfl (lv_at hl 0 rfl) ?_
      refine gx_get hx hb hts hinX0 hown G 4 (by decide) rfl rfl 8 (by decide) rfl lk44 rfl (v := .int (I 4 8)) rfl dX0_turnLine_4 ?_
      refine lv_icmp_ge (tgt := 33) hx hb dX0_turnLine_7 (by decide) (fun c7 => ?_) (fun c7 => ?_)
      · skip
        have n7 := gn_le (X := nc) (Y := r) hnc rfl (by omega) (by omega) c7
        refine lv_aload_n hx hb dX0_turnLine_33 rfl (lv_at hl 0 rfl) ?_
        refine gx_get hx hb hts hinX0 hown G 4 (by decide) rfl rfl 1 (by decide) rfl lk16 rfl (v := .ref (ad 14)) rfl dX0_turnLine_34 ?_
        refine lv_iload_n hx hb dX0_turnLine_37 rfl (lv_at hl 1 rfl) ?_
        refine lv_aload_n hx hb dX0_turnLine_38 rfl (lv_at hl 0 rfl) ?_
        refine gx_get hx hb hts hinX0 hown G 4 (by decide) rfl rfl 1 (by decide) rfl lk16 rfl (v := .ref (ad 14)) rfl dX0_turnLine_39 ?_
        refine lv_iload_n hx hb dX0_turnLine_42 rfl (lv_at hl 1 rfl) ?_
        refine gx_lald hx hb G 14 (by decide) (rfl) (by decide) r0 rfl (by omega) dX0_turnLine_43 ?_
        refine lv_lneg hx hb dX0_turnLine_44 ?_
        refine gx_last hx hb G 14 (by decide) (rfl) (by decide) r0 rfl (by omega) dX0_turnLine_45 (fun H locs G => ?_)
        exact gx_vr hx hb hr hlocks G hQ (by rw [show r = nc by omega]; rfl) dX0_turnLine_46
      · skip
        have n7 := gn_nle (X := nc) (Y := r) hnc rfl (by omega) (by omega) c7
        refine lv_aload_n hx hb dX0_turnLine_10 rfl (lv_at hl 0 rfl) ?_
        refine gx_get hx hb hts hinX0 hown G 4 (by decide) rfl rfl 0 (by decide) rfl lk13 rfl (v := .ref (ad 13)) rfl dX0_turnLine_11 ?_
        refine lv_iload_n hx hb dX0_turnLine_14 rfl (lv_at hl 1 rfl) ?_
        refine gx_aald hx hb G 13 (by decide) rfl (Or.inr rfl) (by decide) r0 rfl (by omega) dX0_turnLine_15 ?_
        refine lv_iload_n hx hb dX0_turnLine_16 rfl (lv_at hl 2 rfl) ?_
        refine lv_aload_n hx hb dX0_turnLine_17 rfl (lv_at hl 0 rfl) ?_
        refine gx_get hx hb hts hinX0 hown G 4 (by decide) rfl rfl 0 (by decide) rfl lk13 rfl (v := .ref (ad 13)) rfl dX0_turnLine_18 ?_
        refine lv_iload_n hx hb dX0_turnLine_21 rfl (lv_at hl 1 rfl) ?_
        refine gx_aald hx hb G 13 (by decide) rfl (Or.inr rfl) (by decide) r0 rfl (by omega) dX0_turnLine_22 ?_
        refine lv_iload_n hx hb dX0_turnLine_23 rfl (lv_at hl 2 rfl) ?_
        refine gx_lald hx hb G (48 + r0) (by omega) (gsh_T _ (by omega)) (by decide) r rfl (by omega) dX0_turnLine_24 ?_
        refine lv_lneg hx hb dX0_turnLine_25 ?_
        refine gx_last hx hb G (48 + r0) (by omega) (gsh_T _ (by omega)) (by decide) r rfl (by omega) dX0_turnLine_26 (fun H locs G => ?_)
        refine lv_iinc (v := (nI (r + 1))) (lv' := [(2, .int (nI (r + 1))), (0, .ref (ad 4)), (1, .int (nI r0))]) hx hb dX0_turnLine_27 hl (k := 2) rfl (gn_add (X := r) (Y := 1) rfl rfl) (by decide) rfl (fun ls hl => ?_)
        refine lv_goto (tgt := 2) hx hb dX0_turnLine_30 (by decide) ?_
        exact ih2  (r + 1) _ _ _ (by omega) (by omega) (gg_eq G rfl rfl rfl (by first | rfl | (simp only [d_turnL, c7, reduceIte]; done) | (simp [d_turnL, c7, reduceIte]; done))) (lv_sub hl [1, 2, 0] rfl)
  have q2 : 0 = nI 0 := by first | rfl | (simp only [d_turnL, reduceIte]; done) | (simp [d_turnL, reduceIte]; done)
  rw [q2] at hl
  exact K2 (nc - 0 + 1) 0 _ _ _ (by omega) (Nat.lt_succ_self _) (gg_eq G rfl rfl rfl (by first | rfl | (simp only [d_turnL, reduceIte]; done) | (simp [d_turnL, reduceIte]; done))) (lv_sub hl [1, 2, 0] rfl)

set_option maxHeartbeats 4000000 in
set_option maxRecDepth 100000 in
theorem kX0_sweepLine (l : Launch) (D : va_G) (ad : Nat → Nat) (cy : Nat → ClassId) (I : gF) (J : gL) (a : gF) (b : gL) (sz : Nat) (nc i r0 s0 : Nat) (dv : Int64) (hnc : I 4 8 = nI nc) (hnc2 : nc ≤ 5) (hi0 : i < 21) (hr0 : r0 < 21) (hs0 : s0 < 5) : gMv l yX0_sweepLine wsX0_sweepLine ({ frames := 0, cells := 0, slots := 0, locals := 0 }) D ad cy I J a b sz [.ref (ad 4), .int (nI i), .int (nI r0), .int (nI s0), .long dv] (fun u => u = (I, J, a, d_sweep b nc i r0 s0 dv)) := by
  refine Met.ofW (cc := cX0_sweepLine) (maxL := 11) (ret := none) (by decide) rfl ?_
  intro p e s m args below meth c s₁ B hml hv
  obtain ⟨hargs, hsz, G⟩ := gx_begin hv
  subst hsz
  have hx := B.exec
  have hb := B.bytes
  have hr := B.returns
  have hts := atoms_spec (ws := wsX0_sweepLine) B.pre
  have hown : s.vm.findClass RX0 = some m.cls := findClass_of_methodNamed B.named
  have hlocks := B.notSynchronized
  have hinX0 : ∀ w ∈ wsX00, w ∈ wsX0_sweepLine := by decide +kernel
  have lk13 := hts (.fieldLink RX0 13 "ExactSimplex$Dictionary" "table" "[[J") (by decide +kernel)
  have lk16 := hts (.fieldLink RX0 16 "ExactSimplex$Dictionary" "rests" "[J") (by decide +kernel)
  have lk44 := hts (.fieldLink RX0 44 "ExactSimplex$Dictionary" "columns" "I") (by decide +kernel)
  have hl := lv_entry ([.ref (ad 4), .int (nI i), .int (nI r0), .int (nI s0), .long dv]) (n := 11) (Nat.le_of_ble_eq_true rfl)
  have hent := lg_entry_eq m ([.ref (ad 4), .int (nI i), .int (nI r0), .int (nI s0), .long dv]) 11
  rw [← hargs] at hent
  rw [hent]
  clear hent
  generalize (lg_sl ([.ref (ad 4), .int (nI i), .int (nI r0), .int (nI s0), .long dv]) ++ List.replicate (11 - (lg_sl ([.ref (ad 4), .int (nI i), .int (nI r0), .int (nI s0), .long dv])).length) Slot.unset).toArray = ls at hl ⊢
  have hl : lv_has ls 11 [(0, .ref (ad 4)), (1, .int (nI i)), (2, .int (nI r0)), (3, .int (nI s0)), (4, .long dv)] := hl
  generalize hA : gA ad s.heap.size = A at G ⊢
  generalize hH : s.heap = H at G ⊢
  refine gx_q (fun Q hQ => ?_)
  refine lv_aload_n hx hb dX0_sweepLine_0 rfl (lv_at hl 0 rfl) ?_
  refine gx_get hx hb hts hinX0 hown G 4 (by decide) rfl rfl 0 (by decide) rfl lk13 rfl (v := .ref (ad 13)) rfl dX0_sweepLine_1 ?_
  refine lv_iload_n hx hb dX0_sweepLine_4 rfl (lv_at hl 2 rfl) ?_
  refine gx_aald hx hb G 13 (by decide) rfl (Or.inr rfl) (by decide) r0 rfl (by omega) dX0_sweepLine_5 ?_
  refine lv_iload_n hx hb dX0_sweepLine_6 rfl (lv_at hl 3 rfl) ?_
  refine gx_lald hx hb G (48 + r0) (by omega) (gsh_T _ (by omega)) (by decide) s0 rfl (by omega) dX0_sweepLine_7 ?_
  refine lv_lstore (lv' := [(6, .long (b (48 + r0) s0)), (0, .ref (ad 4)), (1, .int (nI i)), (2, .int (nI r0)), (3, .int (nI s0)), (4, .long dv)]) hx hb dX0_sweepLine_8 hl (by decide) rfl (fun ls hl => ?_)
  refine lv_aload_n hx hb dX0_sweepLine_10 rfl (lv_at hl 1 rfl) ?_
  refine gx_get hx hb hts hinX0 hown G 4 (by decide) rfl rfl 0 (by decide) rfl lk13 rfl (v := .ref (ad 13)) rfl dX0_sweepLine_11 ?_
  refine lv_iload_n hx hb dX0_sweepLine_14 rfl (lv_at hl 2 rfl) ?_
  refine gx_aald hx hb G 13 (by decide) rfl (Or.inr rfl) (by decide) i rfl (by omega) dX0_sweepLine_15 ?_
  refine lv_iload_n hx hb dX0_sweepLine_16 rfl (lv_at hl 4 rfl) ?_
  refine gx_lald hx hb G (48 + i) (by omega) (gsh_T _ (by omega)) (by decide) s0 rfl (by omega) dX0_sweepLine_17 ?_
  refine lv_lstore (lv' := [(8, .long (b (48 + i) s0)), (6, .long (b (48 + r0) s0)), (0, .ref (ad 4)), (1, .int (nI i)), (2, .int (nI r0)), (3, .int (nI s0)), (4, .long dv)]) hx hb dX0_sweepLine_18 hl (by decide) rfl (fun ls hl => ?_)
  refine lv_lload hx hb dX0_sweepLine_20 (lv_at hl 6 rfl) ?_
  refine lv_lconst (v := 0) hx hb dX0_sweepLine_22 (by decide) ?_
  refine gx_lc_eq (tgt := 42) hx hb dX0_sweepLine_23 dX0_sweepLine_24 (by decide) (fun c24 => ?_) (fun c24 => ?_)
  · skip
    exact gx_vr hx hb hr hlocks G hQ (by simp only [d_sweep, c24, reduceIte]) dX0_sweepLine_42
  · skip
    refine lv_lload hx hb dX0_sweepLine_27 (lv_at hl 0 rfl) ?_
    refine lv_lconst (v := 0) hx hb dX0_sweepLine_29 (by decide) ?_
    refine gx_lc_ne (tgt := 43) hx hb dX0_sweepLine_30 dX0_sweepLine_31 (by decide) (fun c31 => ?_) (fun c31 => ?_)
    · skip
      refine lv_iconst (v := 0) hx hb dX0_sweepLine_43 (by decide) ?_
      refine lv_istore (lv' := [(10, .int 0), (8, .long (b (48 + i) s0)), (6, .long (b (48 + r0) s0)), (0, .ref (ad 4)), (1, .int (nI i)), (2, .int (nI r0)), (3, .int (nI s0)), (4, .long dv)]) hx hb dX0_sweepLine_44 hl (by decide) rfl (fun ls hl => ?_)
      have K46 : ∀ (nf : Nat) (r : Nat) (H : Heap) (locs : List Loc) (ls : Array Slot), (r ≤ nc) → nc - r < nf → GG D ad cy A s I J a (d_swL b i r0 s0 (b (48 + r0) s0) (b (48 + i) s0) dv r) H locs → lv_has ls 11 [(0, .ref (ad 4)), (1, .int (nI i)), (2, .int (nI r0)), (3, .int (nI s0)), (4, .long dv), (6, .long (b (48 + r0) s0)), (8, .long (b (48 + i) s0)), (10, .int (nI r))] → W p l e ({ frames := 0, cells := 0, slots := 0, locals := 0 }) s m args below meth c H locs 0 0 Q (F0 m 46 ls []) := by
        intro nf
        induction nf with
        | zero => exact fun _ _ _ _ _ hz => absurd hz (Nat.not_lt_zero _)
        | succ nf ih =>
          intro r H locs ls h1 hmeas G hl
          have ih46 := ih
          clear ih
          refine lv_iload hx hb dX0_sweepLine_46 (lv_at hl 7 rfl) ?_
          refine lv_aload_n hx hb dX0_sweepLine_48 rfl (lv_at hl 0 rfl) ?_
          refine gx_get hx hb hts hinX0 hown G 4 (by decide) rfl rfl 8 (by decide) rfl lk44 rfl (v := .int (I 4 8)) rfl dX0_sweepLine_49 ?_
          refine lv_icmp_ge (tgt := 104) hx hb dX0_sweepLine_52 (by decide) (fun c52 => ?_) (fun c52 => ?_)
          · skip
            have n52 := gn_le (X := nc) (Y := r) hnc rfl (by omega) (by omega) c52
            refine lv_aload_n hx hb dX0_sweepLine_104 rfl (lv_at hl 0 rfl) ?_
            refine gx_get hx hb hts hinX0 hown G 4 (by decide) rfl rfl 1 (by decide) rfl lk16 rfl (v := .ref (ad 14)) rfl dX0_sweepLine_105 ?_
            refine lv_iload_n hx hb dX0_sweepLine_108 rfl (lv_at hl 1 rfl) ?_
            refine lv_lload hx hb dX0_sweepLine_109 (lv_at hl 5 rfl) ?_
            refine lv_aload_n hx hb dX0_sweepLine_111 rfl (lv_at hl 0 rfl) ?_
            refine gx_get hx hb hts hinX0 hown G 4 (by decide) rfl rfl 1 (by decide) rfl lk16 rfl (v := .ref (ad 14)) rfl dX0_sweepLine_112 ?_
            refine lv_iload_n hx hb dX0_sweepLine_115 rfl (lv_at hl 1 rfl) ?_
            refine gx_lald hx hb G 14 (by decide) (rfl) (by decide) i rfl (by omega) dX0_sweepLine_116 ?_
            refine lv_lmul hx hb dX0_sweepLine_117 ?_
            refine lv_lload hx hb dX0_sweepLine_118 (lv_at hl 6 rfl) ?_
            refine lv_aload_n hx hb dX0_sweepLine_120 rfl (lv_at hl 0 rfl) ?_
            refine gx_get hx hb hts hinX0 hown G 4 (by decide) rfl rfl 1 (by decide) rfl lk16 rfl (v := .ref (ad 14)) rfl dX0_sweepLine_121 ?_
            refine lv_iload_n hx hb dX0_sweepLine_124 rfl (lv_at hl 2 rfl) ?_
            refine gx_lald hx hb G 14 (by decide) (rfl) (by decide) r0 rfl (by omega) dX0_sweepLine_125 ?_
            refine lv_lmul hx hb dX0_sweepLine_126 ?_
            refine lv_lsub hx hb dX0_sweepLine_127 ?_
            refine lv_lload hx hb dX0_sweepLine_128 (lv_at hl 4 rfl) ?_
            refine lv_ldiv hx hb dX0_sweepLine_130 (c24) ?_
            refine gx_last hx hb G 14 (by decide) (rfl) (by decide) i rfl (by omega) dX0_sweepLine_131 (fun H locs G => ?_)
            refine lv_aload_n hx hb dX0_sweepLine_132 rfl (lv_at hl 0 rfl) ?_
            refine gx_get hx hb hts hinX0 hown G 4 (by decide) rfl rfl 0 (by decide) rfl lk13 rfl (v := .ref (ad 13)) rfl dX0_sweepLine_133 ?_
            refine lv_iload_n hx hb dX0_sweepLine_136 rfl (lv_at hl 1 rfl) ?_
            refine gx_aald hx hb G 13 (by decide) rfl (Or.inr rfl) (by decide) i rfl (by omega) dX0_sweepLine_137 ?_
            refine lv_iload_n hx hb dX0_sweepLine_138 rfl (lv_at hl 3 rfl) ?_
            refine lv_lload hx hb dX0_sweepLine_139 (lv_at hl 5 rfl) ?_
            refine lv_lconst (v := 0) hx hb dX0_sweepLine_141 (by decide) ?_
            refine gx_lc_ge (tgt := 151) hx hb dX0_sweepLine_142 dX0_sweepLine_143 (by decide) (fun c143 => ?_) (fun c143 => ?_)
            · skip
              refine lv_lload hx hb dX0_sweepLine_151 (lv_at hl 6 rfl) ?_
              refine lv_lneg hx hb dX0_sweepLine_153 ?_
              refine gx_last hx hb G (48 + i) (by omega) (gsh_T _ (by omega)) (by decide) s0 rfl (by omega) dX0_sweepLine_154 (fun H locs G => ?_)
              exact gx_vr hx hb hr hlocks G hQ (by rw [show r = nc by omega]; simp only [d_sweep, d_swF, d_swR, c24, c31, c52, c143, reduceIte]) dX0_sweepLine_155
            · skip
              refine lv_lload hx hb dX0_sweepLine_146 (lv_at hl 6 rfl) ?_
              refine lv_goto (tgt := 154) hx hb dX0_sweepLine_148 (by decide) ?_
              refine gx_last hx hb G (48 + i) (by omega) (gsh_T _ (by omega)) (by decide) s0 rfl (by omega) dX0_sweepLine_154 (fun H locs G => ?_)
              exact gx_vr hx hb hr hlocks G hQ (by rw [show r = nc by omega]; simp only [d_sweep, d_swF, d_swR, c24, c31, c52, c143, reduceIte]) dX0_sweepLine_155
          · skip
            have n52 := gn_nle (X := nc) (Y := r) hnc rfl (by omega) (by omega) c52
            refine lv_iload hx hb dX0_sweepLine_55 (lv_at hl 7 rfl) ?_
            refine lv_iload_n hx hb dX0_sweepLine_57 rfl (lv_at hl 3 rfl) ?_
            refine lv_icmp_eq (tgt := 98) hx hb dX0_sweepLine_58 (by decide) (fun c58 => ?_) (fun c58 => ?_)
            · skip
              have n58 := gn_eq (X := r) (Y := s0) rfl rfl (by omega) (by omega) c58
              refine lv_iinc (v := (nI (r + 1))) (lv' := [(10, .int (nI (r + 1))), (0, .ref (ad 4)), (1, .int (nI i)), (2, .int (nI r0)), (3, .int (nI s0)), (4, .long dv), (6, .long (b (48 + r0) s0)), (8, .long (b (48 + i) s0))]) hx hb dX0_sweepLine_98 hl (k := 7) rfl (gn_add (X := r) (Y := 1) rfl rfl) (by decide) rfl (fun ls hl => ?_)
              refine lv_goto (tgt := 46) hx hb dX0_sweepLine_101 (by decide) ?_
              exact ih46  (r + 1) _ _ _ (by omega) (by omega) (gg_eq G rfl rfl rfl (by first | rfl | (simp only [d_swL, c52, c58, reduceIte]; done) | (simp [d_swL, c52, c58, reduceIte]; done))) (lv_sub hl [1, 2, 3, 4, 5, 6, 7, 0] rfl)
            · skip
              have n58 := gn_neq (X := r) (Y := s0) rfl rfl (by omega) (by omega) c58
              refine lv_aload_n hx hb dX0_sweepLine_61 rfl (lv_at hl 0 rfl) ?_
              refine gx_get hx hb hts hinX0 hown G 4 (by decide) rfl rfl 0 (by decide) rfl lk13 rfl (v := .ref (ad 13)) rfl dX0_sweepLine_62 ?_
              refine lv_iload_n hx hb dX0_sweepLine_65 rfl (lv_at hl 1 rfl) ?_
              refine gx_aald hx hb G 13 (by decide) rfl (Or.inr rfl) (by decide) i rfl (by omega) dX0_sweepLine_66 ?_
              refine lv_iload hx hb dX0_sweepLine_67 (lv_at hl 7 rfl) ?_
              refine lv_lload hx hb dX0_sweepLine_69 (lv_at hl 5 rfl) ?_
              refine lv_aload_n hx hb dX0_sweepLine_71 rfl (lv_at hl 0 rfl) ?_
              refine gx_get hx hb hts hinX0 hown G 4 (by decide) rfl rfl 0 (by decide) rfl lk13 rfl (v := .ref (ad 13)) rfl dX0_sweepLine_72 ?_
              refine lv_iload_n hx hb dX0_sweepLine_75 rfl (lv_at hl 1 rfl) ?_
              refine gx_aald hx hb G 13 (by decide) rfl (Or.inr rfl) (by decide) i rfl (by omega) dX0_sweepLine_76 ?_
              refine lv_iload hx hb dX0_sweepLine_77 (lv_at hl 7 rfl) ?_
              refine gx_lald hx hb G (48 + i) (by omega) (gsh_T _ (by omega)) (by decide) r rfl (by omega) dX0_sweepLine_79 ?_
              refine lv_lmul hx hb dX0_sweepLine_80 ?_
              refine lv_lload hx hb dX0_sweepLine_81 (lv_at hl 6 rfl) ?_
              refine lv_aload_n hx hb dX0_sweepLine_83 rfl (lv_at hl 0 rfl) ?_
              refine gx_get hx hb hts hinX0 hown G 4 (by decide) rfl rfl 0 (by decide) rfl lk13 rfl (v := .ref (ad 13)) rfl dX0_sweepLine_84 ?_
              refine lv_iload_n hx hb dX0_sweepLine_87 rfl (lv_at hl 2 rfl) ?_
              refine gx_aald hx hb G 13 (by decide) rfl (Or.inr rfl) (by decide) r0 rfl (by omega) dX0_sweepLine_88 ?_
              refine lv_iload hx hb dX0_sweepLine_89 (lv_at hl 7 rfl) ?_
              refine gx_lald hx hb G (48 + r0) (by omega) (gsh_T _ (by omega)) (by decide) r rfl (by omega) dX0_sweepLine_91 ?_
              refine lv_lmul hx hb dX0_sweepLine_92 ?_
              refine lv_lsub hx hb dX0_sweepLine_93 ?_
              refine lv_lload hx hb dX0_sweepLine_94 (lv_at hl 4 rfl) ?_
              refine lv_ldiv hx hb dX0_sweepLine_96 (c24) ?_
              refine gx_last hx hb G (48 + i) (by omega) (gsh_T _ (by omega)) (by decide) r rfl (by omega) dX0_sweepLine_97 (fun H locs G => ?_)
              refine lv_iinc (v := (nI (r + 1))) (lv' := [(10, .int (nI (r + 1))), (0, .ref (ad 4)), (1, .int (nI i)), (2, .int (nI r0)), (3, .int (nI s0)), (4, .long dv), (6, .long (b (48 + r0) s0)), (8, .long (b (48 + i) s0))]) hx hb dX0_sweepLine_98 hl (k := 7) rfl (gn_add (X := r) (Y := 1) rfl rfl) (by decide) rfl (fun ls hl => ?_)
              refine lv_goto (tgt := 46) hx hb dX0_sweepLine_101 (by decide) ?_
              exact ih46  (r + 1) _ _ _ (by omega) (by omega) (gg_eq G rfl rfl rfl (by first | rfl | (simp only [d_swL, c52, c58, reduceIte]; done) | (simp [d_swL, c52, c58, reduceIte]; done))) (lv_sub hl [1, 2, 3, 4, 5, 6, 7, 0] rfl)
      have q10 : 0 = nI 0 := by first | rfl | (simp only [d_swL, c24, c31, reduceIte]; done) | (simp [d_swL, c24, c31, reduceIte]; done)
      rw [q10] at hl
      exact K46 (nc - 0 + 1) 0 _ _ _ (by omega) (Nat.lt_succ_self _) (gg_eq G rfl rfl rfl (by first | rfl | (simp only [d_swL, c24, c31, reduceIte]; done) | (simp [d_swL, c24, c31, reduceIte]; done))) (lv_sub hl [3, 4, 5, 6, 7, 2, 1, 0] rfl)
    · skip
      refine lv_lload hx hb dX0_sweepLine_34 (lv_at hl 1 rfl) ?_
      refine lv_lload hx hb dX0_sweepLine_36 (lv_at hl 6 rfl) ?_
      refine gx_lc_ne (tgt := 43) hx hb dX0_sweepLine_38 dX0_sweepLine_39 (by decide) (fun c39 => ?_) (fun c39 => ?_)
      · skip
        refine lv_iconst (v := 0) hx hb dX0_sweepLine_43 (by decide) ?_
        refine lv_istore (lv' := [(10, .int 0), (8, .long (b (48 + i) s0)), (6, .long (b (48 + r0) s0)), (0, .ref (ad 4)), (1, .int (nI i)), (2, .int (nI r0)), (3, .int (nI s0)), (4, .long dv)]) hx hb dX0_sweepLine_44 hl (by decide) rfl (fun ls hl => ?_)
        have K46 : ∀ (nf : Nat) (r : Nat) (H : Heap) (locs : List Loc) (ls : Array Slot), (r ≤ nc) → nc - r < nf → GG D ad cy A s I J a (d_swL b i r0 s0 (b (48 + r0) s0) (b (48 + i) s0) dv r) H locs → lv_has ls 11 [(0, .ref (ad 4)), (1, .int (nI i)), (2, .int (nI r0)), (3, .int (nI s0)), (4, .long dv), (6, .long (b (48 + r0) s0)), (8, .long (b (48 + i) s0)), (10, .int (nI r))] → W p l e ({ frames := 0, cells := 0, slots := 0, locals := 0 }) s m args below meth c H locs 0 0 Q (F0 m 46 ls []) := by
          intro nf
          induction nf with
          | zero => exact fun _ _ _ _ _ hz => absurd hz (Nat.not_lt_zero _)
          | succ nf ih =>
            intro r H locs ls h1 hmeas G hl
            have ih46 := ih
            clear ih
            refine lv_iload hx hb dX0_sweepLine_46 (lv_at hl 7 rfl) ?_
            refine lv_aload_n hx hb dX0_sweepLine_48 rfl (lv_at hl 0 rfl) ?_
            refine gx_get hx hb hts hinX0 hown G 4 (by decide) rfl rfl 8 (by decide) rfl lk44 rfl (v := .int (I 4 8)) rfl dX0_sweepLine_49 ?_
            refine lv_icmp_ge (tgt := 104) hx hb dX0_sweepLine_52 (by decide) (fun c52 => ?_) (fun c52 => ?_)
            · skip
              have n52 := gn_le (X := nc) (Y := r) hnc rfl (by omega) (by omega) c52
              refine lv_aload_n hx hb dX0_sweepLine_104 rfl (lv_at hl 0 rfl) ?_
              refine gx_get hx hb hts hinX0 hown G 4 (by decide) rfl rfl 1 (by decide) rfl lk16 rfl (v := .ref (ad 14)) rfl dX0_sweepLine_105 ?_
              refine lv_iload_n hx hb dX0_sweepLine_108 rfl (lv_at hl 1 rfl) ?_
              refine lv_lload hx hb dX0_sweepLine_109 (lv_at hl 5 rfl) ?_
              refine lv_aload_n hx hb dX0_sweepLine_111 rfl (lv_at hl 0 rfl) ?_
              refine gx_get hx hb hts hinX0 hown G 4 (by decide) rfl rfl 1 (by decide) rfl lk16 rfl (v := .ref (ad 14)) rfl dX0_sweepLine_112 ?_
              refine lv_iload_n hx hb dX0_sweepLine_115 rfl (lv_at hl 1 rfl) ?_
              refine gx_lald hx hb G 14 (by decide) (rfl) (by decide) i rfl (by omega) dX0_sweepLine_116 ?_
              refine lv_lmul hx hb dX0_sweepLine_117 ?_
              refine lv_lload hx hb dX0_sweepLine_118 (lv_at hl 6 rfl) ?_
              refine lv_aload_n hx hb dX0_sweepLine_120 rfl (lv_at hl 0 rfl) ?_
              refine gx_get hx hb hts hinX0 hown G 4 (by decide) rfl rfl 1 (by decide) rfl lk16 rfl (v := .ref (ad 14)) rfl dX0_sweepLine_121 ?_
              refine lv_iload_n hx hb dX0_sweepLine_124 rfl (lv_at hl 2 rfl) ?_
              refine gx_lald hx hb G 14 (by decide) (rfl) (by decide) r0 rfl (by omega) dX0_sweepLine_125 ?_
              refine lv_lmul hx hb dX0_sweepLine_126 ?_
              refine lv_lsub hx hb dX0_sweepLine_127 ?_
              refine lv_lload hx hb dX0_sweepLine_128 (lv_at hl 4 rfl) ?_
              refine lv_ldiv hx hb dX0_sweepLine_130 (c24) ?_
              refine gx_last hx hb G 14 (by decide) (rfl) (by decide) i rfl (by omega) dX0_sweepLine_131 (fun H locs G => ?_)
              refine lv_aload_n hx hb dX0_sweepLine_132 rfl (lv_at hl 0 rfl) ?_
              refine gx_get hx hb hts hinX0 hown G 4 (by decide) rfl rfl 0 (by decide) rfl lk13 rfl (v := .ref (ad 13)) rfl dX0_sweepLine_133 ?_
              refine lv_iload_n hx hb dX0_sweepLine_136 rfl (lv_at hl 1 rfl) ?_
              refine gx_aald hx hb G 13 (by decide) rfl (Or.inr rfl) (by decide) i rfl (by omega) dX0_sweepLine_137 ?_
              refine lv_iload_n hx hb dX0_sweepLine_138 rfl (lv_at hl 3 rfl) ?_
              refine lv_lload hx hb dX0_sweepLine_139 (lv_at hl 5 rfl) ?_
              refine lv_lconst (v := 0) hx hb dX0_sweepLine_141 (by decide) ?_
              refine gx_lc_ge (tgt := 151) hx hb dX0_sweepLine_142 dX0_sweepLine_143 (by decide) (fun c143 => ?_) (fun c143 => ?_)
              · skip
                refine lv_lload hx hb dX0_sweepLine_151 (lv_at hl 6 rfl) ?_
                refine lv_lneg hx hb dX0_sweepLine_153 ?_
                refine gx_last hx hb G (48 + i) (by omega) (gsh_T _ (by omega)) (by decide) s0 rfl (by omega) dX0_sweepLine_154 (fun H locs G => ?_)
                exact gx_vr hx hb hr hlocks G hQ (by rw [show r = nc by omega]; simp only [d_sweep, d_swF, d_swR, c24, c31, c39, c52, c143, reduceIte]) dX0_sweepLine_155
              · skip
                refine lv_lload hx hb dX0_sweepLine_146 (lv_at hl 6 rfl) ?_
                refine lv_goto (tgt := 154) hx hb dX0_sweepLine_148 (by decide) ?_
                refine gx_last hx hb G (48 + i) (by omega) (gsh_T _ (by omega)) (by decide) s0 rfl (by omega) dX0_sweepLine_154 (fun H locs G => ?_)
                exact gx_vr hx hb hr hlocks G hQ (by rw [show r = nc by omega]; simp only [d_sweep, d_swF, d_swR, c24, c31, c39, c52, c143, reduceIte]) dX0_sweepLine_155
            · skip
              have n52 := gn_nle (X := nc) (Y := r) hnc rfl (by omega) (by omega) c52
              refine lv_iload hx hb dX0_sweepLine_55 (lv_at hl 7 rfl) ?_
              refine lv_iload_n hx hb dX0_sweepLine_57 rfl (lv_at hl 3 rfl) ?_
              refine lv_icmp_eq (tgt := 98) hx hb dX0_sweepLine_58 (by decide) (fun c58 => ?_) (fun c58 => ?_)
              · skip
                have n58 := gn_eq (X := r) (Y := s0) rfl rfl (by omega) (by omega) c58
                refine lv_iinc (v := (nI (r + 1))) (lv' := [(10, .int (nI (r + 1))), (0, .ref (ad 4)), (1, .int (nI i)), (2, .int (nI r0)), (3, .int (nI s0)), (4, .long dv), (6, .long (b (48 + r0) s0)), (8, .long (b (48 + i) s0))]) hx hb dX0_sweepLine_98 hl (k := 7) rfl (gn_add (X := r) (Y := 1) rfl rfl) (by decide) rfl (fun ls hl => ?_)
                refine lv_goto (tgt := 46) hx hb dX0_sweepLine_101 (by decide) ?_
                exact ih46  (r + 1) _ _ _ (by omega) (by omega) (gg_eq G rfl rfl rfl (by first | rfl | (simp only [d_swL, c52, c58, reduceIte]; done) | (simp [d_swL, c52, c58, reduceIte]; done))) (lv_sub hl [1, 2, 3, 4, 5, 6, 7, 0] rfl)
              · skip
                have n58 := gn_neq (X := r) (Y := s0) rfl rfl (by omega) (by omega) c58
                refine lv_aload_n hx hb dX0_sweepLine_61 rfl (lv_at hl 0 rfl) ?_
                refine gx_get hx hb hts hinX0 hown G 4 (by decide) rfl rfl 0 (by decide) rfl lk13 rfl (v := .ref (ad 13)) rfl dX0_sweepLine_62 ?_
                refine lv_iload_n hx hb dX0_sweepLine_65 rfl (lv_at hl 1 rfl) ?_
                refine gx_aald hx hb G 13 (by decide) rfl (Or.inr rfl) (by decide) i rfl (by omega) dX0_sweepLine_66 ?_
                refine lv_iload hx hb dX0_sweepLine_67 (lv_at hl 7 rfl) ?_
                refine lv_lload hx hb dX0_sweepLine_69 (lv_at hl 5 rfl) ?_
                refine lv_aload_n hx hb dX0_sweepLine_71 rfl (lv_at hl 0 rfl) ?_
                refine gx_get hx hb hts hinX0 hown G 4 (by decide) rfl rfl 0 (by decide) rfl lk13 rfl (v := .ref (ad 13)) rfl dX0_sweepLine_72 ?_
                refine lv_iload_n hx hb dX0_sweepLine_75 rfl (lv_at hl 1 rfl) ?_
                refine gx_aald hx hb G 13 (by decide) rfl (Or.inr rfl) (by decide) i rfl (by omega) dX0_sweepLine_76 ?_
                refine lv_iload hx hb dX0_sweepLine_77 (lv_at hl 7 rfl) ?_
                refine gx_lald hx hb G (48 + i) (by omega) (gsh_T _ (by omega)) (by decide) r rfl (by omega) dX0_sweepLine_79 ?_
                refine lv_lmul hx hb dX0_sweepLine_80 ?_
                refine lv_lload hx hb dX0_sweepLine_81 (lv_at hl 6 rfl) ?_
                refine lv_aload_n hx hb dX0_sweepLine_83 rfl (lv_at hl 0 rfl) ?_
                refine gx_get hx hb hts hinX0 hown G 4 (by decide) rfl rfl 0 (by decide) rfl lk13 rfl (v := .ref (ad 13)) rfl dX0_sweepLine_84 ?_
                refine lv_iload_n hx hb dX0_sweepLine_87 rfl (lv_at hl 2 rfl) ?_
                refine gx_aald hx hb G 13 (by decide) rfl (Or.inr rfl) (by decide) r0 rfl (by omega) dX0_sweepLine_88 ?_
                refine lv_iload hx hb dX0_sweepLine_89 (lv_at hl 7 rfl) ?_
                refine gx_lald hx hb G (48 + r0) (by omega) (gsh_T _ (by omega)) (by decide) r rfl (by omega) dX0_sweepLine_91 ?_
                refine lv_lmul hx hb dX0_sweepLine_92 ?_
                refine lv_lsub hx hb dX0_sweepLine_93 ?_
                refine lv_lload hx hb dX0_sweepLine_94 (lv_at hl 4 rfl) ?_
                refine lv_ldiv hx hb dX0_sweepLine_96 (c24) ?_
                refine gx_last hx hb G (48 + i) (by omega) (gsh_T _ (by omega)) (by decide) r rfl (by omega) dX0_sweepLine_97 (fun H locs G => ?_)
                refine lv_iinc (v := (nI (r + 1))) (lv' := [(10, .int (nI (r + 1))), (0, .ref (ad 4)), (1, .int (nI i)), (2, .int (nI r0)), (3, .int (nI s0)), (4, .long dv), (6, .long (b (48 + r0) s0)), (8, .long (b (48 + i) s0))]) hx hb dX0_sweepLine_98 hl (k := 7) rfl (gn_add (X := r) (Y := 1) rfl rfl) (by decide) rfl (fun ls hl => ?_)
                refine lv_goto (tgt := 46) hx hb dX0_sweepLine_101 (by decide) ?_
                exact ih46  (r + 1) _ _ _ (by omega) (by omega) (gg_eq G rfl rfl rfl (by first | rfl | (simp only [d_swL, c52, c58, reduceIte]; done) | (simp [d_swL, c52, c58, reduceIte]; done))) (lv_sub hl [1, 2, 3, 4, 5, 6, 7, 0] rfl)
        have q10 : 0 = nI 0 := by first | rfl | (simp only [d_swL, c24, c31, c39, reduceIte]; done) | (simp [d_swL, c24, c31, c39, reduceIte]; done)
        rw [q10] at hl
        exact K46 (nc - 0 + 1) 0 _ _ _ (by omega) (Nat.lt_succ_self _) (gg_eq G rfl rfl rfl (by first | rfl | (simp only [d_swL, c24, c31, c39, reduceIte]; done) | (simp [d_swL, c24, c31, c39, reduceIte]; done))) (lv_sub hl [3, 4, 5, 6, 7, 2, 1, 0] rfl)
      · skip
        exact gx_vr hx hb hr hlocks G hQ (by simp only [d_sweep, c24, c31, c39, reduceIte]) dX0_sweepLine_42

set_option maxHeartbeats 4000000 in
set_option maxRecDepth 100000 in
theorem kX0_firstStop (l : Launch) (D : va_G) (ad : Nat → Nat) (cy : Nat → ClassId) (I : gF) (J : gL) (a : gF) (b : gL) (sz : Nat) (nl s0 : Nat) (hnl : I 4 7 = nI nl) (hnl2 : nl ≤ 21) (hs0 : s0 < 5) : gMi l yX0_firstStop wsX0_firstStop ({ frames := 1, cells := 0, slots := 0, locals := 27 }) D ad cy I J a b sz [.ref (ad 4), .int (nI s0)] (fun r u => r = d_stop a b s0 nl ∧ u = (I, J, a, b)) := by
  refine Met.ofW (cc := cX0_firstStop) (maxL := 4) (ret := some .int) (by decide) rfl ?_
  intro p e s m args below meth c s₁ B hml hv
  obtain ⟨hargs, hsz, G⟩ := gx_begin hv
  subst hsz
  have hx := B.exec
  have hb := B.bytes
  have hr := B.returns
  have hts := atoms_spec (ws := wsX0_firstStop) B.pre
  have hown : s.vm.findClass RX0 = some m.cls := findClass_of_methodNamed B.named
  have hlocks := B.notSynchronized
  have hinX0 : ∀ w ∈ wsX00, w ∈ wsX0_firstStop := by decide +kernel
  have lk13 := hts (.fieldLink RX0 13 "ExactSimplex$Dictionary" "table" "[[J") (by decide +kernel)
  have lk48 := hts (.fieldLink RX0 48 "ExactSimplex$Dictionary" "lines" "I") (by decide +kernel)
  have hl := lv_entry ([.ref (ad 4), .int (nI s0)]) (n := 4) (Nat.le_of_ble_eq_true rfl)
  have hent := lg_entry_eq m ([.ref (ad 4), .int (nI s0)]) 4
  rw [← hargs] at hent
  rw [hent]
  clear hent
  generalize (lg_sl ([.ref (ad 4), .int (nI s0)]) ++ List.replicate (4 - (lg_sl ([.ref (ad 4), .int (nI s0)])).length) Slot.unset).toArray = ls at hl ⊢
  have hl : lv_has ls 4 [(0, .ref (ad 4)), (1, .int (nI s0))] := hl
  generalize hA : gA ad s.heap.size = A at G ⊢
  generalize hH : s.heap = H at G ⊢
  refine gx_q (fun Q hQ => ?_)
  refine lv_iconst (v := -1) hx hb dX0_firstStop_0 (by decide) ?_
  refine lv_istore_n (lv' := [(2, .int (-1)), (0, .ref (ad 4)), (1, .int (nI s0))]) hx hb dX0_firstStop_1 rfl hl (by decide) rfl (fun ls hl => ?_)
  refine lv_iconst (v := 0) hx hb dX0_firstStop_2 (by decide) ?_
  refine lv_istore_n (lv' := [(3, .int 0), (2, .int (-1)), (0, .ref (ad 4)), (1, .int (nI s0))]) hx hb dX0_firstStop_3 rfl hl (by decide) rfl (fun ls hl => ?_)
  have K4 : ∀ (nf : Nat) (r : Nat) (H : Heap) (locs : List Loc) (ls : Array Slot), (r ≤ nl) → nl - r < nf → GG D ad cy A s I J a b H locs → lv_has ls 4 [(0, .ref (ad 4)), (1, .int (nI s0)), (2, .int (d_stop a b s0 r)), (3, .int (nI r))] → W p l e ({ frames := 1, cells := 0, slots := 0, locals := 27 }) s m args below meth c H locs 0 0 Q (F0 m 4 ls []) := by
    intro nf
    induction nf with
    | zero => exact fun _ _ _ _ _ hz => absurd hz (Nat.not_lt_zero _)
    | succ nf ih =>
      intro r H locs ls h1 hmeas G hl
      have ih4 := ih
      clear ih
      refine lv_iload_n hx hb dX0_firstStop_4 rfl (lv_at hl 3 rfl) ?_
      refine lv_aload_n hx hb dX0_firstStop_5 rfl (lv_at hl 0 rfl) ?_
      refine gx_get hx hb hts hinX0 hown G 4 (by decide) rfl rfl 7 (by decide) rfl lk48 rfl (v := .int (I 4 7)) rfl dX0_firstStop_6 ?_
      refine lv_icmp_ge (tgt := 47) hx hb dX0_firstStop_9 (by decide) (fun c9 => ?_) (fun c9 => ?_)
      · skip
        have n9 := gn_le (X := nl) (Y := r) hnl rfl (by omega) (by omega) c9
        refine lv_iload_n hx hb dX0_firstStop_47 rfl (lv_at hl 2 rfl) ?_
        exact gx_ir hx hb hr hlocks G hQ ⟨by first | rfl | (simp only [d_stop, c9, reduceIte]; done) | (rw [show nl = r by omega]; done) | (rw [show nl = r by omega]; simp only [d_stop, c9, reduceIte]; done) | (simp [d_stop, c9, reduceIte]; done), rfl⟩ dX0_firstStop_48
      · skip
        have n9 := gn_nle (X := nl) (Y := r) hnl rfl (by omega) (by omega) c9
        refine lv_aload_n hx hb dX0_firstStop_12 rfl (lv_at hl 0 rfl) ?_
        refine gx_get hx hb hts hinX0 hown G 4 (by decide) rfl rfl 0 (by decide) rfl lk13 rfl (v := .ref (ad 13)) rfl dX0_firstStop_13 ?_
        refine lv_iload_n hx hb dX0_firstStop_16 rfl (lv_at hl 3 rfl) ?_
        refine gx_aald hx hb G 13 (by decide) rfl (Or.inr rfl) (by decide) r rfl (by omega) dX0_firstStop_17 ?_
        refine lv_iload_n hx hb dX0_firstStop_18 rfl (lv_at hl 1 rfl) ?_
        refine gx_lald hx hb G (48 + r) (by omega) (gsh_T _ (by omega)) (by decide) s0 rfl (by omega) dX0_firstStop_19 ?_
        refine lv_lconst (v := 0) hx hb dX0_firstStop_20 (by decide) ?_
        refine gx_lc_le (tgt := 41) hx hb dX0_firstStop_21 dX0_firstStop_22 (by decide) (fun c22 => ?_) (fun c22 => ?_)
        · skip
          refine lv_iinc (v := (nI (r + 1))) (lv' := [(3, .int (nI (r + 1))), (0, .ref (ad 4)), (1, .int (nI s0)), (2, .int (d_stop a b s0 r))]) hx hb dX0_firstStop_41 hl (k := 3) rfl (gn_add (X := r) (Y := 1) rfl rfl) (by decide) rfl (fun ls hl => ?_)
          refine lv_goto (tgt := 4) hx hb dX0_firstStop_44 (by decide) ?_
          have q2 : d_stop a b s0 r = d_stop a b s0 (r + 1) := by first | rfl | (simp only [d_stop, c9, c22, reduceIte]; done) | (rw [show nl = r by omega]; done) | (rw [show nl = r by omega]; simp only [d_stop, c9, c22, reduceIte]; done) | (simp [d_stop, c9, c22, reduceIte]; done)
          rw [q2] at hl
          exact ih4  (r + 1) _ _ _ (by omega) (by omega) G (lv_sub hl [1, 2, 3, 0] rfl)
        · skip
          refine lv_iload_n hx hb dX0_firstStop_25 rfl (lv_at hl 2 rfl) ?_
          refine lv_if_lt (tgt := 39) hx hb dX0_firstStop_26 (by decide) (fun c26 => ?_) (fun c26 => ?_)
          · skip
            refine lv_iload_n hx hb dX0_firstStop_39 rfl (lv_at hl 3 rfl) ?_
            refine lv_istore_n (lv' := [(2, .int (nI r)), (0, .ref (ad 4)), (1, .int (nI s0)), (3, .int (nI r))]) hx hb dX0_firstStop_40 rfl hl (by decide) rfl (fun ls hl => ?_)
            refine lv_iinc (v := (nI (r + 1))) (lv' := [(3, .int (nI (r + 1))), (2, .int (nI r)), (0, .ref (ad 4)), (1, .int (nI s0))]) hx hb dX0_firstStop_41 hl (k := 3) rfl (gn_add (X := r) (Y := 1) rfl rfl) (by decide) rfl (fun ls hl => ?_)
            refine lv_goto (tgt := 4) hx hb dX0_firstStop_44 (by decide) ?_
            have q2 : nI r = d_stop a b s0 (r + 1) := by first | rfl | (simp only [d_stop, c9, c22, c26, reduceIte]; done) | (rw [show nl = r by omega]; done) | (rw [show nl = r by omega]; simp only [d_stop, c9, c22, c26, reduceIte]; done) | (simp [d_stop, c9, c22, c26, reduceIte]; done)
            rw [q2] at hl
            exact ih4  (r + 1) _ _ _ (by omega) (by omega) G (lv_sub hl [2, 3, 1, 0] rfl)
          · skip
            obtain ⟨jb, hjb, ejb⟩ := (d_stop_ix a b s0 r).resolve_left c26
            have ecl := gx_clamp ejb (by omega)
            refine lv_aload_n hx hb dX0_firstStop_29 rfl (lv_at hl 0 rfl) ?_
            refine lv_iload_n hx hb dX0_firstStop_30 rfl (lv_at hl 3 rfl) ?_
            refine lv_iload_n hx hb dX0_firstStop_31 rfl (lv_at hl 2 rfl) ?_
            refine lv_iload_n hx hb dX0_firstStop_32 rfl (lv_at hl 1 rfl) ?_
            rw [ejb]
            refine gx_dVi (v := (d_stops a b r jb s0)) (I1 := I) (J1 := J) (a1 := a) (b1 := b) (As := [.int (nI r), .int (nI jb), .int (nI s0)]) (rest := []) ⟨hx, hb, hml, hown, hts⟩ G 4 (kX0_stopsBefore l D ad cy I J a b H.size r jb s0 (by omega) (by omega) hs0) (cwV 3 hts gX0_firstStop_X0_stopsBefore rfl rfl rfl (by decide +kernel) ⟨Nat.le_of_ble_eq_true rfl, Nat.le_of_ble_eq_true rfl⟩) (by decide) rfl rfl rfl rfl hl.1 rfl (Nat.le_of_ble_eq_true rfl) ⟨Nat.zero_le _, Nat.zero_le _⟩ dX0_firstStop_33 (fun H locs G => ?_)
            refine lv_if_eq (tgt := 41) hx hb dX0_firstStop_36 (by decide) (fun c36 => ?_) (fun c36 => ?_)
            · skip
              refine lv_iinc (v := (nI (r + 1))) (lv' := [(3, .int (nI (r + 1))), (0, .ref (ad 4)), (1, .int (nI s0)), (2, .int (d_stop a b s0 r))]) hx hb dX0_firstStop_41 hl (k := 3) rfl (gn_add (X := r) (Y := 1) rfl rfl) (by decide) rfl (fun ls hl => ?_)
              refine lv_goto (tgt := 4) hx hb dX0_firstStop_44 (by decide) ?_
              have q2 : d_stop a b s0 r = d_stop a b s0 (r + 1) := by first | rfl | (simp only [d_stop, c9, c22, c26, ecl, c36, reduceIte]; done) | (rw [show nl = r by omega]; done) | (rw [show nl = r by omega]; simp only [d_stop, c9, c22, c26, ecl, c36, reduceIte]; done) | (simp [d_stop, c9, c22, c26, ecl, c36, reduceIte]; done)
              rw [q2] at hl
              exact ih4  (r + 1) _ _ _ (by omega) (by omega) G (lv_sub hl [1, 2, 3, 0] rfl)
            · skip
              refine lv_iload_n hx hb dX0_firstStop_39 rfl (lv_at hl 3 rfl) ?_
              refine lv_istore_n (lv' := [(2, .int (nI r)), (0, .ref (ad 4)), (1, .int (nI s0)), (3, .int (nI r))]) hx hb dX0_firstStop_40 rfl hl (by decide) rfl (fun ls hl => ?_)
              refine lv_iinc (v := (nI (r + 1))) (lv' := [(3, .int (nI (r + 1))), (2, .int (nI r)), (0, .ref (ad 4)), (1, .int (nI s0))]) hx hb dX0_firstStop_41 hl (k := 3) rfl (gn_add (X := r) (Y := 1) rfl rfl) (by decide) rfl (fun ls hl => ?_)
              refine lv_goto (tgt := 4) hx hb dX0_firstStop_44 (by decide) ?_
              have q2 : nI r = d_stop a b s0 (r + 1) := by first | rfl | (simp only [d_stop, c9, c22, c26, ecl, c36, reduceIte]; done) | (rw [show nl = r by omega]; done) | (rw [show nl = r by omega]; simp only [d_stop, c9, c22, c26, ecl, c36, reduceIte]; done) | (simp [d_stop, c9, c22, c26, ecl, c36, reduceIte]; done)
              rw [q2] at hl
              exact ih4  (r + 1) _ _ _ (by omega) (by omega) G (lv_sub hl [2, 3, 1, 0] rfl)
  have q2 : -1 = d_stop a b s0 0 := by first | rfl | (simp only [d_stop, reduceIte]; done) | (rw [show nl = r by omega]; done) | (rw [show nl = r by omega]; simp only [d_stop, reduceIte]; done) | (simp [d_stop, reduceIte]; done)
  rw [q2] at hl
  have q3 : 0 = nI 0 := by first | rfl | (simp only [d_stop, reduceIte]; done) | (rw [show nl = r by omega]; done) | (rw [show nl = r by omega]; simp only [d_stop, reduceIte]; done) | (simp [d_stop, reduceIte]; done)
  rw [q3] at hl
  exact K4 (nl - 0 + 1) 0 _ _ _ (by omega) (Nat.lt_succ_self _) G (lv_sub hl [2, 3, 1, 0] rfl)
end
section
/-! Dictionary: slopes, pivot, begin, addAtMost, findPoint, minimise -/
def d_sl1 (I : gF) (J : gL) (a : gF) (b : gL) (kg : Nat) : Nat → gL
  | 0 => b
  | n + 1 => if I 4 8 ≤ a 16 n then gU (d_sl1 I J a b kg n) 18 n 0 else gU (d_sl1 I J a b kg n) 18 n ((a kg (a 16 n).toNatClampNeg).toInt64 * J 4 6)
def d_sl2 (b : gL) (r : Nat) (w : Int32) : Nat → gL
  | 0 => b
  | n + 1 => gU (d_sl2 b r w n) 18 n (d_sl2 b r w n 18 n - w.toInt64 * d_sl2 b r w n (48 + r) n)
def d_slI (b : gL) (r : Nat) (w : Int32) (n : Nat) : gL := if w = 0 then b else d_sl2 b r w n
def d_sl4 (I : gF) (a : gF) (b : gL) (kg nc : Nat) : Nat → gL
  | 0 => b
  | n + 1 => if I 4 8 ≤ a 15 n then d_slI (d_sl4 I a b kg nc n) n 0 nc else d_slI (d_sl4 I a b kg nc n) n (a kg (a 15 n).toNatClampNeg) nc
def d_slopes (I : gF) (J : gL) (a : gF) (b : gL) (kg nl nc : Nat) : gL := d_sl4 I a (d_sl1 I J a b kg nc) kg nc nl
def d_dv (J : gL) (b : gL) (r s : Nat) : Int64 := if 0 ≤ b (48 + r) s then J 4 6 else -J 4 6
def d_pJ (J : gL) (b : gL) (r s : Nat) : gL := if b (48 + r) s = 0 then J else if d_dv J b r s = 0 then J else gU J 4 6 (if 0 < b (48 + r) s then b (48 + r) s else -b (48 + r) s)
def d_pA (J : gL) (a : gF) (b : gL) (r s : Nat) : gF := if b (48 + r) s = 0 then a else if d_dv J b r s = 0 then a else gU (gU a 15 r (a 16 s)) 16 s (a 15 r)
def d_pB (J : gL) (b : gL) (nl nc r s : Nat) : gL := if b (48 + r) s = 0 then b else if d_dv J b r s = 0 then b else gU (if 0 ≤ b (48 + r) s then d_sweeps b nc r s (d_dv J b r s) nl else d_turn (d_sweeps b nc r s (d_dv J b r s) nl) r nc) (48 + r) s (d_dv J b r s)
def d_ids (a : gF) : Nat → gF
  | 0 => a
  | n + 1 => gU (d_ids a n) 16 n (nI n)
theorem d_min5 {n : Nat} (h : n ≤ 5) : (if (5 : Int32) < nI n then 5 else nI n) = nI n := if_neg (fun q => by
  have := gn_lt (X := 5) (Y := n) rfl rfl (by omega) (by omega) q
  omega)
def d_addL (a : gF) (b : gL) (kf nl : Nat) (sg : Int32) : Nat → gL
  | 0 => b
  | n + 1 => gU (d_addL a b kf nl sg n) (48 + nl) n (sg * a kf n).toInt64
def d_addB (a : gF) (b : gL) (kf nl nc : Nat) (sg ri : Int32) : gL := gU (d_addL a b kf nl sg nc) 14 nl ri.toInt64
def mPV : Nat := 100000
/-- the search for a point: n pivots at most: the answer and the state behind it -/
def d_find (nl nc : Nat) : Nat → gL × gF × gL → Int32 × gL × gF × gL
  | 0, x => (0, x)
  | n + 1, x => if 0 ≤ d_broken x.2.1 x.2.2 nl then if 0 ≤ d_mend x.2.1 x.2.2 (d_broken x.2.1 x.2.2 nl).toNatClampNeg nc then d_find nl nc n (d_pJ x.1 x.2.2 (d_broken x.2.1 x.2.2 nl).toNatClampNeg (d_mend x.2.1 x.2.2 (d_broken x.2.1 x.2.2 nl).toNatClampNeg nc).toNatClampNeg, d_pA x.1 x.2.1 x.2.2 (d_broken x.2.1 x.2.2 nl).toNatClampNeg (d_mend x.2.1 x.2.2 (d_broken x.2.1 x.2.2 nl).toNatClampNeg nc).toNatClampNeg, d_pB x.1 x.2.2 nl nc (d_broken x.2.1 x.2.2 nl).toNatClampNeg (d_mend x.2.1 x.2.2 (d_broken x.2.1 x.2.2 nl).toNatClampNeg nc).toNatClampNeg) else (0, x) else (1, x)
theorem d_find_s (nl nc : Nat) (x : gL × gF × gL) {i : Nat} (h : i < mPV) : d_find nl nc (mPV - i) x = if 0 ≤ d_broken x.2.1 x.2.2 nl then if 0 ≤ d_mend x.2.1 x.2.2 (d_broken x.2.1 x.2.2 nl).toNatClampNeg nc then d_find nl nc (mPV - (i + 1)) (d_pJ x.1 x.2.2 (d_broken x.2.1 x.2.2 nl).toNatClampNeg (d_mend x.2.1 x.2.2 (d_broken x.2.1 x.2.2 nl).toNatClampNeg nc).toNatClampNeg, d_pA x.1 x.2.1 x.2.2 (d_broken x.2.1 x.2.2 nl).toNatClampNeg (d_mend x.2.1 x.2.2 (d_broken x.2.1 x.2.2 nl).toNatClampNeg nc).toNatClampNeg, d_pB x.1 x.2.2 nl nc (d_broken x.2.1 x.2.2 nl).toNatClampNeg (d_mend x.2.1 x.2.2 (d_broken x.2.1 x.2.2 nl).toNatClampNeg nc).toNatClampNeg) else (0, x) else (1, x) := by
  rw [show mPV - i = (mPV - (i + 1)) + 1 by omega]
  rfl
theorem gx_notneg {x : Int32} (h : 0 ≤ x) : ¬ x < 0 := fun q => absurd h (by rw [← i32_nlt]; exact fun r => r q)
/-- all of a row's places hold natural numbers below 100 -/
def d_nat (f : Nat → Int32) (n : Nat) : Prop := ∀ r, r < n → ∃ v, f r = nI v ∧ v < 100
theorem d_pA_15 {J : gL} {a : gF} {b : gL} {r s nl nc : Nat} (hs : s < nc) (h1 : d_nat (a 15) nl) (h2 : d_nat (a 16) nc) : d_nat (d_pA J a b r s 15) nl := by
  unfold d_pA
  split
  · exact h1
  · split
    · exact h1
    · intro i hi
      unfold gU
      simp only [show ¬ (15 = 16) by decide, false_and, if_false, true_and]
      by_cases e : i = r
      · simp only [e, if_true]
        exact h2 s hs
      · simp only [e, if_false]
        exact h1 i hi
theorem d_pA_16 {J : gL} {a : gF} {b : gL} {r s nl nc : Nat} (hr : r < nl) (h1 : d_nat (a 15) nl) (h2 : d_nat (a 16) nc) : d_nat (d_pA J a b r s 16) nc := by
  unfold d_pA
  split
  · exact h2
  · split
    · exact h2
    · intro i hi
      unfold gU
      simp only [show ¬ (16 = 15) by decide, false_and, if_false, true_and]
      by_cases e : i = s
      · simp only [e, if_true]
        exact h1 r hr
      · simp only [e, if_false]
        exact h2 i hi
theorem d_pA_k {J : gL} {a : gF} {b : gL} {r s k : Nat} (h1 : k ≠ 15) (h2 : k ≠ 16) : d_pA J a b r s k = a k := by
  unfold d_pA
  split
  · rfl
  · split
    · rfl
    · rw [gU_k h2, gU_k h1]
/-- the way down: n pivots at most: the state behind it -/
def d_min (I : gF) (kg nl nc : Nat) : Nat → gL × gF × gL → gL × gF × gL
  | 0, x => x
  | n + 1, x => if 0 ≤ d_fall x.2.1 (d_slopes I x.1 x.2.1 x.2.2 kg nl nc) nc then if 0 ≤ d_stop x.2.1 (d_slopes I x.1 x.2.1 x.2.2 kg nl nc) (d_fall x.2.1 (d_slopes I x.1 x.2.1 x.2.2 kg nl nc) nc).toNatClampNeg nl then d_min I kg nl nc n (d_pJ x.1 (d_slopes I x.1 x.2.1 x.2.2 kg nl nc) (d_stop x.2.1 (d_slopes I x.1 x.2.1 x.2.2 kg nl nc) (d_fall x.2.1 (d_slopes I x.1 x.2.1 x.2.2 kg nl nc) nc).toNatClampNeg nl).toNatClampNeg (d_fall x.2.1 (d_slopes I x.1 x.2.1 x.2.2 kg nl nc) nc).toNatClampNeg, d_pA x.1 x.2.1 (d_slopes I x.1 x.2.1 x.2.2 kg nl nc) (d_stop x.2.1 (d_slopes I x.1 x.2.1 x.2.2 kg nl nc) (d_fall x.2.1 (d_slopes I x.1 x.2.1 x.2.2 kg nl nc) nc).toNatClampNeg nl).toNatClampNeg (d_fall x.2.1 (d_slopes I x.1 x.2.1 x.2.2 kg nl nc) nc).toNatClampNeg, d_pB x.1 (d_slopes I x.1 x.2.1 x.2.2 kg nl nc) nl nc (d_stop x.2.1 (d_slopes I x.1 x.2.1 x.2.2 kg nl nc) (d_fall x.2.1 (d_slopes I x.1 x.2.1 x.2.2 kg nl nc) nc).toNatClampNeg nl).toNatClampNeg (d_fall x.2.1 (d_slopes I x.1 x.2.1 x.2.2 kg nl nc) nc).toNatClampNeg) else (x.1, x.2.1, d_slopes I x.1 x.2.1 x.2.2 kg nl nc) else (x.1, x.2.1, d_slopes I x.1 x.2.1 x.2.2 kg nl nc)
theorem d_min_s (I : gF) (kg nl nc : Nat) (J2 : gL) (a2 : gF) (b2 b3 : gL) (hb3 : d_slopes I J2 a2 b2 kg nl nc = b3) {i : Nat} (h : i < mPV) : d_min I kg nl nc (mPV - i) (J2, a2, b2) = if 0 ≤ d_fall a2 b3 nc then if 0 ≤ d_stop a2 b3 (d_fall a2 b3 nc).toNatClampNeg nl then d_min I kg nl nc (mPV - (i + 1)) (d_pJ J2 b3 (d_stop a2 b3 (d_fall a2 b3 nc).toNatClampNeg nl).toNatClampNeg (d_fall a2 b3 nc).toNatClampNeg, d_pA J2 a2 b3 (d_stop a2 b3 (d_fall a2 b3 nc).toNatClampNeg nl).toNatClampNeg (d_fall a2 b3 nc).toNatClampNeg, d_pB J2 b3 nl nc (d_stop a2 b3 (d_fall a2 b3 nc).toNatClampNeg nl).toNatClampNeg (d_fall a2 b3 nc).toNatClampNeg) else (J2, a2, b3) else (J2, a2, b3) := by
  subst hb3
  rw [show mPV - i = (mPV - (i + 1)) + 1 by omega]
  rfl

set_option maxHeartbeats 4000000 in
set_option maxRecDepth 100000 in
theorem kX0_findSlopes (l : Launch) (D : va_G) (ad : Nat → Nat) (cy : Nat → ClassId) (I : gF) (J : gL) (a : gF) (b : gL) (sz : Nat) (nl nc kg : Nat) (hnl : I 4 7 = nI nl) (hnl2 : nl ≤ 21) (hnc : I 4 8 = nI nc) (hnc2 : nc ≤ 5) (hkg : kg < 92) (hgs : gsh kg = .inr (0, 5, 0)) (hbas : d_nat (a 15) nl) (hout : d_nat (a 16) nc) : gMv l yX0_findSlopes wsX0_findSlopes ({ frames := 0, cells := 0, slots := 0, locals := 0 }) D ad cy I J a b sz [.ref (ad 4), .ref (ad kg)] (fun u => u = (I, J, a, d_slopes I J a b kg nl nc)) := by
  refine Met.ofW (cc := cX0_findSlopes) (maxL := 5) (ret := none) (by decide) rfl ?_
  intro p e s m args below meth c s₁ B hml hv
  obtain ⟨hargs, hsz, G⟩ := gx_begin hv
  subst hsz
  have hx := B.exec
  have hb := B.bytes
  have hr := B.returns
  have hts := atoms_spec (ws := wsX0_findSlopes) B.pre
  have hown : s.vm.findClass RX0 = some m.cls := findClass_of_methodNamed B.named
  have hlocks := B.notSynchronized
  have hinX0 : ∀ w ∈ wsX00, w ∈ wsX0_findSlopes := by decide +kernel
  have lk13 := hts (.fieldLink RX0 13 "ExactSimplex$Dictionary" "table" "[[J") (by decide +kernel)
  have lk20 := hts (.fieldLink RX0 20 "ExactSimplex$Dictionary" "basic" "[I") (by decide +kernel)
  have lk24 := hts (.fieldLink RX0 24 "ExactSimplex$Dictionary" "outside" "[I") (by decide +kernel)
  have lk31 := hts (.fieldLink RX0 31 "ExactSimplex$Dictionary" "slopes" "[J") (by decide +kernel)
  have lk34 := hts (.fieldLink RX0 34 "ExactSimplex$Dictionary" "under" "J") (by decide +kernel)
  have lk44 := hts (.fieldLink RX0 44 "ExactSimplex$Dictionary" "columns" "I") (by decide +kernel)
  have lk48 := hts (.fieldLink RX0 48 "ExactSimplex$Dictionary" "lines" "I") (by decide +kernel)
  have hl := lv_entry ([.ref (ad 4), .ref (ad kg)]) (n := 5) (Nat.le_of_ble_eq_true rfl)
  have hent := lg_entry_eq m ([.ref (ad 4), .ref (ad kg)]) 5
  rw [← hargs] at hent
  rw [hent]
  clear hent
  generalize (lg_sl ([.ref (ad 4), .ref (ad kg)]) ++ List.replicate (5 - (lg_sl ([.ref (ad 4), .ref (ad kg)])).length) Slot.unset).toArray = ls at hl ⊢
  have hl : lv_has ls 5 [(0, .ref (ad 4)), (1, .ref (ad kg))] := hl
  generalize hA : gA ad s.heap.size = A at G ⊢
  generalize hH : s.heap = H at G ⊢
  refine gx_q (fun Q hQ => ?_)
  refine lv_iconst (v := 0) hx hb dX0_findSlopes_0 (by decide) ?_
  refine lv_istore_n (lv' := [(2, .int 0), (0, .ref (ad 4)), (1, .ref (ad kg))]) hx hb dX0_findSlopes_1 rfl hl (by decide) rfl (fun ls hl => ?_)
  have K2 : ∀ (nf : Nat) (r : Nat) (H : Heap) (locs : List Loc) (ls : Array Slot), (r ≤ nc) → nc - r < nf → GG D ad cy A s I J a (d_sl1 I J a b kg r) H locs → lv_has ls 5 [(0, .ref (ad 4)), (1, .ref (ad kg)), (2, .int (nI r))] → W p l e ({ frames := 0, cells := 0, slots := 0, locals := 0 }) s m args below meth c H locs 0 0 Q (F0 m 2 ls []) := by
    intro nf
    induction nf with
    | zero => exact fun _ _ _ _ _ hz => absurd hz (Nat.not_lt_zero _)
    | succ nf ih =>
      intro r H locs ls h1 hmeas G hl
      have ih2 := ih
      clear ih
      refine lv_iload_n hx hb dX0_findSlopes_2 rfl (lv_at hl 2 rfl) ?_
      refine lv_aload_n hx hb dX0_findSlopes_3 rfl (lv_at hl 0 rfl) ?_
      refine gx_get hx hb hts hinX0 hown G 4 (by decide) rfl rfl 8 (by decide) rfl lk44 rfl (v := .int (I 4 8)) rfl dX0_findSlopes_4 ?_
      refine lv_icmp_ge (tgt := 53) hx hb dX0_findSlopes_7 (by decide) (fun c7 => ?_) (fun c7 => ?_)
      · skip
        have n7 := gn_le (X := nc) (Y := r) hnc rfl (by omega) (by omega) c7
        refine lv_iconst (v := 0) hx hb dX0_findSlopes_53 (by decide) ?_
        refine lv_istore_n (lv' := [(2, .int 0), (0, .ref (ad 4)), (1, .ref (ad kg))]) hx hb dX0_findSlopes_54 rfl hl (by decide) rfl (fun ls hl => ?_)
        have K55 : ∀ (nf : Nat) (r : Nat) (H : Heap) (locs : List Loc) (ls : Array Slot), (r ≤ nl) → nl - r < nf → GG D ad cy A s I J a (d_sl4 I a (d_sl1 I J a b kg nc) kg nc r) H locs → lv_has ls 5 [(0, .ref (ad 4)), (1, .ref (ad kg)), (2, .int (nI r))] → W p l e ({ frames := 0, cells := 0, slots := 0, locals := 0 }) s m args below meth c H locs 0 0 Q (F0 m 55 ls []) := by
          intro nf
          induction nf with
          | zero => exact fun _ _ _ _ _ hz => absurd hz (Nat.not_lt_zero _)
          | succ nf ih =>
            intro r H locs ls h1 hmeas G hl
            have ih55 := ih
            clear ih
            refine lv_iload_n hx hb dX0_findSlopes_55 rfl (lv_at hl 2 rfl) ?_
            refine lv_aload_n hx hb dX0_findSlopes_56 rfl (lv_at hl 0 rfl) ?_
            refine gx_get hx hb hts hinX0 hown G 4 (by decide) rfl rfl 7 (by decide) rfl lk48 rfl (v := .int (I 4 7)) rfl dX0_findSlopes_57 ?_
            refine lv_icmp_ge (tgt := 139) hx hb dX0_findSlopes_60 (by decide) (fun c60 => ?_) (fun c60 => ?_)
            · skip
              have n60 := gn_le (X := nl) (Y := r) hnl rfl (by omega) (by omega) c60
              exact gx_vr hx hb hr hlocks G hQ (by rw [show r = nl by omega]; rfl) dX0_findSlopes_139
            · skip
              have n60 := gn_nle (X := nl) (Y := r) hnl rfl (by omega) (by omega) c60
              refine lv_aload_n hx hb dX0_findSlopes_63 rfl (lv_at hl 0 rfl) ?_
              refine gx_get hx hb hts hinX0 hown G 4 (by decide) rfl rfl 2 (by decide) rfl lk20 rfl (v := .ref (ad 15)) rfl dX0_findSlopes_64 ?_
              refine lv_iload_n hx hb dX0_findSlopes_67 rfl (lv_at hl 2 rfl) ?_
              refine gx_iald hx hb G 15 (by decide) (rfl) (by decide) r rfl (by omega) dX0_findSlopes_68 ?_
              refine lv_aload_n hx hb dX0_findSlopes_69 rfl (lv_at hl 0 rfl) ?_
              refine gx_get hx hb hts hinX0 hown G 4 (by decide) rfl rfl 8 (by decide) rfl lk44 rfl (v := .int (I 4 8)) rfl dX0_findSlopes_70 ?_
              refine lv_icmp_ge (tgt := 87) hx hb dX0_findSlopes_73 (by decide) (fun c73 => ?_) (fun c73 => ?_)
              · skip
                refine lv_iconst (v := 0) hx hb dX0_findSlopes_87 (by decide) ?_
                refine lv_istore_n (lv' := [(3, .int 0), (0, .ref (ad 4)), (1, .ref (ad kg)), (2, .int (nI r))]) hx hb dX0_findSlopes_88 rfl hl (by decide) rfl (fun ls hl => ?_)
                refine lv_iconst (v := 0) hx hb dX0_findSlopes_89 (by decide) ?_
                refine lv_istore (lv' := [(4, .int 0), (3, .int 0), (0, .ref (ad 4)), (1, .ref (ad kg)), (2, .int (nI r))]) hx hb dX0_findSlopes_90 hl (by decide) rfl (fun ls hl => ?_)
                have K92 : ∀ (nf : Nat) (q : Nat) (H : Heap) (locs : List Loc) (ls : Array Slot), (q ≤ nc) → nc - q < nf → GG D ad cy A s I J a (d_slI (d_sl4 I a (d_sl1 I J a b kg nc) kg nc r) r 0 q) H locs → lv_has ls 5 [(0, .ref (ad 4)), (1, .ref (ad kg)), (2, .int (nI r)), (3, .int 0), (4, .int (nI q))] → W p l e ({ frames := 0, cells := 0, slots := 0, locals := 0 }) s m args below meth c H locs 0 0 Q (F0 m 92 ls []) := by
                  intro nf
                  induction nf with
                  | zero => exact fun _ _ _ _ _ hz => absurd hz (Nat.not_lt_zero _)
                  | succ nf ih =>
                    intro q H locs ls h2 hmeas G hl
                    have ih92 := ih
                    clear ih
                    refine lv_iload hx hb dX0_findSlopes_92 (lv_at hl 4 rfl) ?_
                    refine lv_aload_n hx hb dX0_findSlopes_94 rfl (lv_at hl 0 rfl) ?_
                    refine gx_get hx hb hts hinX0 hown G 4 (by decide) rfl rfl 8 (by decide) rfl lk44 rfl (v := .int (I 4 8)) rfl dX0_findSlopes_95 ?_
                    refine lv_icmp_ge (tgt := 133) hx hb dX0_findSlopes_98 (by decide) (fun c98 => ?_) (fun c98 => ?_)
                    · skip
                      have n98 := gn_le (X := nc) (Y := q) hnc rfl (by omega) (by omega) c98
                      refine lv_iinc (v := (nI (r + 1))) (lv' := [(2, .int (nI (r + 1))), (0, .ref (ad 4)), (1, .ref (ad kg)), (3, .int 0), (4, .int (nI q))]) hx hb dX0_findSlopes_133 hl (k := 2) rfl (gn_add (X := r) (Y := 1) rfl rfl) (by decide) rfl (fun ls hl => ?_)
                      refine lv_goto (tgt := 55) hx hb dX0_findSlopes_136 (by decide) ?_
                      exact ih55  (r + 1) _ _ _ (by omega) (by omega) (gg_eq G rfl rfl rfl (by first | (rw [show q = nc by omega]; simp only [d_sl4, c7, c60, c73, c98, reduceIte]; done) | (simp only [d_sl4, d_slI, c7, c60, c73, c98, reduceIte]; done))) (lv_sub hl [1, 2, 0] rfl)
                    · skip
                      have n98 := gn_nle (X := nc) (Y := q) hnc rfl (by omega) (by omega) c98
                      refine lv_iload_n hx hb dX0_findSlopes_101 rfl (lv_at hl 3 rfl) ?_
                      refine lv_if_eq (tgt := 133) hx hb dX0_findSlopes_102 (by decide) (fun c102 => ?_) (fun c102 => ?_)
                      · skip
                        have n102 := gn_eq (X := 0) (Y := 0) rfl rfl (by omega) (by omega) c102
                        refine lv_iinc (v := (nI (r + 1))) (lv' := [(2, .int (nI (r + 1))), (0, .ref (ad 4)), (1, .ref (ad kg)), (3, .int 0), (4, .int (nI q))]) hx hb dX0_findSlopes_133 hl (k := 2) rfl (gn_add (X := r) (Y := 1) rfl rfl) (by decide) rfl (fun ls hl => ?_)
                        refine lv_goto (tgt := 55) hx hb dX0_findSlopes_136 (by decide) ?_
                        exact ih55  (r + 1) _ _ _ (by omega) (by omega) (gg_eq G rfl rfl rfl (by first | (rw [show q = nc by omega]; simp only [d_sl4, c7, c60, c73, c98, c102, reduceIte]; done) | (simp only [d_sl4, d_slI, c7, c60, c73, c98, c102, reduceIte]; done))) (lv_sub hl [1, 2, 0] rfl)
                      · skip
                        have n102 := gn_neq (X := 0) (Y := 0) rfl rfl (by omega) (by omega) c102
                        exact absurd rfl c102
                have q4 : 0 = nI 0 := by first | rfl | (simp only [d_sl1, c60, c73, reduceIte]; done) | (simp [d_sl1, c60, c73, reduceIte]; done)
                rw [q4] at hl
                exact K92 (nc - 0 + 1) 0 _ _ _ (by omega) (Nat.lt_succ_self _) (gg_eq G rfl rfl rfl (by unfold d_slI; split <;> rfl)) (lv_sub hl [2, 3, 4, 1, 0] rfl)
              · skip
                obtain ⟨v, ev, hv2⟩ := hbas r (by omega)
                have hvn := gn_nle (X := nc) (Y := v) hnc ev (by omega) (by omega) c73
                have ecl := gx_clamp ev (by omega)
                refine lv_aload_n hx hb dX0_findSlopes_76 rfl (lv_at hl 1 rfl) ?_
                refine lv_aload_n hx hb dX0_findSlopes_77 rfl (lv_at hl 0 rfl) ?_
                refine gx_get hx hb hts hinX0 hown G 4 (by decide) rfl rfl 2 (by decide) rfl lk20 rfl (v := .ref (ad 15)) rfl dX0_findSlopes_78 ?_
                refine lv_iload_n hx hb dX0_findSlopes_81 rfl (lv_at hl 2 rfl) ?_
                refine gx_iald hx hb G 15 (by decide) (rfl) (by decide) r rfl (by omega) dX0_findSlopes_82 ?_
                refine gx_iald hx hb G kg (hkg) (hgs) (by decide) v ev (by omega) dX0_findSlopes_83 ?_
                refine lv_goto (tgt := 88) hx hb dX0_findSlopes_84 (by decide) ?_
                refine lv_istore_n (lv' := [(3, .int (a kg v)), (0, .ref (ad 4)), (1, .ref (ad kg)), (2, .int (nI r))]) hx hb dX0_findSlopes_88 rfl hl (by decide) rfl (fun ls hl => ?_)
                refine lv_iconst (v := 0) hx hb dX0_findSlopes_89 (by decide) ?_
                refine lv_istore (lv' := [(4, .int 0), (3, .int (a kg v)), (0, .ref (ad 4)), (1, .ref (ad kg)), (2, .int (nI r))]) hx hb dX0_findSlopes_90 hl (by decide) rfl (fun ls hl => ?_)
                have K92 : ∀ (nf : Nat) (q : Nat) (H : Heap) (locs : List Loc) (ls : Array Slot), (q ≤ nc) → nc - q < nf → GG D ad cy A s I J a (d_slI (d_sl4 I a (d_sl1 I J a b kg nc) kg nc r) r (a kg v) q) H locs → lv_has ls 5 [(0, .ref (ad 4)), (1, .ref (ad kg)), (2, .int (nI r)), (3, .int (a kg v)), (4, .int (nI q))] → W p l e ({ frames := 0, cells := 0, slots := 0, locals := 0 }) s m args below meth c H locs 0 0 Q (F0 m 92 ls []) := by
                  intro nf
                  induction nf with
                  | zero => exact fun _ _ _ _ _ hz => absurd hz (Nat.not_lt_zero _)
                  | succ nf ih =>
                    intro q H locs ls h2 hmeas G hl
                    have ih92 := ih
                    clear ih
                    refine lv_iload hx hb dX0_findSlopes_92 (lv_at hl 4 rfl) ?_
                    refine lv_aload_n hx hb dX0_findSlopes_94 rfl (lv_at hl 0 rfl) ?_
                    refine gx_get hx hb hts hinX0 hown G 4 (by decide) rfl rfl 8 (by decide) rfl lk44 rfl (v := .int (I 4 8)) rfl dX0_findSlopes_95 ?_
                    refine lv_icmp_ge (tgt := 133) hx hb dX0_findSlopes_98 (by decide) (fun c98 => ?_) (fun c98 => ?_)
                    · skip
                      have n98 := gn_le (X := nc) (Y := q) hnc rfl (by omega) (by omega) c98
                      refine lv_iinc (v := (nI (r + 1))) (lv' := [(2, .int (nI (r + 1))), (0, .ref (ad 4)), (1, .ref (ad kg)), (3, .int (a kg v)), (4, .int (nI q))]) hx hb dX0_findSlopes_133 hl (k := 2) rfl (gn_add (X := r) (Y := 1) rfl rfl) (by decide) rfl (fun ls hl => ?_)
                      refine lv_goto (tgt := 55) hx hb dX0_findSlopes_136 (by decide) ?_
                      exact ih55  (r + 1) _ _ _ (by omega) (by omega) (gg_eq G rfl rfl rfl (by first | (rw [show q = nc by omega]; simp only [d_sl4, c7, c60, c73, ecl, c98, reduceIte]; done) | (simp only [d_sl4, d_slI, c7, c60, c73, ecl, c98, reduceIte]; done))) (lv_sub hl [1, 2, 0] rfl)
                    · skip
                      have n98 := gn_nle (X := nc) (Y := q) hnc rfl (by omega) (by omega) c98
                      refine lv_iload_n hx hb dX0_findSlopes_101 rfl (lv_at hl 3 rfl) ?_
                      refine lv_if_eq (tgt := 133) hx hb dX0_findSlopes_102 (by decide) (fun c102 => ?_) (fun c102 => ?_)
                      · skip
                        refine lv_iinc (v := (nI (r + 1))) (lv' := [(2, .int (nI (r + 1))), (0, .ref (ad 4)), (1, .ref (ad kg)), (3, .int (a kg v)), (4, .int (nI q))]) hx hb dX0_findSlopes_133 hl (k := 2) rfl (gn_add (X := r) (Y := 1) rfl rfl) (by decide) rfl (fun ls hl => ?_)
                        refine lv_goto (tgt := 55) hx hb dX0_findSlopes_136 (by decide) ?_
                        exact ih55  (r + 1) _ _ _ (by omega) (by omega) (gg_eq G rfl rfl rfl (by first | (rw [show q = nc by omega]; simp only [d_sl4, c7, c60, c73, ecl, c98, c102, reduceIte]; done) | (simp only [d_sl4, d_slI, c7, c60, c73, ecl, c98, c102, reduceIte]; done))) (lv_sub hl [1, 2, 0] rfl)
                      · skip
                        refine lv_aload_n hx hb dX0_findSlopes_105 rfl (lv_at hl 0 rfl) ?_
                        refine gx_get hx hb hts hinX0 hown G 4 (by decide) rfl rfl 5 (by decide) rfl lk31 rfl (v := .ref (ad 18)) rfl dX0_findSlopes_106 ?_
                        refine lv_iload hx hb dX0_findSlopes_109 (lv_at hl 4 rfl) ?_
                        refine lv_dup2_11 hx hb dX0_findSlopes_111 rfl rfl ?_
                        refine gx_lald hx hb G 18 (by decide) (rfl) (by decide) q rfl (by omega) dX0_findSlopes_112 ?_
                        refine lv_iload_n hx hb dX0_findSlopes_113 rfl (lv_at hl 3 rfl) ?_
                        refine lv_i2l (v := (a kg v).toInt64) hx hb dX0_findSlopes_114 rfl ?_
                        refine lv_aload_n hx hb dX0_findSlopes_115 rfl (lv_at hl 0 rfl) ?_
                        refine gx_get hx hb hts hinX0 hown G 4 (by decide) rfl rfl 0 (by decide) rfl lk13 rfl (v := .ref (ad 13)) rfl dX0_findSlopes_116 ?_
                        refine lv_iload_n hx hb dX0_findSlopes_119 rfl (lv_at hl 2 rfl) ?_
                        refine gx_aald hx hb G 13 (by decide) rfl (Or.inr rfl) (by decide) r rfl (by omega) dX0_findSlopes_120 ?_
                        refine lv_iload hx hb dX0_findSlopes_121 (lv_at hl 4 rfl) ?_
                        refine gx_lald hx hb G (48 + r) (by omega) (gsh_T _ (by omega)) (by decide) q rfl (by omega) dX0_findSlopes_123 ?_
                        refine lv_lmul hx hb dX0_findSlopes_124 ?_
                        refine lv_lsub hx hb dX0_findSlopes_125 ?_
                        refine gx_last hx hb G 18 (by decide) (rfl) (by decide) q rfl (by omega) dX0_findSlopes_126 (fun H locs G => ?_)
                        refine lv_iinc (v := (nI (q + 1))) (lv' := [(4, .int (nI (q + 1))), (0, .ref (ad 4)), (1, .ref (ad kg)), (2, .int (nI r)), (3, .int (a kg v))]) hx hb dX0_findSlopes_127 hl (k := 4) rfl (gn_add (X := q) (Y := 1) rfl rfl) (by decide) rfl (fun ls hl => ?_)
                        refine lv_goto (tgt := 92) hx hb dX0_findSlopes_130 (by decide) ?_
                        exact ih92  (q + 1) _ _ _ (by omega) (by omega) (gg_eq G rfl rfl rfl (by simp only [d_slI, d_sl2, c98, c102, reduceIte])) (lv_sub hl [1, 2, 3, 4, 0] rfl)
                have q4 : 0 = nI 0 := by first | rfl | (simp only [d_sl1, c60, c73, ecl, reduceIte]; done) | (simp [d_sl1, c60, c73, ecl, reduceIte]; done)
                rw [q4] at hl
                exact K92 (nc - 0 + 1) 0 _ _ _ (by omega) (Nat.lt_succ_self _) (gg_eq G rfl rfl rfl (by unfold d_slI; split <;> rfl)) (lv_sub hl [2, 3, 4, 1, 0] rfl)
        have q2 : 0 = nI 0 := by first | rfl | (simp only [d_sl1, c7, reduceIte]; done) | (simp [d_sl1, c7, reduceIte]; done)
        rw [q2] at hl
        exact K55 (nl - 0 + 1) 0 _ _ _ (by omega) (Nat.lt_succ_self _) (gg_eq G rfl rfl rfl (by rw [show r = nc by omega]; rfl)) (lv_sub hl [1, 2, 0] rfl)
      · skip
        have n7 := gn_nle (X := nc) (Y := r) hnc rfl (by omega) (by omega) c7
        refine lv_aload_n hx hb dX0_findSlopes_10 rfl (lv_at hl 0 rfl) ?_
        refine gx_get hx hb hts hinX0 hown G 4 (by decide) rfl rfl 5 (by decide) rfl lk31 rfl (v := .ref (ad 18)) rfl dX0_findSlopes_11 ?_
        refine lv_iload_n hx hb dX0_findSlopes_14 rfl (lv_at hl 2 rfl) ?_
        refine lv_aload_n hx hb dX0_findSlopes_15 rfl (lv_at hl 0 rfl) ?_
        refine gx_get hx hb hts hinX0 hown G 4 (by decide) rfl rfl 3 (by decide) rfl lk24 rfl (v := .ref (ad 16)) rfl dX0_findSlopes_16 ?_
        refine lv_iload_n hx hb dX0_findSlopes_19 rfl (lv_at hl 2 rfl) ?_
        refine gx_iald hx hb G 16 (by decide) (rfl) (by decide) r rfl (by omega) dX0_findSlopes_20 ?_
        refine lv_aload_n hx hb dX0_findSlopes_21 rfl (lv_at hl 0 rfl) ?_
        refine gx_get hx hb hts hinX0 hown G 4 (by decide) rfl rfl 8 (by decide) rfl lk44 rfl (v := .int (I 4 8)) rfl dX0_findSlopes_22 ?_
        refine lv_icmp_ge (tgt := 45) hx hb dX0_findSlopes_25 (by decide) (fun c25 => ?_) (fun c25 => ?_)
        · skip
          refine lv_lconst (v := 0) hx hb dX0_findSlopes_45 (by decide) ?_
          refine gx_last hx hb G 18 (by decide) (rfl) (by decide) r rfl (by omega) dX0_findSlopes_46 (fun H locs G => ?_)
          refine lv_iinc (v := (nI (r + 1))) (lv' := [(2, .int (nI (r + 1))), (0, .ref (ad 4)), (1, .ref (ad kg))]) hx hb dX0_findSlopes_47 hl (k := 2) rfl (gn_add (X := r) (Y := 1) rfl rfl) (by decide) rfl (fun ls hl => ?_)
          refine lv_goto (tgt := 2) hx hb dX0_findSlopes_50 (by decide) ?_
          exact ih2  (r + 1) _ _ _ (by omega) (by omega) (gg_eq G rfl rfl rfl (by first | rfl | (simp only [d_sl1, c7, c25, reduceIte]; done) | (simp [d_sl1, c7, c25, reduceIte]; done))) (lv_sub hl [1, 2, 0] rfl)
        · skip
          obtain ⟨v, ev, hv2⟩ := hout r (by omega)
          have hvn := gn_nle (X := nc) (Y := v) hnc ev (by omega) (by omega) c25
          have ecl := gx_clamp ev (by omega)
          refine lv_aload_n hx hb dX0_findSlopes_28 rfl (lv_at hl 1 rfl) ?_
          refine lv_aload_n hx hb dX0_findSlopes_29 rfl (lv_at hl 0 rfl) ?_
          refine gx_get hx hb hts hinX0 hown G 4 (by decide) rfl rfl 3 (by decide) rfl lk24 rfl (v := .ref (ad 16)) rfl dX0_findSlopes_30 ?_
          refine lv_iload_n hx hb dX0_findSlopes_33 rfl (lv_at hl 2 rfl) ?_
          refine gx_iald hx hb G 16 (by decide) (rfl) (by decide) r rfl (by omega) dX0_findSlopes_34 ?_
          refine gx_iald hx hb G kg (hkg) (hgs) (by decide) v ev (by omega) dX0_findSlopes_35 ?_
          refine lv_i2l (v := (a kg v).toInt64) hx hb dX0_findSlopes_36 rfl ?_
          refine lv_aload_n hx hb dX0_findSlopes_37 rfl (lv_at hl 0 rfl) ?_
          refine gx_get hx hb hts hinX0 hown G 4 (by decide) rfl rfl 6 (by decide) rfl lk34 rfl (v := .long (J 4 6)) rfl dX0_findSlopes_38 ?_
          refine lv_lmul hx hb dX0_findSlopes_41 ?_
          refine lv_goto (tgt := 46) hx hb dX0_findSlopes_42 (by decide) ?_
          refine gx_last hx hb G 18 (by decide) (rfl) (by decide) r rfl (by omega) dX0_findSlopes_46 (fun H locs G => ?_)
          refine lv_iinc (v := (nI (r + 1))) (lv' := [(2, .int (nI (r + 1))), (0, .ref (ad 4)), (1, .ref (ad kg))]) hx hb dX0_findSlopes_47 hl (k := 2) rfl (gn_add (X := r) (Y := 1) rfl rfl) (by decide) rfl (fun ls hl => ?_)
          refine lv_goto (tgt := 2) hx hb dX0_findSlopes_50 (by decide) ?_
          exact ih2  (r + 1) _ _ _ (by omega) (by omega) (gg_eq G rfl rfl rfl (by first | rfl | (simp only [d_sl1, c7, c25, ecl, reduceIte]; done) | (simp [d_sl1, c7, c25, ecl, reduceIte]; done))) (lv_sub hl [1, 2, 0] rfl)
  have q2 : 0 = nI 0 := by first | rfl | (simp only [d_sl1, reduceIte]; done) | (simp [d_sl1, reduceIte]; done)
  rw [q2] at hl
  exact K2 (nc - 0 + 1) 0 _ _ _ (by omega) (Nat.lt_succ_self _) (gg_eq G rfl rfl rfl (by first | rfl | (simp only [d_sl1, reduceIte]; done) | (simp [d_sl1, reduceIte]; done))) (lv_sub hl [1, 2, 0] rfl)

set_option maxHeartbeats 4000000 in
set_option maxRecDepth 100000 in
theorem kX0_pivot (l : Launch) (D : va_G) (ad : Nat → Nat) (cy : Nat → ClassId) (I : gF) (J : gL) (a : gF) (b : gL) (sz : Nat) (nl nc r0 s0 : Nat) (hnl : I 4 7 = nI nl) (hnl2 : nl ≤ 21) (hnc : I 4 8 = nI nc) (hnc2 : nc ≤ 5) (hr0 : r0 < 21) (hs0 : s0 < 5) : gMv l yX0_pivot wsX0_pivot ({ frames := 1, cells := 0, slots := 0, locals := 40 }) D ad cy I J a b sz [.ref (ad 4), .int (nI r0), .int (nI s0)] (fun u => u = (I, d_pJ J b r0 s0, d_pA J a b r0 s0, d_pB J b nl nc r0 s0)) := by
  refine Met.ofW (cc := cX0_pivot) (maxL := 8) (ret := none) (by decide) rfl ?_
  intro p e s m args below meth c s₁ B hml hv
  obtain ⟨hargs, hsz, G⟩ := gx_begin hv
  subst hsz
  have hx := B.exec
  have hb := B.bytes
  have hr := B.returns
  have hts := atoms_spec (ws := wsX0_pivot) B.pre
  have hown : s.vm.findClass RX0 = some m.cls := findClass_of_methodNamed B.named
  have hlocks := B.notSynchronized
  have hinX0 : ∀ w ∈ wsX00, w ∈ wsX0_pivot := by decide +kernel
  have lk13 := hts (.fieldLink RX0 13 "ExactSimplex$Dictionary" "table" "[[J") (by decide +kernel)
  have lk20 := hts (.fieldLink RX0 20 "ExactSimplex$Dictionary" "basic" "[I") (by decide +kernel)
  have lk24 := hts (.fieldLink RX0 24 "ExactSimplex$Dictionary" "outside" "[I") (by decide +kernel)
  have lk34 := hts (.fieldLink RX0 34 "ExactSimplex$Dictionary" "under" "J") (by decide +kernel)
  have lk48 := hts (.fieldLink RX0 48 "ExactSimplex$Dictionary" "lines" "I") (by decide +kernel)
  have hl := lv_entry ([.ref (ad 4), .int (nI r0), .int (nI s0)]) (n := 8) (Nat.le_of_ble_eq_true rfl)
  have hent := lg_entry_eq m ([.ref (ad 4), .int (nI r0), .int (nI s0)]) 8
  rw [← hargs] at hent
  rw [hent]
  clear hent
  generalize (lg_sl ([.ref (ad 4), .int (nI r0), .int (nI s0)]) ++ List.replicate (8 - (lg_sl ([.ref (ad 4), .int (nI r0), .int (nI s0)])).length) Slot.unset).toArray = ls at hl ⊢
  have hl : lv_has ls 8 [(0, .ref (ad 4)), (1, .int (nI r0)), (2, .int (nI s0))] := hl
  generalize hA : gA ad s.heap.size = A at G ⊢
  generalize hH : s.heap = H at G ⊢
  refine gx_q (fun Q hQ => ?_)
  refine lv_aload_n hx hb dX0_pivot_0 rfl (lv_at hl 0 rfl) ?_
  refine gx_get hx hb hts hinX0 hown G 4 (by decide) rfl rfl 0 (by decide) rfl lk13 rfl (v := .ref (ad 13)) rfl dX0_pivot_1 ?_
  refine lv_iload_n hx hb dX0_pivot_4 rfl (lv_at hl 1 rfl) ?_
  refine gx_aald hx hb G 13 (by decide) rfl (Or.inr rfl) (by decide) r0 rfl (by omega) dX0_pivot_5 ?_
  refine lv_iload_n hx hb dX0_pivot_6 rfl (lv_at hl 2 rfl) ?_
  refine gx_lald hx hb G (48 + r0) (by omega) (gsh_T _ (by omega)) (by decide) s0 rfl (by omega) dX0_pivot_7 ?_
  refine lv_lstore_n (lv' := [(3, .long (b (48 + r0) s0)), (0, .ref (ad 4)), (1, .int (nI r0)), (2, .int (nI s0))]) hx hb dX0_pivot_8 rfl hl (by decide) rfl (fun ls hl => ?_)
  refine lv_lload_n hx hb dX0_pivot_9 rfl (lv_at hl 0 rfl) ?_
  refine lv_lconst (v := 0) hx hb dX0_pivot_10 (by decide) ?_
  refine gx_lc_ge (tgt := 23) hx hb dX0_pivot_11 dX0_pivot_12 (by decide) (fun c12 => ?_) (fun c12 => ?_)
  · skip
    refine lv_aload_n hx hb dX0_pivot_23 rfl (lv_at hl 1 rfl) ?_
    refine gx_get hx hb hts hinX0 hown G 4 (by decide) rfl rfl 6 (by decide) rfl lk34 rfl (v := .long (J 4 6)) rfl dX0_pivot_24 ?_
    refine lv_lstore (lv' := [(5, .long (J 4 6)), (3, .long (b (48 + r0) s0)), (0, .ref (ad 4)), (1, .int (nI r0)), (2, .int (nI s0))]) hx hb dX0_pivot_27 hl (by decide) rfl (fun ls hl => ?_)
    refine lv_lload_n hx hb dX0_pivot_29 rfl (lv_at hl 1 rfl) ?_
    refine lv_lconst (v := 0) hx hb dX0_pivot_30 (by decide) ?_
    refine gx_lc_eq (tgt := 42) hx hb dX0_pivot_31 dX0_pivot_32 (by decide) (fun c32 => ?_) (fun c32 => ?_)
    · skip
      exact gx_vr hx hb hr hlocks G hQ (by simp only [d_pJ, d_pA, d_pB, d_dv, c12, c32, reduceIte]) dX0_pivot_42
    · skip
      refine lv_lload hx hb dX0_pivot_35 (lv_at hl 0 rfl) ?_
      refine lv_lconst (v := 0) hx hb dX0_pivot_37 (by decide) ?_
      refine gx_lc_ne (tgt := 43) hx hb dX0_pivot_38 dX0_pivot_39 (by decide) (fun c39 => ?_) (fun c39 => ?_)
      · skip
        refine lv_iconst (v := 0) hx hb dX0_pivot_43 (by decide) ?_
        refine lv_istore (lv' := [(7, .int 0), (5, .long (J 4 6)), (3, .long (b (48 + r0) s0)), (0, .ref (ad 4)), (1, .int (nI r0)), (2, .int (nI s0))]) hx hb dX0_pivot_44 hl (by decide) rfl (fun ls hl => ?_)
        have K46 : ∀ (nf : Nat) (i : Nat) (H : Heap) (locs : List Loc) (ls : Array Slot), (i ≤ nl) → nl - i < nf → GG D ad cy A s I J a (d_sweeps b nc r0 s0 (J 4 6) i) H locs → lv_has ls 8 [(0, .ref (ad 4)), (1, .int (nI r0)), (2, .int (nI s0)), (3, .long (b (48 + r0) s0)), (5, .long (J 4 6)), (7, .int (nI i))] → W p l e ({ frames := 1, cells := 0, slots := 0, locals := 40 }) s m args below meth c H locs 0 0 Q (F0 m 46 ls []) := by
          intro nf
          induction nf with
          | zero => exact fun _ _ _ _ _ hz => absurd hz (Nat.not_lt_zero _)
          | succ nf ih =>
            intro i H locs ls h1 hmeas G hl
            have ih46 := ih
            clear ih
            refine lv_iload hx hb dX0_pivot_46 (lv_at hl 5 rfl) ?_
            refine lv_aload_n hx hb dX0_pivot_48 rfl (lv_at hl 0 rfl) ?_
            refine gx_get hx hb hts hinX0 hown G 4 (by decide) rfl rfl 7 (by decide) rfl lk48 rfl (v := .int (I 4 7)) rfl dX0_pivot_49 ?_
            refine lv_icmp_ge (tgt := 77) hx hb dX0_pivot_52 (by decide) (fun c52 => ?_) (fun c52 => ?_)
            · skip
              have n52 := gn_le (X := nl) (Y := i) hnl rfl (by omega) (by omega) c52
              refine lv_lload_n hx hb dX0_pivot_77 rfl (lv_at hl 3 rfl) ?_
              refine lv_lconst (v := 0) hx hb dX0_pivot_78 (by decide) ?_
              refine gx_lc_ge (tgt := 88) hx hb dX0_pivot_79 dX0_pivot_80 (by decide) (fun c80 => ?_) (fun c80 => ?_)
              · skip
                refine lv_aload_n hx hb dX0_pivot_88 rfl (lv_at hl 0 rfl) ?_
                refine gx_get hx hb hts hinX0 hown G 4 (by decide) rfl rfl 0 (by decide) rfl lk13 rfl (v := .ref (ad 13)) rfl dX0_pivot_89 ?_
                refine lv_iload_n hx hb dX0_pivot_92 rfl (lv_at hl 1 rfl) ?_
                refine gx_aald hx hb G 13 (by decide) rfl (Or.inr rfl) (by decide) r0 rfl (by omega) dX0_pivot_93 ?_
                refine lv_iload_n hx hb dX0_pivot_94 rfl (lv_at hl 2 rfl) ?_
                refine lv_lload hx hb dX0_pivot_95 (lv_at hl 4 rfl) ?_
                refine gx_last hx hb G (48 + r0) (by omega) (gsh_T _ (by omega)) (by decide) s0 rfl (by omega) dX0_pivot_97 (fun H locs G => ?_)
                refine lv_aload_n hx hb dX0_pivot_98 rfl (lv_at hl 0 rfl) ?_
                refine lv_lload_n hx hb dX0_pivot_99 rfl (lv_at hl 3 rfl) ?_
                refine va_mabs_long hx hb (hml.trans hl.1.symm) hown (hts (.methodLink RX0 89 Lib.MathLoose.abs_long.x) (by decide +kernel)) (hts (.static Lib.MathLoose.abs_long.x) (by decide +kernel)) (hts (.initialized "java/lang/Math") (by decide +kernel)) (hts (.code Lib.MathLoose.abs_long.x Lib.MathLoose.abs_long.code 2 (some .long)) (by decide +kernel)) (Nat.le_of_ble_eq_true rfl) (Nat.le_of_ble_eq_true rfl) (Nat.zero_le _) (Nat.zero_le _) dX0_pivot_100 ?_
                refine gx_putJ hx hb hts hinX0 tyX0 tyX0_ok nmX0 hown G 4 (by decide) rfl rfl 6 (by decide) rfl lk34 rfl rfl (tyX0_ok 6 (by decide)) dX0_pivot_103 (fun H locs G => ?_)
                refine lv_aload_n hx hb dX0_pivot_106 rfl (lv_at hl 0 rfl) ?_
                refine gx_get hx hb hts hinX0 hown G 4 (by decide) rfl rfl 2 (by decide) rfl lk20 rfl (v := .ref (ad 15)) rfl dX0_pivot_107 ?_
                refine lv_iload_n hx hb dX0_pivot_110 rfl (lv_at hl 1 rfl) ?_
                refine gx_iald hx hb G 15 (by decide) (rfl) (by decide) r0 rfl (by omega) dX0_pivot_111 ?_
                refine lv_istore (lv' := [(7, .int (a 15 r0)), (0, .ref (ad 4)), (1, .int (nI r0)), (2, .int (nI s0)), (3, .long (b (48 + r0) s0)), (5, .long (J 4 6))]) hx hb dX0_pivot_112 hl (by decide) rfl (fun ls hl => ?_)
                refine lv_aload_n hx hb dX0_pivot_114 rfl (lv_at hl 1 rfl) ?_
                refine gx_get hx hb hts hinX0 hown G 4 (by decide) rfl rfl 2 (by decide) rfl lk20 rfl (v := .ref (ad 15)) rfl dX0_pivot_115 ?_
                refine lv_iload_n hx hb dX0_pivot_118 rfl (lv_at hl 2 rfl) ?_
                refine lv_aload_n hx hb dX0_pivot_119 rfl (lv_at hl 1 rfl) ?_
                refine gx_get hx hb hts hinX0 hown G 4 (by decide) rfl rfl 3 (by decide) rfl lk24 rfl (v := .ref (ad 16)) rfl dX0_pivot_120 ?_
                refine lv_iload_n hx hb dX0_pivot_123 rfl (lv_at hl 3 rfl) ?_
                refine gx_iald hx hb G 16 (by decide) (rfl) (by decide) s0 rfl (by omega) dX0_pivot_124 ?_
                refine gx_iast hx hb G 15 (by decide) (rfl) (by decide) r0 rfl (by omega) dX0_pivot_125 (fun H locs G => ?_)
                refine lv_aload_n hx hb dX0_pivot_126 rfl (lv_at hl 1 rfl) ?_
                refine gx_get hx hb hts hinX0 hown G 4 (by decide) rfl rfl 3 (by decide) rfl lk24 rfl (v := .ref (ad 16)) rfl dX0_pivot_127 ?_
                refine lv_iload_n hx hb dX0_pivot_130 rfl (lv_at hl 3 rfl) ?_
                refine lv_iload hx hb dX0_pivot_131 (lv_at hl 0 rfl) ?_
                refine gx_iast hx hb G 16 (by decide) (rfl) (by decide) s0 rfl (by omega) dX0_pivot_133 (fun H locs G => ?_)
                exact gx_vr hx hb hr hlocks G hQ (by rw [show i = nl by omega]; simp only [d_pJ, d_pA, d_pB, d_dv, c12, c32, c39, c52, c80, reduceIte]) dX0_pivot_134
              · skip
                exact absurd c12 c80
            · skip
              have n52 := gn_nle (X := nl) (Y := i) hnl rfl (by omega) (by omega) c52
              refine lv_iload hx hb dX0_pivot_55 (lv_at hl 5 rfl) ?_
              refine lv_iload_n hx hb dX0_pivot_57 rfl (lv_at hl 1 rfl) ?_
              refine lv_icmp_eq (tgt := 71) hx hb dX0_pivot_58 (by decide) (fun c58 => ?_) (fun c58 => ?_)
              · skip
                have n58 := gn_eq (X := i) (Y := r0) rfl rfl (by omega) (by omega) c58
                refine lv_iinc (v := (nI (i + 1))) (lv' := [(7, .int (nI (i + 1))), (0, .ref (ad 4)), (1, .int (nI r0)), (2, .int (nI s0)), (3, .long (b (48 + r0) s0)), (5, .long (J 4 6))]) hx hb dX0_pivot_71 hl (k := 5) rfl (gn_add (X := i) (Y := 1) rfl rfl) (by decide) rfl (fun ls hl => ?_)
                refine lv_goto (tgt := 46) hx hb dX0_pivot_74 (by decide) ?_
                exact ih46  (i + 1) _ _ _ (by omega) (by omega) (gg_eq G rfl rfl rfl (by first | rfl | (simp only [d_sweeps, c52, c58, reduceIte]; done) | (simp [d_sweeps, c52, c58, reduceIte]; done))) (lv_sub hl [1, 2, 3, 4, 5, 0] rfl)
              · skip
                have n58 := gn_neq (X := i) (Y := r0) rfl rfl (by omega) (by omega) c58
                refine lv_aload_n hx hb dX0_pivot_61 rfl (lv_at hl 0 rfl) ?_
                refine lv_iload hx hb dX0_pivot_62 (lv_at hl 5 rfl) ?_
                refine lv_iload_n hx hb dX0_pivot_64 rfl (lv_at hl 1 rfl) ?_
                refine lv_iload_n hx hb dX0_pivot_65 rfl (lv_at hl 2 rfl) ?_
                refine lv_lload hx hb dX0_pivot_66 (lv_at hl 4 rfl) ?_
                refine gx_dVv (I1 := I) (J1 := J) (a1 := a) (b1 := (d_sweep (d_sweeps b nc r0 s0 (J 4 6) i) nc i r0 s0 (J 4 6))) (As := [.int (nI i), .int (nI r0), .int (nI s0), .long (J 4 6)]) (rest := []) ⟨hx, hb, hml, hown, hts⟩ G 4 (kX0_sweepLine l D ad cy I J a (d_sweeps b nc r0 s0 (J 4 6) i) H.size nc i r0 s0 (J 4 6) hnc hnc2 (by omega) hr0 hs0) (cwV 4 hts gX0_pivot_X0_sweepLine rfl rfl rfl (by decide +kernel) ⟨Nat.le_of_ble_eq_true rfl, Nat.le_of_ble_eq_true rfl⟩) (by decide) rfl rfl rfl rfl hl.1 rfl (Nat.le_of_ble_eq_true rfl) ⟨Nat.zero_le _, Nat.zero_le _⟩ dX0_pivot_68 (fun H locs G => ?_)
                refine lv_iinc (v := (nI (i + 1))) (lv' := [(7, .int (nI (i + 1))), (0, .ref (ad 4)), (1, .int (nI r0)), (2, .int (nI s0)), (3, .long (b (48 + r0) s0)), (5, .long (J 4 6))]) hx hb dX0_pivot_71 hl (k := 5) rfl (gn_add (X := i) (Y := 1) rfl rfl) (by decide) rfl (fun ls hl => ?_)
                refine lv_goto (tgt := 46) hx hb dX0_pivot_74 (by decide) ?_
                exact ih46  (i + 1) _ _ _ (by omega) (by omega) (gg_eq G rfl rfl rfl (by first | rfl | (simp only [d_sweeps, c52, c58, reduceIte]; done) | (simp [d_sweeps, c52, c58, reduceIte]; done))) (lv_sub hl [1, 2, 3, 4, 5, 0] rfl)
        have q7 : 0 = nI 0 := by first | rfl | (simp only [d_sweeps, c12, c32, c39, reduceIte]; done) | (simp [d_sweeps, c12, c32, c39, reduceIte]; done)
        rw [q7] at hl
        exact K46 (nl - 0 + 1) 0 _ _ _ (by omega) (Nat.lt_succ_self _) (gg_eq G rfl rfl rfl (by first | rfl | (simp only [d_sweeps, c12, c32, c39, reduceIte]; done) | (simp [d_sweeps, c12, c32, c39, reduceIte]; done))) (lv_sub hl [3, 4, 5, 2, 1, 0] rfl)
      · skip
        exact gx_vr hx hb hr hlocks G hQ (by simp only [d_pJ, d_pA, d_pB, d_dv, c12, c32, c39, reduceIte]) dX0_pivot_42
  · skip
    refine lv_aload_n hx hb dX0_pivot_15 rfl (lv_at hl 1 rfl) ?_
    refine gx_get hx hb hts hinX0 hown G 4 (by decide) rfl rfl 6 (by decide) rfl lk34 rfl (v := .long (J 4 6)) rfl dX0_pivot_16 ?_
    refine lv_lneg hx hb dX0_pivot_19 ?_
    refine lv_goto (tgt := 27) hx hb dX0_pivot_20 (by decide) ?_
    refine lv_lstore (lv' := [(5, .long (-(J 4 6))), (3, .long (b (48 + r0) s0)), (0, .ref (ad 4)), (1, .int (nI r0)), (2, .int (nI s0))]) hx hb dX0_pivot_27 hl (by decide) rfl (fun ls hl => ?_)
    refine lv_lload_n hx hb dX0_pivot_29 rfl (lv_at hl 1 rfl) ?_
    refine lv_lconst (v := 0) hx hb dX0_pivot_30 (by decide) ?_
    refine gx_lc_eq (tgt := 42) hx hb dX0_pivot_31 dX0_pivot_32 (by decide) (fun c32 => ?_) (fun c32 => ?_)
    · skip
      exact gx_vr hx hb hr hlocks G hQ (by simp only [d_pJ, d_pA, d_pB, d_dv, c12, c32, reduceIte]) dX0_pivot_42
    · skip
      refine lv_lload hx hb dX0_pivot_35 (lv_at hl 0 rfl) ?_
      refine lv_lconst (v := 0) hx hb dX0_pivot_37 (by decide) ?_
      refine gx_lc_ne (tgt := 43) hx hb dX0_pivot_38 dX0_pivot_39 (by decide) (fun c39 => ?_) (fun c39 => ?_)
      · skip
        refine lv_iconst (v := 0) hx hb dX0_pivot_43 (by decide) ?_
        refine lv_istore (lv' := [(7, .int 0), (5, .long (-(J 4 6))), (3, .long (b (48 + r0) s0)), (0, .ref (ad 4)), (1, .int (nI r0)), (2, .int (nI s0))]) hx hb dX0_pivot_44 hl (by decide) rfl (fun ls hl => ?_)
        have K46 : ∀ (nf : Nat) (i : Nat) (H : Heap) (locs : List Loc) (ls : Array Slot), (i ≤ nl) → nl - i < nf → GG D ad cy A s I J a (d_sweeps b nc r0 s0 (-(J 4 6)) i) H locs → lv_has ls 8 [(0, .ref (ad 4)), (1, .int (nI r0)), (2, .int (nI s0)), (3, .long (b (48 + r0) s0)), (5, .long (-(J 4 6))), (7, .int (nI i))] → W p l e ({ frames := 1, cells := 0, slots := 0, locals := 40 }) s m args below meth c H locs 0 0 Q (F0 m 46 ls []) := by
          intro nf
          induction nf with
          | zero => exact fun _ _ _ _ _ hz => absurd hz (Nat.not_lt_zero _)
          | succ nf ih =>
            intro i H locs ls h1 hmeas G hl
            have ih46 := ih
            clear ih
            refine lv_iload hx hb dX0_pivot_46 (lv_at hl 5 rfl) ?_
            refine lv_aload_n hx hb dX0_pivot_48 rfl (lv_at hl 0 rfl) ?_
            refine gx_get hx hb hts hinX0 hown G 4 (by decide) rfl rfl 7 (by decide) rfl lk48 rfl (v := .int (I 4 7)) rfl dX0_pivot_49 ?_
            refine lv_icmp_ge (tgt := 77) hx hb dX0_pivot_52 (by decide) (fun c52 => ?_) (fun c52 => ?_)
            · skip
              have n52 := gn_le (X := nl) (Y := i) hnl rfl (by omega) (by omega) c52
              refine lv_lload_n hx hb dX0_pivot_77 rfl (lv_at hl 3 rfl) ?_
              refine lv_lconst (v := 0) hx hb dX0_pivot_78 (by decide) ?_
              refine gx_lc_ge (tgt := 88) hx hb dX0_pivot_79 dX0_pivot_80 (by decide) (fun c80 => ?_) (fun c80 => ?_)
              · skip
                exact absurd c80 c12
              · skip
                refine lv_aload_n hx hb dX0_pivot_83 rfl (lv_at hl 0 rfl) ?_
                refine lv_iload_n hx hb dX0_pivot_84 rfl (lv_at hl 1 rfl) ?_
                refine gx_dVv (I1 := I) (J1 := J) (a1 := a) (b1 := (d_turn (d_sweeps b nc r0 s0 (-(J 4 6)) i) r0 nc)) (As := [.int (nI r0)]) (rest := []) ⟨hx, hb, hml, hown, hts⟩ G 4 (kX0_turnLine l D ad cy I J a (d_sweeps b nc r0 s0 (-(J 4 6)) i) H.size nc r0 hnc hnc2 hr0) (cwV 1 hts gX0_pivot_X0_turnLine rfl rfl rfl (by decide +kernel) ⟨Nat.le_of_ble_eq_true rfl, Nat.le_of_ble_eq_true rfl⟩) (by decide) rfl rfl rfl rfl hl.1 rfl (Nat.le_of_ble_eq_true rfl) ⟨Nat.zero_le _, Nat.zero_le _⟩ dX0_pivot_85 (fun H locs G => ?_)
                refine lv_aload_n hx hb dX0_pivot_88 rfl (lv_at hl 0 rfl) ?_
                refine gx_get hx hb hts hinX0 hown G 4 (by decide) rfl rfl 0 (by decide) rfl lk13 rfl (v := .ref (ad 13)) rfl dX0_pivot_89 ?_
                refine lv_iload_n hx hb dX0_pivot_92 rfl (lv_at hl 1 rfl) ?_
                refine gx_aald hx hb G 13 (by decide) rfl (Or.inr rfl) (by decide) r0 rfl (by omega) dX0_pivot_93 ?_
                refine lv_iload_n hx hb dX0_pivot_94 rfl (lv_at hl 2 rfl) ?_
                refine lv_lload hx hb dX0_pivot_95 (lv_at hl 4 rfl) ?_
                refine gx_last hx hb G (48 + r0) (by omega) (gsh_T _ (by omega)) (by decide) s0 rfl (by omega) dX0_pivot_97 (fun H locs G => ?_)
                refine lv_aload_n hx hb dX0_pivot_98 rfl (lv_at hl 0 rfl) ?_
                refine lv_lload_n hx hb dX0_pivot_99 rfl (lv_at hl 3 rfl) ?_
                refine va_mabs_long hx hb (hml.trans hl.1.symm) hown (hts (.methodLink RX0 89 Lib.MathLoose.abs_long.x) (by decide +kernel)) (hts (.static Lib.MathLoose.abs_long.x) (by decide +kernel)) (hts (.initialized "java/lang/Math") (by decide +kernel)) (hts (.code Lib.MathLoose.abs_long.x Lib.MathLoose.abs_long.code 2 (some .long)) (by decide +kernel)) (Nat.le_of_ble_eq_true rfl) (Nat.le_of_ble_eq_true rfl) (Nat.zero_le _) (Nat.zero_le _) dX0_pivot_100 ?_
                refine gx_putJ hx hb hts hinX0 tyX0 tyX0_ok nmX0 hown G 4 (by decide) rfl rfl 6 (by decide) rfl lk34 rfl rfl (tyX0_ok 6 (by decide)) dX0_pivot_103 (fun H locs G => ?_)
                refine lv_aload_n hx hb dX0_pivot_106 rfl (lv_at hl 0 rfl) ?_
                refine gx_get hx hb hts hinX0 hown G 4 (by decide) rfl rfl 2 (by decide) rfl lk20 rfl (v := .ref (ad 15)) rfl dX0_pivot_107 ?_
                refine lv_iload_n hx hb dX0_pivot_110 rfl (lv_at hl 1 rfl) ?_
                refine gx_iald hx hb G 15 (by decide) (rfl) (by decide) r0 rfl (by omega) dX0_pivot_111 ?_
                refine lv_istore (lv' := [(7, .int (a 15 r0)), (0, .ref (ad 4)), (1, .int (nI r0)), (2, .int (nI s0)), (3, .long (b (48 + r0) s0)), (5, .long (-(J 4 6)))]) hx hb dX0_pivot_112 hl (by decide) rfl (fun ls hl => ?_)
                refine lv_aload_n hx hb dX0_pivot_114 rfl (lv_at hl 1 rfl) ?_
                refine gx_get hx hb hts hinX0 hown G 4 (by decide) rfl rfl 2 (by decide) rfl lk20 rfl (v := .ref (ad 15)) rfl dX0_pivot_115 ?_
                refine lv_iload_n hx hb dX0_pivot_118 rfl (lv_at hl 2 rfl) ?_
                refine lv_aload_n hx hb dX0_pivot_119 rfl (lv_at hl 1 rfl) ?_
                refine gx_get hx hb hts hinX0 hown G 4 (by decide) rfl rfl 3 (by decide) rfl lk24 rfl (v := .ref (ad 16)) rfl dX0_pivot_120 ?_
                refine lv_iload_n hx hb dX0_pivot_123 rfl (lv_at hl 3 rfl) ?_
                refine gx_iald hx hb G 16 (by decide) (rfl) (by decide) s0 rfl (by omega) dX0_pivot_124 ?_
                refine gx_iast hx hb G 15 (by decide) (rfl) (by decide) r0 rfl (by omega) dX0_pivot_125 (fun H locs G => ?_)
                refine lv_aload_n hx hb dX0_pivot_126 rfl (lv_at hl 1 rfl) ?_
                refine gx_get hx hb hts hinX0 hown G 4 (by decide) rfl rfl 3 (by decide) rfl lk24 rfl (v := .ref (ad 16)) rfl dX0_pivot_127 ?_
                refine lv_iload_n hx hb dX0_pivot_130 rfl (lv_at hl 3 rfl) ?_
                refine lv_iload hx hb dX0_pivot_131 (lv_at hl 0 rfl) ?_
                refine gx_iast hx hb G 16 (by decide) (rfl) (by decide) s0 rfl (by omega) dX0_pivot_133 (fun H locs G => ?_)
                exact gx_vr hx hb hr hlocks G hQ (by rw [show i = nl by omega]; simp only [d_pJ, d_pA, d_pB, d_dv, c12, c32, c39, c52, c80, reduceIte]) dX0_pivot_134
            · skip
              have n52 := gn_nle (X := nl) (Y := i) hnl rfl (by omega) (by omega) c52
              refine lv_iload hx hb dX0_pivot_55 (lv_at hl 5 rfl) ?_
              refine lv_iload_n hx hb dX0_pivot_57 rfl (lv_at hl 1 rfl) ?_
              refine lv_icmp_eq (tgt := 71) hx hb dX0_pivot_58 (by decide) (fun c58 => ?_) (fun c58 => ?_)
              · skip
                have n58 := gn_eq (X := i) (Y := r0) rfl rfl (by omega) (by omega) c58
                refine lv_iinc (v := (nI (i + 1))) (lv' := [(7, .int (nI (i + 1))), (0, .ref (ad 4)), (1, .int (nI r0)), (2, .int (nI s0)), (3, .long (b (48 + r0) s0)), (5, .long (-(J 4 6)))]) hx hb dX0_pivot_71 hl (k := 5) rfl (gn_add (X := i) (Y := 1) rfl rfl) (by decide) rfl (fun ls hl => ?_)
                refine lv_goto (tgt := 46) hx hb dX0_pivot_74 (by decide) ?_
                exact ih46  (i + 1) _ _ _ (by omega) (by omega) (gg_eq G rfl rfl rfl (by first | rfl | (simp only [d_sweeps, c52, c58, reduceIte]; done) | (simp [d_sweeps, c52, c58, reduceIte]; done))) (lv_sub hl [1, 2, 3, 4, 5, 0] rfl)
              · skip
                have n58 := gn_neq (X := i) (Y := r0) rfl rfl (by omega) (by omega) c58
                refine lv_aload_n hx hb dX0_pivot_61 rfl (lv_at hl 0 rfl) ?_
                refine lv_iload hx hb dX0_pivot_62 (lv_at hl 5 rfl) ?_
                refine lv_iload_n hx hb dX0_pivot_64 rfl (lv_at hl 1 rfl) ?_
                refine lv_iload_n hx hb dX0_pivot_65 rfl (lv_at hl 2 rfl) ?_
                refine lv_lload hx hb dX0_pivot_66 (lv_at hl 4 rfl) ?_
                refine gx_dVv (I1 := I) (J1 := J) (a1 := a) (b1 := (d_sweep (d_sweeps b nc r0 s0 (-(J 4 6)) i) nc i r0 s0 (-(J 4 6)))) (As := [.int (nI i), .int (nI r0), .int (nI s0), .long (-(J 4 6))]) (rest := []) ⟨hx, hb, hml, hown, hts⟩ G 4 (kX0_sweepLine l D ad cy I J a (d_sweeps b nc r0 s0 (-(J 4 6)) i) H.size nc i r0 s0 (-(J 4 6)) hnc hnc2 (by omega) hr0 hs0) (cwV 4 hts gX0_pivot_X0_sweepLine rfl rfl rfl (by decide +kernel) ⟨Nat.le_of_ble_eq_true rfl, Nat.le_of_ble_eq_true rfl⟩) (by decide) rfl rfl rfl rfl hl.1 rfl (Nat.le_of_ble_eq_true rfl) ⟨Nat.zero_le _, Nat.zero_le _⟩ dX0_pivot_68 (fun H locs G => ?_)
                refine lv_iinc (v := (nI (i + 1))) (lv' := [(7, .int (nI (i + 1))), (0, .ref (ad 4)), (1, .int (nI r0)), (2, .int (nI s0)), (3, .long (b (48 + r0) s0)), (5, .long (-(J 4 6)))]) hx hb dX0_pivot_71 hl (k := 5) rfl (gn_add (X := i) (Y := 1) rfl rfl) (by decide) rfl (fun ls hl => ?_)
                refine lv_goto (tgt := 46) hx hb dX0_pivot_74 (by decide) ?_
                exact ih46  (i + 1) _ _ _ (by omega) (by omega) (gg_eq G rfl rfl rfl (by first | rfl | (simp only [d_sweeps, c52, c58, reduceIte]; done) | (simp [d_sweeps, c52, c58, reduceIte]; done))) (lv_sub hl [1, 2, 3, 4, 5, 0] rfl)
        have q7 : 0 = nI 0 := by first | rfl | (simp only [d_sweeps, c12, c32, c39, reduceIte]; done) | (simp [d_sweeps, c12, c32, c39, reduceIte]; done)
        rw [q7] at hl
        exact K46 (nl - 0 + 1) 0 _ _ _ (by omega) (Nat.lt_succ_self _) (gg_eq G rfl rfl rfl (by first | rfl | (simp only [d_sweeps, c12, c32, c39, reduceIte]; done) | (simp [d_sweeps, c12, c32, c39, reduceIte]; done))) (lv_sub hl [3, 4, 5, 2, 1, 0] rfl)
      · skip
        exact gx_vr hx hb hr hlocks G hQ (by simp only [d_pJ, d_pA, d_pB, d_dv, c12, c32, c39, reduceIte]) dX0_pivot_42

set_option maxHeartbeats 4000000 in
set_option maxRecDepth 100000 in
theorem kX0_begin (l : Launch) (D : va_G) (ad : Nat → Nat) (cy : Nat → ClassId) (I : gF) (J : gL) (a : gF) (b : gL) (sz : Nat) (n0 : Nat) (hn0 : n0 ≤ 5) : gMv l yX0_begin wsX0_begin ({ frames := 1, cells := 0, slots := 0, locals := 40 }) D ad cy I J a b sz [.ref (ad 4), .int (nI n0)] (fun u => u = (gU (gU I 4 8 (nI n0)) 4 7 0, gU J 4 6 1, d_thaw (d_ids a n0) n0, b)) := by
  refine Met.ofW (cc := cX0_begin) (maxL := 3) (ret := none) (by decide) rfl ?_
  intro p e s m args below meth c s₁ B hml hv
  obtain ⟨hargs, hsz, G⟩ := gx_begin hv
  subst hsz
  have hx := B.exec
  have hb := B.bytes
  have hr := B.returns
  have hts := atoms_spec (ws := wsX0_begin) B.pre
  have hown : s.vm.findClass RX0 = some m.cls := findClass_of_methodNamed B.named
  have hlocks := B.notSynchronized
  have hinX0 : ∀ w ∈ wsX00, w ∈ wsX0_begin := by decide +kernel
  have lk24 := hts (.fieldLink RX0 24 "ExactSimplex$Dictionary" "outside" "[I") (by decide +kernel)
  have lk34 := hts (.fieldLink RX0 34 "ExactSimplex$Dictionary" "under" "J") (by decide +kernel)
  have lk44 := hts (.fieldLink RX0 44 "ExactSimplex$Dictionary" "columns" "I") (by decide +kernel)
  have lk48 := hts (.fieldLink RX0 48 "ExactSimplex$Dictionary" "lines" "I") (by decide +kernel)
  have hl := lv_entry ([.ref (ad 4), .int (nI n0)]) (n := 3) (Nat.le_of_ble_eq_true rfl)
  have hent := lg_entry_eq m ([.ref (ad 4), .int (nI n0)]) 3
  rw [← hargs] at hent
  rw [hent]
  clear hent
  generalize (lg_sl ([.ref (ad 4), .int (nI n0)]) ++ List.replicate (3 - (lg_sl ([.ref (ad 4), .int (nI n0)])).length) Slot.unset).toArray = ls at hl ⊢
  have hl : lv_has ls 3 [(0, .ref (ad 4)), (1, .int (nI n0))] := hl
  generalize hA : gA ad s.heap.size = A at G ⊢
  generalize hH : s.heap = H at G ⊢
  refine gx_q (fun Q hQ => ?_)
  refine lv_aload_n hx hb dX0_begin_0 rfl (lv_at hl 0 rfl) ?_
  refine lv_iload_n hx hb dX0_begin_1 rfl (lv_at hl 1 rfl) ?_
  refine lv_iconst (v := 5) hx hb dX0_begin_2 (by decide) ?_
  refine va_mmin hx hb (hml.trans hl.1.symm) hown (hts (.methodLink RX0 38 Lib.Math.min.name) (by decide +kernel)) (hts (.static Lib.Math.min.name) (by decide +kernel)) (hts (.initialized "java/lang/Math") (by decide +kernel)) (hts (.code Lib.Math.min.name Lib.Math.min.code 2 (some .int)) (by decide +kernel)) (Nat.le_of_ble_eq_true rfl) (Nat.le_of_ble_eq_true rfl) (Nat.zero_le _) (Nat.zero_le _) dX0_begin_3 ?_
  rw [d_min5 hn0]
  refine gx_putI hx hb hts hinX0 tyX0 tyX0_ok nmX0 hown G 4 (by decide) rfl rfl 8 (by decide) rfl lk44 rfl rfl (tyX0_ok 8 (by decide)) (rfl) (rfl) dX0_begin_6 (fun H locs G => ?_)
  refine lv_aload_n hx hb dX0_begin_9 rfl (lv_at hl 0 rfl) ?_
  refine lv_iconst (v := 0) hx hb dX0_begin_10 (by decide) ?_
  refine gx_putI hx hb hts hinX0 tyX0 tyX0_ok nmX0 hown G 4 (by decide) rfl rfl 7 (by decide) rfl lk48 rfl rfl (tyX0_ok 7 (by decide)) (rfl) (rfl) dX0_begin_11 (fun H locs G => ?_)
  refine lv_aload_n hx hb dX0_begin_14 rfl (lv_at hl 0 rfl) ?_
  refine lv_lconst (v := 1) hx hb dX0_begin_15 (by decide) ?_
  refine gx_putJ hx hb hts hinX0 tyX0 tyX0_ok nmX0 hown G 4 (by decide) rfl rfl 6 (by decide) rfl lk34 rfl rfl (tyX0_ok 6 (by decide)) dX0_begin_16 (fun H locs G => ?_)
  refine lv_iconst (v := 0) hx hb dX0_begin_19 (by decide) ?_
  refine lv_istore_n (lv' := [(2, .int 0), (0, .ref (ad 4)), (1, .int (nI n0))]) hx hb dX0_begin_20 rfl hl (by decide) rfl (fun ls hl => ?_)
  have K21 : ∀ (nf : Nat) (r : Nat) (H : Heap) (locs : List Loc) (ls : Array Slot), (r ≤ n0) → n0 - r < nf → GG D ad cy A s (gU (gU I 4 8 (nI n0)) 4 7 0) (gU J 4 6 1) (d_ids a r) b H locs → lv_has ls 3 [(0, .ref (ad 4)), (1, .int (nI n0)), (2, .int (nI r))] → W p l e ({ frames := 1, cells := 0, slots := 0, locals := 40 }) s m args below meth c H locs 0 0 Q (F0 m 21 ls []) := by
    intro nf
    induction nf with
    | zero => exact fun _ _ _ _ _ hz => absurd hz (Nat.not_lt_zero _)
    | succ nf ih =>
      intro r H locs ls h1 hmeas G hl
      have ih21 := ih
      clear ih
      refine lv_iload_n hx hb dX0_begin_21 rfl (lv_at hl 2 rfl) ?_
      refine lv_aload_n hx hb dX0_begin_22 rfl (lv_at hl 0 rfl) ?_
      refine gx_get hx hb hts hinX0 hown G 4 (by decide) rfl rfl 8 (by decide) rfl lk44 rfl (v := .int (nI n0)) rfl dX0_begin_23 ?_
      refine lv_icmp_ge (tgt := 42) hx hb dX0_begin_26 (by decide) (fun c26 => ?_) (fun c26 => ?_)
      · skip
        have n26 := gn_le (X := n0) (Y := r) rfl rfl (by omega) (by omega) c26
        refine lv_aload_n hx hb dX0_begin_42 rfl (lv_at hl 0 rfl) ?_
        refine gx_dVv (I1 := (gU (gU I 4 8 (nI n0)) 4 7 0)) (J1 := (gU J 4 6 1)) (a1 := (d_thaw (d_ids a r) n0)) (b1 := b) (As := []) (rest := []) ⟨hx, hb, hml, hown, hts⟩ G 4 (kX0_thawAll l D ad cy (gU (gU I 4 8 (nI n0)) 4 7 0) (gU J 4 6 1) (d_ids a r) b H.size n0 rfl hn0) (cwV 0 hts gX0_begin_X0_thawAll rfl rfl rfl (by decide +kernel) ⟨Nat.le_of_ble_eq_true rfl, Nat.le_of_ble_eq_true rfl⟩) (by decide) rfl rfl rfl rfl hl.1 rfl (Nat.le_of_ble_eq_true rfl) ⟨Nat.zero_le _, Nat.zero_le _⟩ dX0_begin_43 (fun H locs G => ?_)
        exact gx_vr hx hb hr hlocks G hQ (by rw [show r = n0 by omega]) dX0_begin_46
      · skip
        have n26 := gn_nle (X := n0) (Y := r) rfl rfl (by omega) (by omega) c26
        refine lv_aload_n hx hb dX0_begin_29 rfl (lv_at hl 0 rfl) ?_
        refine gx_get hx hb hts hinX0 hown G 4 (by decide) rfl rfl 3 (by decide) rfl lk24 rfl (v := .ref (ad 16)) rfl dX0_begin_30 ?_
        refine lv_iload_n hx hb dX0_begin_33 rfl (lv_at hl 2 rfl) ?_
        refine lv_iload_n hx hb dX0_begin_34 rfl (lv_at hl 2 rfl) ?_
        refine gx_iast hx hb G 16 (by decide) (rfl) (by decide) r rfl (by omega) dX0_begin_35 (fun H locs G => ?_)
        refine lv_iinc (v := (nI (r + 1))) (lv' := [(2, .int (nI (r + 1))), (0, .ref (ad 4)), (1, .int (nI n0))]) hx hb dX0_begin_36 hl (k := 2) rfl (gn_add (X := r) (Y := 1) rfl rfl) (by decide) rfl (fun ls hl => ?_)
        refine lv_goto (tgt := 21) hx hb dX0_begin_39 (by decide) ?_
        exact ih21  (r + 1) _ _ _ (by omega) (by omega) (gg_eq G rfl rfl (by first | rfl | (simp only [d_ids, c26, reduceIte]; done) | (simp [d_ids, c26, reduceIte]; done)) rfl) (lv_sub hl [1, 2, 0] rfl)
  have q2 : 0 = nI 0 := by first | rfl | (simp only [d_ids, reduceIte]; done) | (simp [d_ids, reduceIte]; done)
  rw [q2] at hl
  exact K21 (n0 - 0 + 1) 0 _ _ _ (by omega) (Nat.lt_succ_self _) (gg_eq G rfl rfl (by first | rfl | (simp only [d_ids, reduceIte]; done) | (simp [d_ids, reduceIte]; done)) rfl) (lv_sub hl [1, 2, 0] rfl)

set_option maxHeartbeats 4000000 in
set_option maxRecDepth 100000 in
theorem kX0_addAtMost (l : Launch) (D : va_G) (ad : Nat → Nat) (cy : Nat → ClassId) (I : gF) (J : gL) (a : gF) (b : gL) (sz : Nat) (nl nc kg : Nat) (sg ri : Int32) (hnl : I 4 7 = nI nl) (hnl2 : nl < 21) (hnc : I 4 8 = nI nc) (hnc2 : nc ≤ 5) (hkg : kg < 92) (hgs : gsh kg = .inr (0, 5, 0)) : gMv l yX0_addAtMost wsX0_addAtMost ({ frames := 0, cells := 0, slots := 0, locals := 0 }) D ad cy I J a b sz [.ref (ad 4), .ref (ad kg), .int sg, .int ri] (fun u => u = (gU I 4 7 (I 4 7 + 1), J, gU a 15 nl (I 4 8 + I 4 7), d_addB a b kg nl nc sg ri)) := by
  refine Met.ofW (cc := cX0_addAtMost) (maxL := 5) (ret := none) (by decide) rfl ?_
  intro p e s m args below meth c s₁ B hml hv
  obtain ⟨hargs, hsz, G⟩ := gx_begin hv
  subst hsz
  have hx := B.exec
  have hb := B.bytes
  have hr := B.returns
  have hts := atoms_spec (ws := wsX0_addAtMost) B.pre
  have hown : s.vm.findClass RX0 = some m.cls := findClass_of_methodNamed B.named
  have hlocks := B.notSynchronized
  have hinX0 : ∀ w ∈ wsX00, w ∈ wsX0_addAtMost := by decide +kernel
  have lk13 := hts (.fieldLink RX0 13 "ExactSimplex$Dictionary" "table" "[[J") (by decide +kernel)
  have lk16 := hts (.fieldLink RX0 16 "ExactSimplex$Dictionary" "rests" "[J") (by decide +kernel)
  have lk20 := hts (.fieldLink RX0 20 "ExactSimplex$Dictionary" "basic" "[I") (by decide +kernel)
  have lk44 := hts (.fieldLink RX0 44 "ExactSimplex$Dictionary" "columns" "I") (by decide +kernel)
  have lk48 := hts (.fieldLink RX0 48 "ExactSimplex$Dictionary" "lines" "I") (by decide +kernel)
  have hl := lv_entry ([.ref (ad 4), .ref (ad kg), .int sg, .int ri]) (n := 5) (Nat.le_of_ble_eq_true rfl)
  have hent := lg_entry_eq m ([.ref (ad 4), .ref (ad kg), .int sg, .int ri]) 5
  rw [← hargs] at hent
  rw [hent]
  clear hent
  generalize (lg_sl ([.ref (ad 4), .ref (ad kg), .int sg, .int ri]) ++ List.replicate (5 - (lg_sl ([.ref (ad 4), .ref (ad kg), .int sg, .int ri])).length) Slot.unset).toArray = ls at hl ⊢
  have hl : lv_has ls 5 [(0, .ref (ad 4)), (1, .ref (ad kg)), (2, .int sg), (3, .int ri)] := hl
  generalize hA : gA ad s.heap.size = A at G ⊢
  generalize hH : s.heap = H at G ⊢
  refine gx_q (fun Q hQ => ?_)
  refine lv_aload_n hx hb dX0_addAtMost_0 rfl (lv_at hl 0 rfl) ?_
  refine gx_get hx hb hts hinX0 hown G 4 (by decide) rfl rfl 7 (by decide) rfl lk48 rfl (v := .int (I 4 7)) rfl dX0_addAtMost_1 ?_
  refine lv_bipush (v := 21) hx hb dX0_addAtMost_4 (by decide) ?_
  refine lv_icmp_ge (tgt := 18) hx hb dX0_addAtMost_6 (by decide) (fun c6 => ?_) (fun c6 => ?_)
  · skip
    have n6 := gn_le (X := 21) (Y := nl) rfl hnl (by omega) (by omega) c6
    exact absurd n6 (by omega)
  · skip
    have n6 := gn_nle (X := 21) (Y := nl) rfl hnl (by omega) (by omega) c6
    refine lv_aload_n hx hb dX0_addAtMost_9 rfl (lv_at hl 1 rfl) ?_
    refine gx_alen hx hb G kg (hkg) (hgs) (v := 5) rfl dX0_addAtMost_10 ?_
    refine lv_aload_n hx hb dX0_addAtMost_11 rfl (lv_at hl 0 rfl) ?_
    refine gx_get hx hb hts hinX0 hown G 4 (by decide) rfl rfl 8 (by decide) rfl lk44 rfl (v := .int (I 4 8)) rfl dX0_addAtMost_12 ?_
    refine lv_icmp_ge (tgt := 19) hx hb dX0_addAtMost_15 (by decide) (fun c15 => ?_) (fun c15 => ?_)
    · skip
      have n15 := gn_le (X := nc) (Y := 5) hnc rfl (by omega) (by omega) c15
      refine lv_iconst (v := 0) hx hb dX0_addAtMost_19 (by decide) ?_
      refine lv_istore (lv' := [(4, .int 0), (0, .ref (ad 4)), (1, .ref (ad kg)), (2, .int sg), (3, .int ri)]) hx hb dX0_addAtMost_20 hl (by decide) rfl (fun ls hl => ?_)
      have K22 : ∀ (nf : Nat) (r : Nat) (H : Heap) (locs : List Loc) (ls : Array Slot), (r ≤ nc) → nc - r < nf → GG D ad cy A s I J a (d_addL a b kg nl sg r) H locs → lv_has ls 5 [(0, .ref (ad 4)), (1, .ref (ad kg)), (2, .int sg), (3, .int ri), (4, .int (nI r))] → W p l e ({ frames := 0, cells := 0, slots := 0, locals := 0 }) s m args below meth c H locs 0 0 Q (F0 m 22 ls []) := by
        intro nf
        induction nf with
        | zero => exact fun _ _ _ _ _ hz => absurd hz (Nat.not_lt_zero _)
        | succ nf ih =>
          intro r H locs ls h1 hmeas G hl
          have ih22 := ih
          clear ih
          refine lv_iload hx hb dX0_addAtMost_22 (lv_at hl 4 rfl) ?_
          refine lv_aload_n hx hb dX0_addAtMost_24 rfl (lv_at hl 0 rfl) ?_
          refine gx_get hx hb hts hinX0 hown G 4 (by decide) rfl rfl 8 (by decide) rfl lk44 rfl (v := .int (I 4 8)) rfl dX0_addAtMost_25 ?_
          refine lv_icmp_ge (tgt := 56) hx hb dX0_addAtMost_28 (by decide) (fun c28 => ?_) (fun c28 => ?_)
          · skip
            have n28 := gn_le (X := nc) (Y := r) hnc rfl (by omega) (by omega) c28
            refine lv_aload_n hx hb dX0_addAtMost_56 rfl (lv_at hl 0 rfl) ?_
            refine gx_get hx hb hts hinX0 hown G 4 (by decide) rfl rfl 1 (by decide) rfl lk16 rfl (v := .ref (ad 14)) rfl dX0_addAtMost_57 ?_
            refine lv_aload_n hx hb dX0_addAtMost_60 rfl (lv_at hl 0 rfl) ?_
            refine gx_get hx hb hts hinX0 hown G 4 (by decide) rfl rfl 7 (by decide) rfl lk48 rfl (v := .int (I 4 7)) rfl dX0_addAtMost_61 ?_
            refine lv_iload_n hx hb dX0_addAtMost_64 rfl (lv_at hl 3 rfl) ?_
            refine lv_i2l (v := ri.toInt64) hx hb dX0_addAtMost_65 rfl ?_
            refine gx_last hx hb G 14 (by decide) (rfl) (by decide) nl hnl (by omega) dX0_addAtMost_66 (fun H locs G => ?_)
            refine lv_aload_n hx hb dX0_addAtMost_67 rfl (lv_at hl 0 rfl) ?_
            refine gx_get hx hb hts hinX0 hown G 4 (by decide) rfl rfl 2 (by decide) rfl lk20 rfl (v := .ref (ad 15)) rfl dX0_addAtMost_68 ?_
            refine lv_aload_n hx hb dX0_addAtMost_71 rfl (lv_at hl 0 rfl) ?_
            refine gx_get hx hb hts hinX0 hown G 4 (by decide) rfl rfl 7 (by decide) rfl lk48 rfl (v := .int (I 4 7)) rfl dX0_addAtMost_72 ?_
            refine lv_aload_n hx hb dX0_addAtMost_75 rfl (lv_at hl 0 rfl) ?_
            refine gx_get hx hb hts hinX0 hown G 4 (by decide) rfl rfl 8 (by decide) rfl lk44 rfl (v := .int (I 4 8)) rfl dX0_addAtMost_76 ?_
            refine lv_aload_n hx hb dX0_addAtMost_79 rfl (lv_at hl 0 rfl) ?_
            refine gx_get hx hb hts hinX0 hown G 4 (by decide) rfl rfl 7 (by decide) rfl lk48 rfl (v := .int (I 4 7)) rfl dX0_addAtMost_80 ?_
            refine lv_iadd hx hb dX0_addAtMost_83 ?_
            refine gx_iast hx hb G 15 (by decide) (rfl) (by decide) nl hnl (by omega) dX0_addAtMost_84 (fun H locs G => ?_)
            refine lv_aload_n hx hb dX0_addAtMost_85 rfl (lv_at hl 0 rfl) ?_
            refine lv_dup hx hb dX0_addAtMost_86 rfl ?_
            refine gx_get hx hb hts hinX0 hown G 4 (by decide) rfl rfl 7 (by decide) rfl lk48 rfl (v := .int (I 4 7)) rfl dX0_addAtMost_87 ?_
            refine lv_iconst (v := 1) hx hb dX0_addAtMost_90 (by decide) ?_
            refine lv_iadd hx hb dX0_addAtMost_91 ?_
            refine gx_putI hx hb hts hinX0 tyX0 tyX0_ok nmX0 hown G 4 (by decide) rfl rfl 7 (by decide) rfl lk48 rfl rfl (tyX0_ok 7 (by decide)) (rfl) (rfl) dX0_addAtMost_92 (fun H locs G => ?_)
            exact gx_vr hx hb hr hlocks G hQ (by rw [show r = nc by omega]; rfl) dX0_addAtMost_95
          · skip
            have n28 := gn_nle (X := nc) (Y := r) hnc rfl (by omega) (by omega) c28
            refine lv_aload_n hx hb dX0_addAtMost_31 rfl (lv_at hl 0 rfl) ?_
            refine gx_get hx hb hts hinX0 hown G 4 (by decide) rfl rfl 0 (by decide) rfl lk13 rfl (v := .ref (ad 13)) rfl dX0_addAtMost_32 ?_
            refine lv_aload_n hx hb dX0_addAtMost_35 rfl (lv_at hl 0 rfl) ?_
            refine gx_get hx hb hts hinX0 hown G 4 (by decide) rfl rfl 7 (by decide) rfl lk48 rfl (v := .int (I 4 7)) rfl dX0_addAtMost_36 ?_
            refine gx_aald hx hb G 13 (by decide) rfl (Or.inr rfl) (by decide) nl hnl (by omega) dX0_addAtMost_39 ?_
            refine lv_iload hx hb dX0_addAtMost_40 (lv_at hl 4 rfl) ?_
            refine lv_iload_n hx hb dX0_addAtMost_42 rfl (lv_at hl 2 rfl) ?_
            refine lv_aload_n hx hb dX0_addAtMost_43 rfl (lv_at hl 1 rfl) ?_
            refine lv_iload hx hb dX0_addAtMost_44 (lv_at hl 4 rfl) ?_
            refine gx_iald hx hb G kg (hkg) (hgs) (by decide) r rfl (by omega) dX0_addAtMost_46 ?_
            refine lv_imul hx hb dX0_addAtMost_47 ?_
            refine lv_i2l (v := (sg * (a kg r)).toInt64) hx hb dX0_addAtMost_48 rfl ?_
            refine gx_last hx hb G (48 + nl) (by omega) (gsh_T _ (by omega)) (by decide) r rfl (by omega) dX0_addAtMost_49 (fun H locs G => ?_)
            refine lv_iinc (v := (nI (r + 1))) (lv' := [(4, .int (nI (r + 1))), (0, .ref (ad 4)), (1, .ref (ad kg)), (2, .int sg), (3, .int ri)]) hx hb dX0_addAtMost_50 hl (k := 4) rfl (gn_add (X := r) (Y := 1) rfl rfl) (by decide) rfl (fun ls hl => ?_)
            refine lv_goto (tgt := 22) hx hb dX0_addAtMost_53 (by decide) ?_
            exact ih22  (r + 1) _ _ _ (by omega) (by omega) (gg_eq G rfl rfl rfl (by first | rfl | (simp only [d_addL, c28, reduceIte]; done) | (simp [d_addL, c28, reduceIte]; done))) (lv_sub hl [1, 2, 3, 4, 0] rfl)
      have q4 : 0 = nI 0 := by first | rfl | (simp only [d_addL, c6, c15, reduceIte]; done) | (simp [d_addL, c6, c15, reduceIte]; done)
      rw [q4] at hl
      exact K22 (nc - 0 + 1) 0 _ _ _ (by omega) (Nat.lt_succ_self _) (gg_eq G rfl rfl rfl (by first | rfl | (simp only [d_addL, c6, c15, reduceIte]; done) | (simp [d_addL, c6, c15, reduceIte]; done))) (lv_sub hl [1, 2, 3, 4, 0] rfl)
    · skip
      have n15 := gn_nle (X := nc) (Y := 5) hnc rfl (by omega) (by omega) c15
      exact absurd n15 (by omega)

set_option maxHeartbeats 4000000 in
set_option maxRecDepth 100000 in
theorem kX0_findPoint (l : Launch) (D : va_G) (ad : Nat → Nat) (cy : Nat → ClassId) (I : gF) (J : gL) (a : gF) (b : gL) (sz : Nat) (nl nc : Nat) (hnl : I 4 7 = nI nl) (hnl2 : nl ≤ 21) (hnc : I 4 8 = nI nc) (hnc2 : nc ≤ 5) : gMi l yX0_findPoint wsX0_findPoint ({ frames := 2, cells := 0, slots := 0, locals := 67 }) D ad cy I J a b sz [.ref (ad 4)] (fun r u => r = (d_find nl nc mPV (J, a, b)).1 ∧ u = (I, (d_find nl nc mPV (J, a, b)).2.1, (d_find nl nc mPV (J, a, b)).2.2.1, (d_find nl nc mPV (J, a, b)).2.2.2)) := by
  refine Met.ofW (cc := cX0_findPoint) (maxL := 4) (ret := some .boolean) (by decide) rfl ?_
  intro p e s m args below meth c s₁ B hml hv
  obtain ⟨hargs, hsz, G⟩ := gx_begin hv
  subst hsz
  have hx := B.exec
  have hb := B.bytes
  have hr := B.returns
  have hts := atoms_spec (ws := wsX0_findPoint) B.pre
  have hown : s.vm.findClass RX0 = some m.cls := findClass_of_methodNamed B.named
  have hlocks := B.notSynchronized
  have hl := lv_entry ([.ref (ad 4)]) (n := 4) (Nat.le_of_ble_eq_true rfl)
  have hent := lg_entry_eq m ([.ref (ad 4)]) 4
  rw [← hargs] at hent
  rw [hent]
  clear hent
  generalize (lg_sl ([.ref (ad 4)]) ++ List.replicate (4 - (lg_sl ([.ref (ad 4)])).length) Slot.unset).toArray = ls at hl ⊢
  have hl : lv_has ls 4 [(0, .ref (ad 4))] := hl
  generalize hA : gA ad s.heap.size = A at G ⊢
  generalize hH : s.heap = H at G ⊢
  refine gx_q (fun Q hQ => ?_)
  have hPV : mPV = 100000 := rfl
  refine lv_iconst (v := 0) hx hb dX0_findPoint_0 (by decide) ?_
  refine lv_istore_n (lv' := [(1, .int 0), (0, .ref (ad 4))]) hx hb dX0_findPoint_1 rfl hl (by decide) rfl (fun ls hl => ?_)
  have K2 : ∀ (nf : Nat) (i : Nat) (J2 : gL) (a2 : gF) (b2 : gL) (H : Heap) (locs : List Loc) (ls : Array Slot), (i ≤ mPV) → (d_find nl nc mPV (J, a, b) = d_find nl nc (mPV - i) (J2, a2, b2)) → mPV - i < nf → GG D ad cy A s I J2 a2 b2 H locs → lv_has ls 4 [(0, .ref (ad 4)), (1, .int (nI i))] → W p l e ({ frames := 2, cells := 0, slots := 0, locals := 67 }) s m args below meth c H locs 0 0 Q (F0 m 2 ls []) := by
    intro nf
    induction nf with
    | zero => exact fun _ _ _ _ _ _ _ _ _ hz => absurd hz (Nat.not_lt_zero _)
    | succ nf ih =>
      intro i J2 a2 b2 H locs ls h1 h2 hmeas G hl
      have ih2 := ih
      clear ih
      refine lv_iload_n hx hb dX0_findPoint_2 rfl (lv_at hl 1 rfl) ?_
      refine lv_ldc hx hb hown (hts (.constant RX0 54 100000) (by decide +kernel)) dX0_findPoint_3 ?_
      refine lv_icmp_ge (tgt := 43) hx hb dX0_findPoint_5 (by decide) (fun c5 => ?_) (fun c5 => ?_)
      · skip
        have n5 := gn_le (X := 100000) (Y := i) rfl rfl (by omega) (by omega) c5
        refine lv_iconst (v := 0) hx hb dX0_findPoint_43 (by decide) ?_
        exact gx_zr hx hb hr hlocks G hQ (rfl) ⟨by rw [h2, show mPV - i = 0 by omega]; rfl, by rw [h2, show mPV - i = 0 by omega]; rfl⟩ dX0_findPoint_44
      · skip
        have n5 := gn_nle (X := 100000) (Y := i) rfl rfl (by omega) (by omega) c5
        refine lv_aload_n hx hb dX0_findPoint_8 rfl (lv_at hl 0 rfl) ?_
        refine gx_dVi (v := (d_broken a2 b2 nl)) (I1 := I) (J1 := J2) (a1 := a2) (b1 := b2) (As := []) (rest := []) ⟨hx, hb, hml, hown, hts⟩ G 4 (kX0_brokenLine l D ad cy I J2 a2 b2 H.size nl hnl hnl2) (cwV 0 hts gX0_findPoint_X0_brokenLine rfl rfl rfl (by decide +kernel) ⟨Nat.le_of_ble_eq_true rfl, Nat.le_of_ble_eq_true rfl⟩) (by decide) rfl rfl rfl rfl hl.1 rfl (Nat.le_of_ble_eq_true rfl) ⟨Nat.zero_le _, Nat.zero_le _⟩ dX0_findPoint_9 (fun H locs G => ?_)
        refine lv_istore_n (lv' := [(2, .int (d_broken a2 b2 nl)), (0, .ref (ad 4)), (1, .int (nI i))]) hx hb dX0_findPoint_12 rfl hl (by decide) rfl (fun ls hl => ?_)
        refine lv_iload_n hx hb dX0_findPoint_13 rfl (lv_at hl 0 rfl) ?_
        refine lv_if_ge (tgt := 19) hx hb dX0_findPoint_14 (by decide) (fun c14 => ?_) (fun c14 => ?_)
        · skip
          obtain ⟨jr, hjr, ejr⟩ := (d_broken_ix a2 b2 nl).resolve_left (gx_notneg c14)
          have er := gx_clamp ejr (by omega)
          refine lv_aload_n hx hb dX0_findPoint_19 rfl (lv_at hl 1 rfl) ?_
          refine lv_iload_n hx hb dX0_findPoint_20 rfl (lv_at hl 0 rfl) ?_
          rw [ejr]
          refine gx_dVi (v := (d_mend a2 b2 jr nc)) (I1 := I) (J1 := J2) (a1 := a2) (b1 := b2) (As := [.int (nI jr)]) (rest := []) ⟨hx, hb, hml, hown, hts⟩ G 4 (kX0_mendingColumn l D ad cy I J2 a2 b2 H.size nc jr hnc hnc2 (by omega)) (cwV 1 hts gX0_findPoint_X0_mendingColumn rfl rfl rfl (by decide +kernel) ⟨Nat.le_of_ble_eq_true rfl, Nat.le_of_ble_eq_true rfl⟩) (by decide) rfl rfl rfl rfl hl.1 rfl (Nat.le_of_ble_eq_true rfl) ⟨Nat.zero_le _, Nat.zero_le _⟩ dX0_findPoint_21 (fun H locs G => ?_)
          refine lv_istore_n (lv' := [(3, .int (d_mend a2 b2 jr nc)), (2, .int (d_broken a2 b2 nl)), (0, .ref (ad 4)), (1, .int (nI i))]) hx hb dX0_findPoint_24 rfl hl (by decide) rfl (fun ls hl => ?_)
          refine lv_iload_n hx hb dX0_findPoint_25 rfl (lv_at hl 0 rfl) ?_
          refine lv_if_ge (tgt := 31) hx hb dX0_findPoint_26 (by decide) (fun c26 => ?_) (fun c26 => ?_)
          · skip
            obtain ⟨js, hjs, ejs⟩ := (d_mend_ix a2 b2 jr nc).resolve_left (gx_notneg c26)
            have es := gx_clamp ejs (by omega)
            refine lv_aload_n hx hb dX0_findPoint_31 rfl (lv_at hl 2 rfl) ?_
            refine lv_iload_n hx hb dX0_findPoint_32 rfl (lv_at hl 1 rfl) ?_
            refine lv_iload_n hx hb dX0_findPoint_33 rfl (lv_at hl 0 rfl) ?_
            rw [ejr, ejs]
            refine gx_dVv (I1 := I) (J1 := (d_pJ J2 b2 jr js)) (a1 := (d_pA J2 a2 b2 jr js)) (b1 := (d_pB J2 b2 nl nc jr js)) (As := [.int (nI jr), .int (nI js)]) (rest := []) ⟨hx, hb, hml, hown, hts⟩ G 4 (kX0_pivot l D ad cy I J2 a2 b2 H.size nl nc jr js hnl hnl2 hnc hnc2 (by omega) (by omega)) (cwV 2 hts gX0_findPoint_X0_pivot rfl rfl rfl (by decide +kernel) ⟨Nat.le_of_ble_eq_true rfl, Nat.le_of_ble_eq_true rfl⟩) (by decide) rfl rfl rfl rfl hl.1 rfl (Nat.le_of_ble_eq_true rfl) ⟨Nat.zero_le _, Nat.zero_le _⟩ dX0_findPoint_34 (fun H locs G => ?_)
            refine lv_iinc (v := (nI (i + 1))) (lv' := [(1, .int (nI (i + 1))), (3, .int (d_mend a2 b2 jr nc)), (2, .int (d_broken a2 b2 nl)), (0, .ref (ad 4))]) hx hb dX0_findPoint_37 hl (k := 3) rfl (gn_add (X := i) (Y := 1) rfl rfl) (by decide) rfl (fun ls hl => ?_)
            refine lv_goto (tgt := 2) hx hb dX0_findPoint_40 (by decide) ?_
            exact ih2  (i + 1) (d_pJ J2 b2 jr js) (d_pA J2 a2 b2 jr js) (d_pB J2 b2 nl nc jr js) _ _ _ (by omega) (by rw [h2, d_find_s nl nc _ n5]; simp only [c5, c14, er, c26, es, reduceIte]) (by omega) (gg_eq G rfl (by first | rfl | (simp only [c5, c14, er, c26, es, reduceIte]; done) | (simp [c5, c14, er, c26, es, reduceIte]; done)) (by first | rfl | (simp only [c5, c14, er, c26, es, reduceIte]; done) | (simp [c5, c14, er, c26, es, reduceIte]; done)) rfl) (lv_sub hl [3, 0] rfl)
          · skip
            refine lv_iconst (v := 0) hx hb dX0_findPoint_29 (by decide) ?_
            exact gx_zr hx hb hr hlocks G hQ (rfl) ⟨by rw [h2, d_find_s nl nc _ n5]; simp only [c5, c14, er, c26, reduceIte], by rw [h2, d_find_s nl nc _ n5]; simp only [c5, c14, er, c26, reduceIte]⟩ dX0_findPoint_30
        · skip
          refine lv_iconst (v := 1) hx hb dX0_findPoint_17 (by decide) ?_
          exact gx_zr hx hb hr hlocks G hQ (rfl) ⟨by rw [h2, d_find_s nl nc _ n5]; simp only [c5, c14, reduceIte], by rw [h2, d_find_s nl nc _ n5]; simp only [c5, c14, reduceIte]⟩ dX0_findPoint_18
  have q1 : 0 = nI 0 := by first | rfl | (simp only [reduceIte]; done) | (simp [reduceIte]; done)
  rw [q1] at hl
  exact K2 (mPV - 0 + 1) 0 J a b _ _ _ (by omega) (rfl) (Nat.lt_succ_self _) G (lv_sub hl [1, 0] rfl)

set_option maxHeartbeats 4000000 in
set_option maxRecDepth 100000 in
theorem kX0_minimise (l : Launch) (D : va_G) (ad : Nat → Nat) (cy : Nat → ClassId) (I : gF) (J : gL) (a : gF) (b : gL) (sz : Nat) (nl nc kg : Nat) (hnl : I 4 7 = nI nl) (hnl2 : nl ≤ 21) (hnc : I 4 8 = nI nc) (hnc2 : nc ≤ 5) (hkg : kg < 92) (hgs : gsh kg = .inr (0, 5, 0)) (hk15 : kg ≠ 15) (hk16 : kg ≠ 16) (hbas : d_nat (a 15) nl) (hout : d_nat (a 16) nc) : gMv l yX0_minimise wsX0_minimise ({ frames := 2, cells := 0, slots := 0, locals := 67 }) D ad cy I J a b sz [.ref (ad 4), .ref (ad kg)] (fun u => u = (I, (d_min I kg nl nc mPV (J, a, b)).1, (d_min I kg nl nc mPV (J, a, b)).2.1, (d_min I kg nl nc mPV (J, a, b)).2.2)) := by
  refine Met.ofW (cc := cX0_minimise) (maxL := 5) (ret := none) (by decide) rfl ?_
  intro p e s m args below meth c s₁ B hml hv
  obtain ⟨hargs, hsz, G⟩ := gx_begin hv
  subst hsz
  have hx := B.exec
  have hb := B.bytes
  have hr := B.returns
  have hts := atoms_spec (ws := wsX0_minimise) B.pre
  have hown : s.vm.findClass RX0 = some m.cls := findClass_of_methodNamed B.named
  have hlocks := B.notSynchronized
  have hinX0 : ∀ w ∈ wsX00, w ∈ wsX0_minimise := by decide +kernel
  have lk44 := hts (.fieldLink RX0 44 "ExactSimplex$Dictionary" "columns" "I") (by decide +kernel)
  have hl := lv_entry ([.ref (ad 4), .ref (ad kg)]) (n := 5) (Nat.le_of_ble_eq_true rfl)
  have hent := lg_entry_eq m ([.ref (ad 4), .ref (ad kg)]) 5
  rw [← hargs] at hent
  rw [hent]
  clear hent
  generalize (lg_sl ([.ref (ad 4), .ref (ad kg)]) ++ List.replicate (5 - (lg_sl ([.ref (ad 4), .ref (ad kg)])).length) Slot.unset).toArray = ls at hl ⊢
  have hl : lv_has ls 5 [(0, .ref (ad 4)), (1, .ref (ad kg))] := hl
  generalize hA : gA ad s.heap.size = A at G ⊢
  generalize hH : s.heap = H at G ⊢
  refine gx_q (fun Q hQ => ?_)
  have hPV : mPV = 100000 := rfl
  refine lv_aload_n hx hb dX0_minimise_0 rfl (lv_at hl 1 rfl) ?_
  refine gx_alen hx hb G kg (hkg) (hgs) (v := 5) rfl dX0_minimise_1 ?_
  refine lv_aload_n hx hb dX0_minimise_2 rfl (lv_at hl 0 rfl) ?_
  refine gx_get hx hb hts hinX0 hown G 4 (by decide) rfl rfl 8 (by decide) rfl lk44 rfl (v := .int (I 4 8)) rfl dX0_minimise_3 ?_
  refine lv_icmp_ge (tgt := 10) hx hb dX0_minimise_6 (by decide) (fun c6 => ?_) (fun c6 => ?_)
  · skip
    have n6 := gn_le (X := nc) (Y := 5) hnc rfl (by omega) (by omega) c6
    refine lv_iconst (v := 0) hx hb dX0_minimise_10 (by decide) ?_
    refine lv_istore_n (lv' := [(2, .int 0), (0, .ref (ad 4)), (1, .ref (ad kg))]) hx hb dX0_minimise_11 rfl hl (by decide) rfl (fun ls hl => ?_)
    have K12 : ∀ (nf : Nat) (i : Nat) (J2 : gL) (a2 : gF) (b2 : gL) (H : Heap) (locs : List Loc) (ls : Array Slot), (i ≤ mPV) → (d_min I kg nl nc mPV (J, a, b) = d_min I kg nl nc (mPV - i) (J2, a2, b2)) → (d_nat (a2 15) nl) → (d_nat (a2 16) nc) → mPV - i < nf → GG D ad cy A s I J2 a2 b2 H locs → lv_has ls 5 [(0, .ref (ad 4)), (1, .ref (ad kg)), (2, .int (nI i))] → W p l e ({ frames := 2, cells := 0, slots := 0, locals := 67 }) s m args below meth c H locs 0 0 Q (F0 m 12 ls []) := by
      intro nf
      induction nf with
      | zero => exact fun _ _ _ _ _ _ _ _ _ _ _ hz => absurd hz (Nat.not_lt_zero _)
      | succ nf ih =>
        intro i J2 a2 b2 H locs ls h1 h2 h15 h16 hmeas G hl
        have ih12 := ih
        clear ih
        refine lv_iload_n hx hb dX0_minimise_12 rfl (lv_at hl 2 rfl) ?_
        refine lv_ldc hx hb hown (hts (.constant RX0 54 100000) (by decide +kernel)) dX0_minimise_13 ?_
        refine lv_icmp_ge (tgt := 62) hx hb dX0_minimise_15 (by decide) (fun c15 => ?_) (fun c15 => ?_)
        · skip
          have n15 := gn_le (X := 100000) (Y := i) rfl rfl (by omega) (by omega) c15
          exact gx_vr hx hb hr hlocks G hQ (by rw [h2, show mPV - i = 0 by omega]; rfl) dX0_minimise_62
        · skip
          have n15 := gn_nle (X := 100000) (Y := i) rfl rfl (by omega) (by omega) c15
          refine lv_aload_n hx hb dX0_minimise_18 rfl (lv_at hl 0 rfl) ?_
          refine lv_aload_n hx hb dX0_minimise_19 rfl (lv_at hl 1 rfl) ?_
          refine gx_dVv (I1 := I) (J1 := J2) (a1 := a2) (b1 := (d_slopes I J2 a2 b2 kg nl nc)) (As := [.ref (ad kg)]) (rest := []) ⟨hx, hb, hml, hown, hts⟩ G 4 (kX0_findSlopes l D ad cy I J2 a2 b2 H.size nl nc kg hnl hnl2 hnc hnc2 hkg hgs h15 h16) (cwV 1 hts gX0_minimise_X0_findSlopes rfl rfl rfl (by decide +kernel) ⟨Nat.le_of_ble_eq_true rfl, Nat.le_of_ble_eq_true rfl⟩) (by decide) rfl rfl rfl rfl hl.1 rfl (Nat.le_of_ble_eq_true rfl) ⟨Nat.zero_le _, Nat.zero_le _⟩ dX0_minimise_20 (fun H locs G => ?_)
          generalize hb3 : d_slopes I J2 a2 b2 kg nl nc = b3 at G
          refine lv_aload_n hx hb dX0_minimise_23 rfl (lv_at hl 0 rfl) ?_
          refine gx_dVi (v := (d_fall a2 b3 nc)) (I1 := I) (J1 := J2) (a1 := a2) (b1 := b3) (As := []) (rest := []) ⟨hx, hb, hml, hown, hts⟩ G 4 (kX0_fallingColumn l D ad cy I J2 a2 b3 H.size nc hnc hnc2) (cwV 0 hts gX0_minimise_X0_fallingColumn rfl rfl rfl (by decide +kernel) ⟨Nat.le_of_ble_eq_true rfl, Nat.le_of_ble_eq_true rfl⟩) (by decide) rfl rfl rfl rfl hl.1 rfl (Nat.le_of_ble_eq_true rfl) ⟨Nat.zero_le _, Nat.zero_le _⟩ dX0_minimise_24 (fun H locs G => ?_)
          refine lv_istore_n (lv' := [(3, .int (d_fall a2 b3 nc)), (0, .ref (ad 4)), (1, .ref (ad kg)), (2, .int (nI i))]) hx hb dX0_minimise_27 rfl hl (by decide) rfl (fun ls hl => ?_)
          refine lv_iload_n hx hb dX0_minimise_28 rfl (lv_at hl 0 rfl) ?_
          refine lv_if_ge (tgt := 36) hx hb dX0_minimise_29 (by decide) (fun c29 => ?_) (fun c29 => ?_)
          · skip
            obtain ⟨js, hjs, ejs⟩ := (d_fall_ix a2 b3 nc).resolve_left (gx_notneg c29)
            have es := gx_clamp ejs (by omega)
            refine lv_aload_n hx hb dX0_minimise_36 rfl (lv_at hl 1 rfl) ?_
            refine lv_iload_n hx hb dX0_minimise_37 rfl (lv_at hl 0 rfl) ?_
            rw [ejs]
            refine gx_dVi (v := (d_stop a2 b3 js nl)) (I1 := I) (J1 := J2) (a1 := a2) (b1 := b3) (As := [.int (nI js)]) (rest := []) ⟨hx, hb, hml, hown, hts⟩ G 4 (kX0_firstStop l D ad cy I J2 a2 b3 H.size nl js hnl hnl2 (by omega)) (cwV 1 hts gX0_minimise_X0_firstStop rfl rfl rfl (by decide +kernel) ⟨Nat.le_of_ble_eq_true rfl, Nat.le_of_ble_eq_true rfl⟩) (by decide) rfl rfl rfl rfl hl.1 rfl (Nat.le_of_ble_eq_true rfl) ⟨Nat.zero_le _, Nat.zero_le _⟩ dX0_minimise_38 (fun H locs G => ?_)
            refine lv_istore (lv' := [(4, .int (d_stop a2 b3 js nl)), (3, .int (d_fall a2 b3 nc)), (0, .ref (ad 4)), (1, .ref (ad kg)), (2, .int (nI i))]) hx hb dX0_minimise_41 hl (by decide) rfl (fun ls hl => ?_)
            refine lv_iload hx hb dX0_minimise_43 (lv_at hl 0 rfl) ?_
            refine lv_if_ge (tgt := 49) hx hb dX0_minimise_45 (by decide) (fun c45 => ?_) (fun c45 => ?_)
            · skip
              obtain ⟨jr, hjr, ejr⟩ := (d_stop_ix a2 b3 js nl).resolve_left (gx_notneg c45)
              have er := gx_clamp ejr (by omega)
              refine lv_aload_n hx hb dX0_minimise_49 rfl (lv_at hl 2 rfl) ?_
              refine lv_iload hx hb dX0_minimise_50 (lv_at hl 0 rfl) ?_
              refine lv_iload_n hx hb dX0_minimise_52 rfl (lv_at hl 1 rfl) ?_
              rw [ejr, ejs]
              refine gx_dVv (I1 := I) (J1 := (d_pJ J2 b3 jr js)) (a1 := (d_pA J2 a2 b3 jr js)) (b1 := (d_pB J2 b3 nl nc jr js)) (As := [.int (nI jr), .int (nI js)]) (rest := []) ⟨hx, hb, hml, hown, hts⟩ G 4 (kX0_pivot l D ad cy I J2 a2 b3 H.size nl nc jr js hnl hnl2 hnc hnc2 (by omega) (by omega)) (cwV 2 hts gX0_minimise_X0_pivot rfl rfl rfl (by decide +kernel) ⟨Nat.le_of_ble_eq_true rfl, Nat.le_of_ble_eq_true rfl⟩) (by decide) rfl rfl rfl rfl hl.1 rfl (Nat.le_of_ble_eq_true rfl) ⟨Nat.zero_le _, Nat.zero_le _⟩ dX0_minimise_53 (fun H locs G => ?_)
              refine lv_iinc (v := (nI (i + 1))) (lv' := [(2, .int (nI (i + 1))), (4, .int (d_stop a2 b3 js nl)), (3, .int (d_fall a2 b3 nc)), (0, .ref (ad 4)), (1, .ref (ad kg))]) hx hb dX0_minimise_56 hl (k := 4) rfl (gn_add (X := i) (Y := 1) rfl rfl) (by decide) rfl (fun ls hl => ?_)
              refine lv_goto (tgt := 12) hx hb dX0_minimise_59 (by decide) ?_
              exact ih12  (i + 1) (d_pJ J2 b3 jr js) (d_pA J2 a2 b3 jr js) (d_pB J2 b3 nl nc jr js) _ _ _ (by omega) (by rw [h2, d_min_s I kg nl nc J2 a2 b2 b3 hb3 n15]; simp only [c15, c29, es, c45, er, reduceIte]) (d_pA_15 hjs h15 h16) (d_pA_16 hjr h15 h16) (by omega) G (lv_sub hl [3, 4, 0] rfl)
            · skip
              exact gx_vr hx hb hr hlocks G hQ (by rw [h2, d_min_s I kg nl nc J2 a2 b2 b3 hb3 n15]; simp only [c15, c29, es, c45, reduceIte]) dX0_minimise_48
          · skip
            refine lv_iconst (v := -1) hx hb dX0_minimise_32 (by decide) ?_
            refine lv_goto (tgt := 41) hx hb dX0_minimise_33 (by decide) ?_
            refine lv_istore (lv' := [(4, .int (-1)), (3, .int (d_fall a2 b3 nc)), (0, .ref (ad 4)), (1, .ref (ad kg)), (2, .int (nI i))]) hx hb dX0_minimise_41 hl (by decide) rfl (fun ls hl => ?_)
            refine lv_iload hx hb dX0_minimise_43 (lv_at hl 0 rfl) ?_
            refine lv_if_ge (tgt := 49) hx hb dX0_minimise_45 (by decide) (fun c45 => ?_) (fun c45 => ?_)
            · skip
              exact absurd c45 (by decide)
            · skip
              exact gx_vr hx hb hr hlocks G hQ (by rw [h2, d_min_s I kg nl nc J2 a2 b2 b3 hb3 n15]; simp only [c15, c29, c45, reduceIte]) dX0_minimise_48
    have q2 : 0 = nI 0 := by first | rfl | (simp only [c6, reduceIte]; done) | (simp [c6, reduceIte]; done)
    rw [q2] at hl
    exact K12 (mPV - 0 + 1) 0 J a b _ _ _ (by omega) (rfl) (hbas) (hout) (Nat.lt_succ_self _) G (lv_sub hl [1, 2, 0] rfl)
  · skip
    have n6 := gn_nle (X := nc) (Y := 5) hnc rfl (by omega) (by omega) c6
    exact absurd n6 (by omega)
end
section
/-! Problem: a 6 lows, a 7 highs, a 8 costs, a 9 senses, a 10 rights, a (40 + r) factors of row r, a 12 there; I 1 7 names, I 1 8 rows -/
def p_hasN (I : gF) (v : Int32) : Int32 := if v < 0 then 0 else if I 1 7 ≤ v then 0 else 1
def p_hasR (I a : gF) (v : Int32) : Int32 := if v < 0 then 0 else if I 1 8 ≤ v then 0 else if a 12 v.toNatClampNeg = 0 then 0 else 1
def p_addNA (a : gF) (nn : Nat) (lo hi : Int32) : gF := gU (gU (gU a 6 nn lo) 7 nn hi) 8 nn 0
def p_wipe (a : gF) (nr : Nat) : Nat → gF
  | 0 => a
  | n + 1 => gU (p_wipe a nr n) (40 + nr) n 0
def p_addRA (a : gF) (nr : Nat) (se ri : Int32) : gF := p_wipe (gU (gU (gU a 9 nr se) 10 nr ri) 12 nr 1) nr 5
def p_cnt (a : gF) : Nat → Int32
  | 0 => 0
  | n + 1 => if a 12 n = 0 then p_cnt a n else p_cnt a n + 1
def p_cw (a : gF) : Nat → Int64
  | 0 => 1
  | n + 1 => p_cw a n * (a 7 n - a 6 n + 1).toInt64
def p_above (a : gF) (r : Nat) : Int32 := if a 9 r = 0 then 1 else if a 9 r = 1 then 1 else 0
def p_below (a : gF) (r : Nat) : Int32 := if a 9 r = 2 then 1 else if a 9 r = 1 then 1 else 0

set_option maxHeartbeats 4000000 in
set_option maxRecDepth 100000 in
theorem kX1_hasName (l : Launch) (D : va_G) (ad : Nat → Nat) (cy : Nat → ClassId) (I : gF) (J : gL) (a : gF) (b : gL) (sz : Nat) (v : Int32)  : gMi l yX1_hasName wsX1_hasName ({ frames := 0, cells := 0, slots := 0, locals := 0 }) D ad cy I J a b sz [.ref (ad 1), .int v] (fun r u => r = p_hasN I v ∧ u = (I, J, a, b)) := by
  refine Met.ofW (cc := cX1_hasName) (maxL := 2) (ret := some .boolean) (by decide) rfl ?_
  intro p e s m args below meth c s₁ B hml hv
  obtain ⟨hargs, hsz, G⟩ := gx_begin hv
  subst hsz
  have hx := B.exec
  have hb := B.bytes
  have hr := B.returns
  have hts := atoms_spec (ws := wsX1_hasName) B.pre
  have hown : s.vm.findClass RX1 = some m.cls := findClass_of_methodNamed B.named
  have hlocks := B.notSynchronized
  have hinX1 : ∀ w ∈ wsX10, w ∈ wsX1_hasName := by decide +kernel
  have lk36 := hts (.fieldLink RX1 36 "ExactSimplex$Problem" "names" "I") (by decide +kernel)
  have hl := lv_entry ([.ref (ad 1), .int v]) (n := 2) (Nat.le_of_ble_eq_true rfl)
  have hent := lg_entry_eq m ([.ref (ad 1), .int v]) 2
  rw [← hargs] at hent
  rw [hent]
  clear hent
  generalize (lg_sl ([.ref (ad 1), .int v]) ++ List.replicate (2 - (lg_sl ([.ref (ad 1), .int v])).length) Slot.unset).toArray = ls at hl ⊢
  have hl : lv_has ls 2 [(0, .ref (ad 1)), (1, .int v)] := hl
  generalize hA : gA ad s.heap.size = A at G ⊢
  generalize hH : s.heap = H at G ⊢
  refine gx_q (fun Q hQ => ?_)
  refine lv_iload_n hx hb dX1_hasName_0 rfl (lv_at hl 1 rfl) ?_
  refine lv_if_lt (tgt := 16) hx hb dX1_hasName_1 (by decide) (fun c1 => ?_) (fun c1 => ?_)
  · skip
    refine lv_iconst (v := 0) hx hb dX1_hasName_16 (by decide) ?_
    exact gx_zr hx hb hr hlocks G hQ (rfl) ⟨by first | rfl | (simp only [p_hasN, c1, reduceIte]; done) | (simp [p_hasN, c1, reduceIte]; done), rfl⟩ dX1_hasName_17
  · skip
    refine lv_iload_n hx hb dX1_hasName_4 rfl (lv_at hl 1 rfl) ?_
    refine lv_aload_n hx hb dX1_hasName_5 rfl (lv_at hl 0 rfl) ?_
    refine gx_get hx hb hts hinX1 hown G 1 (by decide) rfl rfl 7 (by decide) rfl lk36 rfl (v := .int (I 1 7)) rfl dX1_hasName_6 ?_
    refine lv_icmp_ge (tgt := 16) hx hb dX1_hasName_9 (by decide) (fun c9 => ?_) (fun c9 => ?_)
    · skip
      refine lv_iconst (v := 0) hx hb dX1_hasName_16 (by decide) ?_
      exact gx_zr hx hb hr hlocks G hQ (rfl) ⟨by first | rfl | (simp only [p_hasN, c1, c9, reduceIte]; done) | (simp [p_hasN, c1, c9, reduceIte]; done), rfl⟩ dX1_hasName_17
    · skip
      refine lv_iconst (v := 1) hx hb dX1_hasName_12 (by decide) ?_
      refine lv_goto (tgt := 17) hx hb dX1_hasName_13 (by decide) ?_
      exact gx_zr hx hb hr hlocks G hQ (rfl) ⟨by first | rfl | (simp only [p_hasN, c1, c9, reduceIte]; done) | (simp [p_hasN, c1, c9, reduceIte]; done), rfl⟩ dX1_hasName_17

set_option maxHeartbeats 4000000 in
set_option maxRecDepth 100000 in
theorem kX1_hasRow (l : Launch) (D : va_G) (ad : Nat → Nat) (cy : Nat → ClassId) (I : gF) (J : gL) (a : gF) (b : gL) (sz : Nat) (nr : Nat) (v : Int32) (hnr : I 1 8 = nI nr) (hnr2 : nr ≤ 8) : gMi l yX1_hasRow wsX1_hasRow ({ frames := 0, cells := 0, slots := 0, locals := 0 }) D ad cy I J a b sz [.ref (ad 1), .int v] (fun r u => r = p_hasR I a v ∧ u = (I, J, a, b)) := by
  refine Met.ofW (cc := cX1_hasRow) (maxL := 2) (ret := some .boolean) (by decide) rfl ?_
  intro p e s m args below meth c s₁ B hml hv
  obtain ⟨hargs, hsz, G⟩ := gx_begin hv
  subst hsz
  have hx := B.exec
  have hb := B.bytes
  have hr := B.returns
  have hts := atoms_spec (ws := wsX1_hasRow) B.pre
  have hown : s.vm.findClass RX1 = some m.cls := findClass_of_methodNamed B.named
  have hlocks := B.notSynchronized
  have hinX1 : ∀ w ∈ wsX10, w ∈ wsX1_hasRow := by decide +kernel
  have lk32 := hts (.fieldLink RX1 32 "ExactSimplex$Problem" "there" "[Z") (by decide +kernel)
  have lk40 := hts (.fieldLink RX1 40 "ExactSimplex$Problem" "rows" "I") (by decide +kernel)
  have hl := lv_entry ([.ref (ad 1), .int v]) (n := 2) (Nat.le_of_ble_eq_true rfl)
  have hent := lg_entry_eq m ([.ref (ad 1), .int v]) 2
  rw [← hargs] at hent
  rw [hent]
  clear hent
  generalize (lg_sl ([.ref (ad 1), .int v]) ++ List.replicate (2 - (lg_sl ([.ref (ad 1), .int v])).length) Slot.unset).toArray = ls at hl ⊢
  have hl : lv_has ls 2 [(0, .ref (ad 1)), (1, .int v)] := hl
  generalize hA : gA ad s.heap.size = A at G ⊢
  generalize hH : s.heap = H at G ⊢
  refine gx_q (fun Q hQ => ?_)
  refine lv_iload_n hx hb dX1_hasRow_0 rfl (lv_at hl 1 rfl) ?_
  refine lv_if_lt (tgt := 25) hx hb dX1_hasRow_1 (by decide) (fun c1 => ?_) (fun c1 => ?_)
  · skip
    refine lv_iconst (v := 0) hx hb dX1_hasRow_25 (by decide) ?_
    exact gx_zr hx hb hr hlocks G hQ (rfl) ⟨by first | rfl | (simp only [p_hasR, c1, reduceIte]; done) | (simp [p_hasR, c1, reduceIte]; done), rfl⟩ dX1_hasRow_26
  · skip
    refine lv_iload_n hx hb dX1_hasRow_4 rfl (lv_at hl 1 rfl) ?_
    refine lv_aload_n hx hb dX1_hasRow_5 rfl (lv_at hl 0 rfl) ?_
    refine gx_get hx hb hts hinX1 hown G 1 (by decide) rfl rfl 8 (by decide) rfl lk40 rfl (v := .int (I 1 8)) rfl dX1_hasRow_6 ?_
    refine lv_icmp_ge (tgt := 25) hx hb dX1_hasRow_9 (by decide) (fun c9 => ?_) (fun c9 => ?_)
    · skip
      refine lv_iconst (v := 0) hx hb dX1_hasRow_25 (by decide) ?_
      exact gx_zr hx hb hr hlocks G hQ (rfl) ⟨by first | rfl | (simp only [p_hasR, c1, c9, reduceIte]; done) | (simp [p_hasR, c1, c9, reduceIte]; done), rfl⟩ dX1_hasRow_26
    · skip
      obtain ⟨j, hj, ej⟩ := nI_of c1
      have hjn := gn_nle (X := nr) (Y := j) hnr ej (by omega) hj c9
      have ecl := gx_clamp ej hj
      refine lv_aload_n hx hb dX1_hasRow_12 rfl (lv_at hl 0 rfl) ?_
      refine gx_get hx hb hts hinX1 hown G 1 (by decide) rfl rfl 6 (by decide) rfl lk32 rfl (v := .ref (ad 12)) rfl dX1_hasRow_13 ?_
      refine lv_iload_n hx hb dX1_hasRow_16 rfl (lv_at hl 1 rfl) ?_
      refine gx_zald hx hb G 12 (by decide) (rfl) (by decide) j ej (by omega) dX1_hasRow_17 ?_
      refine lv_if_eq (tgt := 25) hx hb dX1_hasRow_18 (by decide) (fun c18 => ?_) (fun c18 => ?_)
      · skip
        refine lv_iconst (v := 0) hx hb dX1_hasRow_25 (by decide) ?_
        exact gx_zr hx hb hr hlocks G hQ (rfl) ⟨by first | rfl | (simp only [p_hasR, c1, c9, ecl, c18, reduceIte]; done) | (simp [p_hasR, c1, c9, ecl, c18, reduceIte]; done), rfl⟩ dX1_hasRow_26
      · skip
        refine lv_iconst (v := 1) hx hb dX1_hasRow_21 (by decide) ?_
        refine lv_goto (tgt := 26) hx hb dX1_hasRow_22 (by decide) ?_
        exact gx_zr hx hb hr hlocks G hQ (rfl) ⟨by first | rfl | (simp only [p_hasR, c1, c9, ecl, c18, reduceIte]; done) | (simp [p_hasR, c1, c9, ecl, c18, reduceIte]; done), rfl⟩ dX1_hasRow_26

set_option maxHeartbeats 4000000 in
set_option maxRecDepth 100000 in
theorem kX1_addName (l : Launch) (D : va_G) (ad : Nat → Nat) (cy : Nat → ClassId) (I : gF) (J : gL) (a : gF) (b : gL) (sz : Nat) (nn : Nat) (lo hi : Int32) (hnn : I 1 7 = nI nn) (hnn2 : nn ≤ 5) : gMi l yX1_addName wsX1_addName ({ frames := 0, cells := 0, slots := 0, locals := 0 }) D ad cy I J a b sz [.ref (ad 1), .int lo, .int hi] (fun r u => r = (if I 1 7 < 5 then I 1 7 else -4) ∧ u = (if I 1 7 < 5 then gU I 1 7 (I 1 7 + 1) else I, J, if I 1 7 < 5 then p_addNA a nn lo hi else a, b)) := by
  refine Met.ofW (cc := cX1_addName) (maxL := 4) (ret := some .int) (by decide) rfl ?_
  intro p e s m args below meth c s₁ B hml hv
  obtain ⟨hargs, hsz, G⟩ := gx_begin hv
  subst hsz
  have hx := B.exec
  have hb := B.bytes
  have hr := B.returns
  have hts := atoms_spec (ws := wsX1_addName) B.pre
  have hown : s.vm.findClass RX1 = some m.cls := findClass_of_methodNamed B.named
  have hlocks := B.notSynchronized
  have hinX1 : ∀ w ∈ wsX10, w ∈ wsX1_addName := by decide +kernel
  have lk9 := hts (.fieldLink RX1 9 "ExactSimplex$Problem" "lows" "[I") (by decide +kernel)
  have lk15 := hts (.fieldLink RX1 15 "ExactSimplex$Problem" "highs" "[I") (by decide +kernel)
  have lk18 := hts (.fieldLink RX1 18 "ExactSimplex$Problem" "costs" "[I") (by decide +kernel)
  have lk36 := hts (.fieldLink RX1 36 "ExactSimplex$Problem" "names" "I") (by decide +kernel)
  have hl := lv_entry ([.ref (ad 1), .int lo, .int hi]) (n := 4) (Nat.le_of_ble_eq_true rfl)
  have hent := lg_entry_eq m ([.ref (ad 1), .int lo, .int hi]) 4
  rw [← hargs] at hent
  rw [hent]
  clear hent
  generalize (lg_sl ([.ref (ad 1), .int lo, .int hi]) ++ List.replicate (4 - (lg_sl ([.ref (ad 1), .int lo, .int hi])).length) Slot.unset).toArray = ls at hl ⊢
  have hl : lv_has ls 4 [(0, .ref (ad 1)), (1, .int lo), (2, .int hi)] := hl
  generalize hA : gA ad s.heap.size = A at G ⊢
  generalize hH : s.heap = H at G ⊢
  refine gx_q (fun Q hQ => ?_)
  refine lv_aload_n hx hb dX1_addName_0 rfl (lv_at hl 0 rfl) ?_
  refine gx_get hx hb hts hinX1 hown G 1 (by decide) rfl rfl 7 (by decide) rfl lk36 rfl (v := .int (I 1 7)) rfl dX1_addName_1 ?_
  refine lv_istore_n (lv' := [(3, .int (I 1 7)), (0, .ref (ad 1)), (1, .int lo), (2, .int hi)]) hx hb dX1_addName_4 rfl hl (by decide) rfl (fun ls hl => ?_)
  refine lv_iload_n hx hb dX1_addName_5 rfl (lv_at hl 0 rfl) ?_
  refine lv_iconst (v := 5) hx hb dX1_addName_6 (by decide) ?_
  refine lv_icmp_lt (tgt := 13) hx hb dX1_addName_7 (by decide) (fun c7 => ?_) (fun c7 => ?_)
  · skip
    have n7 := gn_lt (X := nn) (Y := 5) hnn rfl (by omega) (by omega) c7
    refine lv_aload_n hx hb dX1_addName_13 rfl (lv_at hl 1 rfl) ?_
    refine gx_get hx hb hts hinX1 hown G 1 (by decide) rfl rfl 0 (by decide) rfl lk9 rfl (v := .ref (ad 6)) rfl dX1_addName_14 ?_
    refine lv_iload_n hx hb dX1_addName_17 rfl (lv_at hl 0 rfl) ?_
    refine lv_iload_n hx hb dX1_addName_18 rfl (lv_at hl 2 rfl) ?_
    refine gx_iast hx hb G 6 (by decide) (rfl) (by decide) nn hnn (by omega) dX1_addName_19 (fun H locs G => ?_)
    refine lv_aload_n hx hb dX1_addName_20 rfl (lv_at hl 1 rfl) ?_
    refine gx_get hx hb hts hinX1 hown G 1 (by decide) rfl rfl 1 (by decide) rfl lk15 rfl (v := .ref (ad 7)) rfl dX1_addName_21 ?_
    refine lv_iload_n hx hb dX1_addName_24 rfl (lv_at hl 0 rfl) ?_
    refine lv_iload_n hx hb dX1_addName_25 rfl (lv_at hl 3 rfl) ?_
    refine gx_iast hx hb G 7 (by decide) (rfl) (by decide) nn hnn (by omega) dX1_addName_26 (fun H locs G => ?_)
    refine lv_aload_n hx hb dX1_addName_27 rfl (lv_at hl 1 rfl) ?_
    refine gx_get hx hb hts hinX1 hown G 1 (by decide) rfl rfl 2 (by decide) rfl lk18 rfl (v := .ref (ad 8)) rfl dX1_addName_28 ?_
    refine lv_iload_n hx hb dX1_addName_31 rfl (lv_at hl 0 rfl) ?_
    refine lv_iconst (v := 0) hx hb dX1_addName_32 (by decide) ?_
    refine gx_iast hx hb G 8 (by decide) (rfl) (by decide) nn hnn (by omega) dX1_addName_33 (fun H locs G => ?_)
    refine lv_aload_n hx hb dX1_addName_34 rfl (lv_at hl 1 rfl) ?_
    refine lv_dup hx hb dX1_addName_35 rfl ?_
    refine gx_get hx hb hts hinX1 hown G 1 (by decide) rfl rfl 7 (by decide) rfl lk36 rfl (v := .int (I 1 7)) rfl dX1_addName_36 ?_
    refine lv_iconst (v := 1) hx hb dX1_addName_39 (by decide) ?_
    refine lv_iadd hx hb dX1_addName_40 ?_
    refine gx_putI hx hb hts hinX1 tyX1 tyX1_ok nmX1 hown G 1 (by decide) rfl rfl 7 (by decide) rfl lk36 rfl rfl (tyX1_ok 7 (by decide)) (rfl) (rfl) dX1_addName_41 (fun H locs G => ?_)
    refine lv_iload_n hx hb dX1_addName_44 rfl (lv_at hl 0 rfl) ?_
    exact gx_ir hx hb hr hlocks G hQ ⟨by simp only [c7, reduceIte], by simp only [c7, reduceIte, p_addNA]⟩ dX1_addName_45
  · skip
    have n7 := gn_nlt (X := nn) (Y := 5) hnn rfl (by omega) (by omega) c7
    refine lv_bipush (v := -4) hx hb dX1_addName_10 (by decide) ?_
    exact gx_ir hx hb hr hlocks G hQ ⟨by simp only [c7, reduceIte], by simp only [c7, reduceIte]⟩ dX1_addName_12

set_option maxHeartbeats 4000000 in
set_option maxRecDepth 100000 in
theorem kX1_addRow (l : Launch) (D : va_G) (ad : Nat → Nat) (cy : Nat → ClassId) (I : gF) (J : gL) (a : gF) (b : gL) (sz : Nat) (nr : Nat) (se ri : Int32) (hnr : I 1 8 = nI nr) (hnr2 : nr ≤ 8) : gMi l yX1_addRow wsX1_addRow ({ frames := 0, cells := 0, slots := 0, locals := 0 }) D ad cy I J a b sz [.ref (ad 1), .int se, .int ri] (fun r u => r = (if I 1 8 < 8 then I 1 8 else -4) ∧ u = (if I 1 8 < 8 then gU I 1 8 (I 1 8 + 1) else I, J, if I 1 8 < 8 then p_addRA a nr se ri else a, b)) := by
  refine Met.ofW (cc := cX1_addRow) (maxL := 5) (ret := some .int) (by decide) rfl ?_
  intro p e s m args below meth c s₁ B hml hv
  obtain ⟨hargs, hsz, G⟩ := gx_begin hv
  subst hsz
  have hx := B.exec
  have hb := B.bytes
  have hr := B.returns
  have hts := atoms_spec (ws := wsX1_addRow) B.pre
  have hown : s.vm.findClass RX1 = some m.cls := findClass_of_methodNamed B.named
  have hlocks := B.notSynchronized
  have hinX1 : ∀ w ∈ wsX10, w ∈ wsX1_addRow := by decide +kernel
  have lk21 := hts (.fieldLink RX1 21 "ExactSimplex$Problem" "senses" "[I") (by decide +kernel)
  have lk24 := hts (.fieldLink RX1 24 "ExactSimplex$Problem" "rights" "[I") (by decide +kernel)
  have lk29 := hts (.fieldLink RX1 29 "ExactSimplex$Problem" "factors" "[[I") (by decide +kernel)
  have lk32 := hts (.fieldLink RX1 32 "ExactSimplex$Problem" "there" "[Z") (by decide +kernel)
  have lk40 := hts (.fieldLink RX1 40 "ExactSimplex$Problem" "rows" "I") (by decide +kernel)
  have hl := lv_entry ([.ref (ad 1), .int se, .int ri]) (n := 5) (Nat.le_of_ble_eq_true rfl)
  have hent := lg_entry_eq m ([.ref (ad 1), .int se, .int ri]) 5
  rw [← hargs] at hent
  rw [hent]
  clear hent
  generalize (lg_sl ([.ref (ad 1), .int se, .int ri]) ++ List.replicate (5 - (lg_sl ([.ref (ad 1), .int se, .int ri])).length) Slot.unset).toArray = ls at hl ⊢
  have hl : lv_has ls 5 [(0, .ref (ad 1)), (1, .int se), (2, .int ri)] := hl
  generalize hA : gA ad s.heap.size = A at G ⊢
  generalize hH : s.heap = H at G ⊢
  refine gx_q (fun Q hQ => ?_)
  refine lv_aload_n hx hb dX1_addRow_0 rfl (lv_at hl 0 rfl) ?_
  refine gx_get hx hb hts hinX1 hown G 1 (by decide) rfl rfl 8 (by decide) rfl lk40 rfl (v := .int (I 1 8)) rfl dX1_addRow_1 ?_
  refine lv_istore_n (lv' := [(3, .int (I 1 8)), (0, .ref (ad 1)), (1, .int se), (2, .int ri)]) hx hb dX1_addRow_4 rfl hl (by decide) rfl (fun ls hl => ?_)
  refine lv_iload_n hx hb dX1_addRow_5 rfl (lv_at hl 0 rfl) ?_
  refine lv_bipush (v := 8) hx hb dX1_addRow_6 (by decide) ?_
  refine lv_icmp_lt (tgt := 14) hx hb dX1_addRow_8 (by decide) (fun c8 => ?_) (fun c8 => ?_)
  · skip
    have n8 := gn_lt (X := nr) (Y := 8) hnr rfl (by omega) (by omega) c8
    refine lv_aload_n hx hb dX1_addRow_14 rfl (lv_at hl 1 rfl) ?_
    refine gx_get hx hb hts hinX1 hown G 1 (by decide) rfl rfl 3 (by decide) rfl lk21 rfl (v := .ref (ad 9)) rfl dX1_addRow_15 ?_
    refine lv_iload_n hx hb dX1_addRow_18 rfl (lv_at hl 0 rfl) ?_
    refine lv_iload_n hx hb dX1_addRow_19 rfl (lv_at hl 2 rfl) ?_
    refine gx_iast hx hb G 9 (by decide) (rfl) (by decide) nr hnr (by omega) dX1_addRow_20 (fun H locs G => ?_)
    refine lv_aload_n hx hb dX1_addRow_21 rfl (lv_at hl 1 rfl) ?_
    refine gx_get hx hb hts hinX1 hown G 1 (by decide) rfl rfl 4 (by decide) rfl lk24 rfl (v := .ref (ad 10)) rfl dX1_addRow_22 ?_
    refine lv_iload_n hx hb dX1_addRow_25 rfl (lv_at hl 0 rfl) ?_
    refine lv_iload_n hx hb dX1_addRow_26 rfl (lv_at hl 3 rfl) ?_
    refine gx_iast hx hb G 10 (by decide) (rfl) (by decide) nr hnr (by omega) dX1_addRow_27 (fun H locs G => ?_)
    refine lv_aload_n hx hb dX1_addRow_28 rfl (lv_at hl 1 rfl) ?_
    refine gx_get hx hb hts hinX1 hown G 1 (by decide) rfl rfl 6 (by decide) rfl lk32 rfl (v := .ref (ad 12)) rfl dX1_addRow_29 ?_
    refine lv_iload_n hx hb dX1_addRow_32 rfl (lv_at hl 0 rfl) ?_
    refine lv_iconst (v := 1) hx hb dX1_addRow_33 (by decide) ?_
    refine gx_zast hx hb G 12 (by decide) (rfl) (by decide) nr hnr (by omega) (rfl) dX1_addRow_34 (fun H locs G => ?_)
    refine lv_iconst (v := 0) hx hb dX1_addRow_35 (by decide) ?_
    refine lv_istore (lv' := [(4, .int 0), (3, .int (I 1 8)), (0, .ref (ad 1)), (1, .int se), (2, .int ri)]) hx hb dX1_addRow_36 hl (by decide) rfl (fun ls hl => ?_)
    have K38 : ∀ (nf : Nat) (r : Nat) (H : Heap) (locs : List Loc) (ls : Array Slot), (r ≤ 5) → 5 - r < nf → GG D ad cy A s I J (p_wipe (gU (gU (gU a 9 nr se) 10 nr ri) 12 nr 1) nr r) b H locs → lv_has ls 5 [(0, .ref (ad 1)), (1, .int se), (2, .int ri), (3, .int (I 1 8)), (4, .int (nI r))] → W p l e ({ frames := 0, cells := 0, slots := 0, locals := 0 }) s m args below meth c H locs 0 0 Q (F0 m 38 ls []) := by
      intro nf
      induction nf with
      | zero => exact fun _ _ _ _ _ hz => absurd hz (Nat.not_lt_zero _)
      | succ nf ih =>
        intro r H locs ls h1 hmeas G hl
        have ih38 := ih
        clear ih
        refine lv_iload hx hb dX1_addRow_38 (lv_at hl 4 rfl) ?_
        refine lv_iconst (v := 5) hx hb dX1_addRow_40 (by decide) ?_
        refine lv_icmp_ge (tgt := 60) hx hb dX1_addRow_41 (by decide) (fun c41 => ?_) (fun c41 => ?_)
        · skip
          have n41 := gn_le (X := 5) (Y := r) rfl rfl (by omega) (by omega) c41
          refine lv_aload_n hx hb dX1_addRow_60 rfl (lv_at hl 0 rfl) ?_
          refine lv_dup hx hb dX1_addRow_61 rfl ?_
          refine gx_get hx hb hts hinX1 hown G 1 (by decide) rfl rfl 8 (by decide) rfl lk40 rfl (v := .int (I 1 8)) rfl dX1_addRow_62 ?_
          refine lv_iconst (v := 1) hx hb dX1_addRow_65 (by decide) ?_
          refine lv_iadd hx hb dX1_addRow_66 ?_
          refine gx_putI hx hb hts hinX1 tyX1 tyX1_ok nmX1 hown G 1 (by decide) rfl rfl 8 (by decide) rfl lk40 rfl rfl (tyX1_ok 8 (by decide)) (rfl) (rfl) dX1_addRow_67 (fun H locs G => ?_)
          refine lv_iload_n hx hb dX1_addRow_70 rfl (lv_at hl 3 rfl) ?_
          exact gx_ir hx hb hr hlocks G hQ ⟨by simp only [c8, c41, reduceIte], by rw [show r = 5 by omega]; simp only [c8, c41, reduceIte, p_addRA]⟩ dX1_addRow_71
        · skip
          have n41 := gn_nle (X := 5) (Y := r) rfl rfl (by omega) (by omega) c41
          refine lv_aload_n hx hb dX1_addRow_44 rfl (lv_at hl 0 rfl) ?_
          refine gx_get hx hb hts hinX1 hown G 1 (by decide) rfl rfl 5 (by decide) rfl lk29 rfl (v := .ref (ad 11)) rfl dX1_addRow_45 ?_
          refine lv_iload_n hx hb dX1_addRow_48 rfl (lv_at hl 3 rfl) ?_
          refine gx_aald hx hb G 11 (by decide) rfl (Or.inl rfl) (by decide) nr hnr (by omega) dX1_addRow_49 ?_
          refine lv_iload hx hb dX1_addRow_50 (lv_at hl 4 rfl) ?_
          refine lv_iconst (v := 0) hx hb dX1_addRow_52 (by decide) ?_
          refine gx_iast hx hb G (40 + nr) (by omega) (gsh_F _ (by omega)) (by decide) r rfl (by omega) dX1_addRow_53 (fun H locs G => ?_)
          refine lv_iinc (v := (nI (r + 1))) (lv' := [(4, .int (nI (r + 1))), (0, .ref (ad 1)), (1, .int se), (2, .int ri), (3, .int (I 1 8))]) hx hb dX1_addRow_54 hl (k := 4) rfl (gn_add (X := r) (Y := 1) rfl rfl) (by decide) rfl (fun ls hl => ?_)
          refine lv_goto (tgt := 38) hx hb dX1_addRow_57 (by decide) ?_
          exact ih38  (r + 1) _ _ _ (by omega) (by omega) (gg_eq G rfl rfl (by first | rfl | (simp only [p_wipe, c41, reduceIte]; done) | (simp [p_wipe, c41, reduceIte]; done)) rfl) (lv_sub hl [1, 2, 3, 4, 0] rfl)
    exact K38 (5 - 0 + 1) 0 _ _ _ (by omega) (Nat.lt_succ_self _) (gg_eq G rfl rfl (by first | rfl | (simp only [p_wipe, c8, reduceIte]; done) | (simp [p_wipe, c8, reduceIte]; done)) rfl) (lv_sub hl [2, 3, 4, 1, 0] rfl)
  · skip
    have n8 := gn_nlt (X := nr) (Y := 8) hnr rfl (by omega) (by omega) c8
    refine lv_bipush (v := -4) hx hb dX1_addRow_11 (by decide) ?_
    exact gx_ir hx hb hr hlocks G hQ ⟨by simp only [c8, reduceIte], by simp only [c8, reduceIte]⟩ dX1_addRow_13

set_option maxHeartbeats 4000000 in
set_option maxRecDepth 100000 in
theorem kX1_countRows (l : Launch) (D : va_G) (ad : Nat → Nat) (cy : Nat → ClassId) (I : gF) (J : gL) (a : gF) (b : gL) (sz : Nat) (nr : Nat) (hnr : I 1 8 = nI nr) (hnr2 : nr ≤ 8) : gMi l yX1_countRows wsX1_countRows ({ frames := 0, cells := 0, slots := 0, locals := 0 }) D ad cy I J a b sz [.ref (ad 1)] (fun r u => r = p_cnt a nr ∧ u = (I, J, a, b)) := by
  refine Met.ofW (cc := cX1_countRows) (maxL := 3) (ret := some .int) (by decide) rfl ?_
  intro p e s m args below meth c s₁ B hml hv
  obtain ⟨hargs, hsz, G⟩ := gx_begin hv
  subst hsz
  have hx := B.exec
  have hb := B.bytes
  have hr := B.returns
  have hts := atoms_spec (ws := wsX1_countRows) B.pre
  have hown : s.vm.findClass RX1 = some m.cls := findClass_of_methodNamed B.named
  have hlocks := B.notSynchronized
  have hinX1 : ∀ w ∈ wsX10, w ∈ wsX1_countRows := by decide +kernel
  have lk32 := hts (.fieldLink RX1 32 "ExactSimplex$Problem" "there" "[Z") (by decide +kernel)
  have lk40 := hts (.fieldLink RX1 40 "ExactSimplex$Problem" "rows" "I") (by decide +kernel)
  have hl := lv_entry ([.ref (ad 1)]) (n := 3) (Nat.le_of_ble_eq_true rfl)
  have hent := lg_entry_eq m ([.ref (ad 1)]) 3
  rw [← hargs] at hent
  rw [hent]
  clear hent
  generalize (lg_sl ([.ref (ad 1)]) ++ List.replicate (3 - (lg_sl ([.ref (ad 1)])).length) Slot.unset).toArray = ls at hl ⊢
  have hl : lv_has ls 3 [(0, .ref (ad 1))] := hl
  generalize hA : gA ad s.heap.size = A at G ⊢
  generalize hH : s.heap = H at G ⊢
  refine gx_q (fun Q hQ => ?_)
  refine lv_iconst (v := 0) hx hb dX1_countRows_0 (by decide) ?_
  refine lv_istore_n (lv' := [(1, .int 0), (0, .ref (ad 1))]) hx hb dX1_countRows_1 rfl hl (by decide) rfl (fun ls hl => ?_)
  refine lv_iconst (v := 0) hx hb dX1_countRows_2 (by decide) ?_
  refine lv_istore_n (lv' := [(2, .int 0), (1, .int 0), (0, .ref (ad 1))]) hx hb dX1_countRows_3 rfl hl (by decide) rfl (fun ls hl => ?_)
  have K4 : ∀ (nf : Nat) (r : Nat) (H : Heap) (locs : List Loc) (ls : Array Slot), (r ≤ nr) → nr - r < nf → GG D ad cy A s I J a b H locs → lv_has ls 3 [(0, .ref (ad 1)), (1, .int (p_cnt a r)), (2, .int (nI r))] → W p l e ({ frames := 0, cells := 0, slots := 0, locals := 0 }) s m args below meth c H locs 0 0 Q (F0 m 4 ls []) := by
    intro nf
    induction nf with
    | zero => exact fun _ _ _ _ _ hz => absurd hz (Nat.not_lt_zero _)
    | succ nf ih =>
      intro r H locs ls h1 hmeas G hl
      have ih4 := ih
      clear ih
      refine lv_iload_n hx hb dX1_countRows_4 rfl (lv_at hl 2 rfl) ?_
      refine lv_aload_n hx hb dX1_countRows_5 rfl (lv_at hl 0 rfl) ?_
      refine gx_get hx hb hts hinX1 hown G 1 (by decide) rfl rfl 8 (by decide) rfl lk40 rfl (v := .int (I 1 8)) rfl dX1_countRows_6 ?_
      refine lv_icmp_ge (tgt := 30) hx hb dX1_countRows_9 (by decide) (fun c9 => ?_) (fun c9 => ?_)
      · skip
        have n9 := gn_le (X := nr) (Y := r) hnr rfl (by omega) (by omega) c9
        refine lv_iload_n hx hb dX1_countRows_30 rfl (lv_at hl 1 rfl) ?_
        exact gx_ir hx hb hr hlocks G hQ ⟨by first | rfl | (simp only [p_cnt, c9, reduceIte]; done) | (rw [show nr = r by omega]; done) | (rw [show nr = r by omega]; simp only [p_cnt, c9, reduceIte]; done) | (simp [p_cnt, c9, reduceIte]; done), rfl⟩ dX1_countRows_31
      · skip
        have n9 := gn_nle (X := nr) (Y := r) hnr rfl (by omega) (by omega) c9
        refine lv_aload_n hx hb dX1_countRows_12 rfl (lv_at hl 0 rfl) ?_
        refine gx_get hx hb hts hinX1 hown G 1 (by decide) rfl rfl 6 (by decide) rfl lk32 rfl (v := .ref (ad 12)) rfl dX1_countRows_13 ?_
        refine lv_iload_n hx hb dX1_countRows_16 rfl (lv_at hl 2 rfl) ?_
        refine gx_zald hx hb G 12 (by decide) (rfl) (by decide) r rfl (by omega) dX1_countRows_17 ?_
        refine lv_if_eq (tgt := 24) hx hb dX1_countRows_18 (by decide) (fun c18 => ?_) (fun c18 => ?_)
        · skip
          refine lv_iinc (v := (nI (r + 1))) (lv' := [(2, .int (nI (r + 1))), (0, .ref (ad 1)), (1, .int (p_cnt a r))]) hx hb dX1_countRows_24 hl (k := 2) rfl (gn_add (X := r) (Y := 1) rfl rfl) (by decide) rfl (fun ls hl => ?_)
          refine lv_goto (tgt := 4) hx hb dX1_countRows_27 (by decide) ?_
          have q1 : p_cnt a r = p_cnt a (r + 1) := by first | rfl | (simp only [p_cnt, c9, c18, reduceIte]; done) | (rw [show nr = r by omega]; done) | (rw [show nr = r by omega]; simp only [p_cnt, c9, c18, reduceIte]; done) | (simp [p_cnt, c9, c18, reduceIte]; done)
          rw [q1] at hl
          exact ih4  (r + 1) _ _ _ (by omega) (by omega) G (lv_sub hl [1, 2, 0] rfl)
        · skip
          obtain ⟨x_1, ex_1⟩ : ∃ z : Int32, z = (p_cnt a r) + 1 := ⟨_, rfl⟩
          refine lv_iinc (v := x_1) (lv' := [(1, .int x_1), (0, .ref (ad 1)), (2, .int (nI r))]) hx hb dX1_countRows_21 hl (k := 1) rfl ex_1.symm (by decide) rfl (fun ls hl => ?_)
          refine lv_iinc (v := (nI (r + 1))) (lv' := [(2, .int (nI (r + 1))), (1, .int x_1), (0, .ref (ad 1))]) hx hb dX1_countRows_24 hl (k := 2) rfl (gn_add (X := r) (Y := 1) rfl rfl) (by decide) rfl (fun ls hl => ?_)
          refine lv_goto (tgt := 4) hx hb dX1_countRows_27 (by decide) ?_
          have q1 : x_1 = p_cnt a (r + 1) := by rw [ex_1]; first | rfl | (simp only [p_cnt, c9, c18, reduceIte]; done) | (rw [show nr = r by omega]; done) | (rw [show nr = r by omega]; simp only [p_cnt, c9, c18, reduceIte]; done) | (simp [p_cnt, c9, c18, reduceIte]; done)
          rw [q1] at hl
          exact ih4  (r + 1) _ _ _ (by omega) (by omega) G (lv_sub hl [2, 1, 0] rfl)
  exact K4 (nr - 0 + 1) 0 _ _ _ (by omega) (Nat.lt_succ_self _) G (lv_sub hl [2, 1, 0] rfl)

set_option maxHeartbeats 4000000 in
set_option maxRecDepth 100000 in
theorem kX1_countWhole (l : Launch) (D : va_G) (ad : Nat → Nat) (cy : Nat → ClassId) (I : gF) (J : gL) (a : gF) (b : gL) (sz : Nat) (nn : Nat) (hnn : I 1 7 = nI nn) (hnn2 : nn ≤ 5) : gMl l yX1_countWhole wsX1_countWhole ({ frames := 0, cells := 0, slots := 0, locals := 0 }) D ad cy I J a b sz [.ref (ad 1)] (fun r u => r = p_cw a nn ∧ u = (I, J, a, b)) := by
  refine Met.ofW (cc := cX1_countWhole) (maxL := 4) (ret := some .long) (by decide) rfl ?_
  intro p e s m args below meth c s₁ B hml hv
  obtain ⟨hargs, hsz, G⟩ := gx_begin hv
  subst hsz
  have hx := B.exec
  have hb := B.bytes
  have hr := B.returns
  have hts := atoms_spec (ws := wsX1_countWhole) B.pre
  have hown : s.vm.findClass RX1 = some m.cls := findClass_of_methodNamed B.named
  have hlocks := B.notSynchronized
  have hinX1 : ∀ w ∈ wsX10, w ∈ wsX1_countWhole := by decide +kernel
  have lk9 := hts (.fieldLink RX1 9 "ExactSimplex$Problem" "lows" "[I") (by decide +kernel)
  have lk15 := hts (.fieldLink RX1 15 "ExactSimplex$Problem" "highs" "[I") (by decide +kernel)
  have lk36 := hts (.fieldLink RX1 36 "ExactSimplex$Problem" "names" "I") (by decide +kernel)
  have hl := lv_entry ([.ref (ad 1)]) (n := 4) (Nat.le_of_ble_eq_true rfl)
  have hent := lg_entry_eq m ([.ref (ad 1)]) 4
  rw [← hargs] at hent
  rw [hent]
  clear hent
  generalize (lg_sl ([.ref (ad 1)]) ++ List.replicate (4 - (lg_sl ([.ref (ad 1)])).length) Slot.unset).toArray = ls at hl ⊢
  have hl : lv_has ls 4 [(0, .ref (ad 1))] := hl
  generalize hA : gA ad s.heap.size = A at G ⊢
  generalize hH : s.heap = H at G ⊢
  refine gx_q (fun Q hQ => ?_)
  refine lv_lconst (v := 1) hx hb dX1_countWhole_0 (by decide) ?_
  refine lv_lstore_n (lv' := [(1, .long 1), (0, .ref (ad 1))]) hx hb dX1_countWhole_1 rfl hl (by decide) rfl (fun ls hl => ?_)
  refine lv_iconst (v := 0) hx hb dX1_countWhole_2 (by decide) ?_
  refine lv_istore_n (lv' := [(3, .int 0), (1, .long 1), (0, .ref (ad 1))]) hx hb dX1_countWhole_3 rfl hl (by decide) rfl (fun ls hl => ?_)
  have K4 : ∀ (nf : Nat) (r : Nat) (H : Heap) (locs : List Loc) (ls : Array Slot), (r ≤ nn) → nn - r < nf → GG D ad cy A s I J a b H locs → lv_has ls 4 [(0, .ref (ad 1)), (1, .long (p_cw a r)), (3, .int (nI r))] → W p l e ({ frames := 0, cells := 0, slots := 0, locals := 0 }) s m args below meth c H locs 0 0 Q (F0 m 4 ls []) := by
    intro nf
    induction nf with
    | zero => exact fun _ _ _ _ _ hz => absurd hz (Nat.not_lt_zero _)
    | succ nf ih =>
      intro r H locs ls h1 hmeas G hl
      have ih4 := ih
      clear ih
      refine lv_iload_n hx hb dX1_countWhole_4 rfl (lv_at hl 2 rfl) ?_
      refine lv_aload_n hx hb dX1_countWhole_5 rfl (lv_at hl 0 rfl) ?_
      refine gx_get hx hb hts hinX1 hown G 1 (by decide) rfl rfl 7 (by decide) rfl lk36 rfl (v := .int (I 1 7)) rfl dX1_countWhole_6 ?_
      refine lv_icmp_ge (tgt := 37) hx hb dX1_countWhole_9 (by decide) (fun c9 => ?_) (fun c9 => ?_)
      · skip
        have n9 := gn_le (X := nn) (Y := r) hnn rfl (by omega) (by omega) c9
        refine lv_lload_n hx hb dX1_countWhole_37 rfl (lv_at hl 1 rfl) ?_
        exact gx_lr hx hb hr hlocks G hQ ⟨by first | rfl | (simp only [p_cw, c9, reduceIte]; done) | (rw [show nn = r by omega]; done) | (rw [show nn = r by omega]; simp only [p_cw, c9, reduceIte]; done) | (simp [p_cw, c9, reduceIte]; done), rfl⟩ dX1_countWhole_38
      · skip
        have n9 := gn_nle (X := nn) (Y := r) hnn rfl (by omega) (by omega) c9
        refine lv_lload_n hx hb dX1_countWhole_12 rfl (lv_at hl 1 rfl) ?_
        refine lv_aload_n hx hb dX1_countWhole_13 rfl (lv_at hl 0 rfl) ?_
        refine gx_get hx hb hts hinX1 hown G 1 (by decide) rfl rfl 1 (by decide) rfl lk15 rfl (v := .ref (ad 7)) rfl dX1_countWhole_14 ?_
        refine lv_iload_n hx hb dX1_countWhole_17 rfl (lv_at hl 2 rfl) ?_
        refine gx_iald hx hb G 7 (by decide) (rfl) (by decide) r rfl (by omega) dX1_countWhole_18 ?_
        refine lv_aload_n hx hb dX1_countWhole_19 rfl (lv_at hl 0 rfl) ?_
        refine gx_get hx hb hts hinX1 hown G 1 (by decide) rfl rfl 0 (by decide) rfl lk9 rfl (v := .ref (ad 6)) rfl dX1_countWhole_20 ?_
        refine lv_iload_n hx hb dX1_countWhole_23 rfl (lv_at hl 2 rfl) ?_
        refine gx_iald hx hb G 6 (by decide) (rfl) (by decide) r rfl (by omega) dX1_countWhole_24 ?_
        refine lv_isub hx hb dX1_countWhole_25 ?_
        refine lv_iconst (v := 1) hx hb dX1_countWhole_26 (by decide) ?_
        refine lv_iadd hx hb dX1_countWhole_27 ?_
        refine lv_i2l (v := (((a 7 r) - (a 6 r)) + 1).toInt64) hx hb dX1_countWhole_28 rfl ?_
        refine lv_lmul hx hb dX1_countWhole_29 ?_
        refine lv_topl (fun x_1 ex_1 => ?_)
        refine lv_lstore_n (lv' := [(1, .long x_1), (0, .ref (ad 1)), (3, .int (nI r))]) hx hb dX1_countWhole_30 rfl hl (by decide) rfl (fun ls hl => ?_)
        refine lv_iinc (v := (nI (r + 1))) (lv' := [(3, .int (nI (r + 1))), (1, .long x_1), (0, .ref (ad 1))]) hx hb dX1_countWhole_31 hl (k := 2) rfl (gn_add (X := r) (Y := 1) rfl rfl) (by decide) rfl (fun ls hl => ?_)
        refine lv_goto (tgt := 4) hx hb dX1_countWhole_34 (by decide) ?_
        have q1 : x_1 = p_cw a (r + 1) := by rw [ex_1]; first | rfl | (simp only [p_cw, c9, reduceIte]; done) | (rw [show nn = r by omega]; done) | (rw [show nn = r by omega]; simp only [p_cw, c9, reduceIte]; done) | (simp [p_cw, c9, reduceIte]; done)
        rw [q1] at hl
        exact ih4  (r + 1) _ _ _ (by omega) (by omega) G (lv_sub hl [2, 1, 0] rfl)
  exact K4 (nn - 0 + 1) 0 _ _ _ (by omega) (Nat.lt_succ_self _) G (lv_sub hl [2, 1, 0] rfl)

set_option maxHeartbeats 4000000 in
set_option maxRecDepth 100000 in
theorem kX1_limitsFromAbove (l : Launch) (D : va_G) (ad : Nat → Nat) (cy : Nat → ClassId) (I : gF) (J : gL) (a : gF) (b : gL) (sz : Nat) (r : Nat) (hr8 : r < 8) : gMi l yX1_limitsFromAbove wsX1_limitsFromAbove ({ frames := 0, cells := 0, slots := 0, locals := 0 }) D ad cy I J a b sz [.ref (ad 1), .int (nI r)] (fun q u => q = p_above a r ∧ u = (I, J, a, b)) := by
  refine Met.ofW (cc := cX1_limitsFromAbove) (maxL := 2) (ret := some .boolean) (by decide) rfl ?_
  intro p e s m args below meth c s₁ B hml hv
  obtain ⟨hargs, hsz, G⟩ := gx_begin hv
  subst hsz
  have hx := B.exec
  have hb := B.bytes
  have hr := B.returns
  have hts := atoms_spec (ws := wsX1_limitsFromAbove) B.pre
  have hown : s.vm.findClass RX1 = some m.cls := findClass_of_methodNamed B.named
  have hlocks := B.notSynchronized
  have hinX1 : ∀ w ∈ wsX10, w ∈ wsX1_limitsFromAbove := by decide +kernel
  have lk21 := hts (.fieldLink RX1 21 "ExactSimplex$Problem" "senses" "[I") (by decide +kernel)
  have hl := lv_entry ([.ref (ad 1), .int (nI r)]) (n := 2) (Nat.le_of_ble_eq_true rfl)
  have hent := lg_entry_eq m ([.ref (ad 1), .int (nI r)]) 2
  rw [← hargs] at hent
  rw [hent]
  clear hent
  generalize (lg_sl ([.ref (ad 1), .int (nI r)]) ++ List.replicate (2 - (lg_sl ([.ref (ad 1), .int (nI r)])).length) Slot.unset).toArray = ls at hl ⊢
  have hl : lv_has ls 2 [(0, .ref (ad 1)), (1, .int (nI r))] := hl
  generalize hA : gA ad s.heap.size = A at G ⊢
  generalize hH : s.heap = H at G ⊢
  refine gx_q (fun Q hQ => ?_)
  refine lv_aload_n hx hb dX1_limitsFromAbove_0 rfl (lv_at hl 0 rfl) ?_
  refine gx_get hx hb hts hinX1 hown G 1 (by decide) rfl rfl 3 (by decide) rfl lk21 rfl (v := .ref (ad 9)) rfl dX1_limitsFromAbove_1 ?_
  refine lv_iload_n hx hb dX1_limitsFromAbove_4 rfl (lv_at hl 1 rfl) ?_
  refine gx_iald hx hb G 9 (by decide) (rfl) (by decide) r rfl (by omega) dX1_limitsFromAbove_5 ?_
  refine lv_if_eq (tgt := 19) hx hb dX1_limitsFromAbove_6 (by decide) (fun c6 => ?_) (fun c6 => ?_)
  · skip
    refine lv_iconst (v := 1) hx hb dX1_limitsFromAbove_19 (by decide) ?_
    refine lv_goto (tgt := 24) hx hb dX1_limitsFromAbove_20 (by decide) ?_
    exact gx_zr hx hb hr hlocks G hQ (rfl) ⟨by first | rfl | (simp only [p_above, c6, reduceIte]; done) | (simp [p_above, c6, reduceIte]; done), rfl⟩ dX1_limitsFromAbove_24
  · skip
    refine lv_aload_n hx hb dX1_limitsFromAbove_9 rfl (lv_at hl 0 rfl) ?_
    refine gx_get hx hb hts hinX1 hown G 1 (by decide) rfl rfl 3 (by decide) rfl lk21 rfl (v := .ref (ad 9)) rfl dX1_limitsFromAbove_10 ?_
    refine lv_iload_n hx hb dX1_limitsFromAbove_13 rfl (lv_at hl 1 rfl) ?_
    refine gx_iald hx hb G 9 (by decide) (rfl) (by decide) r rfl (by omega) dX1_limitsFromAbove_14 ?_
    refine lv_iconst (v := 1) hx hb dX1_limitsFromAbove_15 (by decide) ?_
    refine lv_icmp_ne (tgt := 23) hx hb dX1_limitsFromAbove_16 (by decide) (fun c16 => ?_) (fun c16 => ?_)
    · skip
      refine lv_iconst (v := 0) hx hb dX1_limitsFromAbove_23 (by decide) ?_
      exact gx_zr hx hb hr hlocks G hQ (rfl) ⟨by first | rfl | (simp only [p_above, c6, c16, reduceIte]; done) | (simp [p_above, c6, c16, reduceIte]; done), rfl⟩ dX1_limitsFromAbove_24
    · skip
      refine lv_iconst (v := 1) hx hb dX1_limitsFromAbove_19 (by decide) ?_
      refine lv_goto (tgt := 24) hx hb dX1_limitsFromAbove_20 (by decide) ?_
      exact gx_zr hx hb hr hlocks G hQ (rfl) ⟨by first | rfl | (simp only [p_above, c6, c16, reduceIte]; done) | (simp [p_above, c6, c16, reduceIte]; done), rfl⟩ dX1_limitsFromAbove_24

set_option maxHeartbeats 4000000 in
set_option maxRecDepth 100000 in
theorem kX1_limitsFromBelow (l : Launch) (D : va_G) (ad : Nat → Nat) (cy : Nat → ClassId) (I : gF) (J : gL) (a : gF) (b : gL) (sz : Nat) (r : Nat) (hr8 : r < 8) : gMi l yX1_limitsFromBelow wsX1_limitsFromBelow ({ frames := 0, cells := 0, slots := 0, locals := 0 }) D ad cy I J a b sz [.ref (ad 1), .int (nI r)] (fun q u => q = p_below a r ∧ u = (I, J, a, b)) := by
  refine Met.ofW (cc := cX1_limitsFromBelow) (maxL := 2) (ret := some .boolean) (by decide) rfl ?_
  intro p e s m args below meth c s₁ B hml hv
  obtain ⟨hargs, hsz, G⟩ := gx_begin hv
  subst hsz
  have hx := B.exec
  have hb := B.bytes
  have hr := B.returns
  have hts := atoms_spec (ws := wsX1_limitsFromBelow) B.pre
  have hown : s.vm.findClass RX1 = some m.cls := findClass_of_methodNamed B.named
  have hlocks := B.notSynchronized
  have hinX1 : ∀ w ∈ wsX10, w ∈ wsX1_limitsFromBelow := by decide +kernel
  have lk21 := hts (.fieldLink RX1 21 "ExactSimplex$Problem" "senses" "[I") (by decide +kernel)
  have hl := lv_entry ([.ref (ad 1), .int (nI r)]) (n := 2) (Nat.le_of_ble_eq_true rfl)
  have hent := lg_entry_eq m ([.ref (ad 1), .int (nI r)]) 2
  rw [← hargs] at hent
  rw [hent]
  clear hent
  generalize (lg_sl ([.ref (ad 1), .int (nI r)]) ++ List.replicate (2 - (lg_sl ([.ref (ad 1), .int (nI r)])).length) Slot.unset).toArray = ls at hl ⊢
  have hl : lv_has ls 2 [(0, .ref (ad 1)), (1, .int (nI r))] := hl
  generalize hA : gA ad s.heap.size = A at G ⊢
  generalize hH : s.heap = H at G ⊢
  refine gx_q (fun Q hQ => ?_)
  refine lv_aload_n hx hb dX1_limitsFromBelow_0 rfl (lv_at hl 0 rfl) ?_
  refine gx_get hx hb hts hinX1 hown G 1 (by decide) rfl rfl 3 (by decide) rfl lk21 rfl (v := .ref (ad 9)) rfl dX1_limitsFromBelow_1 ?_
  refine lv_iload_n hx hb dX1_limitsFromBelow_4 rfl (lv_at hl 1 rfl) ?_
  refine gx_iald hx hb G 9 (by decide) (rfl) (by decide) r rfl (by omega) dX1_limitsFromBelow_5 ?_
  refine lv_iconst (v := 2) hx hb dX1_limitsFromBelow_6 (by decide) ?_
  refine lv_icmp_eq (tgt := 20) hx hb dX1_limitsFromBelow_7 (by decide) (fun c7 => ?_) (fun c7 => ?_)
  · skip
    refine lv_iconst (v := 1) hx hb dX1_limitsFromBelow_20 (by decide) ?_
    refine lv_goto (tgt := 25) hx hb dX1_limitsFromBelow_21 (by decide) ?_
    exact gx_zr hx hb hr hlocks G hQ (rfl) ⟨by first | rfl | (simp only [p_below, c7, reduceIte]; done) | (simp [p_below, c7, reduceIte]; done), rfl⟩ dX1_limitsFromBelow_25
  · skip
    refine lv_aload_n hx hb dX1_limitsFromBelow_10 rfl (lv_at hl 0 rfl) ?_
    refine gx_get hx hb hts hinX1 hown G 1 (by decide) rfl rfl 3 (by decide) rfl lk21 rfl (v := .ref (ad 9)) rfl dX1_limitsFromBelow_11 ?_
    refine lv_iload_n hx hb dX1_limitsFromBelow_14 rfl (lv_at hl 1 rfl) ?_
    refine gx_iald hx hb G 9 (by decide) (rfl) (by decide) r rfl (by omega) dX1_limitsFromBelow_15 ?_
    refine lv_iconst (v := 1) hx hb dX1_limitsFromBelow_16 (by decide) ?_
    refine lv_icmp_ne (tgt := 24) hx hb dX1_limitsFromBelow_17 (by decide) (fun c17 => ?_) (fun c17 => ?_)
    · skip
      refine lv_iconst (v := 0) hx hb dX1_limitsFromBelow_24 (by decide) ?_
      exact gx_zr hx hb hr hlocks G hQ (rfl) ⟨by first | rfl | (simp only [p_below, c7, c17, reduceIte]; done) | (simp [p_below, c7, c17, reduceIte]; done), rfl⟩ dX1_limitsFromBelow_25
    · skip
      refine lv_iconst (v := 1) hx hb dX1_limitsFromBelow_20 (by decide) ?_
      refine lv_goto (tgt := 25) hx hb dX1_limitsFromBelow_21 (by decide) ?_
      exact gx_zr hx hb hr hlocks G hQ (rfl) ⟨by first | rfl | (simp only [p_below, c7, c17, reduceIte]; done) | (simp [p_below, c7, c17, reduceIte]; done), rfl⟩ dX1_limitsFromBelow_25
end
section
/-! Solver: a 19 goal, b 20 firstBest, J 2 4 firstBestUnder, I 2 5 pointSought, I 2 6 pointThere, I 2 7 firstBestKnown, I 2 8 barredKnown, I 2 9 barredSet -/
def s_aim (a : gF) (k w : Int32) : Nat → gF
  | 0 => a
  | n + 1 => if nI n = k then gU (s_aim a k w n) 19 n w else gU (s_aim a k w n) 19 n 0
theorem s_aim_k (a : gF) (k w : Int32) {c : Nat} (h : c ≠ 19) : ∀ n, s_aim a k w n c = a c
  | 0 => rfl
  | n + 1 => by
    unfold s_aim
    split <;> rw [gU_k h] <;> exact s_aim_k a k w h n
def s_all (a : gF) : Nat → Int32
  | 0 => 0
  | n + 1 => if a 12 n = 0 then s_all a n else s_all a n ||| ((1 : Int32) <<< (nI n &&& 31))
def s_gcd : Nat → Int64 → Int64 → Int64
  | 0, x, _ => x
  | n + 1, x, y => if y = 0 then x else s_gcd n y (x - x / y * y)
theorem s_gcd_s {i : Nat} (h : i < 200) (x y : Int64) : s_gcd (200 - i) x y = if y = 0 then x else s_gcd (200 - (i + 1)) y (x - x / y * y) := by
  rw [show 200 - i = (200 - (i + 1)) + 1 by omega]
  rfl
def s_abs (x : Int64) : Int64 := if 0 < x then x else -x
def s_gd (x y : Int64) : Int64 := s_gcd 200 (s_abs x) (s_abs y)
def s_part (x y : Int64) (pt : Int32) : Int64 := if s_gd x y = 0 then 0 else if pt = 0 then x / s_gd x y else y / s_gd x y
/-- a line more -/
def s_add (I a : gF) (b : gL) (kf nl nc : Nat) (sg ri : Int32) : gF × gF × gL := (gU I 4 7 (I 4 7 + 1), gU a 15 nl (I 4 8 + I 4 7), d_addB a b kf nl nc sg ri)
def s_rt (a : gF) (r0 : Nat) : Nat → Int32
  | 0 => a 10 r0
  | n + 1 => s_rt a r0 n - a (40 + r0) n * a 6 n
def s_row (I a : gF) (b : gL) (r0 nl nc : Nat) : gF × gF × gL :=
  if p_above a r0 = 0 then (if p_below a r0 = 0 then (I, a, b) else s_add I a b (40 + r0) nl nc (-1) (-s_rt a r0 nc))
  else (if p_below (gU a 15 nl (I 4 8 + I 4 7)) r0 = 0 then s_add I a b (40 + r0) nl nc 1 (s_rt a r0 nc)
    else s_add (gU I 4 7 (I 4 7 + 1)) (gU a 15 nl (I 4 8 + I 4 7)) (d_addB a b (40 + r0) nl nc 1 (s_rt a r0 nc)) (40 + r0) (nl + 1) nc (-1) (-s_rt a r0 nc))
def s_nl (a : gF) (r0 nl : Nat) : Nat := nl + (if p_above a r0 = 0 then 0 else 1) + (if p_below a r0 = 0 then 0 else 1)
theorem s_nl_le (a : gF) (r0 nl : Nat) : s_nl a r0 nl ≤ nl + 2 := by
  unfold s_nl
  split <;> split <;> omega
theorem p_below_15 (a : gF) (nl r0 : Nat) (x : Int32) : p_below (gU a 15 nl x) r0 = p_below a r0 := rfl
theorem s_row_I {I a : gF} {b : gL} {r0 nl nc : Nat} (h : I 4 7 = nI nl) : (s_row I a b r0 nl nc).1 4 7 = nI (s_nl a r0 nl) ∧ ∀ k j, (k ≠ 4 ∨ j ≠ 7) → (s_row I a b r0 nl nc).1 k j = I k j := by
  unfold s_row s_nl
  rw [p_below_15]
  by_cases h1 : p_above a r0 = 0 <;> by_cases h2 : p_below a r0 = 0 <;> simp only [h1, h2, reduceIte]
  · exact ⟨h, by intros; first | rfl | trivial⟩
  · exact ⟨by show I 4 7 + 1 = _; rw [h, nI_1], fun k j hk => gU_n hk⟩
  · exact ⟨by show I 4 7 + 1 = _; rw [h, nI_1], fun k j hk => gU_n hk⟩
  · exact ⟨by show (I 4 7 + 1) + 1 = _; rw [h, nI_1, nI_1], fun k j hk => (gU_n hk).trans (gU_n hk)⟩
def s_k0 (I : gF) (nn : Nat) : gF := gU (gU I 4 8 (nI nn)) 4 7 0
/-- the names' lines -/
def s_kn (I a : gF) (b : gL) (nn : Nat) : Nat → gF × gF × gL
  | 0 => (s_k0 I nn, d_thaw (d_ids a nn) nn, b)
  | n + 1 => s_add (s_kn I a b nn n).1 (s_aim (s_kn I a b nn n).2.1 (nI n) 1 5) (s_kn I a b nn n).2.2 19 n nn 1 ((s_aim (s_kn I a b nn n).2.1 (nI n) 1 5) 7 n - (s_aim (s_kn I a b nn n).2.1 (nI n) 1 5) 6 n)
theorem s_kn_I (I a : gF) (b : gL) (nn : Nat) : ∀ n, (s_kn I a b nn n).1 4 7 = nI n ∧ (s_kn I a b nn n).1 4 8 = nI nn ∧ ∀ k j, k ≠ 4 → (s_kn I a b nn n).1 k j = I k j
  | 0 => ⟨rfl, rfl, fun k j h => (gU_n (Or.inl h)).trans (gU_n (Or.inl h))⟩
  | n + 1 => by
    obtain ⟨h1, h2, h3⟩ := s_kn_I I a b nn n
    refine ⟨?_, h2, fun k j h => (gU_n (Or.inl h)).trans (h3 k j h)⟩
    show (s_kn I a b nn n).1 4 7 + 1 = _
    rw [h1, nI_1]
def s_bit (set : Int32) (n : Nat) : Int32 := set &&& ((1 : Int32) <<< (nI n &&& 31))
/-- the rows' lines, with how many lines there are -/
def s_kr (I a : gF) (b : gL) (nn : Nat) (set : Int32) : Nat → (gF × gF × gL) × Nat
  | 0 => (s_kn I a b nn nn, nn)
  | n + 1 => if s_bit set n = 0 then s_kr I a b nn set n else (s_row (s_kr I a b nn set n).1.1 (s_kr I a b nn set n).1.2.1 (s_kr I a b nn set n).1.2.2 n (s_kr I a b nn set n).2 nn, s_nl (s_kr I a b nn set n).1.2.1 n (s_kr I a b nn set n).2)
theorem s_kr_p {I a : gF} {b : gL} {nn n : Nat} {set : Int32} (h : set &&& ((1 : Int32) <<< (nI n &&& 31)) = 0) : s_kr I a b nn set (n + 1) = s_kr I a b nn set n := if_pos h
theorem s_kr_n {I a : gF} {b : gL} {nn n : Nat} {set : Int32} (h : ¬ set &&& ((1 : Int32) <<< (nI n &&& 31)) = 0) : s_kr I a b nn set (n + 1) = (s_row (s_kr I a b nn set n).1.1 (s_kr I a b nn set n).1.2.1 (s_kr I a b nn set n).1.2.2 n (s_kr I a b nn set n).2 nn, s_nl (s_kr I a b nn set n).1.2.1 n (s_kr I a b nn set n).2) := if_neg h
theorem s_kr_I (I a : gF) (b : gL) (nn : Nat) (set : Int32) : ∀ n, (s_kr I a b nn set n).1.1 4 7 = nI (s_kr I a b nn set n).2 ∧ (s_kr I a b nn set n).1.1 4 8 = nI nn ∧ (∀ k j, k ≠ 4 → (s_kr I a b nn set n).1.1 k j = I k j) ∧ (s_kr I a b nn set n).2 ≤ nn + 2 * n
  | 0 => ⟨(s_kn_I I a b nn nn).1, (s_kn_I I a b nn nn).2.1, (s_kn_I I a b nn nn).2.2, Nat.le_refl _⟩
  | n + 1 => by
    obtain ⟨h1, h2, h3, h4⟩ := s_kr_I I a b nn set n
    unfold s_kr
    split
    · exact ⟨h1, h2, h3, by omega⟩
    · obtain ⟨g1, g2⟩ := s_row_I (a := (s_kr I a b nn set n).1.2.1) (b := (s_kr I a b nn set n).1.2.2) (r0 := n) (nc := nn) h1
      refine ⟨g1, (g2 4 8 (Or.inr (by decide))).trans h2, fun k j h => (g2 k j (Or.inl h)).trans (h3 k j h), ?_⟩
      have := s_nl_le (s_kr I a b nn set n).1.2.1 n (s_kr I a b nn set n).2
      show s_nl _ _ _ ≤ _
      omega
/-- what canKeep finds: the answer and the state behind it -/
def s_kf (I : gF) (J : gL) (a : gF) (b : gL) (nn nr : Nat) (set : Int32) : Int32 × gL × gF × gL := d_find (s_kr I a b nn set nr).2 nn mPV (gU J 4 6 1, (s_kr I a b nn set nr).1.2.1, (s_kr I a b nn set nr).1.2.2)
def s_kI (I a : gF) (b : gL) (nn nr : Nat) (set : Int32) : gF := (s_kr I a b nn set nr).1.1
theorem d_find_01 (nl nc : Nat) : ∀ n x, (d_find nl nc n x).1 = 0 ∨ (d_find nl nc n x).1 = 1
  | 0, x => Or.inl rfl
  | n + 1, x => by
    unfold d_find
    split
    · split
      · exact d_find_01 nl nc n _
      · exact Or.inl rfl
    · exact Or.inr rfl
theorem z01 {x : Int32} (h : x = 0 ∨ x = 1) : narrow .boolean (.int x) = .int x := by
  rcases h with rfl | rfl <;> rfl
theorem z01f {x : Int32} (h : x = 0 ∨ x = 1) : fits .boolean (.int x) = true := by
  rcases h with rfl | rfl <;> rfl

def s_hp (I : gF) (J : gL) (a : gF) (b : gL) (nn nr : Nat) : Int32 := if I 2 5 = 0 then (s_kf I J a b nn nr (s_all a nr)).1 else I 2 6
def s_hpI (I : gF) (J : gL) (a : gF) (b : gL) (nn nr : Nat) : gF := if I 2 5 = 0 then gU (gU (s_kI I a b nn nr (s_all a nr)) 2 6 (s_kf I J a b nn nr (s_all a nr)).1) 2 5 1 else I
def s_hpJ (I : gF) (J : gL) (a : gF) (b : gL) (nn nr : Nat) : gL := if I 2 5 = 0 then (s_kf I J a b nn nr (s_all a nr)).2.1 else J
def s_hpA (I : gF) (J : gL) (a : gF) (b : gL) (nn nr : Nat) : gF := if I 2 5 = 0 then (s_kf I J a b nn nr (s_all a nr)).2.2.1 else a
def s_hpB (I : gF) (J : gL) (a : gF) (b : gL) (nn nr : Nat) : gL := if I 2 5 = 0 then (s_kf I J a b nn nr (s_all a nr)).2.2.2 else b

set_option maxHeartbeats 4000000 in
set_option maxRecDepth 100000 in
theorem kX2_forget (l : Launch) (D : va_G) (ad : Nat → Nat) (cy : Nat → ClassId) (I : gF) (J : gL) (a : gF) (b : gL) (sz : Nat)   : gMv l yX2_forget wsX2_forget ({ frames := 0, cells := 0, slots := 0, locals := 0 }) D ad cy I J a b sz [.ref (ad 2)] (fun u => u = (gU (gU (gU I 2 5 0) 2 7 0) 2 8 0, J, a, b)) := by
  refine Met.ofW (cc := cX2_forget) (maxL := 1) (ret := none) (by decide) rfl ?_
  intro p e s m args below meth c s₁ B hml hv
  obtain ⟨hargs, hsz, G⟩ := gx_begin hv
  subst hsz
  have hx := B.exec
  have hb := B.bytes
  have hr := B.returns
  have hts := atoms_spec (ws := wsX2_forget) B.pre
  have hown : s.vm.findClass RX2 = some m.cls := findClass_of_methodNamed B.named
  have hlocks := B.notSynchronized
  have hinX2 : ∀ w ∈ wsX20, w ∈ wsX2_forget := by decide +kernel
  have lk34 := hts (.fieldLink RX2 34 "ExactSimplex$Solver" "pointSought" "Z") (by decide +kernel)
  have lk38 := hts (.fieldLink RX2 38 "ExactSimplex$Solver" "firstBestKnown" "Z") (by decide +kernel)
  have lk41 := hts (.fieldLink RX2 41 "ExactSimplex$Solver" "barredKnown" "Z") (by decide +kernel)
  have hl := lv_entry ([.ref (ad 2)]) (n := 1) (Nat.le_of_ble_eq_true rfl)
  have hent := lg_entry_eq m ([.ref (ad 2)]) 1
  rw [← hargs] at hent
  rw [hent]
  clear hent
  generalize (lg_sl ([.ref (ad 2)]) ++ List.replicate (1 - (lg_sl ([.ref (ad 2)])).length) Slot.unset).toArray = ls at hl ⊢
  have hl : lv_has ls 1 [(0, .ref (ad 2))] := hl
  generalize hA : gA ad s.heap.size = A at G ⊢
  generalize hH : s.heap = H at G ⊢
  refine gx_q (fun Q hQ => ?_)
  refine lv_aload_n hx hb dX2_forget_0 rfl (lv_at hl 0 rfl) ?_
  refine lv_iconst (v := 0) hx hb dX2_forget_1 (by decide) ?_
  refine gx_putI hx hb hts hinX2 tyX2 tyX2_ok nmX2 hown G 2 (by decide) rfl rfl 5 (by decide) rfl lk34 rfl rfl (tyX2_ok 5 (by decide)) (rfl) (rfl) dX2_forget_2 (fun H locs G => ?_)
  refine lv_aload_n hx hb dX2_forget_5 rfl (lv_at hl 0 rfl) ?_
  refine lv_iconst (v := 0) hx hb dX2_forget_6 (by decide) ?_
  refine gx_putI hx hb hts hinX2 tyX2 tyX2_ok nmX2 hown G 2 (by decide) rfl rfl 7 (by decide) rfl lk38 rfl rfl (tyX2_ok 7 (by decide)) (rfl) (rfl) dX2_forget_7 (fun H locs G => ?_)
  refine lv_aload_n hx hb dX2_forget_10 rfl (lv_at hl 0 rfl) ?_
  refine lv_iconst (v := 0) hx hb dX2_forget_11 (by decide) ?_
  refine gx_putI hx hb hts hinX2 tyX2 tyX2_ok nmX2 hown G 2 (by decide) rfl rfl 8 (by decide) rfl lk41 rfl rfl (tyX2_ok 8 (by decide)) (rfl) (rfl) dX2_forget_12 (fun H locs G => ?_)
  exact gx_vr hx hb hr hlocks G hQ (by first | rfl | (simp only [reduceIte]; done) | (simp [reduceIte]; done)) dX2_forget_15

set_option maxHeartbeats 4000000 in
set_option maxRecDepth 100000 in
theorem kX2_aimAt (l : Launch) (D : va_G) (ad : Nat → Nat) (cy : Nat → ClassId) (I : gF) (J : gL) (a : gF) (b : gL) (sz : Nat) (k w : Int32)  : gMv l yX2_aimAt wsX2_aimAt ({ frames := 0, cells := 0, slots := 0, locals := 0 }) D ad cy I J a b sz [.ref (ad 2), .int k, .int w] (fun u => u = (I, J, s_aim a k w 5, b)) := by
  refine Met.ofW (cc := cX2_aimAt) (maxL := 4) (ret := none) (by decide) rfl ?_
  intro p e s m args below meth c s₁ B hml hv
  obtain ⟨hargs, hsz, G⟩ := gx_begin hv
  subst hsz
  have hx := B.exec
  have hb := B.bytes
  have hr := B.returns
  have hts := atoms_spec (ws := wsX2_aimAt) B.pre
  have hown : s.vm.findClass RX2 = some m.cls := findClass_of_methodNamed B.named
  have hlocks := B.notSynchronized
  have hinX2 : ∀ w ∈ wsX20, w ∈ wsX2_aimAt := by decide +kernel
  have lk18 := hts (.fieldLink RX2 18 "ExactSimplex$Solver" "goal" "[I") (by decide +kernel)
  have hl := lv_entry ([.ref (ad 2), .int k, .int w]) (n := 4) (Nat.le_of_ble_eq_true rfl)
  have hent := lg_entry_eq m ([.ref (ad 2), .int k, .int w]) 4
  rw [← hargs] at hent
  rw [hent]
  clear hent
  generalize (lg_sl ([.ref (ad 2), .int k, .int w]) ++ List.replicate (4 - (lg_sl ([.ref (ad 2), .int k, .int w])).length) Slot.unset).toArray = ls at hl ⊢
  have hl : lv_has ls 4 [(0, .ref (ad 2)), (1, .int k), (2, .int w)] := hl
  generalize hA : gA ad s.heap.size = A at G ⊢
  generalize hH : s.heap = H at G ⊢
  refine gx_q (fun Q hQ => ?_)
  refine lv_iconst (v := 0) hx hb dX2_aimAt_0 (by decide) ?_
  refine lv_istore_n (lv' := [(3, .int 0), (0, .ref (ad 2)), (1, .int k), (2, .int w)]) hx hb dX2_aimAt_1 rfl hl (by decide) rfl (fun ls hl => ?_)
  have K2 : ∀ (nf : Nat) (r : Nat) (H : Heap) (locs : List Loc) (ls : Array Slot), (r ≤ 5) → 5 - r < nf → GG D ad cy A s I J (s_aim a k w r) b H locs → lv_has ls 4 [(0, .ref (ad 2)), (1, .int k), (2, .int w), (3, .int (nI r))] → W p l e ({ frames := 0, cells := 0, slots := 0, locals := 0 }) s m args below meth c H locs 0 0 Q (F0 m 2 ls []) := by
    intro nf
    induction nf with
    | zero => exact fun _ _ _ _ _ hz => absurd hz (Nat.not_lt_zero _)
    | succ nf ih =>
      intro r H locs ls h1 hmeas G hl
      have ih2 := ih
      clear ih
      refine lv_iload_n hx hb dX2_aimAt_2 rfl (lv_at hl 3 rfl) ?_
      refine lv_iconst (v := 5) hx hb dX2_aimAt_3 (by decide) ?_
      refine lv_icmp_ge (tgt := 29) hx hb dX2_aimAt_4 (by decide) (fun c4 => ?_) (fun c4 => ?_)
      · skip
        have n4 := gn_le (X := 5) (Y := r) rfl rfl (by omega) (by omega) c4
        exact gx_vr hx hb hr hlocks G hQ (by rw [show r = 5 by omega]) dX2_aimAt_29
      · skip
        have n4 := gn_nle (X := 5) (Y := r) rfl rfl (by omega) (by omega) c4
        refine lv_aload_n hx hb dX2_aimAt_7 rfl (lv_at hl 0 rfl) ?_
        refine gx_get hx hb hts hinX2 hown G 2 (by decide) rfl rfl 2 (by decide) rfl lk18 rfl (v := .ref (ad 19)) rfl dX2_aimAt_8 ?_
        refine lv_iload_n hx hb dX2_aimAt_11 rfl (lv_at hl 3 rfl) ?_
        refine lv_iload_n hx hb dX2_aimAt_12 rfl (lv_at hl 3 rfl) ?_
        refine lv_iload_n hx hb dX2_aimAt_13 rfl (lv_at hl 1 rfl) ?_
        refine lv_icmp_ne (tgt := 21) hx hb dX2_aimAt_14 (by decide) (fun c14 => ?_) (fun c14 => ?_)
        · skip
          refine lv_iconst (v := 0) hx hb dX2_aimAt_21 (by decide) ?_
          refine gx_iast hx hb G 19 (by decide) (rfl) (by decide) r rfl (by omega) dX2_aimAt_22 (fun H locs G => ?_)
          refine lv_iinc (v := (nI (r + 1))) (lv' := [(3, .int (nI (r + 1))), (0, .ref (ad 2)), (1, .int k), (2, .int w)]) hx hb dX2_aimAt_23 hl (k := 3) rfl (gn_add (X := r) (Y := 1) rfl rfl) (by decide) rfl (fun ls hl => ?_)
          refine lv_goto (tgt := 2) hx hb dX2_aimAt_26 (by decide) ?_
          exact ih2  (r + 1) _ _ _ (by omega) (by omega) (gg_eq G rfl rfl (by first | rfl | (simp only [s_aim, c4, c14, reduceIte]; done) | (rw [show 5 = r by omega]; done) | (rw [show 5 = r by omega]; simp only [s_aim, c4, c14, reduceIte]; done) | (simp [s_aim, c4, c14, reduceIte]; done)) rfl) (lv_sub hl [1, 2, 3, 0] rfl)
        · skip
          refine lv_iload_n hx hb dX2_aimAt_17 rfl (lv_at hl 2 rfl) ?_
          refine lv_goto (tgt := 22) hx hb dX2_aimAt_18 (by decide) ?_
          refine gx_iast hx hb G 19 (by decide) (rfl) (by decide) r rfl (by omega) dX2_aimAt_22 (fun H locs G => ?_)
          refine lv_iinc (v := (nI (r + 1))) (lv' := [(3, .int (nI (r + 1))), (0, .ref (ad 2)), (1, .int k), (2, .int w)]) hx hb dX2_aimAt_23 hl (k := 3) rfl (gn_add (X := r) (Y := 1) rfl rfl) (by decide) rfl (fun ls hl => ?_)
          refine lv_goto (tgt := 2) hx hb dX2_aimAt_26 (by decide) ?_
          exact ih2  (r + 1) _ _ _ (by omega) (by omega) (gg_eq G rfl rfl (by first | rfl | (simp only [s_aim, c4, c14, reduceIte]; done) | (rw [show 5 = r by omega]; done) | (rw [show 5 = r by omega]; simp only [s_aim, c4, c14, reduceIte]; done) | (simp [s_aim, c4, c14, reduceIte]; done)) rfl) (lv_sub hl [1, 2, 3, 0] rfl)
  exact K2 (5 - 0 + 1) 0 _ _ _ (by omega) (Nat.lt_succ_self _) (gg_eq G rfl rfl (by first | rfl | (simp only [s_aim, reduceIte]; done) | (rw [show 5 = r by omega]; done) | (rw [show 5 = r by omega]; simp only [s_aim, reduceIte]; done) | (simp [s_aim, reduceIte]; done)) rfl) (lv_sub hl [1, 2, 3, 0] rfl)

set_option maxHeartbeats 4000000 in
set_option maxRecDepth 100000 in
theorem kX2_allRows (l : Launch) (D : va_G) (ad : Nat → Nat) (cy : Nat → ClassId) (I : gF) (J : gL) (a : gF) (b : gL) (sz : Nat) (nr : Nat) (hnr : I 1 8 = nI nr) (hnr2 : nr ≤ 8) : gMi l yX2_allRows wsX2_allRows ({ frames := 0, cells := 0, slots := 0, locals := 0 }) D ad cy I J a b sz [.ref (ad 2)] (fun r u => r = s_all a nr ∧ u = (I, J, a, b)) := by
  refine Met.ofW (cc := cX2_allRows) (maxL := 3) (ret := some .int) (by decide) rfl ?_
  intro p e s m args below meth c s₁ B hml hv
  obtain ⟨hargs, hsz, G⟩ := gx_begin hv
  subst hsz
  have hx := B.exec
  have hb := B.bytes
  have hr := B.returns
  have hts := atoms_spec (ws := wsX2_allRows) B.pre
  have hown : s.vm.findClass RX2 = some m.cls := findClass_of_methodNamed B.named
  have hlocks := B.notSynchronized
  have hinX1 : ∀ w ∈ wsX10, w ∈ wsX2_allRows := by decide +kernel
  have hinX2 : ∀ w ∈ wsX20, w ∈ wsX2_allRows := by decide +kernel
  have lk30 := hts (.fieldLink RX2 30 "ExactSimplex$Solver" "problem" "LExactSimplex$Problem;") (by decide +kernel)
  have lk91 := hts (.fieldLink RX2 91 "ExactSimplex$Problem" "rows" "I") (by decide +kernel)
  have lk122 := hts (.fieldLink RX2 122 "ExactSimplex$Problem" "there" "[Z") (by decide +kernel)
  have hl := lv_entry ([.ref (ad 2)]) (n := 3) (Nat.le_of_ble_eq_true rfl)
  have hent := lg_entry_eq m ([.ref (ad 2)]) 3
  rw [← hargs] at hent
  rw [hent]
  clear hent
  generalize (lg_sl ([.ref (ad 2)]) ++ List.replicate (3 - (lg_sl ([.ref (ad 2)])).length) Slot.unset).toArray = ls at hl ⊢
  have hl : lv_has ls 3 [(0, .ref (ad 2))] := hl
  generalize hA : gA ad s.heap.size = A at G ⊢
  generalize hH : s.heap = H at G ⊢
  refine gx_q (fun Q hQ => ?_)
  refine lv_iconst (v := 0) hx hb dX2_allRows_0 (by decide) ?_
  refine lv_istore_n (lv' := [(1, .int 0), (0, .ref (ad 2))]) hx hb dX2_allRows_1 rfl hl (by decide) rfl (fun ls hl => ?_)
  refine lv_iconst (v := 0) hx hb dX2_allRows_2 (by decide) ?_
  refine lv_istore_n (lv' := [(2, .int 0), (1, .int 0), (0, .ref (ad 2))]) hx hb dX2_allRows_3 rfl hl (by decide) rfl (fun ls hl => ?_)
  have K4 : ∀ (nf : Nat) (r : Nat) (H : Heap) (locs : List Loc) (ls : Array Slot), (r ≤ nr) → nr - r < nf → GG D ad cy A s I J a b H locs → lv_has ls 3 [(0, .ref (ad 2)), (1, .int (s_all a r)), (2, .int (nI r))] → W p l e ({ frames := 0, cells := 0, slots := 0, locals := 0 }) s m args below meth c H locs 0 0 Q (F0 m 4 ls []) := by
    intro nf
    induction nf with
    | zero => exact fun _ _ _ _ _ hz => absurd hz (Nat.not_lt_zero _)
    | succ nf ih =>
      intro r H locs ls h1 hmeas G hl
      have ih4 := ih
      clear ih
      refine lv_iload_n hx hb dX2_allRows_4 rfl (lv_at hl 2 rfl) ?_
      refine lv_aload_n hx hb dX2_allRows_5 rfl (lv_at hl 0 rfl) ?_
      refine gx_get hx hb hts hinX2 hown G 2 (by decide) rfl rfl 0 (by decide) rfl lk30 rfl (v := .ref (ad 1)) rfl dX2_allRows_6 ?_
      refine gx_get hx hb hts hinX1 hown G 1 (by decide) rfl rfl 8 (by decide) rfl lk91 rfl (v := .int (I 1 8)) rfl dX2_allRows_9 ?_
      refine lv_icmp_ge (tgt := 39) hx hb dX2_allRows_12 (by decide) (fun c12 => ?_) (fun c12 => ?_)
      · skip
        have n12 := gn_le (X := nr) (Y := r) hnr rfl (by omega) (by omega) c12
        refine lv_iload_n hx hb dX2_allRows_39 rfl (lv_at hl 1 rfl) ?_
        exact gx_ir hx hb hr hlocks G hQ ⟨by first | rfl | (simp only [s_all, c12, reduceIte]; done) | (rw [show nr = r by omega]; done) | (rw [show nr = r by omega]; simp only [s_all, c12, reduceIte]; done) | (simp [s_all, c12, reduceIte]; done), rfl⟩ dX2_allRows_40
      · skip
        have n12 := gn_nle (X := nr) (Y := r) hnr rfl (by omega) (by omega) c12
        refine lv_aload_n hx hb dX2_allRows_15 rfl (lv_at hl 0 rfl) ?_
        refine gx_get hx hb hts hinX2 hown G 2 (by decide) rfl rfl 0 (by decide) rfl lk30 rfl (v := .ref (ad 1)) rfl dX2_allRows_16 ?_
        refine gx_get hx hb hts hinX1 hown G 1 (by decide) rfl rfl 6 (by decide) rfl lk122 rfl (v := .ref (ad 12)) rfl dX2_allRows_19 ?_
        refine lv_iload_n hx hb dX2_allRows_22 rfl (lv_at hl 2 rfl) ?_
        refine gx_zald hx hb G 12 (by decide) (rfl) (by decide) r rfl (by omega) dX2_allRows_23 ?_
        refine lv_if_eq (tgt := 33) hx hb dX2_allRows_24 (by decide) (fun c24 => ?_) (fun c24 => ?_)
        · skip
          refine lv_iinc (v := (nI (r + 1))) (lv' := [(2, .int (nI (r + 1))), (0, .ref (ad 2)), (1, .int (s_all a r))]) hx hb dX2_allRows_33 hl (k := 2) rfl (gn_add (X := r) (Y := 1) rfl rfl) (by decide) rfl (fun ls hl => ?_)
          refine lv_goto (tgt := 4) hx hb dX2_allRows_36 (by decide) ?_
          have q1 : s_all a r = s_all a (r + 1) := by first | rfl | (simp only [s_all, c12, c24, reduceIte]; done) | (rw [show nr = r by omega]; done) | (rw [show nr = r by omega]; simp only [s_all, c12, c24, reduceIte]; done) | (simp [s_all, c12, c24, reduceIte]; done)
          rw [q1] at hl
          exact ih4  (r + 1) _ _ _ (by omega) (by omega) G (lv_sub hl [1, 2, 0] rfl)
        · skip
          refine lv_iload_n hx hb dX2_allRows_27 rfl (lv_at hl 1 rfl) ?_
          refine lv_iconst (v := 1) hx hb dX2_allRows_28 (by decide) ?_
          refine lv_iload_n hx hb dX2_allRows_29 rfl (lv_at hl 2 rfl) ?_
          refine lv_ishl hx hb dX2_allRows_30 ?_
          refine lv_ior hx hb dX2_allRows_31 ?_
          refine lv_topi (fun x_1 ex_1 => ?_)
          refine lv_istore_n (lv' := [(1, .int x_1), (0, .ref (ad 2)), (2, .int (nI r))]) hx hb dX2_allRows_32 rfl hl (by decide) rfl (fun ls hl => ?_)
          refine lv_iinc (v := (nI (r + 1))) (lv' := [(2, .int (nI (r + 1))), (1, .int x_1), (0, .ref (ad 2))]) hx hb dX2_allRows_33 hl (k := 2) rfl (gn_add (X := r) (Y := 1) rfl rfl) (by decide) rfl (fun ls hl => ?_)
          refine lv_goto (tgt := 4) hx hb dX2_allRows_36 (by decide) ?_
          have q1 : x_1 = s_all a (r + 1) := by rw [ex_1]; first | rfl | (simp only [s_all, c12, c24, reduceIte]; done) | (rw [show nr = r by omega]; done) | (rw [show nr = r by omega]; simp only [s_all, c12, c24, reduceIte]; done) | (simp [s_all, c12, c24, reduceIte]; done)
          rw [q1] at hl
          exact ih4  (r + 1) _ _ _ (by omega) (by omega) G (lv_sub hl [2, 1, 0] rfl)
  exact K4 (nr - 0 + 1) 0 _ _ _ (by omega) (Nat.lt_succ_self _) G (lv_sub hl [2, 1, 0] rfl)

set_option maxHeartbeats 4000000 in
set_option maxRecDepth 100000 in
theorem kX2_numeratorOf (l : Launch) (D : va_G) (ad : Nat → Nat) (cy : Nat → ClassId) (I : gF) (J : gL) (a : gF) (b : gL) (sz : Nat) (nl n0 : Nat) (hnl : I 4 7 = nI nl) (hnl2 : nl ≤ 21) (hn0 : n0 < 5) : gMl l yX2_numeratorOf wsX2_numeratorOf ({ frames := 1, cells := 0, slots := 0, locals := 22 }) D ad cy I J a b sz [.ref (ad 2), .int (nI n0)] (fun r u => r = (a 6 n0).toInt64 * J 4 6 + d_num a b (nI n0) nl 0 ∧ u = (I, J, a, b)) := by
  refine Met.ofW (cc := cX2_numeratorOf) (maxL := 2) (ret := some .long) (by decide) rfl ?_
  intro p e s m args below meth c s₁ B hml hv
  obtain ⟨hargs, hsz, G⟩ := gx_begin hv
  subst hsz
  have hx := B.exec
  have hb := B.bytes
  have hr := B.returns
  have hts := atoms_spec (ws := wsX2_numeratorOf) B.pre
  have hown : s.vm.findClass RX2 = some m.cls := findClass_of_methodNamed B.named
  have hlocks := B.notSynchronized
  have hinX1 : ∀ w ∈ wsX10, w ∈ wsX2_numeratorOf := by decide +kernel
  have hinX2 : ∀ w ∈ wsX20, w ∈ wsX2_numeratorOf := by decide +kernel
  have lk12 := hts (.fieldLink RX2 12 "ExactSimplex$Solver" "dictionary" "LExactSimplex$Dictionary;") (by decide +kernel)
  have lk30 := hts (.fieldLink RX2 30 "ExactSimplex$Solver" "problem" "LExactSimplex$Problem;") (by decide +kernel)
  have lk116 := hts (.fieldLink RX2 116 "ExactSimplex$Problem" "lows" "[I") (by decide +kernel)
  have hl := lv_entry ([.ref (ad 2), .int (nI n0)]) (n := 2) (Nat.le_of_ble_eq_true rfl)
  have hent := lg_entry_eq m ([.ref (ad 2), .int (nI n0)]) 2
  rw [← hargs] at hent
  rw [hent]
  clear hent
  generalize (lg_sl ([.ref (ad 2), .int (nI n0)]) ++ List.replicate (2 - (lg_sl ([.ref (ad 2), .int (nI n0)])).length) Slot.unset).toArray = ls at hl ⊢
  have hl : lv_has ls 2 [(0, .ref (ad 2)), (1, .int (nI n0))] := hl
  generalize hA : gA ad s.heap.size = A at G ⊢
  generalize hH : s.heap = H at G ⊢
  refine gx_q (fun Q hQ => ?_)
  refine lv_aload_n hx hb dX2_numeratorOf_0 rfl (lv_at hl 0 rfl) ?_
  refine gx_get hx hb hts hinX2 hown G 2 (by decide) rfl rfl 0 (by decide) rfl lk30 rfl (v := .ref (ad 1)) rfl dX2_numeratorOf_1 ?_
  refine gx_get hx hb hts hinX1 hown G 1 (by decide) rfl rfl 0 (by decide) rfl lk116 rfl (v := .ref (ad 6)) rfl dX2_numeratorOf_4 ?_
  refine lv_iload_n hx hb dX2_numeratorOf_7 rfl (lv_at hl 1 rfl) ?_
  refine gx_iald hx hb G 6 (by decide) (rfl) (by decide) n0 rfl (by omega) dX2_numeratorOf_8 ?_
  refine lv_i2l (v := (a 6 n0).toInt64) hx hb dX2_numeratorOf_9 rfl ?_
  refine lv_aload_n hx hb dX2_numeratorOf_10 rfl (lv_at hl 0 rfl) ?_
  refine gx_get hx hb hts hinX2 hown G 2 (by decide) rfl rfl 1 (by decide) rfl lk12 rfl (v := .ref (ad 4)) rfl dX2_numeratorOf_11 ?_
  refine gx_dVl (v := (J 4 6)) (I1 := I) (J1 := J) (a1 := a) (b1 := b) (As := []) (rest := [.long ((a 6 n0).toInt64)]) ⟨hx, hb, hml, hown, hts⟩ G 4 (kX0_denominator l D ad cy I J a b H.size ) (cwV 0 hts gX2_numeratorOf_X0_denominator rfl rfl rfl (by decide +kernel) ⟨Nat.le_of_ble_eq_true rfl, Nat.le_of_ble_eq_true rfl⟩) (by decide) rfl rfl rfl rfl hl.1 rfl (Nat.le_of_ble_eq_true rfl) ⟨Nat.zero_le _, Nat.zero_le _⟩ dX2_numeratorOf_14 (fun H locs G => ?_)
  refine lv_lmul hx hb dX2_numeratorOf_17 ?_
  refine lv_aload_n hx hb dX2_numeratorOf_18 rfl (lv_at hl 0 rfl) ?_
  refine gx_get hx hb hts hinX2 hown G 2 (by decide) rfl rfl 1 (by decide) rfl lk12 rfl (v := .ref (ad 4)) rfl dX2_numeratorOf_19 ?_
  refine lv_iload_n hx hb dX2_numeratorOf_22 rfl (lv_at hl 1 rfl) ?_
  refine gx_dVl (v := (d_num a b (nI n0) nl 0)) (I1 := I) (J1 := J) (a1 := a) (b1 := b) (As := [.int (nI n0)]) (rest := [.long (((a 6 n0).toInt64) * (J 4 6))]) ⟨hx, hb, hml, hown, hts⟩ G 4 (kX0_numerator l D ad cy I J a b H.size nl (nI n0) hnl hnl2) (cwV 1 hts gX2_numeratorOf_X0_numerator rfl rfl rfl (by decide +kernel) ⟨Nat.le_of_ble_eq_true rfl, Nat.le_of_ble_eq_true rfl⟩) (by decide) rfl rfl rfl rfl hl.1 rfl (Nat.le_of_ble_eq_true rfl) ⟨Nat.zero_le _, Nat.zero_le _⟩ dX2_numeratorOf_23 (fun H locs G => ?_)
  refine lv_ladd hx hb dX2_numeratorOf_26 ?_
  exact gx_lr hx hb hr hlocks G hQ ⟨by first | rfl | (simp only [reduceIte]; done) | (simp [reduceIte]; done), rfl⟩ dX2_numeratorOf_27

set_option maxHeartbeats 4000000 in
set_option maxRecDepth 100000 in
theorem kX2_greatestDivisor (l : Launch) (D : va_G) (ad : Nat → Nat) (cy : Nat → ClassId) (I : gF) (J : gL) (a : gF) (b : gL) (sz : Nat) (x y : Int64)  : gMl l yX2_greatestDivisor wsX2_greatestDivisor ({ frames := 1, cells := 0, slots := 0, locals := 40 }) D ad cy I J a b sz [.long x, .long y] (fun r u => r = s_gd x y ∧ u = (I, J, a, b)) := by
  refine Met.ofW (cc := cX2_greatestDivisor) (maxL := 11) (ret := some .long) (by decide) rfl ?_
  intro p e s m args below meth c s₁ B hml hv
  obtain ⟨hargs, hsz, G⟩ := gx_begin hv
  subst hsz
  have hx := B.exec
  have hb := B.bytes
  have hr := B.returns
  have hts := atoms_spec (ws := wsX2_greatestDivisor) B.pre
  have hown : s.vm.findClass RX2 = some m.cls := findClass_of_methodNamed B.named
  have hlocks := B.notSynchronized
  have hl := lv_entry ([.long x, .long y]) (n := 11) (Nat.le_of_ble_eq_true rfl)
  have hent := lg_entry_eq m ([.long x, .long y]) 11
  rw [← hargs] at hent
  rw [hent]
  clear hent
  generalize (lg_sl ([.long x, .long y]) ++ List.replicate (11 - (lg_sl ([.long x, .long y])).length) Slot.unset).toArray = ls at hl ⊢
  have hl : lv_has ls 11 [(0, .long x), (2, .long y)] := hl
  generalize hA : gA ad s.heap.size = A at G ⊢
  generalize hH : s.heap = H at G ⊢
  refine gx_q (fun Q hQ => ?_)
  refine lv_lload_n hx hb dX2_greatestDivisor_0 rfl (lv_at hl 0 rfl) ?_
  refine va_mabs_long hx hb (hml.trans hl.1.symm) hown (hts (.methodLink RX2 154 Lib.MathLoose.abs_long.x) (by decide +kernel)) (hts (.static Lib.MathLoose.abs_long.x) (by decide +kernel)) (hts (.initialized "java/lang/Math") (by decide +kernel)) (hts (.code Lib.MathLoose.abs_long.x Lib.MathLoose.abs_long.code 2 (some .long)) (by decide +kernel)) (Nat.le_of_ble_eq_true rfl) (Nat.le_of_ble_eq_true rfl) (Nat.zero_le _) (Nat.zero_le _) dX2_greatestDivisor_1 ?_
  refine lv_lstore (lv' := [(4, .long (if 0 < x then x else -x)), (0, .long x), (2, .long y)]) hx hb dX2_greatestDivisor_4 hl (by decide) rfl (fun ls hl => ?_)
  refine lv_lload_n hx hb dX2_greatestDivisor_6 rfl (lv_at hl 2 rfl) ?_
  refine va_mabs_long hx hb (hml.trans hl.1.symm) hown (hts (.methodLink RX2 154 Lib.MathLoose.abs_long.x) (by decide +kernel)) (hts (.static Lib.MathLoose.abs_long.x) (by decide +kernel)) (hts (.initialized "java/lang/Math") (by decide +kernel)) (hts (.code Lib.MathLoose.abs_long.x Lib.MathLoose.abs_long.code 2 (some .long)) (by decide +kernel)) (Nat.le_of_ble_eq_true rfl) (Nat.le_of_ble_eq_true rfl) (Nat.zero_le _) (Nat.zero_le _) dX2_greatestDivisor_7 ?_
  refine lv_lstore (lv' := [(6, .long (if 0 < y then y else -y)), (4, .long (if 0 < x then x else -x)), (0, .long x), (2, .long y)]) hx hb dX2_greatestDivisor_10 hl (by decide) rfl (fun ls hl => ?_)
  refine lv_iconst (v := 0) hx hb dX2_greatestDivisor_12 (by decide) ?_
  refine lv_istore (lv' := [(8, .int 0), (6, .long (if 0 < y then y else -y)), (4, .long (if 0 < x then x else -x)), (0, .long x), (2, .long y)]) hx hb dX2_greatestDivisor_13 hl (by decide) rfl (fun ls hl => ?_)
  have K15 : ∀ (nf : Nat) (i : Nat) (x2 y2 : Int64) (H : Heap) (locs : List Loc) (ls : Array Slot), (i ≤ 200) → (s_gd x y = s_gcd (200 - i) x2 y2) → 200 - i < nf → GG D ad cy A s I J a b H locs → lv_has ls 11 [(0, .long x), (2, .long y), (4, .long x2), (6, .long y2), (8, .int (nI i))] → W p l e ({ frames := 1, cells := 0, slots := 0, locals := 40 }) s m args below meth c H locs 0 0 Q (F0 m 15 ls []) := by
    intro nf
    induction nf with
    | zero => exact fun _ _ _ _ _ _ _ _ hz => absurd hz (Nat.not_lt_zero _)
    | succ nf ih =>
      intro i x2 y2 H locs ls h1 h2 hmeas G hl
      have ih15 := ih
      clear ih
      refine lv_iload hx hb dX2_greatestDivisor_15 (lv_at hl 4 rfl) ?_
      refine lv_sipush (v := 200) hx hb dX2_greatestDivisor_17 (by decide) ?_
      refine lv_icmp_ge (tgt := 51) hx hb dX2_greatestDivisor_20 (by decide) (fun c20 => ?_) (fun c20 => ?_)
      · skip
        have n20 := gn_le (X := 200) (Y := i) rfl rfl (by omega) (by omega) c20
        refine lv_lload hx hb dX2_greatestDivisor_51 (lv_at hl 2 rfl) ?_
        exact gx_lr hx hb hr hlocks G hQ ⟨by first | (rw [h2, s_gcd_s n20]; simp only [c20, reduceIte]; done) | (rw [h2, show 200 - i = 0 by omega]; rfl), rfl⟩ dX2_greatestDivisor_53
      · skip
        have n20 := gn_nle (X := 200) (Y := i) rfl rfl (by omega) (by omega) c20
        refine lv_lload hx hb dX2_greatestDivisor_23 (lv_at hl 3 rfl) ?_
        refine lv_lconst (v := 0) hx hb dX2_greatestDivisor_25 (by decide) ?_
        refine gx_lc_eq (tgt := 51) hx hb dX2_greatestDivisor_26 dX2_greatestDivisor_27 (by decide) (fun c27 => ?_) (fun c27 => ?_)
        · skip
          refine lv_lload hx hb dX2_greatestDivisor_51 (lv_at hl 2 rfl) ?_
          exact gx_lr hx hb hr hlocks G hQ ⟨by first | (rw [h2, s_gcd_s n20]; simp only [c20, c27, reduceIte]; done) | (rw [h2, show 200 - i = 0 by omega]; rfl), rfl⟩ dX2_greatestDivisor_53
        · skip
          refine lv_lload hx hb dX2_greatestDivisor_30 (lv_at hl 2 rfl) ?_
          refine lv_lload hx hb dX2_greatestDivisor_32 (lv_at hl 3 rfl) ?_
          refine lv_lrem hx hb dX2_greatestDivisor_34 (c27) ?_
          refine lv_lstore (lv' := [(9, .long (x2 - x2 / y2 * y2)), (0, .long x), (2, .long y), (4, .long x2), (6, .long y2), (8, .int (nI i))]) hx hb dX2_greatestDivisor_35 hl (by decide) rfl (fun ls hl => ?_)
          refine lv_lload hx hb dX2_greatestDivisor_37 (lv_at hl 4 rfl) ?_
          refine lv_lstore (lv' := [(4, .long y2), (9, .long (x2 - x2 / y2 * y2)), (0, .long x), (2, .long y), (6, .long y2), (8, .int (nI i))]) hx hb dX2_greatestDivisor_39 hl (by decide) rfl (fun ls hl => ?_)
          refine lv_lload hx hb dX2_greatestDivisor_41 (lv_at hl 1 rfl) ?_
          refine lv_lstore (lv' := [(6, .long (x2 - x2 / y2 * y2)), (4, .long y2), (9, .long (x2 - x2 / y2 * y2)), (0, .long x), (2, .long y), (8, .int (nI i))]) hx hb dX2_greatestDivisor_43 hl (by decide) rfl (fun ls hl => ?_)
          refine lv_iinc (v := (nI (i + 1))) (lv' := [(8, .int (nI (i + 1))), (6, .long (x2 - x2 / y2 * y2)), (4, .long y2), (9, .long (x2 - x2 / y2 * y2)), (0, .long x), (2, .long y)]) hx hb dX2_greatestDivisor_45 hl (k := 5) rfl (gn_add (X := i) (Y := 1) rfl rfl) (by decide) rfl (fun ls hl => ?_)
          refine lv_goto (tgt := 15) hx hb dX2_greatestDivisor_48 (by decide) ?_
          exact ih15  (i + 1) y2 (x2 - x2 / y2 * y2) _ _ _ (by omega) (by rw [h2, s_gcd_s n20]; simp only [c20, c27, reduceIte]) (by omega) G (lv_sub hl [4, 5, 2, 1, 0] rfl)
  exact K15 (200 - 0 + 1) 0 (if 0 < x then x else -x) (if 0 < y then y else -y) _ _ _ (by omega) (rfl) (Nat.lt_succ_self _) G (lv_sub hl [3, 4, 2, 1, 0] rfl)

set_option maxHeartbeats 4000000 in
set_option maxRecDepth 100000 in
theorem kX2_partOf (l : Launch) (D : va_G) (ad : Nat → Nat) (cy : Nat → ClassId) (I : gF) (J : gL) (a : gF) (b : gL) (sz : Nat) (x y : Int64) (pt : Int32)  : gMl l yX2_partOf wsX2_partOf ({ frames := 2, cells := 0, slots := 0, locals := 70 }) D ad cy I J a b sz [.long x, .long y, .int pt] (fun r u => r = s_part x y pt ∧ u = (I, J, a, b)) := by
  refine Met.ofW (cc := cX2_partOf) (maxL := 7) (ret := some .long) (by decide) rfl ?_
  intro p e s m args below meth c s₁ B hml hv
  obtain ⟨hargs, hsz, G⟩ := gx_begin hv
  subst hsz
  have hx := B.exec
  have hb := B.bytes
  have hr := B.returns
  have hts := atoms_spec (ws := wsX2_partOf) B.pre
  have hown : s.vm.findClass RX2 = some m.cls := findClass_of_methodNamed B.named
  have hlocks := B.notSynchronized
  have hl := lv_entry ([.long x, .long y, .int pt]) (n := 7) (Nat.le_of_ble_eq_true rfl)
  have hent := lg_entry_eq m ([.long x, .long y, .int pt]) 7
  rw [← hargs] at hent
  rw [hent]
  clear hent
  generalize (lg_sl ([.long x, .long y, .int pt]) ++ List.replicate (7 - (lg_sl ([.long x, .long y, .int pt])).length) Slot.unset).toArray = ls at hl ⊢
  have hl : lv_has ls 7 [(0, .long x), (2, .long y), (4, .int pt)] := hl
  generalize hA : gA ad s.heap.size = A at G ⊢
  generalize hH : s.heap = H at G ⊢
  refine gx_q (fun Q hQ => ?_)
  refine lv_lload_n hx hb dX2_partOf_0 rfl (lv_at hl 0 rfl) ?_
  refine lv_lload_n hx hb dX2_partOf_1 rfl (lv_at hl 1 rfl) ?_
  refine gx_dSl (v := (s_gd x y)) (I1 := I) (J1 := J) (a1 := a) (b1 := b) (As := [.long x, .long y]) (rest := []) ⟨hx, hb, hml, hown, hts⟩ G (kX2_greatestDivisor l D ad cy I J a b H.size x y) (va_cwS 2 hts gX2_partOf_X2_greatestDivisor rfl rfl rfl (by decide +kernel) ⟨Nat.le_of_ble_eq_true rfl, Nat.le_of_ble_eq_true rfl⟩) rfl hl.1 rfl (Nat.le_of_ble_eq_true rfl) ⟨Nat.zero_le _, Nat.zero_le _⟩ dX2_partOf_2 (fun H locs G => ?_)
  refine lv_lstore (lv' := [(5, .long (s_gd x y)), (0, .long x), (2, .long y), (4, .int pt)]) hx hb dX2_partOf_5 hl (by decide) rfl (fun ls hl => ?_)
  refine lv_lload hx hb dX2_partOf_7 (lv_at hl 0 rfl) ?_
  refine lv_lconst (v := 0) hx hb dX2_partOf_9 (by decide) ?_
  refine gx_lc_ne (tgt := 16) hx hb dX2_partOf_10 dX2_partOf_11 (by decide) (fun c11 => ?_) (fun c11 => ?_)
  · skip
    refine lv_iload hx hb dX2_partOf_16 (lv_at hl 3 rfl) ?_
    refine lv_if_ne (tgt := 28) hx hb dX2_partOf_18 (by decide) (fun c18 => ?_) (fun c18 => ?_)
    · skip
      refine lv_lload_n hx hb dX2_partOf_28 rfl (lv_at hl 2 rfl) ?_
      refine lv_lload hx hb dX2_partOf_29 (lv_at hl 0 rfl) ?_
      refine lv_ldiv hx hb dX2_partOf_31 (c11) ?_
      exact gx_lr hx hb hr hlocks G hQ ⟨by first | rfl | (simp only [s_part, c11, c18, reduceIte]; done) | (simp [s_part, c11, c18, reduceIte]; done), rfl⟩ dX2_partOf_32
    · skip
      refine lv_lload_n hx hb dX2_partOf_21 rfl (lv_at hl 1 rfl) ?_
      refine lv_lload hx hb dX2_partOf_22 (lv_at hl 0 rfl) ?_
      refine lv_ldiv hx hb dX2_partOf_24 (c11) ?_
      refine lv_goto (tgt := 32) hx hb dX2_partOf_25 (by decide) ?_
      exact gx_lr hx hb hr hlocks G hQ ⟨by first | rfl | (simp only [s_part, c11, c18, reduceIte]; done) | (simp [s_part, c11, c18, reduceIte]; done), rfl⟩ dX2_partOf_32
  · skip
    refine lv_lconst (v := 0) hx hb dX2_partOf_14 (by decide) ?_
    exact gx_lr hx hb hr hlocks G hQ ⟨by first | rfl | (simp only [s_part, c11, reduceIte]; done) | (simp [s_part, c11, reduceIte]; done), rfl⟩ dX2_partOf_15

set_option maxHeartbeats 4000000 in
set_option maxRecDepth 100000 in
theorem kX2_addRow (l : Launch) (D : va_G) (ad : Nat → Nat) (cy : Nat → ClassId) (I : gF) (J : gL) (a : gF) (b : gL) (sz : Nat) (nl nc r0 : Nat) (hnl : I 4 7 = nI nl) (hnl2 : nl + 2 ≤ 21) (hnc : I 4 8 = nI nc) (hnc2 : nc ≤ 5) (hnn : I 1 7 = nI nc) (hr8 : r0 < 8) : gMv l yX2_addRow wsX2_addRow ({ frames := 1, cells := 0, slots := 0, locals := 24 }) D ad cy I J a b sz [.ref (ad 2), .int (nI r0)] (fun u => u = ((s_row I a b r0 nl nc).1, J, (s_row I a b r0 nl nc).2.1, (s_row I a b r0 nl nc).2.2)) := by
  refine Met.ofW (cc := cX2_addRow) (maxL := 5) (ret := none) (by decide) rfl ?_
  intro p e s m args below meth c s₁ B hml hv
  obtain ⟨hargs, hsz, G⟩ := gx_begin hv
  subst hsz
  have hx := B.exec
  have hb := B.bytes
  have hr := B.returns
  have hts := atoms_spec (ws := wsX2_addRow) B.pre
  have hown : s.vm.findClass RX2 = some m.cls := findClass_of_methodNamed B.named
  have hlocks := B.notSynchronized
  have hinX1 : ∀ w ∈ wsX10, w ∈ wsX2_addRow := by decide +kernel
  have hinX2 : ∀ w ∈ wsX20, w ∈ wsX2_addRow := by decide +kernel
  have lk12 := hts (.fieldLink RX2 12 "ExactSimplex$Solver" "dictionary" "LExactSimplex$Dictionary;") (by decide +kernel)
  have lk30 := hts (.fieldLink RX2 30 "ExactSimplex$Solver" "problem" "LExactSimplex$Problem;") (by decide +kernel)
  have lk58 := hts (.fieldLink RX2 58 "ExactSimplex$Problem" "names" "I") (by decide +kernel)
  have lk71 := hts (.fieldLink RX2 71 "ExactSimplex$Problem" "factors" "[[I") (by decide +kernel)
  have lk75 := hts (.fieldLink RX2 75 "ExactSimplex$Problem" "rights" "[I") (by decide +kernel)
  have lk116 := hts (.fieldLink RX2 116 "ExactSimplex$Problem" "lows" "[I") (by decide +kernel)
  have hl := lv_entry ([.ref (ad 2), .int (nI r0)]) (n := 5) (Nat.le_of_ble_eq_true rfl)
  have hent := lg_entry_eq m ([.ref (ad 2), .int (nI r0)]) 5
  rw [← hargs] at hent
  rw [hent]
  clear hent
  generalize (lg_sl ([.ref (ad 2), .int (nI r0)]) ++ List.replicate (5 - (lg_sl ([.ref (ad 2), .int (nI r0)])).length) Slot.unset).toArray = ls at hl ⊢
  have hl : lv_has ls 5 [(0, .ref (ad 2)), (1, .int (nI r0))] := hl
  generalize hA : gA ad s.heap.size = A at G ⊢
  generalize hH : s.heap = H at G ⊢
  refine gx_q (fun Q hQ => ?_)
  refine lv_aload_n hx hb dX2_addRow_0 rfl (lv_at hl 0 rfl) ?_
  refine gx_get hx hb hts hinX2 hown G 2 (by decide) rfl rfl 0 (by decide) rfl lk30 rfl (v := .ref (ad 1)) rfl dX2_addRow_1 ?_
  refine gx_get hx hb hts hinX1 hown G 1 (by decide) rfl rfl 5 (by decide) rfl lk71 rfl (v := .ref (ad 11)) rfl dX2_addRow_4 ?_
  refine lv_iload_n hx hb dX2_addRow_7 rfl (lv_at hl 1 rfl) ?_
  refine gx_aald hx hb G 11 (by decide) rfl (Or.inl rfl) (by decide) r0 rfl (by omega) dX2_addRow_8 ?_
  refine lv_astore_n (lv' := [(2, .ref (ad (40 + r0))), (0, .ref (ad 2)), (1, .int (nI r0))]) hx hb dX2_addRow_9 rfl hl (by decide) rfl (fun ls hl => ?_)
  refine lv_aload_n hx hb dX2_addRow_10 rfl (lv_at hl 1 rfl) ?_
  refine gx_get hx hb hts hinX2 hown G 2 (by decide) rfl rfl 0 (by decide) rfl lk30 rfl (v := .ref (ad 1)) rfl dX2_addRow_11 ?_
  refine gx_get hx hb hts hinX1 hown G 1 (by decide) rfl rfl 4 (by decide) rfl lk75 rfl (v := .ref (ad 10)) rfl dX2_addRow_14 ?_
  refine lv_iload_n hx hb dX2_addRow_17 rfl (lv_at hl 2 rfl) ?_
  refine gx_iald hx hb G 10 (by decide) (rfl) (by decide) r0 rfl (by omega) dX2_addRow_18 ?_
  refine lv_topi (fun x_1 ex_1 => ?_)
  refine lv_istore_n (lv' := [(3, .int x_1), (2, .ref (ad (40 + r0))), (0, .ref (ad 2)), (1, .int (nI r0))]) hx hb dX2_addRow_19 rfl hl (by decide) rfl (fun ls hl => ?_)
  refine lv_iconst (v := 0) hx hb dX2_addRow_20 (by decide) ?_
  refine lv_istore (lv' := [(4, .int 0), (3, .int x_1), (2, .ref (ad (40 + r0))), (0, .ref (ad 2)), (1, .int (nI r0))]) hx hb dX2_addRow_21 hl (by decide) rfl (fun ls hl => ?_)
  have K23 : ∀ (nf : Nat) (r : Nat) (H : Heap) (locs : List Loc) (ls : Array Slot), (r ≤ nc) → nc - r < nf → GG D ad cy A s I J a b H locs → lv_has ls 5 [(0, .ref (ad 2)), (1, .int (nI r0)), (2, .ref (ad (40 + r0))), (3, .int (s_rt a r0 r)), (4, .int (nI r))] → W p l e ({ frames := 1, cells := 0, slots := 0, locals := 24 }) s m args below meth c H locs 0 0 Q (F0 m 23 ls []) := by
    intro nf
    induction nf with
    | zero => exact fun _ _ _ _ _ hz => absurd hz (Nat.not_lt_zero _)
    | succ nf ih =>
      intro r H locs ls h1 hmeas G hl
      have ih23 := ih
      clear ih
      refine lv_iload hx hb dX2_addRow_23 (lv_at hl 4 rfl) ?_
      refine lv_aload_n hx hb dX2_addRow_25 rfl (lv_at hl 0 rfl) ?_
      refine gx_get hx hb hts hinX2 hown G 2 (by decide) rfl rfl 0 (by decide) rfl lk30 rfl (v := .ref (ad 1)) rfl dX2_addRow_26 ?_
      refine gx_get hx hb hts hinX1 hown G 1 (by decide) rfl rfl 7 (by decide) rfl lk58 rfl (v := .int (I 1 7)) rfl dX2_addRow_29 ?_
      refine lv_icmp_ge (tgt := 59) hx hb dX2_addRow_32 (by decide) (fun c32 => ?_) (fun c32 => ?_)
      · skip
        have n32 := gn_le (X := nc) (Y := r) hnn rfl (by omega) (by omega) c32
        have hex : r = nc := by omega
        rw [hex] at hl
        refine lv_aload_n hx hb dX2_addRow_59 rfl (lv_at hl 0 rfl) ?_
        refine gx_get hx hb hts hinX2 hown G 2 (by decide) rfl rfl 0 (by decide) rfl lk30 rfl (v := .ref (ad 1)) rfl dX2_addRow_60 ?_
        refine lv_iload_n hx hb dX2_addRow_63 rfl (lv_at hl 1 rfl) ?_
        refine gx_dVi (v := (p_above a r0)) (I1 := I) (J1 := J) (a1 := a) (b1 := b) (As := [.int (nI r0)]) (rest := []) ⟨hx, hb, hml, hown, hts⟩ G 1 (kX1_limitsFromAbove l D ad cy I J a b H.size r0 hr8) (cwV 1 hts gX2_addRow_X1_limitsFromAbove rfl rfl rfl (by decide +kernel) ⟨Nat.le_of_ble_eq_true rfl, Nat.le_of_ble_eq_true rfl⟩) (by decide) rfl rfl rfl rfl hl.1 rfl (Nat.le_of_ble_eq_true rfl) ⟨Nat.zero_le _, Nat.zero_le _⟩ dX2_addRow_64 (fun H locs G => ?_)
        refine lv_if_eq (tgt := 80) hx hb dX2_addRow_67 (by decide) (fun c67 => ?_) (fun c67 => ?_)
        · skip
          refine lv_aload_n hx hb dX2_addRow_80 rfl (lv_at hl 0 rfl) ?_
          refine gx_get hx hb hts hinX2 hown G 2 (by decide) rfl rfl 0 (by decide) rfl lk30 rfl (v := .ref (ad 1)) rfl dX2_addRow_81 ?_
          refine lv_iload_n hx hb dX2_addRow_84 rfl (lv_at hl 1 rfl) ?_
          refine gx_dVi (v := (p_below a r0)) (I1 := I) (J1 := J) (a1 := a) (b1 := b) (As := [.int (nI r0)]) (rest := []) ⟨hx, hb, hml, hown, hts⟩ G 1 (kX1_limitsFromBelow l D ad cy I J a b H.size r0 hr8) (cwV 1 hts gX2_addRow_X1_limitsFromBelow rfl rfl rfl (by decide +kernel) ⟨Nat.le_of_ble_eq_true rfl, Nat.le_of_ble_eq_true rfl⟩) (by decide) rfl rfl rfl rfl hl.1 rfl (Nat.le_of_ble_eq_true rfl) ⟨Nat.zero_le _, Nat.zero_le _⟩ dX2_addRow_85 (fun H locs G => ?_)
          refine lv_if_eq (tgt := 102) hx hb dX2_addRow_88 (by decide) (fun c88 => ?_) (fun c88 => ?_)
          · skip
            exact gx_vr hx hb hr hlocks G hQ (by simp only [s_row, s_add, c32, c67, c88, reduceIte]) dX2_addRow_102
          · skip
            refine lv_aload_n hx hb dX2_addRow_91 rfl (lv_at hl 0 rfl) ?_
            refine gx_get hx hb hts hinX2 hown G 2 (by decide) rfl rfl 1 (by decide) rfl lk12 rfl (v := .ref (ad 4)) rfl dX2_addRow_92 ?_
            refine lv_aload_n hx hb dX2_addRow_95 rfl (lv_at hl 2 rfl) ?_
            refine lv_iconst (v := -1) hx hb dX2_addRow_96 (by decide) ?_
            refine lv_iload_n hx hb dX2_addRow_97 rfl (lv_at hl 3 rfl) ?_
            refine lv_ineg hx hb dX2_addRow_98 ?_
            refine gx_dVv (I1 := (gU I 4 7 (I 4 7 + 1))) (J1 := J) (a1 := (gU a 15 nl (I 4 8 + I 4 7))) (b1 := (d_addB a b (40 + r0) nl nc (-1) (-s_rt a r0 nc))) (As := [.ref (ad (40 + r0)), .int (-1), .int (-(s_rt a r0 nc))]) (rest := []) ⟨hx, hb, hml, hown, hts⟩ G 4 (kX0_addAtMost l D ad cy I J a b H.size nl nc (40 + r0) (-1) (-s_rt a r0 nc) hnl (by omega) hnc hnc2 (by omega) (gsh_F r0 hr8)) (cwV 3 hts gX2_addRow_X0_addAtMost rfl rfl rfl (by decide +kernel) ⟨Nat.le_of_ble_eq_true rfl, Nat.le_of_ble_eq_true rfl⟩) (by decide) rfl rfl rfl rfl hl.1 rfl (Nat.le_of_ble_eq_true rfl) ⟨Nat.zero_le _, Nat.zero_le _⟩ dX2_addRow_99 (fun H locs G => ?_)
            exact gx_vr hx hb hr hlocks G hQ (by simp only [s_row, s_add, c32, c67, c88, reduceIte]) dX2_addRow_102
        · skip
          refine lv_aload_n hx hb dX2_addRow_70 rfl (lv_at hl 0 rfl) ?_
          refine gx_get hx hb hts hinX2 hown G 2 (by decide) rfl rfl 1 (by decide) rfl lk12 rfl (v := .ref (ad 4)) rfl dX2_addRow_71 ?_
          refine lv_aload_n hx hb dX2_addRow_74 rfl (lv_at hl 2 rfl) ?_
          refine lv_iconst (v := 1) hx hb dX2_addRow_75 (by decide) ?_
          refine lv_iload_n hx hb dX2_addRow_76 rfl (lv_at hl 3 rfl) ?_
          refine gx_dVv (I1 := (gU I 4 7 (I 4 7 + 1))) (J1 := J) (a1 := (gU a 15 nl (I 4 8 + I 4 7))) (b1 := (d_addB a b (40 + r0) nl nc 1 (s_rt a r0 nc))) (As := [.ref (ad (40 + r0)), .int 1, .int (s_rt a r0 nc)]) (rest := []) ⟨hx, hb, hml, hown, hts⟩ G 4 (kX0_addAtMost l D ad cy I J a b H.size nl nc (40 + r0) 1 (s_rt a r0 nc) hnl (by omega) hnc hnc2 (by omega) (gsh_F r0 hr8)) (cwV 3 hts gX2_addRow_X0_addAtMost rfl rfl rfl (by decide +kernel) ⟨Nat.le_of_ble_eq_true rfl, Nat.le_of_ble_eq_true rfl⟩) (by decide) rfl rfl rfl rfl hl.1 rfl (Nat.le_of_ble_eq_true rfl) ⟨Nat.zero_le _, Nat.zero_le _⟩ dX2_addRow_77 (fun H locs G => ?_)
          refine lv_aload_n hx hb dX2_addRow_80 rfl (lv_at hl 0 rfl) ?_
          refine gx_get hx hb hts hinX2 hown G 2 (by decide) rfl rfl 0 (by decide) rfl lk30 rfl (v := .ref (ad 1)) rfl dX2_addRow_81 ?_
          refine lv_iload_n hx hb dX2_addRow_84 rfl (lv_at hl 1 rfl) ?_
          refine gx_dVi (v := (p_below (gU a 15 nl (I 4 8 + I 4 7)) r0)) (I1 := (gU I 4 7 (I 4 7 + 1))) (J1 := J) (a1 := (gU a 15 nl (I 4 8 + I 4 7))) (b1 := (d_addB a b (40 + r0) nl nc 1 (s_rt a r0 nc))) (As := [.int (nI r0)]) (rest := []) ⟨hx, hb, hml, hown, hts⟩ G 1 (kX1_limitsFromBelow l D ad cy (gU I 4 7 (I 4 7 + 1)) J (gU a 15 nl (I 4 8 + I 4 7)) (d_addB a b (40 + r0) nl nc 1 (s_rt a r0 nc)) H.size r0 hr8) (cwV 1 hts gX2_addRow_X1_limitsFromBelow rfl rfl rfl (by decide +kernel) ⟨Nat.le_of_ble_eq_true rfl, Nat.le_of_ble_eq_true rfl⟩) (by decide) rfl rfl rfl rfl hl.1 rfl (Nat.le_of_ble_eq_true rfl) ⟨Nat.zero_le _, Nat.zero_le _⟩ dX2_addRow_85 (fun H locs G => ?_)
          refine lv_if_eq (tgt := 102) hx hb dX2_addRow_88 (by decide) (fun c88 => ?_) (fun c88 => ?_)
          · skip
            exact gx_vr hx hb hr hlocks G hQ (by simp only [s_row, s_add, c32, c67, c88, reduceIte]) dX2_addRow_102
          · skip
            refine lv_aload_n hx hb dX2_addRow_91 rfl (lv_at hl 0 rfl) ?_
            refine gx_get hx hb hts hinX2 hown G 2 (by decide) rfl rfl 1 (by decide) rfl lk12 rfl (v := .ref (ad 4)) rfl dX2_addRow_92 ?_
            refine lv_aload_n hx hb dX2_addRow_95 rfl (lv_at hl 2 rfl) ?_
            refine lv_iconst (v := -1) hx hb dX2_addRow_96 (by decide) ?_
            refine lv_iload_n hx hb dX2_addRow_97 rfl (lv_at hl 3 rfl) ?_
            refine lv_ineg hx hb dX2_addRow_98 ?_
            refine gx_dVv (I1 := (gU (gU I 4 7 (I 4 7 + 1)) 4 7 ((gU I 4 7 (I 4 7 + 1)) 4 7 + 1))) (J1 := J) (a1 := (gU (gU a 15 nl (I 4 8 + I 4 7)) 15 (nl + 1) ((gU I 4 7 (I 4 7 + 1)) 4 8 + (gU I 4 7 (I 4 7 + 1)) 4 7))) (b1 := (d_addB (gU a 15 nl (I 4 8 + I 4 7)) (d_addB a b (40 + r0) nl nc 1 (s_rt a r0 nc)) (40 + r0) (nl + 1) nc (-1) (-s_rt a r0 nc))) (As := [.ref (ad (40 + r0)), .int (-1), .int (-(s_rt a r0 nc))]) (rest := []) ⟨hx, hb, hml, hown, hts⟩ G 4 (kX0_addAtMost l D ad cy (gU I 4 7 (I 4 7 + 1)) J (gU a 15 nl (I 4 8 + I 4 7)) (d_addB a b (40 + r0) nl nc 1 (s_rt a r0 nc)) H.size (nl + 1) nc (40 + r0) (-1) (-s_rt a r0 nc) (show I 4 7 + 1 = nI (nl + 1) by rw [hnl, nI_1]) (by omega) hnc hnc2 (by omega) (gsh_F r0 hr8)) (cwV 3 hts gX2_addRow_X0_addAtMost rfl rfl rfl (by decide +kernel) ⟨Nat.le_of_ble_eq_true rfl, Nat.le_of_ble_eq_true rfl⟩) (by decide) rfl rfl rfl rfl hl.1 rfl (Nat.le_of_ble_eq_true rfl) ⟨Nat.zero_le _, Nat.zero_le _⟩ dX2_addRow_99 (fun H locs G => ?_)
            exact gx_vr hx hb hr hlocks G hQ (by simp only [s_row, s_add, c32, c67, c88, reduceIte]) dX2_addRow_102
      · skip
        have n32 := gn_nle (X := nc) (Y := r) hnn rfl (by omega) (by omega) c32
        refine lv_iload_n hx hb dX2_addRow_35 rfl (lv_at hl 3 rfl) ?_
        refine lv_aload_n hx hb dX2_addRow_36 rfl (lv_at hl 2 rfl) ?_
        refine lv_iload hx hb dX2_addRow_37 (lv_at hl 4 rfl) ?_
        refine gx_iald hx hb G (40 + r0) (by omega) (gsh_F _ (by omega)) (by decide) r rfl (by omega) dX2_addRow_39 ?_
        refine lv_aload_n hx hb dX2_addRow_40 rfl (lv_at hl 0 rfl) ?_
        refine gx_get hx hb hts hinX2 hown G 2 (by decide) rfl rfl 0 (by decide) rfl lk30 rfl (v := .ref (ad 1)) rfl dX2_addRow_41 ?_
        refine gx_get hx hb hts hinX1 hown G 1 (by decide) rfl rfl 0 (by decide) rfl lk116 rfl (v := .ref (ad 6)) rfl dX2_addRow_44 ?_
        refine lv_iload hx hb dX2_addRow_47 (lv_at hl 4 rfl) ?_
        refine gx_iald hx hb G 6 (by decide) (rfl) (by decide) r rfl (by omega) dX2_addRow_49 ?_
        refine lv_imul hx hb dX2_addRow_50 ?_
        refine lv_isub hx hb dX2_addRow_51 ?_
        refine lv_topi (fun x_2 ex_2 => ?_)
        refine lv_istore_n (lv' := [(3, .int x_2), (0, .ref (ad 2)), (1, .int (nI r0)), (2, .ref (ad (40 + r0))), (4, .int (nI r))]) hx hb dX2_addRow_52 rfl hl (by decide) rfl (fun ls hl => ?_)
        refine lv_iinc (v := (nI (r + 1))) (lv' := [(4, .int (nI (r + 1))), (3, .int x_2), (0, .ref (ad 2)), (1, .int (nI r0)), (2, .ref (ad (40 + r0)))]) hx hb dX2_addRow_53 hl (k := 4) rfl (gn_add (X := r) (Y := 1) rfl rfl) (by decide) rfl (fun ls hl => ?_)
        refine lv_goto (tgt := 23) hx hb dX2_addRow_56 (by decide) ?_
        have q3 : x_2 = s_rt a r0 (r + 1) := by rw [ex_2]; first | rfl | (simp only [s_rt, c32, reduceIte]; done) | (simp [s_rt, c32, reduceIte]; done)
        rw [q3] at hl
        exact ih23  (r + 1) _ _ _ (by omega) (by omega) G (lv_sub hl [2, 3, 4, 1, 0] rfl)
  have q3 : x_1 = s_rt a r0 0 := by first | rfl | (rw [ex_1]; rfl)
  rw [q3] at hl
  exact K23 (nc - 0 + 1) 0 _ _ _ (by omega) (Nat.lt_succ_self _) G (lv_sub hl [3, 4, 2, 1, 0] rfl)

set_option maxHeartbeats 4000000 in
set_option maxRecDepth 100000 in
theorem kX2_canKeep (l : Launch) (D : va_G) (ad : Nat → Nat) (cy : Nat → ClassId) (I : gF) (J : gL) (a : gF) (b : gL) (sz : Nat) (nn nr : Nat) (set : Int32) (hnn : I 1 7 = nI nn) (hnn2 : nn ≤ 5) (hnr : I 1 8 = nI nr) (hnr2 : nr ≤ 8) : gMi l yX2_canKeep wsX2_canKeep ({ frames := 3, cells := 0, slots := 0, locals := 90 }) D ad cy I J a b sz [.ref (ad 2), .int set] (fun r u => r = (s_kf I J a b nn nr set).1 ∧ u = (s_kI I a b nn nr set, (s_kf I J a b nn nr set).2.1, (s_kf I J a b nn nr set).2.2.1, (s_kf I J a b nn nr set).2.2.2)) := by
  refine Met.ofW (cc := cX2_canKeep) (maxL := 3) (ret := some .boolean) (by decide) rfl ?_
  intro p e s m args below meth c s₁ B hml hv
  obtain ⟨hargs, hsz, G⟩ := gx_begin hv
  subst hsz
  have hx := B.exec
  have hb := B.bytes
  have hr := B.returns
  have hts := atoms_spec (ws := wsX2_canKeep) B.pre
  have hown : s.vm.findClass RX2 = some m.cls := findClass_of_methodNamed B.named
  have hlocks := B.notSynchronized
  have hinX1 : ∀ w ∈ wsX10, w ∈ wsX2_canKeep := by decide +kernel
  have hinX2 : ∀ w ∈ wsX20, w ∈ wsX2_canKeep := by decide +kernel
  have lk12 := hts (.fieldLink RX2 12 "ExactSimplex$Solver" "dictionary" "LExactSimplex$Dictionary;") (by decide +kernel)
  have lk18 := hts (.fieldLink RX2 18 "ExactSimplex$Solver" "goal" "[I") (by decide +kernel)
  have lk30 := hts (.fieldLink RX2 30 "ExactSimplex$Solver" "problem" "LExactSimplex$Problem;") (by decide +kernel)
  have lk58 := hts (.fieldLink RX2 58 "ExactSimplex$Problem" "names" "I") (by decide +kernel)
  have lk91 := hts (.fieldLink RX2 91 "ExactSimplex$Problem" "rows" "I") (by decide +kernel)
  have lk116 := hts (.fieldLink RX2 116 "ExactSimplex$Problem" "lows" "[I") (by decide +kernel)
  have lk130 := hts (.fieldLink RX2 130 "ExactSimplex$Problem" "highs" "[I") (by decide +kernel)
  have hl := lv_entry ([.ref (ad 2), .int set]) (n := 3) (Nat.le_of_ble_eq_true rfl)
  have hent := lg_entry_eq m ([.ref (ad 2), .int set]) 3
  rw [← hargs] at hent
  rw [hent]
  clear hent
  generalize (lg_sl ([.ref (ad 2), .int set]) ++ List.replicate (3 - (lg_sl ([.ref (ad 2), .int set])).length) Slot.unset).toArray = ls at hl ⊢
  have hl : lv_has ls 3 [(0, .ref (ad 2)), (1, .int set)] := hl
  generalize hA : gA ad s.heap.size = A at G ⊢
  generalize hH : s.heap = H at G ⊢
  refine gx_q (fun Q hQ => ?_)
  refine lv_aload_n hx hb dX2_canKeep_0 rfl (lv_at hl 0 rfl) ?_
  refine gx_get hx hb hts hinX2 hown G 2 (by decide) rfl rfl 1 (by decide) rfl lk12 rfl (v := .ref (ad 4)) rfl dX2_canKeep_1 ?_
  refine lv_aload_n hx hb dX2_canKeep_4 rfl (lv_at hl 0 rfl) ?_
  refine gx_get hx hb hts hinX2 hown G 2 (by decide) rfl rfl 0 (by decide) rfl lk30 rfl (v := .ref (ad 1)) rfl dX2_canKeep_5 ?_
  refine gx_get hx hb hts hinX1 hown G 1 (by decide) rfl rfl 7 (by decide) rfl lk58 rfl (v := .int (I 1 7)) rfl dX2_canKeep_8 ?_
  rw [hnn]
  refine gx_dVv (I1 := (s_k0 I nn)) (J1 := (gU J 4 6 1)) (a1 := (d_thaw (d_ids a nn) nn)) (b1 := b) (As := [.int (nI nn)]) (rest := []) ⟨hx, hb, hml, hown, hts⟩ G 4 (kX0_begin l D ad cy I J a b H.size nn hnn2) (cwV 1 hts gX2_canKeep_X0_begin rfl rfl rfl (by decide +kernel) ⟨Nat.le_of_ble_eq_true rfl, Nat.le_of_ble_eq_true rfl⟩) (by decide) rfl rfl rfl rfl hl.1 rfl (Nat.le_of_ble_eq_true rfl) ⟨Nat.zero_le _, Nat.zero_le _⟩ dX2_canKeep_11 (fun H locs G => ?_)
  refine lv_iconst (v := 0) hx hb dX2_canKeep_14 (by decide) ?_
  refine lv_istore_n (lv' := [(2, .int 0), (0, .ref (ad 2)), (1, .int set)]) hx hb dX2_canKeep_15 rfl hl (by decide) rfl (fun ls hl => ?_)
  have K16 : ∀ (nf : Nat) (r : Nat) (H : Heap) (locs : List Loc) (ls : Array Slot), (r ≤ nn) → nn - r < nf → GG D ad cy A s ((s_kn I a b nn r).1) (gU J 4 6 1) ((s_kn I a b nn r).2.1) ((s_kn I a b nn r).2.2) H locs → lv_has ls 3 [(0, .ref (ad 2)), (1, .int set), (2, .int (nI r))] → W p l e ({ frames := 3, cells := 0, slots := 0, locals := 90 }) s m args below meth c H locs 0 0 Q (F0 m 16 ls []) := by
    intro nf
    induction nf with
    | zero => exact fun _ _ _ _ _ hz => absurd hz (Nat.not_lt_zero _)
    | succ nf ih =>
      intro r H locs ls h1 hmeas G hl
      have ih16 := ih
      clear ih
      refine lv_iload_n hx hb dX2_canKeep_16 rfl (lv_at hl 2 rfl) ?_
      refine lv_aload_n hx hb dX2_canKeep_17 rfl (lv_at hl 0 rfl) ?_
      obtain ⟨g1, g2, g3⟩ := s_kn_I I a b nn r
      refine gx_get hx hb hts hinX2 hown G 2 (by decide) rfl rfl 0 (by decide) rfl lk30 rfl (v := .ref (ad 1)) rfl dX2_canKeep_18 ?_
      refine gx_get hx hb hts hinX1 hown G 1 (by decide) rfl rfl 7 (by decide) rfl lk58 rfl (v := .int (((s_kn I a b nn r).1) 1 7)) rfl dX2_canKeep_21 ?_
      rw [show (s_kn I a b nn r).1 1 7 = nI nn from (g3 1 7 (by decide)).trans hnn]
      refine lv_icmp_ge (tgt := 70) hx hb dX2_canKeep_24 (by decide) (fun c24 => ?_) (fun c24 => ?_)
      · skip
        have n24 := gn_le (X := nn) (Y := r) rfl rfl (by omega) (by omega) c24
        have hex : r = nn := by omega
        rw [hex] at hl
        rw [hex] at G
        refine lv_iconst (v := 0) hx hb dX2_canKeep_70 (by decide) ?_
        refine lv_istore_n (lv' := [(2, .int 0), (0, .ref (ad 2)), (1, .int set)]) hx hb dX2_canKeep_71 rfl hl (by decide) rfl (fun ls hl => ?_)
        have K72 : ∀ (nf : Nat) (q : Nat) (H : Heap) (locs : List Loc) (ls : Array Slot), (q ≤ nr) → nr - q < nf → GG D ad cy A s ((s_kr I a b nn set q).1.1) (gU J 4 6 1) ((s_kr I a b nn set q).1.2.1) ((s_kr I a b nn set q).1.2.2) H locs → lv_has ls 3 [(0, .ref (ad 2)), (1, .int set), (2, .int (nI q))] → W p l e ({ frames := 3, cells := 0, slots := 0, locals := 90 }) s m args below meth c H locs 0 0 Q (F0 m 72 ls []) := by
          intro nf
          induction nf with
          | zero => exact fun _ _ _ _ _ hz => absurd hz (Nat.not_lt_zero _)
          | succ nf ih =>
            intro q H locs ls h2 hmeas G hl
            have ih72 := ih
            clear ih
            refine lv_iload_n hx hb dX2_canKeep_72 rfl (lv_at hl 2 rfl) ?_
            refine lv_aload_n hx hb dX2_canKeep_73 rfl (lv_at hl 0 rfl) ?_
            obtain ⟨k1, k2, k3, k4⟩ := s_kr_I I a b nn set q
            refine gx_get hx hb hts hinX2 hown G 2 (by decide) rfl rfl 0 (by decide) rfl lk30 rfl (v := .ref (ad 1)) rfl dX2_canKeep_74 ?_
            refine gx_get hx hb hts hinX1 hown G 1 (by decide) rfl rfl 8 (by decide) rfl lk91 rfl (v := .int (((s_kr I a b nn set q).1.1) 1 8)) rfl dX2_canKeep_77 ?_
            rw [show (s_kr I a b nn set q).1.1 1 8 = nI nr from (k3 1 8 (by decide)).trans hnr]
            refine lv_icmp_ge (tgt := 102) hx hb dX2_canKeep_80 (by decide) (fun c80 => ?_) (fun c80 => ?_)
            · skip
              have n80 := gn_le (X := nr) (Y := q) rfl rfl (by omega) (by omega) c80
              have hex : q = nr := by omega
              rw [hex] at hl
              rw [hex] at G
              refine lv_aload_n hx hb dX2_canKeep_102 rfl (lv_at hl 0 rfl) ?_
              refine gx_get hx hb hts hinX2 hown G 2 (by decide) rfl rfl 1 (by decide) rfl lk12 rfl (v := .ref (ad 4)) rfl dX2_canKeep_103 ?_
              refine gx_dVi (v := ((s_kf I J a b nn nr set).1)) (I1 := ((s_kr I a b nn set nr).1.1)) (J1 := ((s_kf I J a b nn nr set).2.1)) (a1 := ((s_kf I J a b nn nr set).2.2.1)) (b1 := ((s_kf I J a b nn nr set).2.2.2)) (As := []) (rest := []) ⟨hx, hb, hml, hown, hts⟩ G 4 (kX0_findPoint l D ad cy ((s_kr I a b nn set nr).1.1) (gU J 4 6 1) ((s_kr I a b nn set nr).1.2.1) ((s_kr I a b nn set nr).1.2.2) H.size (s_kr I a b nn set nr).2 nn (s_kr_I I a b nn set nr).1 (by have := (s_kr_I I a b nn set nr).2.2.2; omega) (s_kr_I I a b nn set nr).2.1 hnn2) (cwV 0 hts gX2_canKeep_X0_findPoint rfl rfl rfl (by decide +kernel) ⟨Nat.le_of_ble_eq_true rfl, Nat.le_of_ble_eq_true rfl⟩) (by decide) rfl rfl rfl rfl hl.1 rfl (Nat.le_of_ble_eq_true rfl) ⟨Nat.zero_le _, Nat.zero_le _⟩ dX2_canKeep_106 (fun H locs G => ?_)
              exact gx_zr hx hb hr hlocks G hQ (z01 (d_find_01 _ _ _ _)) ⟨by first | rfl | (simp only [c80, reduceIte]; done) | (simp [c80, reduceIte]; done), rfl⟩ dX2_canKeep_109
            · skip
              have n80 := gn_nle (X := nr) (Y := q) rfl rfl (by omega) (by omega) c80
              refine lv_iload_n hx hb dX2_canKeep_83 rfl (lv_at hl 1 rfl) ?_
              refine lv_iconst (v := 1) hx hb dX2_canKeep_84 (by decide) ?_
              refine lv_iload_n hx hb dX2_canKeep_85 rfl (lv_at hl 2 rfl) ?_
              refine lv_ishl hx hb dX2_canKeep_86 ?_
              refine lv_iand hx hb dX2_canKeep_87 ?_
              refine lv_if_eq (tgt := 96) hx hb dX2_canKeep_88 (by decide) (fun c88 => ?_) (fun c88 => ?_)
              · skip
                refine lv_iinc (v := (nI (q + 1))) (lv' := [(2, .int (nI (q + 1))), (0, .ref (ad 2)), (1, .int set)]) hx hb dX2_canKeep_96 hl (k := 2) rfl (gn_add (X := q) (Y := 1) rfl rfl) (by decide) rfl (fun ls hl => ?_)
                refine lv_goto (tgt := 72) hx hb dX2_canKeep_99 (by decide) ?_
                exact ih72  (q + 1) _ _ _ (by omega) (by omega) (gg_eq G (by first | rw [s_kr_p c88] | rw [s_kr_n c88]) rfl (by first | rw [s_kr_p c88] | rw [s_kr_n c88]) (by first | rw [s_kr_p c88] | rw [s_kr_n c88])) (lv_sub hl [1, 2, 0] rfl)
              · skip
                refine lv_aload_n hx hb dX2_canKeep_91 rfl (lv_at hl 0 rfl) ?_
                refine lv_iload_n hx hb dX2_canKeep_92 rfl (lv_at hl 2 rfl) ?_
                refine gx_dVv (I1 := ((s_row ((s_kr I a b nn set q).1.1) ((s_kr I a b nn set q).1.2.1) ((s_kr I a b nn set q).1.2.2) q (s_kr I a b nn set q).2 nn).1)) (J1 := (gU J 4 6 1)) (a1 := ((s_row ((s_kr I a b nn set q).1.1) ((s_kr I a b nn set q).1.2.1) ((s_kr I a b nn set q).1.2.2) q (s_kr I a b nn set q).2 nn).2.1)) (b1 := ((s_row ((s_kr I a b nn set q).1.1) ((s_kr I a b nn set q).1.2.1) ((s_kr I a b nn set q).1.2.2) q (s_kr I a b nn set q).2 nn).2.2)) (As := [.int (nI q)]) (rest := []) ⟨hx, hb, hml, hown, hts⟩ G 2 (kX2_addRow l D ad cy ((s_kr I a b nn set q).1.1) (gU J 4 6 1) ((s_kr I a b nn set q).1.2.1) ((s_kr I a b nn set q).1.2.2) H.size (s_kr I a b nn set q).2 nn q k1 (by omega) k2 hnn2 ((k3 1 7 (by decide)).trans hnn) (by omega)) (cwV 1 hts gX2_canKeep_X2_addRow rfl rfl rfl (by decide +kernel) ⟨Nat.le_of_ble_eq_true rfl, Nat.le_of_ble_eq_true rfl⟩) (by decide) rfl rfl rfl rfl hl.1 rfl (Nat.le_of_ble_eq_true rfl) ⟨Nat.zero_le _, Nat.zero_le _⟩ dX2_canKeep_93 (fun H locs G => ?_)
                refine lv_iinc (v := (nI (q + 1))) (lv' := [(2, .int (nI (q + 1))), (0, .ref (ad 2)), (1, .int set)]) hx hb dX2_canKeep_96 hl (k := 2) rfl (gn_add (X := q) (Y := 1) rfl rfl) (by decide) rfl (fun ls hl => ?_)
                refine lv_goto (tgt := 72) hx hb dX2_canKeep_99 (by decide) ?_
                exact ih72  (q + 1) _ _ _ (by omega) (by omega) (gg_eq G (by first | rw [s_kr_p c88] | rw [s_kr_n c88]) rfl (by first | rw [s_kr_p c88] | rw [s_kr_n c88]) (by first | rw [s_kr_p c88] | rw [s_kr_n c88])) (lv_sub hl [1, 2, 0] rfl)
        exact K72 (nr - 0 + 1) 0 _ _ _ (by omega) (Nat.lt_succ_self _) (gg_eq G (rfl) rfl (rfl) (rfl)) (lv_sub hl [1, 2, 0] rfl)
      · skip
        have n24 := gn_nle (X := nn) (Y := r) rfl rfl (by omega) (by omega) c24
        refine lv_aload_n hx hb dX2_canKeep_27 rfl (lv_at hl 0 rfl) ?_
        refine lv_iload_n hx hb dX2_canKeep_28 rfl (lv_at hl 2 rfl) ?_
        refine lv_iconst (v := 1) hx hb dX2_canKeep_29 (by decide) ?_
        refine gx_dVv (I1 := ((s_kn I a b nn r).1)) (J1 := (gU J 4 6 1)) (a1 := (s_aim ((s_kn I a b nn r).2.1) (nI r) 1 5)) (b1 := ((s_kn I a b nn r).2.2)) (As := [.int (nI r), .int 1]) (rest := []) ⟨hx, hb, hml, hown, hts⟩ G 2 (kX2_aimAt l D ad cy ((s_kn I a b nn r).1) (gU J 4 6 1) ((s_kn I a b nn r).2.1) ((s_kn I a b nn r).2.2) H.size (nI r) 1) (cwV 2 hts gX2_canKeep_X2_aimAt rfl rfl rfl (by decide +kernel) ⟨Nat.le_of_ble_eq_true rfl, Nat.le_of_ble_eq_true rfl⟩) (by decide) rfl rfl rfl rfl hl.1 rfl (Nat.le_of_ble_eq_true rfl) ⟨Nat.zero_le _, Nat.zero_le _⟩ dX2_canKeep_30 (fun H locs G => ?_)
        refine lv_aload_n hx hb dX2_canKeep_33 rfl (lv_at hl 0 rfl) ?_
        refine gx_get hx hb hts hinX2 hown G 2 (by decide) rfl rfl 1 (by decide) rfl lk12 rfl (v := .ref (ad 4)) rfl dX2_canKeep_34 ?_
        refine lv_aload_n hx hb dX2_canKeep_37 rfl (lv_at hl 0 rfl) ?_
        refine gx_get hx hb hts hinX2 hown G 2 (by decide) rfl rfl 2 (by decide) rfl lk18 rfl (v := .ref (ad 19)) rfl dX2_canKeep_38 ?_
        refine lv_iconst (v := 1) hx hb dX2_canKeep_41 (by decide) ?_
        refine lv_aload_n hx hb dX2_canKeep_42 rfl (lv_at hl 0 rfl) ?_
        refine gx_get hx hb hts hinX2 hown G 2 (by decide) rfl rfl 0 (by decide) rfl lk30 rfl (v := .ref (ad 1)) rfl dX2_canKeep_43 ?_
        refine gx_get hx hb hts hinX1 hown G 1 (by decide) rfl rfl 1 (by decide) rfl lk130 rfl (v := .ref (ad 7)) rfl dX2_canKeep_46 ?_
        refine lv_iload_n hx hb dX2_canKeep_49 rfl (lv_at hl 2 rfl) ?_
        refine gx_iald hx hb G 7 (by decide) (rfl) (by decide) r rfl (by omega) dX2_canKeep_50 ?_
        refine lv_aload_n hx hb dX2_canKeep_51 rfl (lv_at hl 0 rfl) ?_
        refine gx_get hx hb hts hinX2 hown G 2 (by decide) rfl rfl 0 (by decide) rfl lk30 rfl (v := .ref (ad 1)) rfl dX2_canKeep_52 ?_
        refine gx_get hx hb hts hinX1 hown G 1 (by decide) rfl rfl 0 (by decide) rfl lk116 rfl (v := .ref (ad 6)) rfl dX2_canKeep_55 ?_
        refine lv_iload_n hx hb dX2_canKeep_58 rfl (lv_at hl 2 rfl) ?_
        refine gx_iald hx hb G 6 (by decide) (rfl) (by decide) r rfl (by omega) dX2_canKeep_59 ?_
        refine lv_isub hx hb dX2_canKeep_60 ?_
        refine gx_dVv (I1 := (gU ((s_kn I a b nn r).1) 4 7 (((s_kn I a b nn r).1) 4 7 + 1))) (J1 := (gU J 4 6 1)) (a1 := (gU (s_aim ((s_kn I a b nn r).2.1) (nI r) 1 5) 15 r (((s_kn I a b nn r).1) 4 8 + ((s_kn I a b nn r).1) 4 7))) (b1 := (d_addB (s_aim ((s_kn I a b nn r).2.1) (nI r) 1 5) ((s_kn I a b nn r).2.2) 19 r nn 1 ((s_aim ((s_kn I a b nn r).2.1) (nI r) 1 5) 7 r - (s_aim ((s_kn I a b nn r).2.1) (nI r) 1 5) 6 r))) (As := [.ref (ad 19), .int 1, .int (((s_aim ((s_kn I a b nn r).2.1) (nI r) 1 5) 7 r) - ((s_aim ((s_kn I a b nn r).2.1) (nI r) 1 5) 6 r))]) (rest := []) ⟨hx, hb, hml, hown, hts⟩ G 4 (kX0_addAtMost l D ad cy ((s_kn I a b nn r).1) (gU J 4 6 1) (s_aim ((s_kn I a b nn r).2.1) (nI r) 1 5) ((s_kn I a b nn r).2.2) H.size r nn 19 1 ((s_aim ((s_kn I a b nn r).2.1) (nI r) 1 5) 7 r - (s_aim ((s_kn I a b nn r).2.1) (nI r) 1 5) 6 r) g1 (by omega) g2 hnn2 (by decide) rfl) (cwV 3 hts gX2_canKeep_X0_addAtMost rfl rfl rfl (by decide +kernel) ⟨Nat.le_of_ble_eq_true rfl, Nat.le_of_ble_eq_true rfl⟩) (by decide) rfl rfl rfl rfl hl.1 rfl (Nat.le_of_ble_eq_true rfl) ⟨Nat.zero_le _, Nat.zero_le _⟩ dX2_canKeep_61 (fun H locs G => ?_)
        refine lv_iinc (v := (nI (r + 1))) (lv' := [(2, .int (nI (r + 1))), (0, .ref (ad 2)), (1, .int set)]) hx hb dX2_canKeep_64 hl (k := 2) rfl (gn_add (X := r) (Y := 1) rfl rfl) (by decide) rfl (fun ls hl => ?_)
        refine lv_goto (tgt := 16) hx hb dX2_canKeep_67 (by decide) ?_
        exact ih16  (r + 1) _ _ _ (by omega) (by omega) (gg_eq G (rfl) rfl (rfl) (rfl)) (lv_sub hl [1, 2, 0] rfl)
  exact K16 (nn - 0 + 1) 0 _ _ _ (by omega) (Nat.lt_succ_self _) (gg_eq G (rfl) rfl (rfl) (rfl)) (lv_sub hl [1, 2, 0] rfl)

set_option maxHeartbeats 4000000 in
set_option maxRecDepth 100000 in
theorem kX2_hasPoint (l : Launch) (D : va_G) (ad : Nat → Nat) (cy : Nat → ClassId) (I : gF) (J : gL) (a : gF) (b : gL) (sz : Nat) (nn nr : Nat) (hnn : I 1 7 = nI nn) (hnn2 : nn ≤ 5) (hnr : I 1 8 = nI nr) (hnr2 : nr ≤ 8) (h01 : I 2 6 = 0 ∨ I 2 6 = 1) : gMi l yX2_hasPoint wsX2_hasPoint ({ frames := 4, cells := 0, slots := 0, locals := 112 }) D ad cy I J a b sz [.ref (ad 2)] (fun r u => r = s_hp I J a b nn nr ∧ u = (s_hpI I J a b nn nr, s_hpJ I J a b nn nr, s_hpA I J a b nn nr, s_hpB I J a b nn nr)) := by
  refine Met.ofW (cc := cX2_hasPoint) (maxL := 1) (ret := some .boolean) (by decide) rfl ?_
  intro p e s m args below meth c s₁ B hml hv
  obtain ⟨hargs, hsz, G⟩ := gx_begin hv
  subst hsz
  have hx := B.exec
  have hb := B.bytes
  have hr := B.returns
  have hts := atoms_spec (ws := wsX2_hasPoint) B.pre
  have hown : s.vm.findClass RX2 = some m.cls := findClass_of_methodNamed B.named
  have hlocks := B.notSynchronized
  have hinX2 : ∀ w ∈ wsX20, w ∈ wsX2_hasPoint := by decide +kernel
  have lk34 := hts (.fieldLink RX2 34 "ExactSimplex$Solver" "pointSought" "Z") (by decide +kernel)
  have lk52 := hts (.fieldLink RX2 52 "ExactSimplex$Solver" "pointThere" "Z") (by decide +kernel)
  have hl := lv_entry ([.ref (ad 2)]) (n := 1) (Nat.le_of_ble_eq_true rfl)
  have hent := lg_entry_eq m ([.ref (ad 2)]) 1
  rw [← hargs] at hent
  rw [hent]
  clear hent
  generalize (lg_sl ([.ref (ad 2)]) ++ List.replicate (1 - (lg_sl ([.ref (ad 2)])).length) Slot.unset).toArray = ls at hl ⊢
  have hl : lv_has ls 1 [(0, .ref (ad 2))] := hl
  generalize hA : gA ad s.heap.size = A at G ⊢
  generalize hH : s.heap = H at G ⊢
  refine gx_q (fun Q hQ => ?_)
  refine lv_aload_n hx hb dX2_hasPoint_0 rfl (lv_at hl 0 rfl) ?_
  refine gx_get hx hb hts hinX2 hown G 2 (by decide) rfl rfl 5 (by decide) rfl lk34 rfl (v := .int (I 2 5)) rfl dX2_hasPoint_1 ?_
  refine lv_if_ne (tgt := 24) hx hb dX2_hasPoint_4 (by decide) (fun c4 => ?_) (fun c4 => ?_)
  · skip
    refine lv_aload_n hx hb dX2_hasPoint_24 rfl (lv_at hl 0 rfl) ?_
    refine gx_get hx hb hts hinX2 hown G 2 (by decide) rfl rfl 6 (by decide) rfl lk52 rfl (v := .int (I 2 6)) rfl dX2_hasPoint_25 ?_
    exact gx_zr hx hb hr hlocks G hQ (by first | exact z01 h01 | exact z01 (d_find_01 _ _ _ _)) ⟨by simp only [s_hp, c4, reduceIte], by simp only [s_hpI, s_hpJ, s_hpA, s_hpB, c4, reduceIte]⟩ dX2_hasPoint_28
  · skip
    refine lv_aload_n hx hb dX2_hasPoint_7 rfl (lv_at hl 0 rfl) ?_
    refine lv_aload_n hx hb dX2_hasPoint_8 rfl (lv_at hl 0 rfl) ?_
    refine lv_aload_n hx hb dX2_hasPoint_9 rfl (lv_at hl 0 rfl) ?_
    refine gx_dVi (v := (s_all a nr)) (I1 := I) (J1 := J) (a1 := a) (b1 := b) (As := []) (rest := [.ref (ad 2), .ref (ad 2)]) ⟨hx, hb, hml, hown, hts⟩ G 2 (kX2_allRows l D ad cy I J a b H.size nr hnr hnr2) (cwV 0 hts gX2_hasPoint_X2_allRows rfl rfl rfl (by decide +kernel) ⟨Nat.le_of_ble_eq_true rfl, Nat.le_of_ble_eq_true rfl⟩) (by decide) rfl rfl rfl rfl hl.1 rfl (Nat.le_of_ble_eq_true rfl) ⟨Nat.zero_le _, Nat.zero_le _⟩ dX2_hasPoint_10 (fun H locs G => ?_)
    refine gx_dVi (v := ((s_kf I J a b nn nr (s_all a nr)).1)) (I1 := (s_kI I a b nn nr (s_all a nr))) (J1 := ((s_kf I J a b nn nr (s_all a nr)).2.1)) (a1 := ((s_kf I J a b nn nr (s_all a nr)).2.2.1)) (b1 := ((s_kf I J a b nn nr (s_all a nr)).2.2.2)) (As := [.int (s_all a nr)]) (rest := [.ref (ad 2)]) ⟨hx, hb, hml, hown, hts⟩ G 2 (kX2_canKeep l D ad cy I J a b H.size nn nr (s_all a nr) hnn hnn2 hnr hnr2) (cwV 1 hts gX2_hasPoint_X2_canKeep rfl rfl rfl (by decide +kernel) ⟨Nat.le_of_ble_eq_true rfl, Nat.le_of_ble_eq_true rfl⟩) (by decide) rfl rfl rfl rfl hl.1 rfl (Nat.le_of_ble_eq_true rfl) ⟨Nat.zero_le _, Nat.zero_le _⟩ dX2_hasPoint_13 (fun H locs G => ?_)
    refine gx_putI hx hb hts hinX2 tyX2 tyX2_ok nmX2 hown G 2 (by decide) rfl rfl 6 (by decide) rfl lk52 rfl rfl (tyX2_ok 6 (by decide)) (z01 (d_find_01 _ _ _ _)) (z01f (d_find_01 _ _ _ _)) dX2_hasPoint_16 (fun H locs G => ?_)
    refine lv_aload_n hx hb dX2_hasPoint_19 rfl (lv_at hl 0 rfl) ?_
    refine lv_iconst (v := 1) hx hb dX2_hasPoint_20 (by decide) ?_
    refine gx_putI hx hb hts hinX2 tyX2 tyX2_ok nmX2 hown G 2 (by decide) rfl rfl 5 (by decide) rfl lk34 rfl rfl (tyX2_ok 5 (by decide)) (rfl) (rfl) dX2_hasPoint_21 (fun H locs G => ?_)
    refine lv_aload_n hx hb dX2_hasPoint_24 rfl (lv_at hl 0 rfl) ?_
    refine gx_get hx hb hts hinX2 hown G 2 (by decide) rfl rfl 6 (by decide) rfl lk52 rfl (v := .int ((s_kf I J a b nn nr (s_all a nr)).1)) rfl dX2_hasPoint_25 ?_
    exact gx_zr hx hb hr hlocks G hQ (by first | exact z01 h01 | exact z01 (d_find_01 _ _ _ _)) ⟨by simp only [s_hp, c4, reduceIte], by simp only [s_hpI, s_hpJ, s_hpA, s_hpB, c4, reduceIte]⟩ dX2_hasPoint_28
end
section
/-! Solver: the best, the ends, the barred -/
theorem gx_m1 (x : Int32) : x + -1 = x - 1 := by rw [Int32.sub_eq_add_neg]
theorem d_freeze_k (a : gF) (b : gL) {c : Nat} (h : c ≠ 17) : ∀ n, d_freeze a b n c = a c
  | 0 => rfl
  | n + 1 => by
    unfold d_freeze
    split
    · exact d_freeze_k a b h n
    · rw [gU_k h]
      exact d_freeze_k a b h n
theorem d_thaw_k (a : gF) {c : Nat} (h : c ≠ 17) : ∀ n, d_thaw a n c = a c
  | 0 => rfl
  | n + 1 => by
    unfold d_thaw
    rw [gU_k h]
    exact d_thaw_k a h n
theorem nI_clamp_le (j : Nat) : (nI j).toNatClampNeg ≤ j := by
  have h : (nI j).toInt = (j : Int).bmod (2 ^ 32) := Int32.toInt_ofNat
  have h2 : (nI j).toNatClampNeg = (nI j).toInt.toNat := rfl
  rw [h2, h]
  simp only [Int.bmod]
  split <;> omega
theorem d_min_nat (I : gF) (kg nl nc : Nat) : ∀ n (x : gL × gF × gL), d_nat (x.2.1 15) nl → d_nat (x.2.1 16) nc → d_nat ((d_min I kg nl nc n x).2.1 15) nl ∧ d_nat ((d_min I kg nl nc n x).2.1 16) nc
  | 0, x, h1, h2 => ⟨h1, h2⟩
  | n + 1, x, h1, h2 => by
    unfold d_min
    split
    · rename_i c1
      split
      · rename_i c2
        obtain ⟨js, hjs, ejs⟩ := (d_fall_ix x.2.1 (d_slopes I x.1 x.2.1 x.2.2 kg nl nc) nc).resolve_left (gx_notneg c1)
        obtain ⟨jr, hjr, ejr⟩ := (d_stop_ix x.2.1 (d_slopes I x.1 x.2.1 x.2.2 kg nl nc) (d_fall x.2.1 (d_slopes I x.1 x.2.1 x.2.2 kg nl nc) nc).toNatClampNeg nl).resolve_left (gx_notneg c2)
        by_cases hb : nc < 2 ^ 31 ∧ nl < 2 ^ 31
        · apply d_min_nat
          · refine d_pA_15 ?_ h1 h2
            rw [gx_clamp ejs (by omega)]
            exact hjs
          · refine d_pA_16 ?_ h1 h2
            rw [gx_clamp ejr (by omega)]
            exact hjr
        · apply d_min_nat
          · refine d_pA_15 ?_ h1 h2
            rw [ejs]
            exact Nat.lt_of_le_of_lt (nI_clamp_le js) hjs
          · refine d_pA_16 ?_ h1 h2
            rw [ejr]
            exact Nat.lt_of_le_of_lt (nI_clamp_le jr) hjr
      · exact ⟨h1, h2⟩
    · exact ⟨h1, h2⟩
def s_k2b (I : gF) (J : gL) (a : gF) (b : gL) (nl nc : Nat) : gL × gF × gL := ((d_min I 8 nl nc mPV (J, a, b)).1, d_freeze (d_min I 8 nl nc mPV (J, a, b)).2.1 (d_min I 8 nl nc mPV (J, a, b)).2.2 nc, (d_min I 8 nl nc mPV (J, a, b)).2.2)
theorem s_k2b_nat (I : gF) (J : gL) (a : gF) (b : gL) (nl nc : Nat) (h1 : d_nat (a 15) nl) (h2 : d_nat (a 16) nc) : d_nat ((s_k2b I J a b nl nc).2.1 15) nl ∧ d_nat ((s_k2b I J a b nl nc).2.1 16) nc := by
  unfold s_k2b
  simp only [d_freeze_k _ _ (show 15 ≠ 17 by decide), d_freeze_k _ _ (show 16 ≠ 17 by decide)]
  exact d_min_nat I 8 nl nc mPV (J, a, b) h1 h2
def s_w (sd : Int32) : Int32 := if sd = 0 then 1 else -1
def s_endX (I : gF) (J : gL) (a : gF) (b : gL) (nl nc n0 : Nat) (w : Int32) : gL × gF × gL := d_min I 19 nl nc mPV (J, s_aim a (nI n0) w 5, b)
def s_end (I : gF) (J : gL) (a : gF) (b : gL) (nl nc n0 : Nat) (w pt : Int32) : Int64 := s_part (((s_endX I J a b nl nc n0 w).2.1 6 n0).toInt64 * (s_endX I J a b nl nc n0 w).1 4 6 + d_num (s_endX I J a b nl nc n0 w).2.1 (s_endX I J a b nl nc n0 w).2.2 (nI n0) nl 0) ((s_endX I J a b nl nc n0 w).1 4 6) pt
/-- the first best: the names one by one -/
def s_fb (I : gF) (J : gL) (a : gF) (b : gL) (nl nc : Nat) : Nat → gL × gF × gL
  | 0 => s_k2b I J (d_thaw a nc) b nl nc
  | n + 1 => ((s_endX I (s_fb I J a b nl nc n).1 (s_fb I J a b nl nc n).2.1 (s_fb I J a b nl nc n).2.2 nl nc n 1).1, d_freeze (s_endX I (s_fb I J a b nl nc n).1 (s_fb I J a b nl nc n).2.1 (s_fb I J a b nl nc n).2.2 nl nc n 1).2.1 (s_endX I (s_fb I J a b nl nc n).1 (s_fb I J a b nl nc n).2.1 (s_fb I J a b nl nc n).2.2 nl nc n 1).2.2 nc, (s_endX I (s_fb I J a b nl nc n).1 (s_fb I J a b nl nc n).2.1 (s_fb I J a b nl nc n).2.2 nl nc n 1).2.2)
theorem s_fb_s (I : gF) (J : gL) (a : gF) (b : gL) (nl nc n : Nat) : s_fb I J a b nl nc (n + 1) = ((d_min I 19 nl nc mPV ((s_fb I J a b nl nc n).1, s_aim (s_fb I J a b nl nc n).2.1 (nI n) 1 5, (s_fb I J a b nl nc n).2.2)).1, d_freeze (d_min I 19 nl nc mPV ((s_fb I J a b nl nc n).1, s_aim (s_fb I J a b nl nc n).2.1 (nI n) 1 5, (s_fb I J a b nl nc n).2.2)).2.1 (d_min I 19 nl nc mPV ((s_fb I J a b nl nc n).1, s_aim (s_fb I J a b nl nc n).2.1 (nI n) 1 5, (s_fb I J a b nl nc n).2.2)).2.2 nc, (d_min I 19 nl nc mPV ((s_fb I J a b nl nc n).1, s_aim (s_fb I J a b nl nc n).2.1 (nI n) 1 5, (s_fb I J a b nl nc n).2.2)).2.2) := by
  simp only [s_fb, s_endX]
theorem s_endX_nat (I : gF) (J : gL) (a : gF) (b : gL) (nl nc n0 : Nat) (w : Int32) (h1 : d_nat (a 15) nl) (h2 : d_nat (a 16) nc) : d_nat ((s_endX I J a b nl nc n0 w).2.1 15) nl ∧ d_nat ((s_endX I J a b nl nc n0 w).2.1 16) nc :=
  d_min_nat I 19 nl nc mPV _ (by show d_nat (s_aim a (nI n0) w 5 15) nl; rw [s_aim_k _ _ _ (by decide)]; exact h1) (by show d_nat (s_aim a (nI n0) w 5 16) nc; rw [s_aim_k _ _ _ (by decide)]; exact h2)
theorem s_fb_nat (I : gF) (J : gL) (a : gF) (b : gL) (nl nc : Nat) (h1 : d_nat (a 15) nl) (h2 : d_nat (a 16) nc) : ∀ n, d_nat ((s_fb I J a b nl nc n).2.1 15) nl ∧ d_nat ((s_fb I J a b nl nc n).2.1 16) nc
  | 0 => s_k2b_nat I J (d_thaw a nc) b nl nc (by rw [d_thaw_k _ (by decide)]; exact h1) (by rw [d_thaw_k _ (by decide)]; exact h2)
  | n + 1 => by
    obtain ⟨g1, g2⟩ := s_fb_nat I J a b nl nc h1 h2 n
    unfold s_fb
    simp only [d_freeze_k _ _ (show 15 ≠ 17 by decide), d_freeze_k _ _ (show 16 ≠ 17 by decide)]
    exact s_endX_nat I _ _ _ nl nc n 1 g1 g2
def s_fbB (J : gL) (a : gF) (b : gL) (nl : Nat) : Nat → gL
  | 0 => b
  | n + 1 => gU (s_fbB J a b nl n) 20 n ((a 6 n).toInt64 * J 4 6 + d_num a (s_fbB J a b nl n) (nI n) nl 0)
def s_ffI (I : gF) : gF := if I 2 7 = 0 then gU I 2 7 1 else I
def s_ffJ (I : gF) (J : gL) (a : gF) (b : gL) (nn nl nc : Nat) : gL := if I 2 7 = 0 then gU (s_fb I J a b nl nc nn).1 2 4 ((s_fb I J a b nl nc nn).1 4 6) else J
def s_ffA (I : gF) (J : gL) (a : gF) (b : gL) (nn nl nc : Nat) : gF := if I 2 7 = 0 then (s_fb I J a b nl nc nn).2.1 else a
def s_ffB (I : gF) (J : gL) (a : gF) (b : gL) (nn nl nc : Nat) : gL := if I 2 7 = 0 then s_fbB (s_fb I J a b nl nc nn).1 (s_fb I J a b nl nc nn).2.1 (s_fb I J a b nl nc nn).2.2 nl nn else b
theorem s_ffI_k {I : gF} {k j : Nat} (h : k ≠ 2 ∨ j ≠ 7) : s_ffI I k j = I k j := by
  unfold s_ffI
  split
  · exact gU_n h
  · rfl
def s_sum (a : gF) (b : gL) : Nat → Int64
  | 0 => 0
  | n + 1 => s_sum a b n + (a 8 n).toInt64 * b 20 n
def s_tsum (a : gF) (b : gL) (r0 : Nat) : Nat → Int64
  | 0 => 0
  | n + 1 => s_tsum a b r0 n + (a (40 + r0) n).toInt64 * b 20 n
def s_wo (set : Int32) (k : Nat) : Int32 := set &&& (((1 : Int32) <<< (nI k &&& 31)) ^^^ -1)
abbrev s_X : Type := Int32 × gF × gL × gF × gL
/-- canKeep over a state -/
def s_ck (nn nr : Nat) (set : Int32) (x : s_X) : Int32 := (s_kf x.2.1 x.2.2.1 x.2.2.2.1 x.2.2.2.2 nn nr set).1
def s_cx (nn nr : Nat) (set s2 : Int32) (x : s_X) : s_X := (s2, s_kI x.2.1 x.2.2.2.1 x.2.2.2.2 nn nr set, (s_kf x.2.1 x.2.2.1 x.2.2.2.1 x.2.2.2.2 nn nr set).2.1, (s_kf x.2.1 x.2.2.1 x.2.2.2.1 x.2.2.2.2 nn nr set).2.2.1, (s_kf x.2.1 x.2.2.1 x.2.2.2.1 x.2.2.2.2 nn nr set).2.2.2)
def s_bar (nn nr : Nat) : Nat → s_X → s_X
  | 0, x => x
  | k + 1, x => if s_wo x.1 k = x.1 then s_bar nn nr k x else if s_ck nn nr (s_wo x.1 k) x = 0 then s_bar nn nr k (s_cx nn nr (s_wo x.1 k) (s_wo x.1 k) x) else s_bar nn nr k (s_cx nn nr (s_wo x.1 k) x.1 x)
def s_fbar (I : gF) (J : gL) (a : gF) (b : gL) (nn nr : Nat) : s_X := s_bar nn nr nr (s_all a nr, I, J, a, b)
def s_brI (I : gF) (J : gL) (a : gF) (b : gL) (nn nr : Nat) : gF := if I 2 8 = 0 then gU (gU (s_fbar I J a b nn nr).2.1 2 9 (s_fbar I J a b nn nr).1) 2 8 1 else I
def s_brJ (I : gF) (J : gL) (a : gF) (b : gL) (nn nr : Nat) : gL := if I 2 8 = 0 then (s_fbar I J a b nn nr).2.2.1 else J
def s_brA (I : gF) (J : gL) (a : gF) (b : gL) (nn nr : Nat) : gF := if I 2 8 = 0 then (s_fbar I J a b nn nr).2.2.2.1 else a
def s_brB (I : gF) (J : gL) (a : gF) (b : gL) (nn nr : Nat) : gL := if I 2 8 = 0 then (s_fbar I J a b nn nr).2.2.2.2 else b
theorem s_kI_k {I a : gF} {b : gL} {nn nr k j : Nat} {set : Int32} (h : k ≠ 4) : s_kI I a b nn nr set k j = I k j := (s_kr_I I a b nn set nr).2.2.1 k j h
theorem s_bar_I (nn nr : Nat) {c j : Nat} (h : c ≠ 4) : ∀ k x, (s_bar nn nr k x).2.1 c j = x.2.1 c j
  | 0, x => rfl
  | k + 1, x => by
    unfold s_bar
    split
    · exact s_bar_I nn nr h k x
    · split
      · exact (s_bar_I nn nr h k _).trans (s_kI_k h)
      · exact (s_bar_I nn nr h k _).trans (s_kI_k h)
theorem s_brI_k {I : gF} {J : gL} {a : gF} {b : gL} {nn nr c j : Nat} (h4 : c ≠ 4) (h2 : c ≠ 2) : s_brI I J a b nn nr c j = I c j := by
  unfold s_brI
  split
  · exact (gU_n (Or.inl h2)).trans ((gU_n (Or.inl h2)).trans (s_bar_I nn nr h4 nr _))
  · rfl
def s_brow (set k : Int32) : Nat → Nat → Int32 → Int32
  | 0, _, _ => -1
  | n + 1, r, pl => if set &&& ((1 : Int32) <<< (nI r &&& 31)) = 0 then s_brow set k n (r + 1) pl else if pl = k then nI r else s_brow set k n (r + 1) (pl + 1)
theorem s_brow_s (set k : Int32) {n r : Nat} (h : r < n) (pl : Int32) : s_brow set k (n - r) r pl = if set &&& ((1 : Int32) <<< (nI r &&& 31)) = 0 then s_brow set k (n - (r + 1)) (r + 1) pl else if pl = k then nI r else s_brow set k (n - (r + 1)) (r + 1) (pl + 1) := by
  rw [show n - r = (n - (r + 1)) + 1 by omega]
  rfl

def s_ebX (I : gF) (J : gL) (a : gF) (b : gL) (nl nc n0 : Nat) (sd : Int32) : gL × gF × gL := s_endX I (s_k2b I J (d_thaw a nc) b nl nc).1 (s_k2b I J (d_thaw a nc) b nl nc).2.1 (s_k2b I J (d_thaw a nc) b nl nc).2.2 nl nc n0 (s_w sd)
def s_eb (I : gF) (J : gL) (a : gF) (b : gL) (nl nc n0 : Nat) (sd pt : Int32) : Int64 := s_end I (s_k2b I J (d_thaw a nc) b nl nc).1 (s_k2b I J (d_thaw a nc) b nl nc).2.1 (s_k2b I J (d_thaw a nc) b nl nc).2.2 nl nc n0 (s_w sd) pt

set_option maxHeartbeats 4000000 in
set_option maxRecDepth 100000 in
theorem kX2_keepToBest (l : Launch) (D : va_G) (ad : Nat → Nat) (cy : Nat → ClassId) (I : gF) (J : gL) (a : gF) (b : gL) (sz : Nat) (nl nc : Nat) (hnl : I 4 7 = nI nl) (hnl2 : nl ≤ 21) (hnc : I 4 8 = nI nc) (hnc2 : nc ≤ 5) (hbas : d_nat (a 15) nl) (hout : d_nat (a 16) nc) : gMv l yX2_keepToBest wsX2_keepToBest ({ frames := 3, cells := 0, slots := 0, locals := 91 }) D ad cy I J a b sz [.ref (ad 2)] (fun u => u = (I, (s_k2b I J a b nl nc).1, (s_k2b I J a b nl nc).2.1, (s_k2b I J a b nl nc).2.2)) := by
  refine Met.ofW (cc := cX2_keepToBest) (maxL := 1) (ret := none) (by decide) rfl ?_
  intro p e s m args below meth c s₁ B hml hv
  obtain ⟨hargs, hsz, G⟩ := gx_begin hv
  subst hsz
  have hx := B.exec
  have hb := B.bytes
  have hr := B.returns
  have hts := atoms_spec (ws := wsX2_keepToBest) B.pre
  have hown : s.vm.findClass RX2 = some m.cls := findClass_of_methodNamed B.named
  have hlocks := B.notSynchronized
  have hinX1 : ∀ w ∈ wsX10, w ∈ wsX2_keepToBest := by decide +kernel
  have hinX2 : ∀ w ∈ wsX20, w ∈ wsX2_keepToBest := by decide +kernel
  have lk12 := hts (.fieldLink RX2 12 "ExactSimplex$Solver" "dictionary" "LExactSimplex$Dictionary;") (by decide +kernel)
  have lk30 := hts (.fieldLink RX2 30 "ExactSimplex$Solver" "problem" "LExactSimplex$Problem;") (by decide +kernel)
  have lk64 := hts (.fieldLink RX2 64 "ExactSimplex$Problem" "costs" "[I") (by decide +kernel)
  have hl := lv_entry ([.ref (ad 2)]) (n := 1) (Nat.le_of_ble_eq_true rfl)
  have hent := lg_entry_eq m ([.ref (ad 2)]) 1
  rw [← hargs] at hent
  rw [hent]
  clear hent
  generalize (lg_sl ([.ref (ad 2)]) ++ List.replicate (1 - (lg_sl ([.ref (ad 2)])).length) Slot.unset).toArray = ls at hl ⊢
  have hl : lv_has ls 1 [(0, .ref (ad 2))] := hl
  generalize hA : gA ad s.heap.size = A at G ⊢
  generalize hH : s.heap = H at G ⊢
  refine gx_q (fun Q hQ => ?_)
  refine lv_aload_n hx hb dX2_keepToBest_0 rfl (lv_at hl 0 rfl) ?_
  refine gx_get hx hb hts hinX2 hown G 2 (by decide) rfl rfl 1 (by decide) rfl lk12 rfl (v := .ref (ad 4)) rfl dX2_keepToBest_1 ?_
  refine lv_aload_n hx hb dX2_keepToBest_4 rfl (lv_at hl 0 rfl) ?_
  refine gx_get hx hb hts hinX2 hown G 2 (by decide) rfl rfl 0 (by decide) rfl lk30 rfl (v := .ref (ad 1)) rfl dX2_keepToBest_5 ?_
  refine gx_get hx hb hts hinX1 hown G 1 (by decide) rfl rfl 2 (by decide) rfl lk64 rfl (v := .ref (ad 8)) rfl dX2_keepToBest_8 ?_
  refine gx_dVv (I1 := I) (J1 := ((d_min I 8 nl nc mPV (J, a, b)).1)) (a1 := ((d_min I 8 nl nc mPV (J, a, b)).2.1)) (b1 := ((d_min I 8 nl nc mPV (J, a, b)).2.2)) (As := [.ref (ad 8)]) (rest := []) ⟨hx, hb, hml, hown, hts⟩ G 4 (kX0_minimise l D ad cy I J a b H.size nl nc 8 hnl hnl2 hnc hnc2 (by decide) rfl (by decide) (by decide) hbas hout) (cwV 1 hts gX2_keepToBest_X0_minimise rfl rfl rfl (by decide +kernel) ⟨Nat.le_of_ble_eq_true rfl, Nat.le_of_ble_eq_true rfl⟩) (by decide) rfl rfl rfl rfl hl.1 rfl (Nat.le_of_ble_eq_true rfl) ⟨Nat.zero_le _, Nat.zero_le _⟩ dX2_keepToBest_11 (fun H locs G => ?_)
  refine lv_aload_n hx hb dX2_keepToBest_14 rfl (lv_at hl 0 rfl) ?_
  refine gx_get hx hb hts hinX2 hown G 2 (by decide) rfl rfl 1 (by decide) rfl lk12 rfl (v := .ref (ad 4)) rfl dX2_keepToBest_15 ?_
  refine gx_dVv (I1 := I) (J1 := ((d_min I 8 nl nc mPV (J, a, b)).1)) (a1 := (d_freeze ((d_min I 8 nl nc mPV (J, a, b)).2.1) ((d_min I 8 nl nc mPV (J, a, b)).2.2) nc)) (b1 := ((d_min I 8 nl nc mPV (J, a, b)).2.2)) (As := []) (rest := []) ⟨hx, hb, hml, hown, hts⟩ G 4 (kX0_freezeDear l D ad cy I ((d_min I 8 nl nc mPV (J, a, b)).1) ((d_min I 8 nl nc mPV (J, a, b)).2.1) ((d_min I 8 nl nc mPV (J, a, b)).2.2) H.size nc hnc hnc2) (cwV 0 hts gX2_keepToBest_X0_freezeDear rfl rfl rfl (by decide +kernel) ⟨Nat.le_of_ble_eq_true rfl, Nat.le_of_ble_eq_true rfl⟩) (by decide) rfl rfl rfl rfl hl.1 rfl (Nat.le_of_ble_eq_true rfl) ⟨Nat.zero_le _, Nat.zero_le _⟩ dX2_keepToBest_18 (fun H locs G => ?_)
  exact gx_vr hx hb hr hlocks G hQ (by first | rfl | (simp only [reduceIte]; done) | (simp [reduceIte]; done)) dX2_keepToBest_21

set_option maxHeartbeats 4000000 in
set_option maxRecDepth 100000 in
theorem kX2_endFromHere (l : Launch) (D : va_G) (ad : Nat → Nat) (cy : Nat → ClassId) (I : gF) (J : gL) (a : gF) (b : gL) (sz : Nat) (nl nc n0 : Nat) (sd pt : Int32) (hnl : I 4 7 = nI nl) (hnl2 : nl ≤ 21) (hnc : I 4 8 = nI nc) (hnc2 : nc ≤ 5) (hbas : d_nat (a 15) nl) (hout : d_nat (a 16) nc) (hn0 : n0 < 5) : gMl l yX2_endFromHere wsX2_endFromHere ({ frames := 3, cells := 0, slots := 0, locals := 96 }) D ad cy I J a b sz [.ref (ad 2), .int (nI n0), .int sd, .int pt] (fun r u => r = s_end I J a b nl nc n0 (s_w sd) pt ∧ u = (I, (s_endX I J a b nl nc n0 (s_w sd)).1, (s_endX I J a b nl nc n0 (s_w sd)).2.1, (s_endX I J a b nl nc n0 (s_w sd)).2.2)) := by
  refine Met.ofW (cc := cX2_endFromHere) (maxL := 4) (ret := some .long) (by decide) rfl ?_
  intro p e s m args below meth c s₁ B hml hv
  obtain ⟨hargs, hsz, G⟩ := gx_begin hv
  subst hsz
  have hx := B.exec
  have hb := B.bytes
  have hr := B.returns
  have hts := atoms_spec (ws := wsX2_endFromHere) B.pre
  have hown : s.vm.findClass RX2 = some m.cls := findClass_of_methodNamed B.named
  have hlocks := B.notSynchronized
  have hinX2 : ∀ w ∈ wsX20, w ∈ wsX2_endFromHere := by decide +kernel
  have lk12 := hts (.fieldLink RX2 12 "ExactSimplex$Solver" "dictionary" "LExactSimplex$Dictionary;") (by decide +kernel)
  have lk18 := hts (.fieldLink RX2 18 "ExactSimplex$Solver" "goal" "[I") (by decide +kernel)
  have hl := lv_entry ([.ref (ad 2), .int (nI n0), .int sd, .int pt]) (n := 4) (Nat.le_of_ble_eq_true rfl)
  have hent := lg_entry_eq m ([.ref (ad 2), .int (nI n0), .int sd, .int pt]) 4
  rw [← hargs] at hent
  rw [hent]
  clear hent
  generalize (lg_sl ([.ref (ad 2), .int (nI n0), .int sd, .int pt]) ++ List.replicate (4 - (lg_sl ([.ref (ad 2), .int (nI n0), .int sd, .int pt])).length) Slot.unset).toArray = ls at hl ⊢
  have hl : lv_has ls 4 [(0, .ref (ad 2)), (1, .int (nI n0)), (2, .int sd), (3, .int pt)] := hl
  generalize hA : gA ad s.heap.size = A at G ⊢
  generalize hH : s.heap = H at G ⊢
  refine gx_q (fun Q hQ => ?_)
  refine lv_aload_n hx hb dX2_endFromHere_0 rfl (lv_at hl 0 rfl) ?_
  refine lv_iload_n hx hb dX2_endFromHere_1 rfl (lv_at hl 1 rfl) ?_
  refine lv_iload_n hx hb dX2_endFromHere_2 rfl (lv_at hl 2 rfl) ?_
  refine lv_if_ne (tgt := 10) hx hb dX2_endFromHere_3 (by decide) (fun c3 => ?_) (fun c3 => ?_)
  · skip
    refine lv_iconst (v := -1) hx hb dX2_endFromHere_10 (by decide) ?_
    refine gx_dVv (I1 := I) (J1 := J) (a1 := (s_aim a (nI n0) (-1) 5)) (b1 := b) (As := [.int (nI n0), .int (-1)]) (rest := []) ⟨hx, hb, hml, hown, hts⟩ G 2 (kX2_aimAt l D ad cy I J a b H.size (nI n0) (-1)) (cwV 2 hts gX2_endFromHere_X2_aimAt rfl rfl rfl (by decide +kernel) ⟨Nat.le_of_ble_eq_true rfl, Nat.le_of_ble_eq_true rfl⟩) (by decide) rfl rfl rfl rfl hl.1 rfl (Nat.le_of_ble_eq_true rfl) ⟨Nat.zero_le _, Nat.zero_le _⟩ dX2_endFromHere_11 (fun H locs G => ?_)
    refine lv_aload_n hx hb dX2_endFromHere_14 rfl (lv_at hl 0 rfl) ?_
    refine gx_get hx hb hts hinX2 hown G 2 (by decide) rfl rfl 1 (by decide) rfl lk12 rfl (v := .ref (ad 4)) rfl dX2_endFromHere_15 ?_
    refine lv_aload_n hx hb dX2_endFromHere_18 rfl (lv_at hl 0 rfl) ?_
    refine gx_get hx hb hts hinX2 hown G 2 (by decide) rfl rfl 2 (by decide) rfl lk18 rfl (v := .ref (ad 19)) rfl dX2_endFromHere_19 ?_
    refine gx_dVv (I1 := I) (J1 := ((d_min I 19 nl nc mPV (J, s_aim a (nI n0) (-1) 5, b)).1)) (a1 := ((d_min I 19 nl nc mPV (J, s_aim a (nI n0) (-1) 5, b)).2.1)) (b1 := ((d_min I 19 nl nc mPV (J, s_aim a (nI n0) (-1) 5, b)).2.2)) (As := [.ref (ad 19)]) (rest := []) ⟨hx, hb, hml, hown, hts⟩ G 4 (kX0_minimise l D ad cy I J (s_aim a (nI n0) (-1) 5) b H.size nl nc 19 hnl hnl2 hnc hnc2 (by decide) rfl (by decide) (by decide) (by rw [s_aim_k _ _ _ (by decide)]; exact hbas) (by rw [s_aim_k _ _ _ (by decide)]; exact hout)) (cwV 1 hts gX2_endFromHere_X0_minimise rfl rfl rfl (by decide +kernel) ⟨Nat.le_of_ble_eq_true rfl, Nat.le_of_ble_eq_true rfl⟩) (by decide) rfl rfl rfl rfl hl.1 rfl (Nat.le_of_ble_eq_true rfl) ⟨Nat.zero_le _, Nat.zero_le _⟩ dX2_endFromHere_22 (fun H locs G => ?_)
    refine lv_aload_n hx hb dX2_endFromHere_25 rfl (lv_at hl 0 rfl) ?_
    refine lv_iload_n hx hb dX2_endFromHere_26 rfl (lv_at hl 1 rfl) ?_
    refine gx_dVl (v := ((((d_min I 19 nl nc mPV (J, s_aim a (nI n0) (-1) 5, b)).2.1) 6 n0).toInt64 * ((d_min I 19 nl nc mPV (J, s_aim a (nI n0) (-1) 5, b)).1) 4 6 + d_num ((d_min I 19 nl nc mPV (J, s_aim a (nI n0) (-1) 5, b)).2.1) ((d_min I 19 nl nc mPV (J, s_aim a (nI n0) (-1) 5, b)).2.2) (nI n0) nl 0)) (I1 := I) (J1 := ((d_min I 19 nl nc mPV (J, s_aim a (nI n0) (-1) 5, b)).1)) (a1 := ((d_min I 19 nl nc mPV (J, s_aim a (nI n0) (-1) 5, b)).2.1)) (b1 := ((d_min I 19 nl nc mPV (J, s_aim a (nI n0) (-1) 5, b)).2.2)) (As := [.int (nI n0)]) (rest := []) ⟨hx, hb, hml, hown, hts⟩ G 2 (kX2_numeratorOf l D ad cy I ((d_min I 19 nl nc mPV (J, s_aim a (nI n0) (-1) 5, b)).1) ((d_min I 19 nl nc mPV (J, s_aim a (nI n0) (-1) 5, b)).2.1) ((d_min I 19 nl nc mPV (J, s_aim a (nI n0) (-1) 5, b)).2.2) H.size nl n0 hnl hnl2 hn0) (cwV 1 hts gX2_endFromHere_X2_numeratorOf rfl rfl rfl (by decide +kernel) ⟨Nat.le_of_ble_eq_true rfl, Nat.le_of_ble_eq_true rfl⟩) (by decide) rfl rfl rfl rfl hl.1 rfl (Nat.le_of_ble_eq_true rfl) ⟨Nat.zero_le _, Nat.zero_le _⟩ dX2_endFromHere_27 (fun H locs G => ?_)
    refine lv_aload_n hx hb dX2_endFromHere_30 rfl (lv_at hl 0 rfl) ?_
    refine gx_get hx hb hts hinX2 hown G 2 (by decide) rfl rfl 1 (by decide) rfl lk12 rfl (v := .ref (ad 4)) rfl dX2_endFromHere_31 ?_
    refine gx_dVl (v := (((d_min I 19 nl nc mPV (J, s_aim a (nI n0) (-1) 5, b)).1) 4 6)) (I1 := I) (J1 := ((d_min I 19 nl nc mPV (J, s_aim a (nI n0) (-1) 5, b)).1)) (a1 := ((d_min I 19 nl nc mPV (J, s_aim a (nI n0) (-1) 5, b)).2.1)) (b1 := ((d_min I 19 nl nc mPV (J, s_aim a (nI n0) (-1) 5, b)).2.2)) (As := []) (rest := [.long ((((d_min I 19 nl nc mPV (J, s_aim a (nI n0) (-1) 5, b)).2.1) 6 n0).toInt64 * ((d_min I 19 nl nc mPV (J, s_aim a (nI n0) (-1) 5, b)).1) 4 6 + d_num ((d_min I 19 nl nc mPV (J, s_aim a (nI n0) (-1) 5, b)).2.1) ((d_min I 19 nl nc mPV (J, s_aim a (nI n0) (-1) 5, b)).2.2) (nI n0) nl 0)]) ⟨hx, hb, hml, hown, hts⟩ G 4 (kX0_denominator l D ad cy I ((d_min I 19 nl nc mPV (J, s_aim a (nI n0) (-1) 5, b)).1) ((d_min I 19 nl nc mPV (J, s_aim a (nI n0) (-1) 5, b)).2.1) ((d_min I 19 nl nc mPV (J, s_aim a (nI n0) (-1) 5, b)).2.2) H.size ) (cwV 0 hts gX2_endFromHere_X0_denominator rfl rfl rfl (by decide +kernel) ⟨Nat.le_of_ble_eq_true rfl, Nat.le_of_ble_eq_true rfl⟩) (by decide) rfl rfl rfl rfl hl.1 rfl (Nat.le_of_ble_eq_true rfl) ⟨Nat.zero_le _, Nat.zero_le _⟩ dX2_endFromHere_34 (fun H locs G => ?_)
    refine lv_iload_n hx hb dX2_endFromHere_37 rfl (lv_at hl 3 rfl) ?_
    refine gx_dSl (v := (s_part ((((d_min I 19 nl nc mPV (J, s_aim a (nI n0) (-1) 5, b)).2.1) 6 n0).toInt64 * ((d_min I 19 nl nc mPV (J, s_aim a (nI n0) (-1) 5, b)).1) 4 6 + d_num ((d_min I 19 nl nc mPV (J, s_aim a (nI n0) (-1) 5, b)).2.1) ((d_min I 19 nl nc mPV (J, s_aim a (nI n0) (-1) 5, b)).2.2) (nI n0) nl 0) (((d_min I 19 nl nc mPV (J, s_aim a (nI n0) (-1) 5, b)).1) 4 6) pt)) (I1 := I) (J1 := ((d_min I 19 nl nc mPV (J, s_aim a (nI n0) (-1) 5, b)).1)) (a1 := ((d_min I 19 nl nc mPV (J, s_aim a (nI n0) (-1) 5, b)).2.1)) (b1 := ((d_min I 19 nl nc mPV (J, s_aim a (nI n0) (-1) 5, b)).2.2)) (As := [.long ((((d_min I 19 nl nc mPV (J, s_aim a (nI n0) (-1) 5, b)).2.1) 6 n0).toInt64 * ((d_min I 19 nl nc mPV (J, s_aim a (nI n0) (-1) 5, b)).1) 4 6 + d_num ((d_min I 19 nl nc mPV (J, s_aim a (nI n0) (-1) 5, b)).2.1) ((d_min I 19 nl nc mPV (J, s_aim a (nI n0) (-1) 5, b)).2.2) (nI n0) nl 0), .long (((d_min I 19 nl nc mPV (J, s_aim a (nI n0) (-1) 5, b)).1) 4 6), .int pt]) (rest := []) ⟨hx, hb, hml, hown, hts⟩ G (kX2_partOf l D ad cy I ((d_min I 19 nl nc mPV (J, s_aim a (nI n0) (-1) 5, b)).1) ((d_min I 19 nl nc mPV (J, s_aim a (nI n0) (-1) 5, b)).2.1) ((d_min I 19 nl nc mPV (J, s_aim a (nI n0) (-1) 5, b)).2.2) H.size ((((d_min I 19 nl nc mPV (J, s_aim a (nI n0) (-1) 5, b)).2.1) 6 n0).toInt64 * ((d_min I 19 nl nc mPV (J, s_aim a (nI n0) (-1) 5, b)).1) 4 6 + d_num ((d_min I 19 nl nc mPV (J, s_aim a (nI n0) (-1) 5, b)).2.1) ((d_min I 19 nl nc mPV (J, s_aim a (nI n0) (-1) 5, b)).2.2) (nI n0) nl 0) (((d_min I 19 nl nc mPV (J, s_aim a (nI n0) (-1) 5, b)).1) 4 6) pt) (va_cwS 3 hts gX2_endFromHere_X2_partOf rfl rfl rfl (by decide +kernel) ⟨Nat.le_of_ble_eq_true rfl, Nat.le_of_ble_eq_true rfl⟩) rfl hl.1 rfl (Nat.le_of_ble_eq_true rfl) ⟨Nat.zero_le _, Nat.zero_le _⟩ dX2_endFromHere_38 (fun H locs G => ?_)
    exact gx_lr hx hb hr hlocks G hQ ⟨by simp only [s_end, s_endX, s_w, c3, reduceIte], by simp only [s_endX, s_w, c3, reduceIte]⟩ dX2_endFromHere_41
  · skip
    refine lv_iconst (v := 1) hx hb dX2_endFromHere_6 (by decide) ?_
    refine lv_goto (tgt := 11) hx hb dX2_endFromHere_7 (by decide) ?_
    refine gx_dVv (I1 := I) (J1 := J) (a1 := (s_aim a (nI n0) 1 5)) (b1 := b) (As := [.int (nI n0), .int 1]) (rest := []) ⟨hx, hb, hml, hown, hts⟩ G 2 (kX2_aimAt l D ad cy I J a b H.size (nI n0) (1)) (cwV 2 hts gX2_endFromHere_X2_aimAt rfl rfl rfl (by decide +kernel) ⟨Nat.le_of_ble_eq_true rfl, Nat.le_of_ble_eq_true rfl⟩) (by decide) rfl rfl rfl rfl hl.1 rfl (Nat.le_of_ble_eq_true rfl) ⟨Nat.zero_le _, Nat.zero_le _⟩ dX2_endFromHere_11 (fun H locs G => ?_)
    refine lv_aload_n hx hb dX2_endFromHere_14 rfl (lv_at hl 0 rfl) ?_
    refine gx_get hx hb hts hinX2 hown G 2 (by decide) rfl rfl 1 (by decide) rfl lk12 rfl (v := .ref (ad 4)) rfl dX2_endFromHere_15 ?_
    refine lv_aload_n hx hb dX2_endFromHere_18 rfl (lv_at hl 0 rfl) ?_
    refine gx_get hx hb hts hinX2 hown G 2 (by decide) rfl rfl 2 (by decide) rfl lk18 rfl (v := .ref (ad 19)) rfl dX2_endFromHere_19 ?_
    refine gx_dVv (I1 := I) (J1 := ((d_min I 19 nl nc mPV (J, s_aim a (nI n0) 1 5, b)).1)) (a1 := ((d_min I 19 nl nc mPV (J, s_aim a (nI n0) 1 5, b)).2.1)) (b1 := ((d_min I 19 nl nc mPV (J, s_aim a (nI n0) 1 5, b)).2.2)) (As := [.ref (ad 19)]) (rest := []) ⟨hx, hb, hml, hown, hts⟩ G 4 (kX0_minimise l D ad cy I J (s_aim a (nI n0) 1 5) b H.size nl nc 19 hnl hnl2 hnc hnc2 (by decide) rfl (by decide) (by decide) (by rw [s_aim_k _ _ _ (by decide)]; exact hbas) (by rw [s_aim_k _ _ _ (by decide)]; exact hout)) (cwV 1 hts gX2_endFromHere_X0_minimise rfl rfl rfl (by decide +kernel) ⟨Nat.le_of_ble_eq_true rfl, Nat.le_of_ble_eq_true rfl⟩) (by decide) rfl rfl rfl rfl hl.1 rfl (Nat.le_of_ble_eq_true rfl) ⟨Nat.zero_le _, Nat.zero_le _⟩ dX2_endFromHere_22 (fun H locs G => ?_)
    refine lv_aload_n hx hb dX2_endFromHere_25 rfl (lv_at hl 0 rfl) ?_
    refine lv_iload_n hx hb dX2_endFromHere_26 rfl (lv_at hl 1 rfl) ?_
    refine gx_dVl (v := ((((d_min I 19 nl nc mPV (J, s_aim a (nI n0) 1 5, b)).2.1) 6 n0).toInt64 * ((d_min I 19 nl nc mPV (J, s_aim a (nI n0) 1 5, b)).1) 4 6 + d_num ((d_min I 19 nl nc mPV (J, s_aim a (nI n0) 1 5, b)).2.1) ((d_min I 19 nl nc mPV (J, s_aim a (nI n0) 1 5, b)).2.2) (nI n0) nl 0)) (I1 := I) (J1 := ((d_min I 19 nl nc mPV (J, s_aim a (nI n0) 1 5, b)).1)) (a1 := ((d_min I 19 nl nc mPV (J, s_aim a (nI n0) 1 5, b)).2.1)) (b1 := ((d_min I 19 nl nc mPV (J, s_aim a (nI n0) 1 5, b)).2.2)) (As := [.int (nI n0)]) (rest := []) ⟨hx, hb, hml, hown, hts⟩ G 2 (kX2_numeratorOf l D ad cy I ((d_min I 19 nl nc mPV (J, s_aim a (nI n0) 1 5, b)).1) ((d_min I 19 nl nc mPV (J, s_aim a (nI n0) 1 5, b)).2.1) ((d_min I 19 nl nc mPV (J, s_aim a (nI n0) 1 5, b)).2.2) H.size nl n0 hnl hnl2 hn0) (cwV 1 hts gX2_endFromHere_X2_numeratorOf rfl rfl rfl (by decide +kernel) ⟨Nat.le_of_ble_eq_true rfl, Nat.le_of_ble_eq_true rfl⟩) (by decide) rfl rfl rfl rfl hl.1 rfl (Nat.le_of_ble_eq_true rfl) ⟨Nat.zero_le _, Nat.zero_le _⟩ dX2_endFromHere_27 (fun H locs G => ?_)
    refine lv_aload_n hx hb dX2_endFromHere_30 rfl (lv_at hl 0 rfl) ?_
    refine gx_get hx hb hts hinX2 hown G 2 (by decide) rfl rfl 1 (by decide) rfl lk12 rfl (v := .ref (ad 4)) rfl dX2_endFromHere_31 ?_
    refine gx_dVl (v := (((d_min I 19 nl nc mPV (J, s_aim a (nI n0) 1 5, b)).1) 4 6)) (I1 := I) (J1 := ((d_min I 19 nl nc mPV (J, s_aim a (nI n0) 1 5, b)).1)) (a1 := ((d_min I 19 nl nc mPV (J, s_aim a (nI n0) 1 5, b)).2.1)) (b1 := ((d_min I 19 nl nc mPV (J, s_aim a (nI n0) 1 5, b)).2.2)) (As := []) (rest := [.long ((((d_min I 19 nl nc mPV (J, s_aim a (nI n0) 1 5, b)).2.1) 6 n0).toInt64 * ((d_min I 19 nl nc mPV (J, s_aim a (nI n0) 1 5, b)).1) 4 6 + d_num ((d_min I 19 nl nc mPV (J, s_aim a (nI n0) 1 5, b)).2.1) ((d_min I 19 nl nc mPV (J, s_aim a (nI n0) 1 5, b)).2.2) (nI n0) nl 0)]) ⟨hx, hb, hml, hown, hts⟩ G 4 (kX0_denominator l D ad cy I ((d_min I 19 nl nc mPV (J, s_aim a (nI n0) 1 5, b)).1) ((d_min I 19 nl nc mPV (J, s_aim a (nI n0) 1 5, b)).2.1) ((d_min I 19 nl nc mPV (J, s_aim a (nI n0) 1 5, b)).2.2) H.size ) (cwV 0 hts gX2_endFromHere_X0_denominator rfl rfl rfl (by decide +kernel) ⟨Nat.le_of_ble_eq_true rfl, Nat.le_of_ble_eq_true rfl⟩) (by decide) rfl rfl rfl rfl hl.1 rfl (Nat.le_of_ble_eq_true rfl) ⟨Nat.zero_le _, Nat.zero_le _⟩ dX2_endFromHere_34 (fun H locs G => ?_)
    refine lv_iload_n hx hb dX2_endFromHere_37 rfl (lv_at hl 3 rfl) ?_
    refine gx_dSl (v := (s_part ((((d_min I 19 nl nc mPV (J, s_aim a (nI n0) 1 5, b)).2.1) 6 n0).toInt64 * ((d_min I 19 nl nc mPV (J, s_aim a (nI n0) 1 5, b)).1) 4 6 + d_num ((d_min I 19 nl nc mPV (J, s_aim a (nI n0) 1 5, b)).2.1) ((d_min I 19 nl nc mPV (J, s_aim a (nI n0) 1 5, b)).2.2) (nI n0) nl 0) (((d_min I 19 nl nc mPV (J, s_aim a (nI n0) 1 5, b)).1) 4 6) pt)) (I1 := I) (J1 := ((d_min I 19 nl nc mPV (J, s_aim a (nI n0) 1 5, b)).1)) (a1 := ((d_min I 19 nl nc mPV (J, s_aim a (nI n0) 1 5, b)).2.1)) (b1 := ((d_min I 19 nl nc mPV (J, s_aim a (nI n0) 1 5, b)).2.2)) (As := [.long ((((d_min I 19 nl nc mPV (J, s_aim a (nI n0) 1 5, b)).2.1) 6 n0).toInt64 * ((d_min I 19 nl nc mPV (J, s_aim a (nI n0) 1 5, b)).1) 4 6 + d_num ((d_min I 19 nl nc mPV (J, s_aim a (nI n0) 1 5, b)).2.1) ((d_min I 19 nl nc mPV (J, s_aim a (nI n0) 1 5, b)).2.2) (nI n0) nl 0), .long (((d_min I 19 nl nc mPV (J, s_aim a (nI n0) 1 5, b)).1) 4 6), .int pt]) (rest := []) ⟨hx, hb, hml, hown, hts⟩ G (kX2_partOf l D ad cy I ((d_min I 19 nl nc mPV (J, s_aim a (nI n0) 1 5, b)).1) ((d_min I 19 nl nc mPV (J, s_aim a (nI n0) 1 5, b)).2.1) ((d_min I 19 nl nc mPV (J, s_aim a (nI n0) 1 5, b)).2.2) H.size ((((d_min I 19 nl nc mPV (J, s_aim a (nI n0) 1 5, b)).2.1) 6 n0).toInt64 * ((d_min I 19 nl nc mPV (J, s_aim a (nI n0) 1 5, b)).1) 4 6 + d_num ((d_min I 19 nl nc mPV (J, s_aim a (nI n0) 1 5, b)).2.1) ((d_min I 19 nl nc mPV (J, s_aim a (nI n0) 1 5, b)).2.2) (nI n0) nl 0) (((d_min I 19 nl nc mPV (J, s_aim a (nI n0) 1 5, b)).1) 4 6) pt) (va_cwS 3 hts gX2_endFromHere_X2_partOf rfl rfl rfl (by decide +kernel) ⟨Nat.le_of_ble_eq_true rfl, Nat.le_of_ble_eq_true rfl⟩) rfl hl.1 rfl (Nat.le_of_ble_eq_true rfl) ⟨Nat.zero_le _, Nat.zero_le _⟩ dX2_endFromHere_38 (fun H locs G => ?_)
    exact gx_lr hx hb hr hlocks G hQ ⟨by simp only [s_end, s_endX, s_w, c3, reduceIte], by simp only [s_endX, s_w, c3, reduceIte]⟩ dX2_endFromHere_41

set_option maxHeartbeats 4000000 in
set_option maxRecDepth 100000 in
theorem kX2_endAmongBest (l : Launch) (D : va_G) (ad : Nat → Nat) (cy : Nat → ClassId) (I : gF) (J : gL) (a : gF) (b : gL) (sz : Nat) (nl nc n0 : Nat) (sd pt : Int32) (hnl : I 4 7 = nI nl) (hnl2 : nl ≤ 21) (hnc : I 4 8 = nI nc) (hnc2 : nc ≤ 5) (hbas : d_nat (a 15) nl) (hout : d_nat (a 16) nc) (hn0 : n0 < 5) : gMl l yX2_endAmongBest wsX2_endAmongBest ({ frames := 4, cells := 0, slots := 0, locals := 119 }) D ad cy I J a b sz [.ref (ad 2), .int (nI n0), .int sd, .int pt] (fun r u => r = s_eb I J a b nl nc n0 sd pt ∧ u = (I, (s_ebX I J a b nl nc n0 sd).1, (s_ebX I J a b nl nc n0 sd).2.1, (s_ebX I J a b nl nc n0 sd).2.2)) := by
  refine Met.ofW (cc := cX2_endAmongBest) (maxL := 4) (ret := some .long) (by decide) rfl ?_
  intro p e s m args below meth c s₁ B hml hv
  obtain ⟨hargs, hsz, G⟩ := gx_begin hv
  subst hsz
  have hx := B.exec
  have hb := B.bytes
  have hr := B.returns
  have hts := atoms_spec (ws := wsX2_endAmongBest) B.pre
  have hown : s.vm.findClass RX2 = some m.cls := findClass_of_methodNamed B.named
  have hlocks := B.notSynchronized
  have hinX2 : ∀ w ∈ wsX20, w ∈ wsX2_endAmongBest := by decide +kernel
  have lk12 := hts (.fieldLink RX2 12 "ExactSimplex$Solver" "dictionary" "LExactSimplex$Dictionary;") (by decide +kernel)
  have hl := lv_entry ([.ref (ad 2), .int (nI n0), .int sd, .int pt]) (n := 4) (Nat.le_of_ble_eq_true rfl)
  have hent := lg_entry_eq m ([.ref (ad 2), .int (nI n0), .int sd, .int pt]) 4
  rw [← hargs] at hent
  rw [hent]
  clear hent
  generalize (lg_sl ([.ref (ad 2), .int (nI n0), .int sd, .int pt]) ++ List.replicate (4 - (lg_sl ([.ref (ad 2), .int (nI n0), .int sd, .int pt])).length) Slot.unset).toArray = ls at hl ⊢
  have hl : lv_has ls 4 [(0, .ref (ad 2)), (1, .int (nI n0)), (2, .int sd), (3, .int pt)] := hl
  generalize hA : gA ad s.heap.size = A at G ⊢
  generalize hH : s.heap = H at G ⊢
  refine gx_q (fun Q hQ => ?_)
  refine lv_aload_n hx hb dX2_endAmongBest_0 rfl (lv_at hl 0 rfl) ?_
  refine gx_get hx hb hts hinX2 hown G 2 (by decide) rfl rfl 1 (by decide) rfl lk12 rfl (v := .ref (ad 4)) rfl dX2_endAmongBest_1 ?_
  refine gx_dVv (I1 := I) (J1 := J) (a1 := (d_thaw a nc)) (b1 := b) (As := []) (rest := []) ⟨hx, hb, hml, hown, hts⟩ G 4 (kX0_thawAll l D ad cy I J a b H.size nc hnc hnc2) (cwV 0 hts gX2_endAmongBest_X0_thawAll rfl rfl rfl (by decide +kernel) ⟨Nat.le_of_ble_eq_true rfl, Nat.le_of_ble_eq_true rfl⟩) (by decide) rfl rfl rfl rfl hl.1 rfl (Nat.le_of_ble_eq_true rfl) ⟨Nat.zero_le _, Nat.zero_le _⟩ dX2_endAmongBest_4 (fun H locs G => ?_)
  refine lv_aload_n hx hb dX2_endAmongBest_7 rfl (lv_at hl 0 rfl) ?_
  refine gx_dVv (I1 := I) (J1 := ((s_k2b I J (d_thaw a nc) b nl nc).1)) (a1 := ((s_k2b I J (d_thaw a nc) b nl nc).2.1)) (b1 := ((s_k2b I J (d_thaw a nc) b nl nc).2.2)) (As := []) (rest := []) ⟨hx, hb, hml, hown, hts⟩ G 2 (kX2_keepToBest l D ad cy I J (d_thaw a nc) b H.size nl nc hnl hnl2 hnc hnc2 (by rw [d_thaw_k _ (by decide)]; exact hbas) (by rw [d_thaw_k _ (by decide)]; exact hout)) (cwV 0 hts gX2_endAmongBest_X2_keepToBest rfl rfl rfl (by decide +kernel) ⟨Nat.le_of_ble_eq_true rfl, Nat.le_of_ble_eq_true rfl⟩) (by decide) rfl rfl rfl rfl hl.1 rfl (Nat.le_of_ble_eq_true rfl) ⟨Nat.zero_le _, Nat.zero_le _⟩ dX2_endAmongBest_8 (fun H locs G => ?_)
  refine lv_aload_n hx hb dX2_endAmongBest_11 rfl (lv_at hl 0 rfl) ?_
  refine lv_iload_n hx hb dX2_endAmongBest_12 rfl (lv_at hl 1 rfl) ?_
  refine lv_iload_n hx hb dX2_endAmongBest_13 rfl (lv_at hl 2 rfl) ?_
  refine lv_iload_n hx hb dX2_endAmongBest_14 rfl (lv_at hl 3 rfl) ?_
  refine gx_dVl (v := (s_eb I J a b nl nc n0 sd pt)) (I1 := I) (J1 := ((s_ebX I J a b nl nc n0 sd).1)) (a1 := ((s_ebX I J a b nl nc n0 sd).2.1)) (b1 := ((s_ebX I J a b nl nc n0 sd).2.2)) (As := [.int (nI n0), .int sd, .int pt]) (rest := []) ⟨hx, hb, hml, hown, hts⟩ G 2 (kX2_endFromHere l D ad cy I ((s_k2b I J (d_thaw a nc) b nl nc).1) ((s_k2b I J (d_thaw a nc) b nl nc).2.1) ((s_k2b I J (d_thaw a nc) b nl nc).2.2) H.size nl nc n0 sd pt hnl hnl2 hnc hnc2 (s_fb_nat I J a b nl nc hbas hout 0).1 (s_fb_nat I J a b nl nc hbas hout 0).2 hn0) (cwV 3 hts gX2_endAmongBest_X2_endFromHere rfl rfl rfl (by decide +kernel) ⟨Nat.le_of_ble_eq_true rfl, Nat.le_of_ble_eq_true rfl⟩) (by decide) rfl rfl rfl rfl hl.1 rfl (Nat.le_of_ble_eq_true rfl) ⟨Nat.zero_le _, Nat.zero_le _⟩ dX2_endAmongBest_15 (fun H locs G => ?_)
  exact gx_lr hx hb hr hlocks G hQ ⟨by first | rfl | (simp only [reduceIte]; done) | (simp [reduceIte]; done), rfl⟩ dX2_endAmongBest_18

set_option maxHeartbeats 4000000 in
set_option maxRecDepth 100000 in
theorem kX2_endAmongAll (l : Launch) (D : va_G) (ad : Nat → Nat) (cy : Nat → ClassId) (I : gF) (J : gL) (a : gF) (b : gL) (sz : Nat) (nl nc n0 : Nat) (sd pt : Int32) (hnl : I 4 7 = nI nl) (hnl2 : nl ≤ 21) (hnc : I 4 8 = nI nc) (hnc2 : nc ≤ 5) (hbas : d_nat (a 15) nl) (hout : d_nat (a 16) nc) (hn0 : n0 < 5) : gMl l yX2_endAmongAll wsX2_endAmongAll ({ frames := 4, cells := 0, slots := 0, locals := 119 }) D ad cy I J a b sz [.ref (ad 2), .int (nI n0), .int sd, .int pt] (fun r u => r = s_end I J (d_thaw a nc) b nl nc n0 (s_w sd) pt ∧ u = (I, (s_endX I J (d_thaw a nc) b nl nc n0 (s_w sd)).1, (s_endX I J (d_thaw a nc) b nl nc n0 (s_w sd)).2.1, (s_endX I J (d_thaw a nc) b nl nc n0 (s_w sd)).2.2)) := by
  refine Met.ofW (cc := cX2_endAmongAll) (maxL := 4) (ret := some .long) (by decide) rfl ?_
  intro p e s m args below meth c s₁ B hml hv
  obtain ⟨hargs, hsz, G⟩ := gx_begin hv
  subst hsz
  have hx := B.exec
  have hb := B.bytes
  have hr := B.returns
  have hts := atoms_spec (ws := wsX2_endAmongAll) B.pre
  have hown : s.vm.findClass RX2 = some m.cls := findClass_of_methodNamed B.named
  have hlocks := B.notSynchronized
  have hinX2 : ∀ w ∈ wsX20, w ∈ wsX2_endAmongAll := by decide +kernel
  have lk12 := hts (.fieldLink RX2 12 "ExactSimplex$Solver" "dictionary" "LExactSimplex$Dictionary;") (by decide +kernel)
  have hl := lv_entry ([.ref (ad 2), .int (nI n0), .int sd, .int pt]) (n := 4) (Nat.le_of_ble_eq_true rfl)
  have hent := lg_entry_eq m ([.ref (ad 2), .int (nI n0), .int sd, .int pt]) 4
  rw [← hargs] at hent
  rw [hent]
  clear hent
  generalize (lg_sl ([.ref (ad 2), .int (nI n0), .int sd, .int pt]) ++ List.replicate (4 - (lg_sl ([.ref (ad 2), .int (nI n0), .int sd, .int pt])).length) Slot.unset).toArray = ls at hl ⊢
  have hl : lv_has ls 4 [(0, .ref (ad 2)), (1, .int (nI n0)), (2, .int sd), (3, .int pt)] := hl
  generalize hA : gA ad s.heap.size = A at G ⊢
  generalize hH : s.heap = H at G ⊢
  refine gx_q (fun Q hQ => ?_)
  refine lv_aload_n hx hb dX2_endAmongAll_0 rfl (lv_at hl 0 rfl) ?_
  refine gx_get hx hb hts hinX2 hown G 2 (by decide) rfl rfl 1 (by decide) rfl lk12 rfl (v := .ref (ad 4)) rfl dX2_endAmongAll_1 ?_
  refine gx_dVv (I1 := I) (J1 := J) (a1 := (d_thaw a nc)) (b1 := b) (As := []) (rest := []) ⟨hx, hb, hml, hown, hts⟩ G 4 (kX0_thawAll l D ad cy I J a b H.size nc hnc hnc2) (cwV 0 hts gX2_endAmongAll_X0_thawAll rfl rfl rfl (by decide +kernel) ⟨Nat.le_of_ble_eq_true rfl, Nat.le_of_ble_eq_true rfl⟩) (by decide) rfl rfl rfl rfl hl.1 rfl (Nat.le_of_ble_eq_true rfl) ⟨Nat.zero_le _, Nat.zero_le _⟩ dX2_endAmongAll_4 (fun H locs G => ?_)
  refine lv_aload_n hx hb dX2_endAmongAll_7 rfl (lv_at hl 0 rfl) ?_
  refine lv_iload_n hx hb dX2_endAmongAll_8 rfl (lv_at hl 1 rfl) ?_
  refine lv_iload_n hx hb dX2_endAmongAll_9 rfl (lv_at hl 2 rfl) ?_
  refine lv_iload_n hx hb dX2_endAmongAll_10 rfl (lv_at hl 3 rfl) ?_
  refine gx_dVl (v := (s_end I J (d_thaw a nc) b nl nc n0 (s_w sd) pt)) (I1 := I) (J1 := ((s_endX I J (d_thaw a nc) b nl nc n0 (s_w sd)).1)) (a1 := ((s_endX I J (d_thaw a nc) b nl nc n0 (s_w sd)).2.1)) (b1 := ((s_endX I J (d_thaw a nc) b nl nc n0 (s_w sd)).2.2)) (As := [.int (nI n0), .int sd, .int pt]) (rest := []) ⟨hx, hb, hml, hown, hts⟩ G 2 (kX2_endFromHere l D ad cy I J (d_thaw a nc) b H.size nl nc n0 sd pt hnl hnl2 hnc hnc2 (by rw [d_thaw_k _ (by decide)]; exact hbas) (by rw [d_thaw_k _ (by decide)]; exact hout) hn0) (cwV 3 hts gX2_endAmongAll_X2_endFromHere rfl rfl rfl (by decide +kernel) ⟨Nat.le_of_ble_eq_true rfl, Nat.le_of_ble_eq_true rfl⟩) (by decide) rfl rfl rfl rfl hl.1 rfl (Nat.le_of_ble_eq_true rfl) ⟨Nat.zero_le _, Nat.zero_le _⟩ dX2_endAmongAll_11 (fun H locs G => ?_)
  exact gx_lr hx hb hr hlocks G hQ ⟨by first | rfl | (simp only [reduceIte]; done) | (simp [reduceIte]; done), rfl⟩ dX2_endAmongAll_14

set_option maxHeartbeats 4000000 in
set_option maxRecDepth 100000 in
theorem kX2_findFirstBest (l : Launch) (D : va_G) (ad : Nat → Nat) (cy : Nat → ClassId) (I : gF) (J : gL) (a : gF) (b : gL) (sz : Nat) (nn nl nc : Nat) (hnn : I 1 7 = nI nn) (hnn2 : nn ≤ 5) (hnl : I 4 7 = nI nl) (hnl2 : nl ≤ 21) (hnc : I 4 8 = nI nc) (hnc2 : nc ≤ 5) (hbas : d_nat (a 15) nl) (hout : d_nat (a 16) nc) : gMv l yX2_findFirstBest wsX2_findFirstBest ({ frames := 4, cells := 0, slots := 0, locals := 111 }) D ad cy I J a b sz [.ref (ad 2)] (fun u => u = (s_ffI I, s_ffJ I J a b nn nl nc, s_ffA I J a b nn nl nc, s_ffB I J a b nn nl nc)) := by
  refine Met.ofW (cc := cX2_findFirstBest) (maxL := 2) (ret := none) (by decide) rfl ?_
  intro p e s m args below meth c s₁ B hml hv
  obtain ⟨hargs, hsz, G⟩ := gx_begin hv
  subst hsz
  have hx := B.exec
  have hb := B.bytes
  have hr := B.returns
  have hts := atoms_spec (ws := wsX2_findFirstBest) B.pre
  have hown : s.vm.findClass RX2 = some m.cls := findClass_of_methodNamed B.named
  have hlocks := B.notSynchronized
  have hinX1 : ∀ w ∈ wsX10, w ∈ wsX2_findFirstBest := by decide +kernel
  have hinX2 : ∀ w ∈ wsX20, w ∈ wsX2_findFirstBest := by decide +kernel
  have lk12 := hts (.fieldLink RX2 12 "ExactSimplex$Solver" "dictionary" "LExactSimplex$Dictionary;") (by decide +kernel)
  have lk18 := hts (.fieldLink RX2 18 "ExactSimplex$Solver" "goal" "[I") (by decide +kernel)
  have lk22 := hts (.fieldLink RX2 22 "ExactSimplex$Solver" "firstBest" "[J") (by decide +kernel)
  have lk26 := hts (.fieldLink RX2 26 "ExactSimplex$Solver" "firstBestUnder" "J") (by decide +kernel)
  have lk30 := hts (.fieldLink RX2 30 "ExactSimplex$Solver" "problem" "LExactSimplex$Problem;") (by decide +kernel)
  have lk38 := hts (.fieldLink RX2 38 "ExactSimplex$Solver" "firstBestKnown" "Z") (by decide +kernel)
  have lk58 := hts (.fieldLink RX2 58 "ExactSimplex$Problem" "names" "I") (by decide +kernel)
  have hl := lv_entry ([.ref (ad 2)]) (n := 2) (Nat.le_of_ble_eq_true rfl)
  have hent := lg_entry_eq m ([.ref (ad 2)]) 2
  rw [← hargs] at hent
  rw [hent]
  clear hent
  generalize (lg_sl ([.ref (ad 2)]) ++ List.replicate (2 - (lg_sl ([.ref (ad 2)])).length) Slot.unset).toArray = ls at hl ⊢
  have hl : lv_has ls 2 [(0, .ref (ad 2))] := hl
  generalize hA : gA ad s.heap.size = A at G ⊢
  generalize hH : s.heap = H at G ⊢
  refine gx_q (fun Q hQ => ?_)
  refine lv_aload_n hx hb dX2_findFirstBest_0 rfl (lv_at hl 0 rfl) ?_
  refine gx_get hx hb hts hinX2 hown G 2 (by decide) rfl rfl 7 (by decide) rfl lk38 rfl (v := .int (I 2 7)) rfl dX2_findFirstBest_1 ?_
  refine lv_if_eq (tgt := 8) hx hb dX2_findFirstBest_4 (by decide) (fun c4 => ?_) (fun c4 => ?_)
  · skip
    refine lv_aload_n hx hb dX2_findFirstBest_8 rfl (lv_at hl 0 rfl) ?_
    refine gx_get hx hb hts hinX2 hown G 2 (by decide) rfl rfl 1 (by decide) rfl lk12 rfl (v := .ref (ad 4)) rfl dX2_findFirstBest_9 ?_
    refine gx_dVv (I1 := I) (J1 := J) (a1 := (d_thaw a nc)) (b1 := b) (As := []) (rest := []) ⟨hx, hb, hml, hown, hts⟩ G 4 (kX0_thawAll l D ad cy I J a b H.size nc hnc hnc2) (cwV 0 hts gX2_findFirstBest_X0_thawAll rfl rfl rfl (by decide +kernel) ⟨Nat.le_of_ble_eq_true rfl, Nat.le_of_ble_eq_true rfl⟩) (by decide) rfl rfl rfl rfl hl.1 rfl (Nat.le_of_ble_eq_true rfl) ⟨Nat.zero_le _, Nat.zero_le _⟩ dX2_findFirstBest_12 (fun H locs G => ?_)
    refine lv_aload_n hx hb dX2_findFirstBest_15 rfl (lv_at hl 0 rfl) ?_
    refine gx_dVv (I1 := I) (J1 := ((s_k2b I J (d_thaw a nc) b nl nc).1)) (a1 := ((s_k2b I J (d_thaw a nc) b nl nc).2.1)) (b1 := ((s_k2b I J (d_thaw a nc) b nl nc).2.2)) (As := []) (rest := []) ⟨hx, hb, hml, hown, hts⟩ G 2 (kX2_keepToBest l D ad cy I J (d_thaw a nc) b H.size nl nc hnl hnl2 hnc hnc2 (by rw [d_thaw_k _ (by decide)]; exact hbas) (by rw [d_thaw_k _ (by decide)]; exact hout)) (cwV 0 hts gX2_findFirstBest_X2_keepToBest rfl rfl rfl (by decide +kernel) ⟨Nat.le_of_ble_eq_true rfl, Nat.le_of_ble_eq_true rfl⟩) (by decide) rfl rfl rfl rfl hl.1 rfl (Nat.le_of_ble_eq_true rfl) ⟨Nat.zero_le _, Nat.zero_le _⟩ dX2_findFirstBest_16 (fun H locs G => ?_)
    refine lv_iconst (v := 0) hx hb dX2_findFirstBest_19 (by decide) ?_
    refine lv_istore_n (lv' := [(1, .int 0), (0, .ref (ad 2))]) hx hb dX2_findFirstBest_20 rfl hl (by decide) rfl (fun ls hl => ?_)
    have K21 : ∀ (nf : Nat) (r : Nat) (H : Heap) (locs : List Loc) (ls : Array Slot), (r ≤ nn) → nn - r < nf → GG D ad cy A s I ((s_fb I J a b nl nc r).1) ((s_fb I J a b nl nc r).2.1) ((s_fb I J a b nl nc r).2.2) H locs → lv_has ls 2 [(0, .ref (ad 2)), (1, .int (nI r))] → W p l e ({ frames := 4, cells := 0, slots := 0, locals := 111 }) s m args below meth c H locs 0 0 Q (F0 m 21 ls []) := by
      intro nf
      induction nf with
      | zero => exact fun _ _ _ _ _ hz => absurd hz (Nat.not_lt_zero _)
      | succ nf ih =>
        intro r H locs ls h1 hmeas G hl
        have ih21 := ih
        clear ih
        refine lv_iload_n hx hb dX2_findFirstBest_21 rfl (lv_at hl 1 rfl) ?_
        refine lv_aload_n hx hb dX2_findFirstBest_22 rfl (lv_at hl 0 rfl) ?_
        refine gx_get hx hb hts hinX2 hown G 2 (by decide) rfl rfl 0 (by decide) rfl lk30 rfl (v := .ref (ad 1)) rfl dX2_findFirstBest_23 ?_
        refine gx_get hx hb hts hinX1 hown G 1 (by decide) rfl rfl 7 (by decide) rfl lk58 rfl (v := .int (I 1 7)) rfl dX2_findFirstBest_26 ?_
        refine lv_icmp_ge (tgt := 62) hx hb dX2_findFirstBest_29 (by decide) (fun c29 => ?_) (fun c29 => ?_)
        · skip
          have n29 := gn_le (X := nn) (Y := r) hnn rfl (by omega) (by omega) c29
          have hex : r = nn := by omega
          rw [hex] at hl
          rw [hex] at G
          refine lv_iconst (v := 0) hx hb dX2_findFirstBest_62 (by decide) ?_
          refine lv_istore_n (lv' := [(1, .int 0), (0, .ref (ad 2))]) hx hb dX2_findFirstBest_63 rfl hl (by decide) rfl (fun ls hl => ?_)
          have K64 : ∀ (nf : Nat) (q : Nat) (H : Heap) (locs : List Loc) (ls : Array Slot), (q ≤ nn) → nn - q < nf → GG D ad cy A s I ((s_fb I J a b nl nc nn).1) ((s_fb I J a b nl nc nn).2.1) (s_fbB (s_fb I J a b nl nc nn).1 (s_fb I J a b nl nc nn).2.1 (s_fb I J a b nl nc nn).2.2 nl q) H locs → lv_has ls 2 [(0, .ref (ad 2)), (1, .int (nI q))] → W p l e ({ frames := 4, cells := 0, slots := 0, locals := 111 }) s m args below meth c H locs 0 0 Q (F0 m 64 ls []) := by
            intro nf
            induction nf with
            | zero => exact fun _ _ _ _ _ hz => absurd hz (Nat.not_lt_zero _)
            | succ nf ih =>
              intro q H locs ls h2 hmeas G hl
              have ih64 := ih
              clear ih
              refine lv_iload_n hx hb dX2_findFirstBest_64 rfl (lv_at hl 1 rfl) ?_
              refine lv_aload_n hx hb dX2_findFirstBest_65 rfl (lv_at hl 0 rfl) ?_
              refine gx_get hx hb hts hinX2 hown G 2 (by decide) rfl rfl 0 (by decide) rfl lk30 rfl (v := .ref (ad 1)) rfl dX2_findFirstBest_66 ?_
              refine gx_get hx hb hts hinX1 hown G 1 (by decide) rfl rfl 7 (by decide) rfl lk58 rfl (v := .int (I 1 7)) rfl dX2_findFirstBest_69 ?_
              refine lv_icmp_ge (tgt := 92) hx hb dX2_findFirstBest_72 (by decide) (fun c72 => ?_) (fun c72 => ?_)
              · skip
                have n72 := gn_le (X := nn) (Y := q) hnn rfl (by omega) (by omega) c72
                have hex : q = nn := by omega
                rw [hex] at hl
                rw [hex] at G
                refine lv_aload_n hx hb dX2_findFirstBest_92 rfl (lv_at hl 0 rfl) ?_
                refine lv_aload_n hx hb dX2_findFirstBest_93 rfl (lv_at hl 0 rfl) ?_
                refine gx_get hx hb hts hinX2 hown G 2 (by decide) rfl rfl 1 (by decide) rfl lk12 rfl (v := .ref (ad 4)) rfl dX2_findFirstBest_94 ?_
                refine gx_dVl (v := (((s_fb I J a b nl nc nn).1) 4 6)) (I1 := I) (J1 := ((s_fb I J a b nl nc nn).1)) (a1 := ((s_fb I J a b nl nc nn).2.1)) (b1 := (s_fbB (s_fb I J a b nl nc nn).1 (s_fb I J a b nl nc nn).2.1 (s_fb I J a b nl nc nn).2.2 nl nn)) (As := []) (rest := [.ref (ad 2)]) ⟨hx, hb, hml, hown, hts⟩ G 4 (kX0_denominator l D ad cy I ((s_fb I J a b nl nc nn).1) ((s_fb I J a b nl nc nn).2.1) (s_fbB (s_fb I J a b nl nc nn).1 (s_fb I J a b nl nc nn).2.1 (s_fb I J a b nl nc nn).2.2 nl nn) H.size ) (cwV 0 hts gX2_findFirstBest_X0_denominator rfl rfl rfl (by decide +kernel) ⟨Nat.le_of_ble_eq_true rfl, Nat.le_of_ble_eq_true rfl⟩) (by decide) rfl rfl rfl rfl hl.1 rfl (Nat.le_of_ble_eq_true rfl) ⟨Nat.zero_le _, Nat.zero_le _⟩ dX2_findFirstBest_97 (fun H locs G => ?_)
                refine gx_putJ hx hb hts hinX2 tyX2 tyX2_ok nmX2 hown G 2 (by decide) rfl rfl 4 (by decide) rfl lk26 rfl rfl (tyX2_ok 4 (by decide)) dX2_findFirstBest_100 (fun H locs G => ?_)
                refine lv_aload_n hx hb dX2_findFirstBest_103 rfl (lv_at hl 0 rfl) ?_
                refine lv_iconst (v := 1) hx hb dX2_findFirstBest_104 (by decide) ?_
                refine gx_putI hx hb hts hinX2 tyX2 tyX2_ok nmX2 hown G 2 (by decide) rfl rfl 7 (by decide) rfl lk38 rfl rfl (tyX2_ok 7 (by decide)) (rfl) (rfl) dX2_findFirstBest_105 (fun H locs G => ?_)
                exact gx_vr hx hb hr hlocks G hQ (by simp only [s_ffI, s_ffJ, s_ffA, s_ffB, c4, c29, c72, reduceIte]) dX2_findFirstBest_108
              · skip
                have n72 := gn_nle (X := nn) (Y := q) hnn rfl (by omega) (by omega) c72
                refine lv_aload_n hx hb dX2_findFirstBest_75 rfl (lv_at hl 0 rfl) ?_
                refine gx_get hx hb hts hinX2 hown G 2 (by decide) rfl rfl 3 (by decide) rfl lk22 rfl (v := .ref (ad 20)) rfl dX2_findFirstBest_76 ?_
                refine lv_iload_n hx hb dX2_findFirstBest_79 rfl (lv_at hl 1 rfl) ?_
                refine lv_aload_n hx hb dX2_findFirstBest_80 rfl (lv_at hl 0 rfl) ?_
                refine lv_iload_n hx hb dX2_findFirstBest_81 rfl (lv_at hl 1 rfl) ?_
                refine gx_dVl (v := ((((s_fb I J a b nl nc nn).2.1) 6 q).toInt64 * ((s_fb I J a b nl nc nn).1) 4 6 + d_num ((s_fb I J a b nl nc nn).2.1) (s_fbB (s_fb I J a b nl nc nn).1 (s_fb I J a b nl nc nn).2.1 (s_fb I J a b nl nc nn).2.2 nl q) (nI q) nl 0)) (I1 := I) (J1 := ((s_fb I J a b nl nc nn).1)) (a1 := ((s_fb I J a b nl nc nn).2.1)) (b1 := (s_fbB (s_fb I J a b nl nc nn).1 (s_fb I J a b nl nc nn).2.1 (s_fb I J a b nl nc nn).2.2 nl q)) (As := [.int (nI q)]) (rest := [.int (nI q), .ref (ad 20)]) ⟨hx, hb, hml, hown, hts⟩ G 2 (kX2_numeratorOf l D ad cy I ((s_fb I J a b nl nc nn).1) ((s_fb I J a b nl nc nn).2.1) (s_fbB (s_fb I J a b nl nc nn).1 (s_fb I J a b nl nc nn).2.1 (s_fb I J a b nl nc nn).2.2 nl q) H.size nl q hnl hnl2 (by omega)) (cwV 1 hts gX2_findFirstBest_X2_numeratorOf rfl rfl rfl (by decide +kernel) ⟨Nat.le_of_ble_eq_true rfl, Nat.le_of_ble_eq_true rfl⟩) (by decide) rfl rfl rfl rfl hl.1 rfl (Nat.le_of_ble_eq_true rfl) ⟨Nat.zero_le _, Nat.zero_le _⟩ dX2_findFirstBest_82 (fun H locs G => ?_)
                refine gx_last hx hb G 20 (by decide) (rfl) (by decide) q rfl (by omega) dX2_findFirstBest_85 (fun H locs G => ?_)
                refine lv_iinc (v := (nI (q + 1))) (lv' := [(1, .int (nI (q + 1))), (0, .ref (ad 2))]) hx hb dX2_findFirstBest_86 hl (k := 1) rfl (gn_add (X := q) (Y := 1) rfl rfl) (by decide) rfl (fun ls hl => ?_)
                refine lv_goto (tgt := 64) hx hb dX2_findFirstBest_89 (by decide) ?_
                exact ih64  (q + 1) _ _ _ (by omega) (by omega) (gg_eq G rfl rfl rfl (by simp only [s_fbB])) (lv_sub hl [1, 0] rfl)
          exact K64 (nn - 0 + 1) 0 _ _ _ (by omega) (Nat.lt_succ_self _) (gg_eq G rfl rfl rfl (by simp only [s_fbB])) (lv_sub hl [1, 0] rfl)
        · skip
          have n29 := gn_nle (X := nn) (Y := r) hnn rfl (by omega) (by omega) c29
          refine lv_aload_n hx hb dX2_findFirstBest_32 rfl (lv_at hl 0 rfl) ?_
          refine lv_iload_n hx hb dX2_findFirstBest_33 rfl (lv_at hl 1 rfl) ?_
          refine lv_iconst (v := 1) hx hb dX2_findFirstBest_34 (by decide) ?_
          refine gx_dVv (I1 := I) (J1 := ((s_fb I J a b nl nc r).1)) (a1 := (s_aim ((s_fb I J a b nl nc r).2.1) (nI r) 1 5)) (b1 := ((s_fb I J a b nl nc r).2.2)) (As := [.int (nI r), .int 1]) (rest := []) ⟨hx, hb, hml, hown, hts⟩ G 2 (kX2_aimAt l D ad cy I ((s_fb I J a b nl nc r).1) ((s_fb I J a b nl nc r).2.1) ((s_fb I J a b nl nc r).2.2) H.size (nI r) 1) (cwV 2 hts gX2_findFirstBest_X2_aimAt rfl rfl rfl (by decide +kernel) ⟨Nat.le_of_ble_eq_true rfl, Nat.le_of_ble_eq_true rfl⟩) (by decide) rfl rfl rfl rfl hl.1 rfl (Nat.le_of_ble_eq_true rfl) ⟨Nat.zero_le _, Nat.zero_le _⟩ dX2_findFirstBest_35 (fun H locs G => ?_)
          refine lv_aload_n hx hb dX2_findFirstBest_38 rfl (lv_at hl 0 rfl) ?_
          refine gx_get hx hb hts hinX2 hown G 2 (by decide) rfl rfl 1 (by decide) rfl lk12 rfl (v := .ref (ad 4)) rfl dX2_findFirstBest_39 ?_
          refine lv_aload_n hx hb dX2_findFirstBest_42 rfl (lv_at hl 0 rfl) ?_
          refine gx_get hx hb hts hinX2 hown G 2 (by decide) rfl rfl 2 (by decide) rfl lk18 rfl (v := .ref (ad 19)) rfl dX2_findFirstBest_43 ?_
          refine gx_dVv (I1 := I) (J1 := ((d_min I 19 nl nc mPV ((s_fb I J a b nl nc r).1, s_aim (s_fb I J a b nl nc r).2.1 (nI r) 1 5, (s_fb I J a b nl nc r).2.2)).1)) (a1 := ((d_min I 19 nl nc mPV ((s_fb I J a b nl nc r).1, s_aim (s_fb I J a b nl nc r).2.1 (nI r) 1 5, (s_fb I J a b nl nc r).2.2)).2.1)) (b1 := ((d_min I 19 nl nc mPV ((s_fb I J a b nl nc r).1, s_aim (s_fb I J a b nl nc r).2.1 (nI r) 1 5, (s_fb I J a b nl nc r).2.2)).2.2)) (As := [.ref (ad 19)]) (rest := []) ⟨hx, hb, hml, hown, hts⟩ G 4 (kX0_minimise l D ad cy I ((s_fb I J a b nl nc r).1) (s_aim ((s_fb I J a b nl nc r).2.1) (nI r) 1 5) ((s_fb I J a b nl nc r).2.2) H.size nl nc 19 hnl hnl2 hnc hnc2 (by decide) rfl (by decide) (by decide) (by rw [s_aim_k _ _ _ (by decide)]; exact (s_fb_nat I J a b nl nc hbas hout r).1) (by rw [s_aim_k _ _ _ (by decide)]; exact (s_fb_nat I J a b nl nc hbas hout r).2)) (cwV 1 hts gX2_findFirstBest_X0_minimise rfl rfl rfl (by decide +kernel) ⟨Nat.le_of_ble_eq_true rfl, Nat.le_of_ble_eq_true rfl⟩) (by decide) rfl rfl rfl rfl hl.1 rfl (Nat.le_of_ble_eq_true rfl) ⟨Nat.zero_le _, Nat.zero_le _⟩ dX2_findFirstBest_46 (fun H locs G => ?_)
          refine lv_aload_n hx hb dX2_findFirstBest_49 rfl (lv_at hl 0 rfl) ?_
          refine gx_get hx hb hts hinX2 hown G 2 (by decide) rfl rfl 1 (by decide) rfl lk12 rfl (v := .ref (ad 4)) rfl dX2_findFirstBest_50 ?_
          refine gx_dVv (I1 := I) (J1 := ((d_min I 19 nl nc mPV ((s_fb I J a b nl nc r).1, s_aim (s_fb I J a b nl nc r).2.1 (nI r) 1 5, (s_fb I J a b nl nc r).2.2)).1)) (a1 := (d_freeze ((d_min I 19 nl nc mPV ((s_fb I J a b nl nc r).1, s_aim (s_fb I J a b nl nc r).2.1 (nI r) 1 5, (s_fb I J a b nl nc r).2.2)).2.1) ((d_min I 19 nl nc mPV ((s_fb I J a b nl nc r).1, s_aim (s_fb I J a b nl nc r).2.1 (nI r) 1 5, (s_fb I J a b nl nc r).2.2)).2.2) nc)) (b1 := ((d_min I 19 nl nc mPV ((s_fb I J a b nl nc r).1, s_aim (s_fb I J a b nl nc r).2.1 (nI r) 1 5, (s_fb I J a b nl nc r).2.2)).2.2)) (As := []) (rest := []) ⟨hx, hb, hml, hown, hts⟩ G 4 (kX0_freezeDear l D ad cy I ((d_min I 19 nl nc mPV ((s_fb I J a b nl nc r).1, s_aim (s_fb I J a b nl nc r).2.1 (nI r) 1 5, (s_fb I J a b nl nc r).2.2)).1) ((d_min I 19 nl nc mPV ((s_fb I J a b nl nc r).1, s_aim (s_fb I J a b nl nc r).2.1 (nI r) 1 5, (s_fb I J a b nl nc r).2.2)).2.1) ((d_min I 19 nl nc mPV ((s_fb I J a b nl nc r).1, s_aim (s_fb I J a b nl nc r).2.1 (nI r) 1 5, (s_fb I J a b nl nc r).2.2)).2.2) H.size nc hnc hnc2) (cwV 0 hts gX2_findFirstBest_X0_freezeDear rfl rfl rfl (by decide +kernel) ⟨Nat.le_of_ble_eq_true rfl, Nat.le_of_ble_eq_true rfl⟩) (by decide) rfl rfl rfl rfl hl.1 rfl (Nat.le_of_ble_eq_true rfl) ⟨Nat.zero_le _, Nat.zero_le _⟩ dX2_findFirstBest_53 (fun H locs G => ?_)
          refine lv_iinc (v := (nI (r + 1))) (lv' := [(1, .int (nI (r + 1))), (0, .ref (ad 2))]) hx hb dX2_findFirstBest_56 hl (k := 1) rfl (gn_add (X := r) (Y := 1) rfl rfl) (by decide) rfl (fun ls hl => ?_)
          refine lv_goto (tgt := 21) hx hb dX2_findFirstBest_59 (by decide) ?_
          exact ih21  (r + 1) _ _ _ (by omega) (by omega) (gg_eq G rfl (by rw [s_fb_s]) (by rw [s_fb_s]) (by rw [s_fb_s])) (lv_sub hl [1, 0] rfl)
    exact K21 (nn - 0 + 1) 0 _ _ _ (by omega) (Nat.lt_succ_self _) (gg_eq G rfl (by simp only [s_fb]) (by simp only [s_fb]) (by simp only [s_fb])) (lv_sub hl [1, 0] rfl)
  · skip
    exact gx_vr hx hb hr hlocks G hQ (by simp only [s_ffI, s_ffJ, s_ffA, s_ffB, c4, reduceIte]) dX2_findFirstBest_7

set_option maxHeartbeats 4000000 in
set_option maxRecDepth 100000 in
theorem kX2_leastCost (l : Launch) (D : va_G) (ad : Nat → Nat) (cy : Nat → ClassId) (I : gF) (J : gL) (a : gF) (b : gL) (sz : Nat) (nn nl nc : Nat) (pt : Int32) (hnn : I 1 7 = nI nn) (hnn2 : nn ≤ 5) (hnl : I 4 7 = nI nl) (hnl2 : nl ≤ 21) (hnc : I 4 8 = nI nc) (hnc2 : nc ≤ 5) (hbas : d_nat (a 15) nl) (hout : d_nat (a 16) nc) : gMl l yX2_leastCost wsX2_leastCost ({ frames := 5, cells := 0, slots := 0, locals := 132 }) D ad cy I J a b sz [.ref (ad 2), .int pt] (fun r u => r = s_part (s_sum (s_ffA I J a b nn nl nc) (s_ffB I J a b nn nl nc) nn) (s_ffJ I J a b nn nl nc 2 4) pt ∧ u = (s_ffI I, s_ffJ I J a b nn nl nc, s_ffA I J a b nn nl nc, s_ffB I J a b nn nl nc)) := by
  refine Met.ofW (cc := cX2_leastCost) (maxL := 5) (ret := some .long) (by decide) rfl ?_
  intro p e s m args below meth c s₁ B hml hv
  obtain ⟨hargs, hsz, G⟩ := gx_begin hv
  subst hsz
  have hx := B.exec
  have hb := B.bytes
  have hr := B.returns
  have hts := atoms_spec (ws := wsX2_leastCost) B.pre
  have hown : s.vm.findClass RX2 = some m.cls := findClass_of_methodNamed B.named
  have hlocks := B.notSynchronized
  have hinX1 : ∀ w ∈ wsX10, w ∈ wsX2_leastCost := by decide +kernel
  have hinX2 : ∀ w ∈ wsX20, w ∈ wsX2_leastCost := by decide +kernel
  have lk22 := hts (.fieldLink RX2 22 "ExactSimplex$Solver" "firstBest" "[J") (by decide +kernel)
  have lk26 := hts (.fieldLink RX2 26 "ExactSimplex$Solver" "firstBestUnder" "J") (by decide +kernel)
  have lk30 := hts (.fieldLink RX2 30 "ExactSimplex$Solver" "problem" "LExactSimplex$Problem;") (by decide +kernel)
  have lk58 := hts (.fieldLink RX2 58 "ExactSimplex$Problem" "names" "I") (by decide +kernel)
  have lk64 := hts (.fieldLink RX2 64 "ExactSimplex$Problem" "costs" "[I") (by decide +kernel)
  have hl := lv_entry ([.ref (ad 2), .int pt]) (n := 5) (Nat.le_of_ble_eq_true rfl)
  have hent := lg_entry_eq m ([.ref (ad 2), .int pt]) 5
  rw [← hargs] at hent
  rw [hent]
  clear hent
  generalize (lg_sl ([.ref (ad 2), .int pt]) ++ List.replicate (5 - (lg_sl ([.ref (ad 2), .int pt])).length) Slot.unset).toArray = ls at hl ⊢
  have hl : lv_has ls 5 [(0, .ref (ad 2)), (1, .int pt)] := hl
  generalize hA : gA ad s.heap.size = A at G ⊢
  generalize hH : s.heap = H at G ⊢
  refine gx_q (fun Q hQ => ?_)
  refine lv_aload_n hx hb dX2_leastCost_0 rfl (lv_at hl 0 rfl) ?_
  refine gx_dVv (I1 := (s_ffI I)) (J1 := (s_ffJ I J a b nn nl nc)) (a1 := (s_ffA I J a b nn nl nc)) (b1 := (s_ffB I J a b nn nl nc)) (As := []) (rest := []) ⟨hx, hb, hml, hown, hts⟩ G 2 (kX2_findFirstBest l D ad cy I J a b H.size nn nl nc hnn hnn2 hnl hnl2 hnc hnc2 hbas hout) (cwV 0 hts gX2_leastCost_X2_findFirstBest rfl rfl rfl (by decide +kernel) ⟨Nat.le_of_ble_eq_true rfl, Nat.le_of_ble_eq_true rfl⟩) (by decide) rfl rfl rfl rfl hl.1 rfl (Nat.le_of_ble_eq_true rfl) ⟨Nat.zero_le _, Nat.zero_le _⟩ dX2_leastCost_1 (fun H locs G => ?_)
  refine lv_lconst (v := 0) hx hb dX2_leastCost_4 (by decide) ?_
  refine lv_lstore_n (lv' := [(2, .long 0), (0, .ref (ad 2)), (1, .int pt)]) hx hb dX2_leastCost_5 rfl hl (by decide) rfl (fun ls hl => ?_)
  refine lv_iconst (v := 0) hx hb dX2_leastCost_6 (by decide) ?_
  refine lv_istore (lv' := [(4, .int 0), (2, .long 0), (0, .ref (ad 2)), (1, .int pt)]) hx hb dX2_leastCost_7 hl (by decide) rfl (fun ls hl => ?_)
  have K9 : ∀ (nf : Nat) (r : Nat) (H : Heap) (locs : List Loc) (ls : Array Slot), (r ≤ nn) → nn - r < nf → GG D ad cy A s (s_ffI I) (s_ffJ I J a b nn nl nc) (s_ffA I J a b nn nl nc) (s_ffB I J a b nn nl nc) H locs → lv_has ls 5 [(0, .ref (ad 2)), (1, .int pt), (2, .long (s_sum (s_ffA I J a b nn nl nc) (s_ffB I J a b nn nl nc) r)), (4, .int (nI r))] → W p l e ({ frames := 5, cells := 0, slots := 0, locals := 132 }) s m args below meth c H locs 0 0 Q (F0 m 9 ls []) := by
    intro nf
    induction nf with
    | zero => exact fun _ _ _ _ _ hz => absurd hz (Nat.not_lt_zero _)
    | succ nf ih =>
      intro r H locs ls h1 hmeas G hl
      have ih9 := ih
      clear ih
      refine lv_iload hx hb dX2_leastCost_9 (lv_at hl 3 rfl) ?_
      refine lv_aload_n hx hb dX2_leastCost_11 rfl (lv_at hl 0 rfl) ?_
      refine gx_get hx hb hts hinX2 hown G 2 (by decide) rfl rfl 0 (by decide) rfl lk30 rfl (v := .ref (ad 1)) rfl dX2_leastCost_12 ?_
      refine gx_get hx hb hts hinX1 hown G 1 (by decide) rfl rfl 7 (by decide) rfl lk58 rfl (v := .int ((s_ffI I) 1 7)) rfl dX2_leastCost_15 ?_
      refine lv_icmp_ge (tgt := 49) hx hb dX2_leastCost_18 (by decide) (fun c18 => ?_) (fun c18 => ?_)
      · skip
        have n18 := gn_le (X := nn) (Y := r) ((s_ffI_k (Or.inl (by decide))).trans hnn) rfl (by omega) (by omega) c18
        have hex : r = nn := by omega
        rw [hex] at hl
        refine lv_lload_n hx hb dX2_leastCost_49 rfl (lv_at hl 2 rfl) ?_
        refine lv_aload_n hx hb dX2_leastCost_50 rfl (lv_at hl 0 rfl) ?_
        refine gx_get hx hb hts hinX2 hown G 2 (by decide) rfl rfl 4 (by decide) rfl lk26 rfl (v := .long ((s_ffJ I J a b nn nl nc) 2 4)) rfl dX2_leastCost_51 ?_
        refine lv_iload_n hx hb dX2_leastCost_54 rfl (lv_at hl 1 rfl) ?_
        refine gx_dSl (v := (s_part (s_sum (s_ffA I J a b nn nl nc) (s_ffB I J a b nn nl nc) nn) (s_ffJ I J a b nn nl nc 2 4) pt)) (I1 := (s_ffI I)) (J1 := (s_ffJ I J a b nn nl nc)) (a1 := (s_ffA I J a b nn nl nc)) (b1 := (s_ffB I J a b nn nl nc)) (As := [.long (s_sum (s_ffA I J a b nn nl nc) (s_ffB I J a b nn nl nc) nn), .long ((s_ffJ I J a b nn nl nc) 2 4), .int pt]) (rest := []) ⟨hx, hb, hml, hown, hts⟩ G (kX2_partOf l D ad cy (s_ffI I) (s_ffJ I J a b nn nl nc) (s_ffA I J a b nn nl nc) (s_ffB I J a b nn nl nc) H.size (s_sum (s_ffA I J a b nn nl nc) (s_ffB I J a b nn nl nc) nn) (s_ffJ I J a b nn nl nc 2 4) pt) (va_cwS 3 hts gX2_leastCost_X2_partOf rfl rfl rfl (by decide +kernel) ⟨Nat.le_of_ble_eq_true rfl, Nat.le_of_ble_eq_true rfl⟩) rfl hl.1 rfl (Nat.le_of_ble_eq_true rfl) ⟨Nat.zero_le _, Nat.zero_le _⟩ dX2_leastCost_55 (fun H locs G => ?_)
        exact gx_lr hx hb hr hlocks G hQ ⟨by first | rfl | (simp only [s_sum, c18, reduceIte]; done) | (simp [s_sum, c18, reduceIte]; done), rfl⟩ dX2_leastCost_58
      · skip
        have n18 := gn_nle (X := nn) (Y := r) ((s_ffI_k (Or.inl (by decide))).trans hnn) rfl (by omega) (by omega) c18
        refine lv_lload_n hx hb dX2_leastCost_21 rfl (lv_at hl 2 rfl) ?_
        refine lv_aload_n hx hb dX2_leastCost_22 rfl (lv_at hl 0 rfl) ?_
        refine gx_get hx hb hts hinX2 hown G 2 (by decide) rfl rfl 0 (by decide) rfl lk30 rfl (v := .ref (ad 1)) rfl dX2_leastCost_23 ?_
        refine gx_get hx hb hts hinX1 hown G 1 (by decide) rfl rfl 2 (by decide) rfl lk64 rfl (v := .ref (ad 8)) rfl dX2_leastCost_26 ?_
        refine lv_iload hx hb dX2_leastCost_29 (lv_at hl 3 rfl) ?_
        refine gx_iald hx hb G 8 (by decide) (rfl) (by decide) r rfl (by omega) dX2_leastCost_31 ?_
        refine lv_i2l (v := ((s_ffA I J a b nn nl nc) 8 r).toInt64) hx hb dX2_leastCost_32 rfl ?_
        refine lv_aload_n hx hb dX2_leastCost_33 rfl (lv_at hl 0 rfl) ?_
        refine gx_get hx hb hts hinX2 hown G 2 (by decide) rfl rfl 3 (by decide) rfl lk22 rfl (v := .ref (ad 20)) rfl dX2_leastCost_34 ?_
        refine lv_iload hx hb dX2_leastCost_37 (lv_at hl 3 rfl) ?_
        refine gx_lald hx hb G 20 (by decide) (rfl) (by decide) r rfl (by omega) dX2_leastCost_39 ?_
        refine lv_lmul hx hb dX2_leastCost_40 ?_
        refine lv_ladd hx hb dX2_leastCost_41 ?_
        refine lv_topl (fun x_1 ex_1 => ?_)
        refine lv_lstore_n (lv' := [(2, .long x_1), (0, .ref (ad 2)), (1, .int pt), (4, .int (nI r))]) hx hb dX2_leastCost_42 rfl hl (by decide) rfl (fun ls hl => ?_)
        refine lv_iinc (v := (nI (r + 1))) (lv' := [(4, .int (nI (r + 1))), (2, .long x_1), (0, .ref (ad 2)), (1, .int pt)]) hx hb dX2_leastCost_43 hl (k := 3) rfl (gn_add (X := r) (Y := 1) rfl rfl) (by decide) rfl (fun ls hl => ?_)
        refine lv_goto (tgt := 9) hx hb dX2_leastCost_46 (by decide) ?_
        have q2 : x_1 = s_sum (s_ffA I J a b nn nl nc) (s_ffB I J a b nn nl nc) (r + 1) := by rw [ex_1]; first | rfl | (simp only [s_sum, c18, reduceIte]; done) | (simp [s_sum, c18, reduceIte]; done)
        rw [q2] at hl
        exact ih9  (r + 1) _ _ _ (by omega) (by omega) G (lv_sub hl [2, 3, 1, 0] rfl)
  exact K9 (nn - 0 + 1) 0 _ _ _ (by omega) (Nat.lt_succ_self _) G (lv_sub hl [2, 3, 1, 0] rfl)

set_option maxHeartbeats 4000000 in
set_option maxRecDepth 100000 in
theorem kX2_firstBestOf (l : Launch) (D : va_G) (ad : Nat → Nat) (cy : Nat → ClassId) (I : gF) (J : gL) (a : gF) (b : gL) (sz : Nat) (nn nl nc n0 : Nat) (pt : Int32) (hnn : I 1 7 = nI nn) (hnn2 : nn ≤ 5) (hnl : I 4 7 = nI nl) (hnl2 : nl ≤ 21) (hnc : I 4 8 = nI nc) (hnc2 : nc ≤ 5) (hbas : d_nat (a 15) nl) (hout : d_nat (a 16) nc) (hn0 : n0 < 5) : gMl l yX2_firstBestOf wsX2_firstBestOf ({ frames := 5, cells := 0, slots := 0, locals := 132 }) D ad cy I J a b sz [.ref (ad 2), .int (nI n0), .int pt] (fun r u => r = s_part (s_ffB I J a b nn nl nc 20 n0) (s_ffJ I J a b nn nl nc 2 4) pt ∧ u = (s_ffI I, s_ffJ I J a b nn nl nc, s_ffA I J a b nn nl nc, s_ffB I J a b nn nl nc)) := by
  refine Met.ofW (cc := cX2_firstBestOf) (maxL := 3) (ret := some .long) (by decide) rfl ?_
  intro p e s m args below meth c s₁ B hml hv
  obtain ⟨hargs, hsz, G⟩ := gx_begin hv
  subst hsz
  have hx := B.exec
  have hb := B.bytes
  have hr := B.returns
  have hts := atoms_spec (ws := wsX2_firstBestOf) B.pre
  have hown : s.vm.findClass RX2 = some m.cls := findClass_of_methodNamed B.named
  have hlocks := B.notSynchronized
  have hinX2 : ∀ w ∈ wsX20, w ∈ wsX2_firstBestOf := by decide +kernel
  have lk22 := hts (.fieldLink RX2 22 "ExactSimplex$Solver" "firstBest" "[J") (by decide +kernel)
  have lk26 := hts (.fieldLink RX2 26 "ExactSimplex$Solver" "firstBestUnder" "J") (by decide +kernel)
  have hl := lv_entry ([.ref (ad 2), .int (nI n0), .int pt]) (n := 3) (Nat.le_of_ble_eq_true rfl)
  have hent := lg_entry_eq m ([.ref (ad 2), .int (nI n0), .int pt]) 3
  rw [← hargs] at hent
  rw [hent]
  clear hent
  generalize (lg_sl ([.ref (ad 2), .int (nI n0), .int pt]) ++ List.replicate (3 - (lg_sl ([.ref (ad 2), .int (nI n0), .int pt])).length) Slot.unset).toArray = ls at hl ⊢
  have hl : lv_has ls 3 [(0, .ref (ad 2)), (1, .int (nI n0)), (2, .int pt)] := hl
  generalize hA : gA ad s.heap.size = A at G ⊢
  generalize hH : s.heap = H at G ⊢
  refine gx_q (fun Q hQ => ?_)
  refine lv_aload_n hx hb dX2_firstBestOf_0 rfl (lv_at hl 0 rfl) ?_
  refine gx_dVv (I1 := (s_ffI I)) (J1 := (s_ffJ I J a b nn nl nc)) (a1 := (s_ffA I J a b nn nl nc)) (b1 := (s_ffB I J a b nn nl nc)) (As := []) (rest := []) ⟨hx, hb, hml, hown, hts⟩ G 2 (kX2_findFirstBest l D ad cy I J a b H.size nn nl nc hnn hnn2 hnl hnl2 hnc hnc2 hbas hout) (cwV 0 hts gX2_firstBestOf_X2_findFirstBest rfl rfl rfl (by decide +kernel) ⟨Nat.le_of_ble_eq_true rfl, Nat.le_of_ble_eq_true rfl⟩) (by decide) rfl rfl rfl rfl hl.1 rfl (Nat.le_of_ble_eq_true rfl) ⟨Nat.zero_le _, Nat.zero_le _⟩ dX2_firstBestOf_1 (fun H locs G => ?_)
  refine lv_aload_n hx hb dX2_firstBestOf_4 rfl (lv_at hl 0 rfl) ?_
  refine gx_get hx hb hts hinX2 hown G 2 (by decide) rfl rfl 3 (by decide) rfl lk22 rfl (v := .ref (ad 20)) rfl dX2_firstBestOf_5 ?_
  refine lv_iload_n hx hb dX2_firstBestOf_8 rfl (lv_at hl 1 rfl) ?_
  refine gx_lald hx hb G 20 (by decide) (rfl) (by decide) n0 rfl (by omega) dX2_firstBestOf_9 ?_
  refine lv_aload_n hx hb dX2_firstBestOf_10 rfl (lv_at hl 0 rfl) ?_
  refine gx_get hx hb hts hinX2 hown G 2 (by decide) rfl rfl 4 (by decide) rfl lk26 rfl (v := .long ((s_ffJ I J a b nn nl nc) 2 4)) rfl dX2_firstBestOf_11 ?_
  refine lv_iload_n hx hb dX2_firstBestOf_14 rfl (lv_at hl 2 rfl) ?_
  refine gx_dSl (v := (s_part (s_ffB I J a b nn nl nc 20 n0) (s_ffJ I J a b nn nl nc 2 4) pt)) (I1 := (s_ffI I)) (J1 := (s_ffJ I J a b nn nl nc)) (a1 := (s_ffA I J a b nn nl nc)) (b1 := (s_ffB I J a b nn nl nc)) (As := [.long ((s_ffB I J a b nn nl nc) 20 n0), .long ((s_ffJ I J a b nn nl nc) 2 4), .int pt]) (rest := []) ⟨hx, hb, hml, hown, hts⟩ G (kX2_partOf l D ad cy (s_ffI I) (s_ffJ I J a b nn nl nc) (s_ffA I J a b nn nl nc) (s_ffB I J a b nn nl nc) H.size (s_ffB I J a b nn nl nc 20 n0) (s_ffJ I J a b nn nl nc 2 4) pt) (va_cwS 3 hts gX2_firstBestOf_X2_partOf rfl rfl rfl (by decide +kernel) ⟨Nat.le_of_ble_eq_true rfl, Nat.le_of_ble_eq_true rfl⟩) rfl hl.1 rfl (Nat.le_of_ble_eq_true rfl) ⟨Nat.zero_le _, Nat.zero_le _⟩ dX2_firstBestOf_15 (fun H locs G => ?_)
  exact gx_lr hx hb hr hlocks G hQ ⟨by first | rfl | (simp only [reduceIte]; done) | (simp [reduceIte]; done), rfl⟩ dX2_firstBestOf_18

set_option maxHeartbeats 4000000 in
set_option maxRecDepth 100000 in
theorem kX2_isTight (l : Launch) (D : va_G) (ad : Nat → Nat) (cy : Nat → ClassId) (I : gF) (J : gL) (a : gF) (b : gL) (sz : Nat) (nn nl nc r0 : Nat) (hnn : I 1 7 = nI nn) (hnn2 : nn ≤ 5) (hnl : I 4 7 = nI nl) (hnl2 : nl ≤ 21) (hnc : I 4 8 = nI nc) (hnc2 : nc ≤ 5) (hbas : d_nat (a 15) nl) (hout : d_nat (a 16) nc) (hr8 : r0 < 8) : gMi l yX2_isTight wsX2_isTight ({ frames := 5, cells := 0, slots := 0, locals := 132 }) D ad cy I J a b sz [.ref (ad 2), .int (nI r0)] (fun r u => r = (if s_tsum (s_ffA I J a b nn nl nc) (s_ffB I J a b nn nl nc) r0 nn = (s_ffA I J a b nn nl nc 10 r0).toInt64 * s_ffJ I J a b nn nl nc 2 4 then 1 else 0) ∧ u = (s_ffI I, s_ffJ I J a b nn nl nc, s_ffA I J a b nn nl nc, s_ffB I J a b nn nl nc)) := by
  refine Met.ofW (cc := cX2_isTight) (maxL := 5) (ret := some .boolean) (by decide) rfl ?_
  intro p e s m args below meth c s₁ B hml hv
  obtain ⟨hargs, hsz, G⟩ := gx_begin hv
  subst hsz
  have hx := B.exec
  have hb := B.bytes
  have hr := B.returns
  have hts := atoms_spec (ws := wsX2_isTight) B.pre
  have hown : s.vm.findClass RX2 = some m.cls := findClass_of_methodNamed B.named
  have hlocks := B.notSynchronized
  have hinX1 : ∀ w ∈ wsX10, w ∈ wsX2_isTight := by decide +kernel
  have hinX2 : ∀ w ∈ wsX20, w ∈ wsX2_isTight := by decide +kernel
  have lk22 := hts (.fieldLink RX2 22 "ExactSimplex$Solver" "firstBest" "[J") (by decide +kernel)
  have lk26 := hts (.fieldLink RX2 26 "ExactSimplex$Solver" "firstBestUnder" "J") (by decide +kernel)
  have lk30 := hts (.fieldLink RX2 30 "ExactSimplex$Solver" "problem" "LExactSimplex$Problem;") (by decide +kernel)
  have lk58 := hts (.fieldLink RX2 58 "ExactSimplex$Problem" "names" "I") (by decide +kernel)
  have lk71 := hts (.fieldLink RX2 71 "ExactSimplex$Problem" "factors" "[[I") (by decide +kernel)
  have lk75 := hts (.fieldLink RX2 75 "ExactSimplex$Problem" "rights" "[I") (by decide +kernel)
  have hl := lv_entry ([.ref (ad 2), .int (nI r0)]) (n := 5) (Nat.le_of_ble_eq_true rfl)
  have hent := lg_entry_eq m ([.ref (ad 2), .int (nI r0)]) 5
  rw [← hargs] at hent
  rw [hent]
  clear hent
  generalize (lg_sl ([.ref (ad 2), .int (nI r0)]) ++ List.replicate (5 - (lg_sl ([.ref (ad 2), .int (nI r0)])).length) Slot.unset).toArray = ls at hl ⊢
  have hl : lv_has ls 5 [(0, .ref (ad 2)), (1, .int (nI r0))] := hl
  generalize hA : gA ad s.heap.size = A at G ⊢
  generalize hH : s.heap = H at G ⊢
  refine gx_q (fun Q hQ => ?_)
  refine lv_aload_n hx hb dX2_isTight_0 rfl (lv_at hl 0 rfl) ?_
  refine gx_dVv (I1 := (s_ffI I)) (J1 := (s_ffJ I J a b nn nl nc)) (a1 := (s_ffA I J a b nn nl nc)) (b1 := (s_ffB I J a b nn nl nc)) (As := []) (rest := []) ⟨hx, hb, hml, hown, hts⟩ G 2 (kX2_findFirstBest l D ad cy I J a b H.size nn nl nc hnn hnn2 hnl hnl2 hnc hnc2 hbas hout) (cwV 0 hts gX2_isTight_X2_findFirstBest rfl rfl rfl (by decide +kernel) ⟨Nat.le_of_ble_eq_true rfl, Nat.le_of_ble_eq_true rfl⟩) (by decide) rfl rfl rfl rfl hl.1 rfl (Nat.le_of_ble_eq_true rfl) ⟨Nat.zero_le _, Nat.zero_le _⟩ dX2_isTight_1 (fun H locs G => ?_)
  refine lv_lconst (v := 0) hx hb dX2_isTight_4 (by decide) ?_
  refine lv_lstore_n (lv' := [(2, .long 0), (0, .ref (ad 2)), (1, .int (nI r0))]) hx hb dX2_isTight_5 rfl hl (by decide) rfl (fun ls hl => ?_)
  refine lv_iconst (v := 0) hx hb dX2_isTight_6 (by decide) ?_
  refine lv_istore (lv' := [(4, .int 0), (2, .long 0), (0, .ref (ad 2)), (1, .int (nI r0))]) hx hb dX2_isTight_7 hl (by decide) rfl (fun ls hl => ?_)
  have K9 : ∀ (nf : Nat) (r : Nat) (H : Heap) (locs : List Loc) (ls : Array Slot), (r ≤ nn) → nn - r < nf → GG D ad cy A s (s_ffI I) (s_ffJ I J a b nn nl nc) (s_ffA I J a b nn nl nc) (s_ffB I J a b nn nl nc) H locs → lv_has ls 5 [(0, .ref (ad 2)), (1, .int (nI r0)), (2, .long (s_tsum (s_ffA I J a b nn nl nc) (s_ffB I J a b nn nl nc) r0 r)), (4, .int (nI r))] → W p l e ({ frames := 5, cells := 0, slots := 0, locals := 132 }) s m args below meth c H locs 0 0 Q (F0 m 9 ls []) := by
    intro nf
    induction nf with
    | zero => exact fun _ _ _ _ _ hz => absurd hz (Nat.not_lt_zero _)
    | succ nf ih =>
      intro r H locs ls h1 hmeas G hl
      have ih9 := ih
      clear ih
      refine lv_iload hx hb dX2_isTight_9 (lv_at hl 3 rfl) ?_
      refine lv_aload_n hx hb dX2_isTight_11 rfl (lv_at hl 0 rfl) ?_
      refine gx_get hx hb hts hinX2 hown G 2 (by decide) rfl rfl 0 (by decide) rfl lk30 rfl (v := .ref (ad 1)) rfl dX2_isTight_12 ?_
      refine gx_get hx hb hts hinX1 hown G 1 (by decide) rfl rfl 7 (by decide) rfl lk58 rfl (v := .int ((s_ffI I) 1 7)) rfl dX2_isTight_15 ?_
      refine lv_icmp_ge (tgt := 51) hx hb dX2_isTight_18 (by decide) (fun c18 => ?_) (fun c18 => ?_)
      · skip
        have n18 := gn_le (X := nn) (Y := r) ((s_ffI_k (Or.inl (by decide))).trans hnn) rfl (by omega) (by omega) c18
        have hex : r = nn := by omega
        rw [hex] at hl
        refine lv_lload_n hx hb dX2_isTight_51 rfl (lv_at hl 2 rfl) ?_
        refine lv_aload_n hx hb dX2_isTight_52 rfl (lv_at hl 0 rfl) ?_
        refine gx_get hx hb hts hinX2 hown G 2 (by decide) rfl rfl 0 (by decide) rfl lk30 rfl (v := .ref (ad 1)) rfl dX2_isTight_53 ?_
        refine gx_get hx hb hts hinX1 hown G 1 (by decide) rfl rfl 4 (by decide) rfl lk75 rfl (v := .ref (ad 10)) rfl dX2_isTight_56 ?_
        refine lv_iload_n hx hb dX2_isTight_59 rfl (lv_at hl 1 rfl) ?_
        refine gx_iald hx hb G 10 (by decide) (rfl) (by decide) r0 rfl (by omega) dX2_isTight_60 ?_
        refine lv_i2l (v := ((s_ffA I J a b nn nl nc) 10 r0).toInt64) hx hb dX2_isTight_61 rfl ?_
        refine lv_aload_n hx hb dX2_isTight_62 rfl (lv_at hl 0 rfl) ?_
        refine gx_get hx hb hts hinX2 hown G 2 (by decide) rfl rfl 4 (by decide) rfl lk26 rfl (v := .long ((s_ffJ I J a b nn nl nc) 2 4)) rfl dX2_isTight_63 ?_
        refine lv_lmul hx hb dX2_isTight_66 ?_
        refine gx_lc_ne (tgt := 75) hx hb dX2_isTight_67 dX2_isTight_68 (by decide) (fun c68 => ?_) (fun c68 => ?_)
        · skip
          refine lv_iconst (v := 0) hx hb dX2_isTight_75 (by decide) ?_
          exact gx_zr hx hb hr hlocks G hQ (rfl) ⟨by simp only [c18, c68, reduceIte], rfl⟩ dX2_isTight_76
        · skip
          refine lv_iconst (v := 1) hx hb dX2_isTight_71 (by decide) ?_
          refine lv_goto (tgt := 76) hx hb dX2_isTight_72 (by decide) ?_
          exact gx_zr hx hb hr hlocks G hQ (rfl) ⟨by simp only [c18, c68, reduceIte], rfl⟩ dX2_isTight_76
      · skip
        have n18 := gn_nle (X := nn) (Y := r) ((s_ffI_k (Or.inl (by decide))).trans hnn) rfl (by omega) (by omega) c18
        refine lv_lload_n hx hb dX2_isTight_21 rfl (lv_at hl 2 rfl) ?_
        refine lv_aload_n hx hb dX2_isTight_22 rfl (lv_at hl 0 rfl) ?_
        refine gx_get hx hb hts hinX2 hown G 2 (by decide) rfl rfl 0 (by decide) rfl lk30 rfl (v := .ref (ad 1)) rfl dX2_isTight_23 ?_
        refine gx_get hx hb hts hinX1 hown G 1 (by decide) rfl rfl 5 (by decide) rfl lk71 rfl (v := .ref (ad 11)) rfl dX2_isTight_26 ?_
        refine lv_iload_n hx hb dX2_isTight_29 rfl (lv_at hl 1 rfl) ?_
        refine gx_aald hx hb G 11 (by decide) rfl (Or.inl rfl) (by decide) r0 rfl (by omega) dX2_isTight_30 ?_
        refine lv_iload hx hb dX2_isTight_31 (lv_at hl 3 rfl) ?_
        refine gx_iald hx hb G (40 + r0) (by omega) (gsh_F _ (by omega)) (by decide) r rfl (by omega) dX2_isTight_33 ?_
        refine lv_i2l (v := ((s_ffA I J a b nn nl nc) (40 + r0) r).toInt64) hx hb dX2_isTight_34 rfl ?_
        refine lv_aload_n hx hb dX2_isTight_35 rfl (lv_at hl 0 rfl) ?_
        refine gx_get hx hb hts hinX2 hown G 2 (by decide) rfl rfl 3 (by decide) rfl lk22 rfl (v := .ref (ad 20)) rfl dX2_isTight_36 ?_
        refine lv_iload hx hb dX2_isTight_39 (lv_at hl 3 rfl) ?_
        refine gx_lald hx hb G 20 (by decide) (rfl) (by decide) r rfl (by omega) dX2_isTight_41 ?_
        refine lv_lmul hx hb dX2_isTight_42 ?_
        refine lv_ladd hx hb dX2_isTight_43 ?_
        refine lv_topl (fun x_1 ex_1 => ?_)
        refine lv_lstore_n (lv' := [(2, .long x_1), (0, .ref (ad 2)), (1, .int (nI r0)), (4, .int (nI r))]) hx hb dX2_isTight_44 rfl hl (by decide) rfl (fun ls hl => ?_)
        refine lv_iinc (v := (nI (r + 1))) (lv' := [(4, .int (nI (r + 1))), (2, .long x_1), (0, .ref (ad 2)), (1, .int (nI r0))]) hx hb dX2_isTight_45 hl (k := 3) rfl (gn_add (X := r) (Y := 1) rfl rfl) (by decide) rfl (fun ls hl => ?_)
        refine lv_goto (tgt := 9) hx hb dX2_isTight_48 (by decide) ?_
        have q2 : x_1 = s_tsum (s_ffA I J a b nn nl nc) (s_ffB I J a b nn nl nc) r0 (r + 1) := by rw [ex_1]; first | rfl | (simp only [s_tsum, c18, reduceIte]; done) | (simp [s_tsum, c18, reduceIte]; done)
        rw [q2] at hl
        exact ih9  (r + 1) _ _ _ (by omega) (by omega) G (lv_sub hl [2, 3, 1, 0] rfl)
  exact K9 (nn - 0 + 1) 0 _ _ _ (by omega) (Nat.lt_succ_self _) G (lv_sub hl [2, 3, 1, 0] rfl)

set_option maxHeartbeats 4000000 in
set_option maxRecDepth 100000 in
theorem kX2_findBarred (l : Launch) (D : va_G) (ad : Nat → Nat) (cy : Nat → ClassId) (I : gF) (J : gL) (a : gF) (b : gL) (sz : Nat) (nn nr : Nat) (hnn : I 1 7 = nI nn) (hnn2 : nn ≤ 5) (hnr : I 1 8 = nI nr) (hnr2 : nr ≤ 8) : gMv l yX2_findBarred wsX2_findBarred ({ frames := 4, cells := 0, slots := 0, locals := 112 }) D ad cy I J a b sz [.ref (ad 2)] (fun u => u = (s_brI I J a b nn nr, s_brJ I J a b nn nr, s_brA I J a b nn nr, s_brB I J a b nn nr)) := by
  refine Met.ofW (cc := cX2_findBarred) (maxL := 4) (ret := none) (by decide) rfl ?_
  intro p e s m args below meth c s₁ B hml hv
  obtain ⟨hargs, hsz, G⟩ := gx_begin hv
  subst hsz
  have hx := B.exec
  have hb := B.bytes
  have hr := B.returns
  have hts := atoms_spec (ws := wsX2_findBarred) B.pre
  have hown : s.vm.findClass RX2 = some m.cls := findClass_of_methodNamed B.named
  have hlocks := B.notSynchronized
  have hinX1 : ∀ w ∈ wsX10, w ∈ wsX2_findBarred := by decide +kernel
  have hinX2 : ∀ w ∈ wsX20, w ∈ wsX2_findBarred := by decide +kernel
  have lk30 := hts (.fieldLink RX2 30 "ExactSimplex$Solver" "problem" "LExactSimplex$Problem;") (by decide +kernel)
  have lk41 := hts (.fieldLink RX2 41 "ExactSimplex$Solver" "barredKnown" "Z") (by decide +kernel)
  have lk91 := hts (.fieldLink RX2 91 "ExactSimplex$Problem" "rows" "I") (by decide +kernel)
  have lk94 := hts (.fieldLink RX2 94 "ExactSimplex$Solver" "barredSet" "I") (by decide +kernel)
  have hl := lv_entry ([.ref (ad 2)]) (n := 4) (Nat.le_of_ble_eq_true rfl)
  have hent := lg_entry_eq m ([.ref (ad 2)]) 4
  rw [← hargs] at hent
  rw [hent]
  clear hent
  generalize (lg_sl ([.ref (ad 2)]) ++ List.replicate (4 - (lg_sl ([.ref (ad 2)])).length) Slot.unset).toArray = ls at hl ⊢
  have hl : lv_has ls 4 [(0, .ref (ad 2))] := hl
  generalize hA : gA ad s.heap.size = A at G ⊢
  generalize hH : s.heap = H at G ⊢
  refine gx_q (fun Q hQ => ?_)
  refine lv_aload_n hx hb dX2_findBarred_0 rfl (lv_at hl 0 rfl) ?_
  refine gx_get hx hb hts hinX2 hown G 2 (by decide) rfl rfl 8 (by decide) rfl lk41 rfl (v := .int (I 2 8)) rfl dX2_findBarred_1 ?_
  refine lv_if_eq (tgt := 8) hx hb dX2_findBarred_4 (by decide) (fun c4 => ?_) (fun c4 => ?_)
  · skip
    refine lv_aload_n hx hb dX2_findBarred_8 rfl (lv_at hl 0 rfl) ?_
    refine gx_dVi (v := (s_all a nr)) (I1 := I) (J1 := J) (a1 := a) (b1 := b) (As := []) (rest := []) ⟨hx, hb, hml, hown, hts⟩ G 2 (kX2_allRows l D ad cy I J a b H.size nr hnr hnr2) (cwV 0 hts gX2_findBarred_X2_allRows rfl rfl rfl (by decide +kernel) ⟨Nat.le_of_ble_eq_true rfl, Nat.le_of_ble_eq_true rfl⟩) (by decide) rfl rfl rfl rfl hl.1 rfl (Nat.le_of_ble_eq_true rfl) ⟨Nat.zero_le _, Nat.zero_le _⟩ dX2_findBarred_9 (fun H locs G => ?_)
    refine lv_istore_n (lv' := [(1, .int (s_all a nr)), (0, .ref (ad 2))]) hx hb dX2_findBarred_12 rfl hl (by decide) rfl (fun ls hl => ?_)
    refine lv_aload_n hx hb dX2_findBarred_13 rfl (lv_at hl 1 rfl) ?_
    refine gx_get hx hb hts hinX2 hown G 2 (by decide) rfl rfl 0 (by decide) rfl lk30 rfl (v := .ref (ad 1)) rfl dX2_findBarred_14 ?_
    refine gx_get hx hb hts hinX1 hown G 1 (by decide) rfl rfl 8 (by decide) rfl lk91 rfl (v := .int (I 1 8)) rfl dX2_findBarred_17 ?_
    refine lv_iconst (v := 1) hx hb dX2_findBarred_20 (by decide) ?_
    refine lv_isub hx hb dX2_findBarred_21 ?_
    refine lv_istore_n (lv' := [(2, .int ((I 1 8) - 1)), (1, .int (s_all a nr)), (0, .ref (ad 2))]) hx hb dX2_findBarred_22 rfl hl (by decide) rfl (fun ls hl => ?_)
    have K23 : ∀ (nf : Nat) (k : Nat) (set : Int32) (I2 : gF) (J2 : gL) (a2 : gF) (b2 : gL) (H : Heap) (locs : List Loc) (ls : Array Slot), (k ≤ nr) → (s_fbar I J a b nn nr = s_bar nn nr k (set, I2, J2, a2, b2)) → (I2 1 7 = nI nn) → (I2 1 8 = nI nr) → k < nf → GG D ad cy A s I2 J2 a2 b2 H locs → lv_has ls 4 [(0, .ref (ad 2)), (1, .int set), (2, .int (nI k - 1))] → W p l e ({ frames := 4, cells := 0, slots := 0, locals := 112 }) s m args below meth c H locs 0 0 Q (F0 m 23 ls []) := by
      intro nf
      induction nf with
      | zero => exact fun _ _ _ _ _ _ _ _ _ _ _ _ _ hz => absurd hz (Nat.not_lt_zero _)
      | succ nf ih =>
        intro k set I2 J2 a2 b2 H locs ls h1 h2 h17 h18 hmeas G hl
        have ih23 := ih
        clear ih
        refine lv_iload_n hx hb dX2_findBarred_23 rfl (lv_at hl 2 rfl) ?_
        refine lv_if_lt (tgt := 56) hx hb dX2_findBarred_24 (by decide) (fun c24 => ?_) (fun c24 => ?_)
        · skip
          have hk0 : k = 0 := by
            rcases Nat.eq_zero_or_pos k with h0 | h0
            · exact h0
            · exact absurd c24 (by rw [show k = (k - 1) + 1 by omega, nI_pred]; exact nI_pos (by omega))
          subst hk0
          refine lv_aload_n hx hb dX2_findBarred_56 rfl (lv_at hl 0 rfl) ?_
          refine lv_iload_n hx hb dX2_findBarred_57 rfl (lv_at hl 1 rfl) ?_
          refine gx_putI hx hb hts hinX2 tyX2 tyX2_ok nmX2 hown G 2 (by decide) rfl rfl 9 (by decide) rfl lk94 rfl rfl (tyX2_ok 9 (by decide)) (rfl) (rfl) dX2_findBarred_58 (fun H locs G => ?_)
          refine lv_aload_n hx hb dX2_findBarred_61 rfl (lv_at hl 0 rfl) ?_
          refine lv_iconst (v := 1) hx hb dX2_findBarred_62 (by decide) ?_
          refine gx_putI hx hb hts hinX2 tyX2 tyX2_ok nmX2 hown G 2 (by decide) rfl rfl 8 (by decide) rfl lk41 rfl rfl (tyX2_ok 8 (by decide)) (rfl) (rfl) dX2_findBarred_63 (fun H locs G => ?_)
          exact gx_vr hx hb hr hlocks G hQ (by simp only [s_brI, s_brJ, s_brA, s_brB, c4, reduceIte, h2, s_bar]) dX2_findBarred_66
        · skip
          have hk0 : 0 < k := by
            rcases Nat.eq_zero_or_pos k with h0 | h0
            · subst h0
              exact absurd (by decide) c24
            · exact h0
          obtain ⟨k1, rfl⟩ : ∃ k1, k = k1 + 1 := ⟨k - 1, by omega⟩
          rw [nI_pred] at hl
          refine lv_iload_n hx hb dX2_findBarred_27 rfl (lv_at hl 1 rfl) ?_
          refine lv_iconst (v := 1) hx hb dX2_findBarred_28 (by decide) ?_
          refine lv_iload_n hx hb dX2_findBarred_29 rfl (lv_at hl 2 rfl) ?_
          refine lv_ishl hx hb dX2_findBarred_30 ?_
          refine lv_iconst (v := -1) hx hb dX2_findBarred_31 (by decide) ?_
          refine lv_ixor hx hb dX2_findBarred_32 ?_
          refine lv_iand hx hb dX2_findBarred_33 ?_
          refine lv_istore_n (lv' := [(3, .int (set &&& ((1 <<< ((nI k1) &&& 31)) ^^^ (-1)))), (0, .ref (ad 2)), (1, .int set), (2, .int (nI k1))]) hx hb dX2_findBarred_34 rfl hl (by decide) rfl (fun ls hl => ?_)
          refine lv_iload_n hx hb dX2_findBarred_35 rfl (lv_at hl 0 rfl) ?_
          refine lv_iload_n hx hb dX2_findBarred_36 rfl (lv_at hl 2 rfl) ?_
          refine lv_icmp_eq (tgt := 50) hx hb dX2_findBarred_37 (by decide) (fun c37 => ?_) (fun c37 => ?_)
          · skip
            obtain ⟨x_1, ex_1⟩ : ∃ z : Int32, z = (nI k1) + -1 := ⟨_, rfl⟩
            refine lv_iinc (v := x_1) (lv' := [(2, .int x_1), (3, .int (set &&& ((1 <<< ((nI k1) &&& 31)) ^^^ (-1)))), (0, .ref (ad 2)), (1, .int set)]) hx hb dX2_findBarred_50 hl (k := 3) rfl ex_1.symm (by decide) rfl (fun ls hl => ?_)
            refine lv_goto (tgt := 23) hx hb dX2_findBarred_53 (by decide) ?_
            have q2 : x_1 = nI k1 - 1 := by rw [ex_1]; exact gx_m1 _
            rw [q2] at hl
            exact ih23  k1 set I2 J2 a2 b2 _ _ _ (by omega) (by rw [h2]; first | (have g37 : s_wo set k1 = set := c37; simp only [s_bar, g37, reduceIte]; done) | (have g37 : ¬ s_wo set k1 = set := c37; simp only [s_bar, s_ck, s_cx, g37, c45, reduceIte]; done)) (by first | exact h17 | exact (s_kI_k (by decide)).trans h17) (by first | exact h18 | exact (s_kI_k (by decide)).trans h18) (by omega) G (lv_sub hl [2, 3, 0] rfl)
          · skip
            refine lv_aload_n hx hb dX2_findBarred_40 rfl (lv_at hl 1 rfl) ?_
            refine lv_iload_n hx hb dX2_findBarred_41 rfl (lv_at hl 0 rfl) ?_
            refine gx_dVi (v := ((s_kf I2 J2 a2 b2 nn nr (s_wo set k1)).1)) (I1 := (s_kI I2 a2 b2 nn nr (s_wo set k1))) (J1 := ((s_kf I2 J2 a2 b2 nn nr (s_wo set k1)).2.1)) (a1 := ((s_kf I2 J2 a2 b2 nn nr (s_wo set k1)).2.2.1)) (b1 := ((s_kf I2 J2 a2 b2 nn nr (s_wo set k1)).2.2.2)) (As := [.int (set &&& ((1 <<< ((nI k1) &&& 31)) ^^^ (-1)))]) (rest := []) ⟨hx, hb, hml, hown, hts⟩ G 2 (kX2_canKeep l D ad cy I2 J2 a2 b2 H.size nn nr (s_wo set k1) h17 hnn2 h18 hnr2) (cwV 1 hts gX2_findBarred_X2_canKeep rfl rfl rfl (by decide +kernel) ⟨Nat.le_of_ble_eq_true rfl, Nat.le_of_ble_eq_true rfl⟩) (by decide) rfl rfl rfl rfl hl.1 rfl (Nat.le_of_ble_eq_true rfl) ⟨Nat.zero_le _, Nat.zero_le _⟩ dX2_findBarred_42 (fun H locs G => ?_)
            refine lv_if_ne (tgt := 50) hx hb dX2_findBarred_45 (by decide) (fun c45 => ?_) (fun c45 => ?_)
            · skip
              obtain ⟨x_2, ex_2⟩ : ∃ z : Int32, z = (nI k1) + -1 := ⟨_, rfl⟩
              refine lv_iinc (v := x_2) (lv' := [(2, .int x_2), (3, .int (set &&& ((1 <<< ((nI k1) &&& 31)) ^^^ (-1)))), (0, .ref (ad 2)), (1, .int set)]) hx hb dX2_findBarred_50 hl (k := 3) rfl ex_2.symm (by decide) rfl (fun ls hl => ?_)
              refine lv_goto (tgt := 23) hx hb dX2_findBarred_53 (by decide) ?_
              have q2 : x_2 = nI k1 - 1 := by rw [ex_2]; exact gx_m1 _
              rw [q2] at hl
              exact ih23  k1 set (s_kI I2 a2 b2 nn nr (s_wo set k1)) ((s_kf I2 J2 a2 b2 nn nr (s_wo set k1)).2.1) ((s_kf I2 J2 a2 b2 nn nr (s_wo set k1)).2.2.1) ((s_kf I2 J2 a2 b2 nn nr (s_wo set k1)).2.2.2) _ _ _ (by omega) (by rw [h2]; first | (have g37 : s_wo set k1 = set := c37; simp only [s_bar, g37, reduceIte]; done) | (have g37 : ¬ s_wo set k1 = set := c37; simp only [s_bar, s_ck, s_cx, g37, c45, reduceIte]; done)) (by first | exact h17 | exact (s_kI_k (by decide)).trans h17) (by first | exact h18 | exact (s_kI_k (by decide)).trans h18) (by omega) G (lv_sub hl [2, 3, 0] rfl)
            · skip
              refine lv_iload_n hx hb dX2_findBarred_48 rfl (lv_at hl 0 rfl) ?_
              refine lv_istore_n (lv' := [(1, .int (set &&& ((1 <<< ((nI k1) &&& 31)) ^^^ (-1)))), (3, .int (set &&& ((1 <<< ((nI k1) &&& 31)) ^^^ (-1)))), (0, .ref (ad 2)), (2, .int (nI k1))]) hx hb dX2_findBarred_49 rfl hl (by decide) rfl (fun ls hl => ?_)
              obtain ⟨x_3, ex_3⟩ : ∃ z : Int32, z = (nI k1) + -1 := ⟨_, rfl⟩
              refine lv_iinc (v := x_3) (lv' := [(2, .int x_3), (1, .int (set &&& ((1 <<< ((nI k1) &&& 31)) ^^^ (-1)))), (3, .int (set &&& ((1 <<< ((nI k1) &&& 31)) ^^^ (-1)))), (0, .ref (ad 2))]) hx hb dX2_findBarred_50 hl (k := 3) rfl ex_3.symm (by decide) rfl (fun ls hl => ?_)
              refine lv_goto (tgt := 23) hx hb dX2_findBarred_53 (by decide) ?_
              have q1 : set &&& ((1 <<< ((nI k1) &&& 31)) ^^^ (-1)) = (s_wo set k1) := by first | rfl | (simp only [c24, c37, c45, reduceIte]; done) | (simp [c24, c37, c45, reduceIte]; done)
              rw [q1] at hl
              have q2 : x_3 = nI k1 - 1 := by rw [ex_3]; exact gx_m1 _
              rw [q2] at hl
              exact ih23  k1 (s_wo set k1) (s_kI I2 a2 b2 nn nr (s_wo set k1)) ((s_kf I2 J2 a2 b2 nn nr (s_wo set k1)).2.1) ((s_kf I2 J2 a2 b2 nn nr (s_wo set k1)).2.2.1) ((s_kf I2 J2 a2 b2 nn nr (s_wo set k1)).2.2.2) _ _ _ (by omega) (by rw [h2]; first | (have g37 : s_wo set k1 = set := c37; simp only [s_bar, g37, reduceIte]; done) | (have g37 : ¬ s_wo set k1 = set := c37; simp only [s_bar, s_ck, s_cx, g37, c45, reduceIte]; done)) (by first | exact h17 | exact (s_kI_k (by decide)).trans h17) (by first | exact h18 | exact (s_kI_k (by decide)).trans h18) (by omega) G (lv_sub hl [3, 1, 0] rfl)
    have q2 : (I 1 8) - 1 = nI nr - 1 := by rw [hnr]
    rw [q2] at hl
    exact K23 (nr + 1) nr (s_all a nr) I J a b _ _ _ (by omega) (rfl) (hnn) (hnr) (Nat.lt_succ_self _) G (lv_sub hl [2, 1, 0] rfl)
  · skip
    exact gx_vr hx hb hr hlocks G hQ (by simp only [s_brI, s_brJ, s_brA, s_brB, c4, reduceIte]) dX2_findBarred_7

set_option maxHeartbeats 4000000 in
set_option maxRecDepth 100000 in
theorem kX2_barredRow (l : Launch) (D : va_G) (ad : Nat → Nat) (cy : Nat → ClassId) (I : gF) (J : gL) (a : gF) (b : gL) (sz : Nat) (nn nr : Nat) (kk : Int32) (hnn : I 1 7 = nI nn) (hnn2 : nn ≤ 5) (hnr : I 1 8 = nI nr) (hnr2 : nr ≤ 8) : gMi l yX2_barredRow wsX2_barredRow ({ frames := 5, cells := 0, slots := 0, locals := 135 }) D ad cy I J a b sz [.ref (ad 2), .int kk] (fun r u => r = s_brow (s_brI I J a b nn nr 2 9) kk nr 0 0 ∧ u = (s_brI I J a b nn nr, s_brJ I J a b nn nr, s_brA I J a b nn nr, s_brB I J a b nn nr)) := by
  refine Met.ofW (cc := cX2_barredRow) (maxL := 4) (ret := some .int) (by decide) rfl ?_
  intro p e s m args below meth c s₁ B hml hv
  obtain ⟨hargs, hsz, G⟩ := gx_begin hv
  subst hsz
  have hx := B.exec
  have hb := B.bytes
  have hr := B.returns
  have hts := atoms_spec (ws := wsX2_barredRow) B.pre
  have hown : s.vm.findClass RX2 = some m.cls := findClass_of_methodNamed B.named
  have hlocks := B.notSynchronized
  have hinX1 : ∀ w ∈ wsX10, w ∈ wsX2_barredRow := by decide +kernel
  have hinX2 : ∀ w ∈ wsX20, w ∈ wsX2_barredRow := by decide +kernel
  have lk30 := hts (.fieldLink RX2 30 "ExactSimplex$Solver" "problem" "LExactSimplex$Problem;") (by decide +kernel)
  have lk91 := hts (.fieldLink RX2 91 "ExactSimplex$Problem" "rows" "I") (by decide +kernel)
  have lk94 := hts (.fieldLink RX2 94 "ExactSimplex$Solver" "barredSet" "I") (by decide +kernel)
  have hl := lv_entry ([.ref (ad 2), .int kk]) (n := 4) (Nat.le_of_ble_eq_true rfl)
  have hent := lg_entry_eq m ([.ref (ad 2), .int kk]) 4
  rw [← hargs] at hent
  rw [hent]
  clear hent
  generalize (lg_sl ([.ref (ad 2), .int kk]) ++ List.replicate (4 - (lg_sl ([.ref (ad 2), .int kk])).length) Slot.unset).toArray = ls at hl ⊢
  have hl : lv_has ls 4 [(0, .ref (ad 2)), (1, .int kk)] := hl
  generalize hA : gA ad s.heap.size = A at G ⊢
  generalize hH : s.heap = H at G ⊢
  refine gx_q (fun Q hQ => ?_)
  refine lv_aload_n hx hb dX2_barredRow_0 rfl (lv_at hl 0 rfl) ?_
  refine gx_dVv (I1 := (s_brI I J a b nn nr)) (J1 := (s_brJ I J a b nn nr)) (a1 := (s_brA I J a b nn nr)) (b1 := (s_brB I J a b nn nr)) (As := []) (rest := []) ⟨hx, hb, hml, hown, hts⟩ G 2 (kX2_findBarred l D ad cy I J a b H.size nn nr hnn hnn2 hnr hnr2) (cwV 0 hts gX2_barredRow_X2_findBarred rfl rfl rfl (by decide +kernel) ⟨Nat.le_of_ble_eq_true rfl, Nat.le_of_ble_eq_true rfl⟩) (by decide) rfl rfl rfl rfl hl.1 rfl (Nat.le_of_ble_eq_true rfl) ⟨Nat.zero_le _, Nat.zero_le _⟩ dX2_barredRow_1 (fun H locs G => ?_)
  refine lv_iconst (v := 0) hx hb dX2_barredRow_4 (by decide) ?_
  refine lv_istore_n (lv' := [(2, .int 0), (0, .ref (ad 2)), (1, .int kk)]) hx hb dX2_barredRow_5 rfl hl (by decide) rfl (fun ls hl => ?_)
  refine lv_iconst (v := 0) hx hb dX2_barredRow_6 (by decide) ?_
  refine lv_istore_n (lv' := [(3, .int 0), (2, .int 0), (0, .ref (ad 2)), (1, .int kk)]) hx hb dX2_barredRow_7 rfl hl (by decide) rfl (fun ls hl => ?_)
  have K8 : ∀ (nf : Nat) (r : Nat) (pl : Int32) (H : Heap) (locs : List Loc) (ls : Array Slot), (r ≤ nr) → (s_brow (s_brI I J a b nn nr 2 9) kk nr 0 0 = s_brow (s_brI I J a b nn nr 2 9) kk (nr - r) r pl) → nr - r < nf → GG D ad cy A s (s_brI I J a b nn nr) (s_brJ I J a b nn nr) (s_brA I J a b nn nr) (s_brB I J a b nn nr) H locs → lv_has ls 4 [(0, .ref (ad 2)), (1, .int kk), (2, .int pl), (3, .int (nI r))] → W p l e ({ frames := 5, cells := 0, slots := 0, locals := 135 }) s m args below meth c H locs 0 0 Q (F0 m 8 ls []) := by
    intro nf
    induction nf with
    | zero => exact fun _ _ _ _ _ _ _ hz => absurd hz (Nat.not_lt_zero _)
    | succ nf ih =>
      intro r pl H locs ls h1 h2 hmeas G hl
      have ih8 := ih
      clear ih
      refine lv_iload_n hx hb dX2_barredRow_8 rfl (lv_at hl 3 rfl) ?_
      refine lv_aload_n hx hb dX2_barredRow_9 rfl (lv_at hl 0 rfl) ?_
      refine gx_get hx hb hts hinX2 hown G 2 (by decide) rfl rfl 0 (by decide) rfl lk30 rfl (v := .ref (ad 1)) rfl dX2_barredRow_10 ?_
      refine gx_get hx hb hts hinX1 hown G 1 (by decide) rfl rfl 8 (by decide) rfl lk91 rfl (v := .int ((s_brI I J a b nn nr) 1 8)) rfl dX2_barredRow_13 ?_
      refine lv_icmp_ge (tgt := 46) hx hb dX2_barredRow_16 (by decide) (fun c16 => ?_) (fun c16 => ?_)
      · skip
        have n16 := gn_le (X := nr) (Y := r) ((s_brI_k (by decide) (by decide)).trans hnr) rfl (by omega) (by omega) c16
        refine lv_iconst (v := -1) hx hb dX2_barredRow_46 (by decide) ?_
        exact gx_ir hx hb hr hlocks G hQ ⟨by rw [h2, show nr - r = 0 by omega]; rfl, rfl⟩ dX2_barredRow_47
      · skip
        have n16 := gn_nle (X := nr) (Y := r) ((s_brI_k (by decide) (by decide)).trans hnr) rfl (by omega) (by omega) c16
        refine lv_aload_n hx hb dX2_barredRow_19 rfl (lv_at hl 0 rfl) ?_
        refine gx_get hx hb hts hinX2 hown G 2 (by decide) rfl rfl 9 (by decide) rfl lk94 rfl (v := .int ((s_brI I J a b nn nr) 2 9)) rfl dX2_barredRow_20 ?_
        refine lv_iconst (v := 1) hx hb dX2_barredRow_23 (by decide) ?_
        refine lv_iload_n hx hb dX2_barredRow_24 rfl (lv_at hl 3 rfl) ?_
        refine lv_ishl hx hb dX2_barredRow_25 ?_
        refine lv_iand hx hb dX2_barredRow_26 ?_
        refine lv_if_eq (tgt := 40) hx hb dX2_barredRow_27 (by decide) (fun c27 => ?_) (fun c27 => ?_)
        · skip
          refine lv_iinc (v := (nI (r + 1))) (lv' := [(3, .int (nI (r + 1))), (0, .ref (ad 2)), (1, .int kk), (2, .int pl)]) hx hb dX2_barredRow_40 hl (k := 3) rfl (gn_add (X := r) (Y := 1) rfl rfl) (by decide) rfl (fun ls hl => ?_)
          refine lv_goto (tgt := 8) hx hb dX2_barredRow_43 (by decide) ?_
          exact ih8  (r + 1) pl _ _ _ (by omega) (by rw [h2, s_brow_s _ _ n16]; simp only [c16, c27, reduceIte]) (by omega) G (lv_sub hl [1, 2, 3, 0] rfl)
        · skip
          refine lv_iload_n hx hb dX2_barredRow_30 rfl (lv_at hl 2 rfl) ?_
          refine lv_iload_n hx hb dX2_barredRow_31 rfl (lv_at hl 1 rfl) ?_
          refine lv_icmp_ne (tgt := 37) hx hb dX2_barredRow_32 (by decide) (fun c32 => ?_) (fun c32 => ?_)
          · skip
            obtain ⟨x_1, ex_1⟩ : ∃ z : Int32, z = pl + 1 := ⟨_, rfl⟩
            refine lv_iinc (v := x_1) (lv' := [(2, .int x_1), (0, .ref (ad 2)), (1, .int kk), (3, .int (nI r))]) hx hb dX2_barredRow_37 hl (k := 2) rfl ex_1.symm (by decide) rfl (fun ls hl => ?_)
            refine lv_iinc (v := (nI (r + 1))) (lv' := [(3, .int (nI (r + 1))), (2, .int x_1), (0, .ref (ad 2)), (1, .int kk)]) hx hb dX2_barredRow_40 hl (k := 3) rfl (gn_add (X := r) (Y := 1) rfl rfl) (by decide) rfl (fun ls hl => ?_)
            refine lv_goto (tgt := 8) hx hb dX2_barredRow_43 (by decide) ?_
            have q2 : x_1 = (pl + 1) := ex_1
            rw [q2] at hl
            exact ih8  (r + 1) (pl + 1) _ _ _ (by omega) (by rw [h2, s_brow_s _ _ n16]; simp only [c16, c27, c32, reduceIte]) (by omega) G (lv_sub hl [2, 3, 1, 0] rfl)
          · skip
            refine lv_iload_n hx hb dX2_barredRow_35 rfl (lv_at hl 3 rfl) ?_
            exact gx_ir hx hb hr hlocks G hQ ⟨by rw [h2, s_brow_s _ _ n16]; simp only [c16, c27, c32, reduceIte], rfl⟩ dX2_barredRow_36
  exact K8 (nr - 0 + 1) 0 0 _ _ _ (by omega) (rfl) (Nat.lt_succ_self _) G (lv_sub hl [2, 3, 1, 0] rfl)
end
