/-! ===== PURE: the small calls ===== -/
theorem op_setWait {c : Int} {x m : SS} (h : R c x m) (v : Int32) : kX11_setWait m v ∧ kX10_setWait x v ∧ okI c [1] (fX10_setWait x v) (fX11_setWait m v).1 (fX11_setWait m v).2 := by
  by_cases h1 : rg 0 9 v
  · simp +decide only [fX11_setWait_7, kX11_setWait_7, fX11_setWait, kX11_setWait, fX10_setWait, kX10_setWait, xb_inr, xb_inl, oc_some, oc_none, xk_requireIndex, xf_requireIndex, xk_requireNumber, xf_requireNumber, xk_requireNotBegun, fX10_requireNotBegun, xk_isOutside, xf_isOutside, mk_isIn, mf_isIn, mk_out, mf_out, mk_refuse, mf_refuse, tb1, tb0, tm_4, tm_64, tm_80, Int.reduceSub, tl_m1, tl_0, tl_1, tl_2, tl_3, tl_4, tl_5, tl_6, tl_7, tl_8, tl_9, tl_10, tl_11, tl_12, tl_13, tl_14, tl_15, tl_16, tl_20, tl_32, tl_48, tl_60, tl_63, tl_64, tl_79, tl_80, tl_96, tl_100, tl_127, tl_128, tl_200, tl_255, tl_256, eq_self, Classical.not_not, Sum.inr.injEq, Sum.inl.injEq, forall_eq', forall_eq, reduceCtorEq, implies_true, forall_const, true_and, and_true, and_self, false_implies, true_implies, not_true_eq_false, not_false_eq_true, if_true, if_false, eq_true h1]
    refine okI_r rfl ?_ ?_
    · exact h.2.2.2.2.2.2.2.2.1.2.2.2.2.2.2.2.2.2.2.2.1
    · obtain ⟨hW, hV, hT, hP, hQ, hK, hM, hR, hN, hF, hC, hS, hE⟩ := h
      obtain ⟨n1, n2, n3, n4, n5, n6, n7, n8, n9, n10, n11, n12, n13, n14, n15⟩ := hN
      exact ⟨hW, hV, hT, hP, hQ, hK, hM, hR, ⟨n1, n2, n3, n4, n5, n6, n7, n8, n9, n10, n11, rfl, h1, n14, n15⟩, hF, hC, hS, hE⟩
  · simp +decide only [fX11_setWait_7, kX11_setWait_7, fX11_setWait, kX11_setWait, fX10_setWait, kX10_setWait, xb_inr, xb_inl, oc_some, oc_none, xk_requireIndex, xf_requireIndex, xk_requireNumber, xf_requireNumber, xk_requireNotBegun, fX10_requireNotBegun, xk_isOutside, xf_isOutside, mk_isIn, mf_isIn, mk_out, mf_out, mk_refuse, mf_refuse, tb1, tb0, tm_4, tm_64, tm_80, Int.reduceSub, tl_m1, tl_0, tl_1, tl_2, tl_3, tl_4, tl_5, tl_6, tl_7, tl_8, tl_9, tl_10, tl_11, tl_12, tl_13, tl_14, tl_15, tl_16, tl_20, tl_32, tl_48, tl_60, tl_63, tl_64, tl_79, tl_80, tl_96, tl_100, tl_127, tl_128, tl_200, tl_255, tl_256, eq_self, Classical.not_not, Sum.inr.injEq, Sum.inl.injEq, forall_eq', forall_eq, reduceCtorEq, implies_true, forall_const, true_and, and_true, and_self, false_implies, true_implies, not_true_eq_false, not_false_eq_true, if_true, if_false, eq_false h1]
    exact okI_l 0 rfl rfl h
theorem op_setVector {c : Int} {x m : SS} (h : R c x m) (v : Int32) : kX11_setVector m v ∧ kX10_setVector x v ∧ okI c [1] (fX10_setVector x v) (fX11_setVector m v).1 (fX11_setVector m v).2 := by
  by_cases h1 : rg 0 63 v
  · simp +decide only [fX11_setVector_7, kX11_setVector_7, fX11_setVector, kX11_setVector, fX10_setVector, kX10_setVector, xb_inr, xb_inl, oc_some, oc_none, xk_requireIndex, xf_requireIndex, xk_requireNumber, xf_requireNumber, xk_requireNotBegun, fX10_requireNotBegun, xk_isOutside, xf_isOutside, mk_isIn, mf_isIn, mk_out, mf_out, mk_refuse, mf_refuse, tb1, tb0, tm_4, tm_64, tm_80, Int.reduceSub, tl_m1, tl_0, tl_1, tl_2, tl_3, tl_4, tl_5, tl_6, tl_7, tl_8, tl_9, tl_10, tl_11, tl_12, tl_13, tl_14, tl_15, tl_16, tl_20, tl_32, tl_48, tl_60, tl_63, tl_64, tl_79, tl_80, tl_96, tl_100, tl_127, tl_128, tl_200, tl_255, tl_256, eq_self, Classical.not_not, Sum.inr.injEq, Sum.inl.injEq, forall_eq', forall_eq, reduceCtorEq, implies_true, forall_const, true_and, and_true, and_self, false_implies, true_implies, not_true_eq_false, not_false_eq_true, if_true, if_false, eq_true h1]
    refine okI_r rfl ?_ ?_
    · exact h.2.2.2.2.2.2.2.2.1.2.2.2.2.2.2.2.2.2.1
    · obtain ⟨hW, hV, hT, hP, hQ, hK, hM, hR, hN, hF, hC, hS, hE⟩ := h
      obtain ⟨n1, n2, n3, n4, n5, n6, n7, n8, n9, n10, n11, n12, n13, n14, n15⟩ := hN
      exact ⟨hW, hV, hT, hP, hQ, hK, hM, hR, ⟨n1, n2, n3, n4, n5, n6, n7, n8, n9, rfl, h1, n12, n13, n14, n15⟩, hF, hC, hS, hE⟩
  · simp +decide only [fX11_setVector_7, kX11_setVector_7, fX11_setVector, kX11_setVector, fX10_setVector, kX10_setVector, xb_inr, xb_inl, oc_some, oc_none, xk_requireIndex, xf_requireIndex, xk_requireNumber, xf_requireNumber, xk_requireNotBegun, fX10_requireNotBegun, xk_isOutside, xf_isOutside, mk_isIn, mf_isIn, mk_out, mf_out, mk_refuse, mf_refuse, tb1, tb0, tm_4, tm_64, tm_80, Int.reduceSub, tl_m1, tl_0, tl_1, tl_2, tl_3, tl_4, tl_5, tl_6, tl_7, tl_8, tl_9, tl_10, tl_11, tl_12, tl_13, tl_14, tl_15, tl_16, tl_20, tl_32, tl_48, tl_60, tl_63, tl_64, tl_79, tl_80, tl_96, tl_100, tl_127, tl_128, tl_200, tl_255, tl_256, eq_self, Classical.not_not, Sum.inr.injEq, Sum.inl.injEq, forall_eq', forall_eq, reduceCtorEq, implies_true, forall_const, true_and, and_true, and_self, false_implies, true_implies, not_true_eq_false, not_false_eq_true, if_true, if_false, eq_false h1]
    exact okI_l 0 rfl rfl h
theorem rg01 {v : Int32} (h : rg 0 1 v) : v = 0 ∨ v = 1 := by
  rw [tI, tI, tl_0, tl_1]
  have h2 := h.1
  have h3 := h.2
  omega
theorem nb01 {v : Int32} (h : rg 0 1 v) : narrow .boolean (.int v) = .int v := by
  rcases rg01 h with e | e
  · rw [e]
    rfl
  · rw [e]
    rfl
theorem vb01 {v : Int32} (h : rg 0 1 v) : vp_nar .boolean v = v := by
  rcases rg01 h with e | e
  · rw [e]
    rfl
  · rw [e]
    rfl
theorem rg_1 : rg 0 1 1 := ⟨by decide, by decide⟩
theorem rg_0 : rg 0 1 0 := ⟨by decide, by decide⟩
theorem nb_0 : narrow .boolean (.int 0) = .int 0 := rfl
theorem nb_1 : narrow .boolean (.int 1) = .int 1 := rfl
theorem nc16 {v : Int32} (h : rg 0 65535 v) : narrow .char (.int v) = .int v := tnc h.1 (by have := h.2; omega)
theorem rin {n : Nat} {hi : Int} {v : Int32} (h : rg 0 hi v) (hn : hi < n) : vp_in v n := tin h.1 (by have := h.2; omega)
theorem ridx {n : Nat} {hi : Int} {v : Int32} (h : rg 0 hi v) (hn : hi < n) : v.toNatClampNeg < n := by
  rw [tcl]
  have h1 := h.1
  have h2 := h.2
  omega
theorem tand2 {v : Int32} {m : Int32} (k : Nat) (hm : m.toBitVec.toNat = 2 ^ k - 1) (hk : k ≤ 30) (h0 : 0 ≤ v.toInt) (h1 : v.toInt < 2 ^ k) : v &&& m = v := by
  rw [tI, tand v k hm hk, Int.emod_eq_of_lt h0 h1]
theorem op_interrupt {c : Int} {x m : SS} (h : R c x m) : kX11_interrupt m ∧ kX10_interrupt x ∧ (fX10_interrupt x).1 = (fX11_interrupt m).1 ∧ R c (fX10_interrupt x).2 (fX11_interrupt m).2 := by
  obtain ⟨hW, hV, hT, hP, hQ, hK, hM, hR, hN, hF, hC, hS, hE⟩ := h
  obtain ⟨n1, n2, n3, n4, n5, n6, n7, n8, n9, n10, n11, n12, n13, n14, n15⟩ := hN
  refine ⟨⟨nb01 n9, trivial⟩, ⟨?_, trivial⟩, n8, ⟨hW, hV, hT, hP, hQ, hK, hM, hR, ⟨n1, n2, n3, n4, n5, n6, n7, rfl, rg_1, n10, n11, n12, n13, n14, n15⟩, hF, hC, hS, hE⟩⟩
  rw [n8]
  exact nb01 n9
theorem op_state {c : Int} {x m : SS} (h : R c x m) : kX11_state m ∧ kX10_state x ∧ (fX10_state x).1 = (fX11_state m).1 ∧ R c (fX10_state x).2 (fX11_state m).2 := by
  have hRR := h
  obtain ⟨hW, hV, hT, hP, hQ, hK, hM, hR, hN, hF, hC, hS, hE⟩ := h
  obtain ⟨n1, n2, n3, n4, n5, n6, n7, n8, n9, n10, n11, n12, n13, n14, n15⟩ := hN
  refine ⟨⟨nc16 n6, trivial⟩, ⟨?_, trivial⟩, n5, hRR⟩
  rw [n5]
  exact nc16 n6
theorem op_setEntry {c : Int} {x m : SS} (h : R c x m) (v w a : Int32) : kX11_setEntry m v w a ∧ kX10_setEntry x v w a ∧ okI c [0, 1] (fX10_setEntry x v w a) (fX11_setEntry m v w a).1 (fX11_setEntry m v w a).2 := by
  by_cases h1 : rg 0 1 v
  · by_cases h2 : rg 0 15 w
    · by_cases h3 : rg (-1) 79 a
      · have e1 : v &&& 1 = v := tand2 1 (by decide) (by decide) h1.1 (by have := h1.2; omega)
        have e2 : w &&& 15 = w := tand2 4 (by decide) (by decide) h2.1 (by have := h2.2; omega)
        have e3 : v * 16 = 16 * v := Int32.mul_comm v 16
        have g1 := h1.1
        have g2 := h1.2
        have g3 := h2.1
        have g4 := h2.2
        have e4 : (16 * v).toInt = 16 * v.toInt := by
          rw [tmul (by rw [tl_16]; omega) (by rw [tl_16]; omega), tl_16]
        have e5 : (16 * v + w).toInt = 16 * v.toInt + w.toInt := by
          rw [tadd (by omega) (by omega), e4]
        have hin : vp_in (16 * v + w) 32 := tin (by omega) (by omega)
        simp +decide only [fX11_setEntry_44, kX11_setEntry_44, fX11_setEntry_25, kX11_setEntry_25, fX11_setEntry_24, kX11_setEntry_24, fX11_setEntry_17, kX11_setEntry_17, fX11_setEntry_7, kX11_setEntry_7, fX11_setEntry, kX11_setEntry, fX10_setEntry, kX10_setEntry, fX7_replaceEntry_6, kX7_replaceEntry_6, fX7_replaceEntry, kX7_replaceEntry, fX7_entryOf, kX7_entryOf, xb_inr, xb_inl, oc_some, oc_none, xk_requireIndex, xf_requireIndex, xk_requireNumber, xf_requireNumber, xk_requireNotBegun, fX10_requireNotBegun, xk_isOutside, xf_isOutside, mk_isIn, mf_isIn, mk_out, mf_out, mk_refuse, mf_refuse, tb1, tb0, tm_4, tm_64, tm_80, Int.reduceSub, tl_m1, tl_0, tl_1, tl_2, tl_3, tl_4, tl_5, tl_6, tl_7, tl_8, tl_9, tl_10, tl_11, tl_12, tl_13, tl_14, tl_15, tl_16, tl_20, tl_32, tl_48, tl_60, tl_63, tl_64, tl_79, tl_80, tl_96, tl_100, tl_127, tl_128, tl_200, tl_255, tl_256, eq_self, Classical.not_not, Sum.inr.injEq, Sum.inl.injEq, forall_eq', forall_eq, reduceCtorEq, implies_true, forall_const, true_and, and_true, and_self, false_implies, true_implies, not_true_eq_false, not_false_eq_true, if_true, if_false, eq_true h1, eq_true h2, eq_true h3, e1, e2, e3, eq_true hin]
        obtain ⟨hW, hV, hT, hP, hQ, hK, hM, hR, hN, hF, hC, hS, hE⟩ := h
        obtain ⟨t1, t2, t3, t4, t5, t6, t7, t8, t9⟩ := hT
        refine okI_r rfl ?_ ?_
        · rw [t2]
          rfl
        · refine ⟨hW, hV, ⟨t1, ?_, rf_upd t3 h3 _, t4, t5, t6, t7, t8, t9⟩, hP, hQ, hK, hM, hR, hN, hF, hC, hS, hE⟩
          show upd (gA x 14) _ _ = upd (gA m 14) _ _
          rw [t2]
      · simp +decide only [fX11_setEntry_44, kX11_setEntry_44, fX11_setEntry_25, kX11_setEntry_25, fX11_setEntry_24, kX11_setEntry_24, fX11_setEntry_17, kX11_setEntry_17, fX11_setEntry_7, kX11_setEntry_7, fX11_setEntry, kX11_setEntry, fX10_setEntry, kX10_setEntry, fX7_replaceEntry_6, kX7_replaceEntry_6, fX7_replaceEntry, kX7_replaceEntry, fX7_entryOf, kX7_entryOf, xb_inr, xb_inl, oc_some, oc_none, xk_requireIndex, xf_requireIndex, xk_requireNumber, xf_requireNumber, xk_requireNotBegun, fX10_requireNotBegun, xk_isOutside, xf_isOutside, mk_isIn, mf_isIn, mk_out, mf_out, mk_refuse, mf_refuse, tb1, tb0, tm_4, tm_64, tm_80, Int.reduceSub, tl_m1, tl_0, tl_1, tl_2, tl_3, tl_4, tl_5, tl_6, tl_7, tl_8, tl_9, tl_10, tl_11, tl_12, tl_13, tl_14, tl_15, tl_16, tl_20, tl_32, tl_48, tl_60, tl_63, tl_64, tl_79, tl_80, tl_96, tl_100, tl_127, tl_128, tl_200, tl_255, tl_256, eq_self, Classical.not_not, Sum.inr.injEq, Sum.inl.injEq, forall_eq', forall_eq, reduceCtorEq, implies_true, forall_const, true_and, and_true, and_self, false_implies, true_implies, not_true_eq_false, not_false_eq_true, if_true, if_false, eq_true h1, eq_true h2, eq_false h3]
        exact okI_l 1 rfl rfl h
    · simp +decide only [fX11_setEntry_44, kX11_setEntry_44, fX11_setEntry_25, kX11_setEntry_25, fX11_setEntry_24, kX11_setEntry_24, fX11_setEntry_17, kX11_setEntry_17, fX11_setEntry_7, kX11_setEntry_7, fX11_setEntry, kX11_setEntry, fX10_setEntry, kX10_setEntry, fX7_replaceEntry_6, kX7_replaceEntry_6, fX7_replaceEntry, kX7_replaceEntry, fX7_entryOf, kX7_entryOf, xb_inr, xb_inl, oc_some, oc_none, xk_requireIndex, xf_requireIndex, xk_requireNumber, xf_requireNumber, xk_requireNotBegun, fX10_requireNotBegun, xk_isOutside, xf_isOutside, mk_isIn, mf_isIn, mk_out, mf_out, mk_refuse, mf_refuse, tb1, tb0, tm_4, tm_64, tm_80, Int.reduceSub, tl_m1, tl_0, tl_1, tl_2, tl_3, tl_4, tl_5, tl_6, tl_7, tl_8, tl_9, tl_10, tl_11, tl_12, tl_13, tl_14, tl_15, tl_16, tl_20, tl_32, tl_48, tl_60, tl_63, tl_64, tl_79, tl_80, tl_96, tl_100, tl_127, tl_128, tl_200, tl_255, tl_256, eq_self, Classical.not_not, Sum.inr.injEq, Sum.inl.injEq, forall_eq', forall_eq, reduceCtorEq, implies_true, forall_const, true_and, and_true, and_self, false_implies, true_implies, not_true_eq_false, not_false_eq_true, if_true, if_false, eq_true h1, eq_false h2]
      exact okI_l 0 rfl rfl h
  · simp +decide only [fX11_setEntry_44, kX11_setEntry_44, fX11_setEntry_25, kX11_setEntry_25, fX11_setEntry_24, kX11_setEntry_24, fX11_setEntry_17, kX11_setEntry_17, fX11_setEntry_7, kX11_setEntry_7, fX11_setEntry, kX11_setEntry, fX10_setEntry, kX10_setEntry, fX7_replaceEntry_6, kX7_replaceEntry_6, fX7_replaceEntry, kX7_replaceEntry, fX7_entryOf, kX7_entryOf, xb_inr, xb_inl, oc_some, oc_none, xk_requireIndex, xf_requireIndex, xk_requireNumber, xf_requireNumber, xk_requireNotBegun, fX10_requireNotBegun, xk_isOutside, xf_isOutside, mk_isIn, mf_isIn, mk_out, mf_out, mk_refuse, mf_refuse, tb1, tb0, tm_4, tm_64, tm_80, Int.reduceSub, tl_m1, tl_0, tl_1, tl_2, tl_3, tl_4, tl_5, tl_6, tl_7, tl_8, tl_9, tl_10, tl_11, tl_12, tl_13, tl_14, tl_15, tl_16, tl_20, tl_32, tl_48, tl_60, tl_63, tl_64, tl_79, tl_80, tl_96, tl_100, tl_127, tl_128, tl_200, tl_255, tl_256, eq_self, Classical.not_not, Sum.inr.injEq, Sum.inl.injEq, forall_eq', forall_eq, reduceCtorEq, implies_true, forall_const, true_and, and_true, and_self, false_implies, true_implies, not_true_eq_false, not_false_eq_true, if_true, if_false, eq_false h1]
    exact okI_l 0 rfl rfl h
theorem MI_both {q : SS} (h : MI q) (i : Nat) (v : Int32) : MI (sA (sA q 16 (upd (gA q 16) i v)) 17 (upd (gA q 17) i v)) := by
  obtain ⟨w, h1, h2, h3, h4, h5⟩ := h
  refine ⟨w, h1, h2, h3, h4, fun c hc => ?_⟩
  rcases h5 c hc with ⟨a, b⟩ | b
  · refine Or.inl ⟨a, ?_⟩
    show upd (gA q 16) i v c = upd (gA q 17) i v c
    rw [upd_at, upd_at, b]
  · exact Or.inr b
theorem op_setCell {c : Int} {x m : SS} (h : R c x m) (v w : Int32) : kX11_setCell m v w ∧ kX10_setCell x v w ∧ okI c [0, 1, 4] (fX10_setCell x v w) (fX11_setCell m v w).1 (fX11_setCell m v w).2 := by
  have n3 : gI x 511 = gI m 25 := h.2.2.2.2.2.2.2.2.1.2.2.1
  by_cases h1 : rg 0 63 v
  · by_cases h2 : rg 0 255 w
    · by_cases h3 : gI m 25 = 0
      · have hin : vp_in v 64 := rin h1 (by decide)
        simp +decide only [fX11_setCell_20, kX11_setCell_20, fX11_setCell_7, kX11_setCell_7, fX11_setCell, kX11_setCell, fX10_setCell, kX10_setCell, fX5_replace, kX5_replace, xb_inr, xb_inl, oc_some, oc_none, xk_requireIndex, xf_requireIndex, xk_requireNumber, xf_requireNumber, xk_requireNotBegun, fX10_requireNotBegun, xk_isOutside, xf_isOutside, mk_isIn, mf_isIn, mk_out, mf_out, mk_refuse, mf_refuse, tb1, tb0, tm_4, tm_64, tm_80, Int.reduceSub, tl_m1, tl_0, tl_1, tl_2, tl_3, tl_4, tl_5, tl_6, tl_7, tl_8, tl_9, tl_10, tl_11, tl_12, tl_13, tl_14, tl_15, tl_16, tl_20, tl_32, tl_48, tl_60, tl_63, tl_64, tl_79, tl_80, tl_96, tl_100, tl_127, tl_128, tl_200, tl_255, tl_256, eq_self, Classical.not_not, Sum.inr.injEq, Sum.inl.injEq, forall_eq', forall_eq, reduceCtorEq, implies_true, forall_const, true_and, and_true, and_self, false_implies, true_implies, not_true_eq_false, not_false_eq_true, if_true, if_false, eq_true h1, eq_true h2, n3, gI_sI, gI_sL, gI_sA, gI_sB, gL_sI, gL_sL, gL_sA, gL_sB, gA_sI, gA_sL, gA_sA, gA_sB, gB_sI, gB_sL, gB_sA, gB_sB, upd_at, Nat.reduceEqDiff, if_true, if_false, reduceIte, h3, eq_true hin]
        obtain ⟨hW, hV, hT, hP, hQ, hK, hM, hR, hN, hF, hC, hS, hE⟩ := h
        obtain ⟨mI, m1, m2, m3, m4⟩ := hM
        refine okI_r rfl (m1 _ (ridx h1 (by decide))) ⟨hW, hV, hT, hP, hQ, hK, ⟨MI_both mI _ _, ?_, ?_, ?_, ?_⟩, hR, hN, hF, hC, hS, hE⟩
        · intro c hc
          show upd (gA x 16) _ _ c = upd (gA m 17) _ _ c
          rw [upd_at, upd_at, m1 c hc]
        · intro c hc
          show upd (gA x 17) _ _ c = upd (gA m 18) _ _ c
          rw [upd_at, upd_at, m2 c hc]
        · intro c hc
          show rg 0 255 (upd (gA m 17) _ _ c)
          rw [upd_at]
          split
          · exact h2
          · exact m3 c hc
        · intro c hc
          show rg 0 255 (upd (gA m 18) _ _ c)
          rw [upd_at]
          split
          · exact h2
          · exact m4 c hc
      · simp +decide only [fX11_setCell_20, kX11_setCell_20, fX11_setCell_7, kX11_setCell_7, fX11_setCell, kX11_setCell, fX10_setCell, kX10_setCell, fX5_replace, kX5_replace, xb_inr, xb_inl, oc_some, oc_none, xk_requireIndex, xf_requireIndex, xk_requireNumber, xf_requireNumber, xk_requireNotBegun, fX10_requireNotBegun, xk_isOutside, xf_isOutside, mk_isIn, mf_isIn, mk_out, mf_out, mk_refuse, mf_refuse, tb1, tb0, tm_4, tm_64, tm_80, Int.reduceSub, tl_m1, tl_0, tl_1, tl_2, tl_3, tl_4, tl_5, tl_6, tl_7, tl_8, tl_9, tl_10, tl_11, tl_12, tl_13, tl_14, tl_15, tl_16, tl_20, tl_32, tl_48, tl_60, tl_63, tl_64, tl_79, tl_80, tl_96, tl_100, tl_127, tl_128, tl_200, tl_255, tl_256, eq_self, Classical.not_not, Sum.inr.injEq, Sum.inl.injEq, forall_eq', forall_eq, reduceCtorEq, implies_true, forall_const, true_and, and_true, and_self, false_implies, true_implies, not_true_eq_false, not_false_eq_true, if_true, if_false, eq_true h1, eq_true h2, n3, gI_sI, gI_sL, gI_sA, gI_sB, gL_sI, gL_sL, gL_sA, gL_sB, gA_sI, gA_sL, gA_sA, gA_sB, gB_sI, gB_sL, gB_sA, gB_sB, upd_at, Nat.reduceEqDiff, if_true, if_false, reduceIte, h3]
        exact okI_l 2 rfl rfl h
    · simp +decide only [fX11_setCell_20, kX11_setCell_20, fX11_setCell_7, kX11_setCell_7, fX11_setCell, kX11_setCell, fX10_setCell, kX10_setCell, fX5_replace, kX5_replace, xb_inr, xb_inl, oc_some, oc_none, xk_requireIndex, xf_requireIndex, xk_requireNumber, xf_requireNumber, xk_requireNotBegun, fX10_requireNotBegun, xk_isOutside, xf_isOutside, mk_isIn, mf_isIn, mk_out, mf_out, mk_refuse, mf_refuse, tb1, tb0, tm_4, tm_64, tm_80, Int.reduceSub, tl_m1, tl_0, tl_1, tl_2, tl_3, tl_4, tl_5, tl_6, tl_7, tl_8, tl_9, tl_10, tl_11, tl_12, tl_13, tl_14, tl_15, tl_16, tl_20, tl_32, tl_48, tl_60, tl_63, tl_64, tl_79, tl_80, tl_96, tl_100, tl_127, tl_128, tl_200, tl_255, tl_256, eq_self, Classical.not_not, Sum.inr.injEq, Sum.inl.injEq, forall_eq', forall_eq, reduceCtorEq, implies_true, forall_const, true_and, and_true, and_self, false_implies, true_implies, not_true_eq_false, not_false_eq_true, if_true, if_false, eq_true h1, eq_false h2]
      exact okI_l 1 rfl rfl h
  · simp +decide only [fX11_setCell_20, kX11_setCell_20, fX11_setCell_7, kX11_setCell_7, fX11_setCell, kX11_setCell, fX10_setCell, kX10_setCell, fX5_replace, kX5_replace, xb_inr, xb_inl, oc_some, oc_none, xk_requireIndex, xf_requireIndex, xk_requireNumber, xf_requireNumber, xk_requireNotBegun, fX10_requireNotBegun, xk_isOutside, xf_isOutside, mk_isIn, mf_isIn, mk_out, mf_out, mk_refuse, mf_refuse, tb1, tb0, tm_4, tm_64, tm_80, Int.reduceSub, tl_m1, tl_0, tl_1, tl_2, tl_3, tl_4, tl_5, tl_6, tl_7, tl_8, tl_9, tl_10, tl_11, tl_12, tl_13, tl_14, tl_15, tl_16, tl_20, tl_32, tl_48, tl_60, tl_63, tl_64, tl_79, tl_80, tl_96, tl_100, tl_127, tl_128, tl_200, tl_255, tl_256, eq_self, Classical.not_not, Sum.inr.injEq, Sum.inl.injEq, forall_eq', forall_eq, reduceCtorEq, implies_true, forall_const, true_and, and_true, and_self, false_implies, true_implies, not_true_eq_false, not_false_eq_true, if_true, if_false, eq_false h1]
    exact okI_l 0 rfl rfl h
