/-! ===== PURE: what is decoded ===== -/
theorem d71 {c : Int} {y m : SS} (h : RD c y m) {b : Int32} (hb : rg 0 255 b) (v : Int32) : ∃ (w d s : Int32), rg (-1) 15 w ∧ rg 0 3 d ∧ rg 0 3 s ∧ RD c (fX2_decode_71 y v b 1) (sI m 27 1) ∧ gI (fX2_decode_71 y v b 1) 1101 = 1 ∧ gI (fX2_decode_71 y v b 1) 1102 = w ∧ gI (fX2_decode_71 y v b 1) 1103 = d ∧ gI (fX2_decode_71 y v b 1) 1104 = s ∧ fX11_defines_114 m b v 1 = fX11_defines_ (sI m 27 1) w d s ∧ (kX11_defines_ (sI m 27 1) w d s → kX11_defines_114 m b v 1) := by
  have eS : gI y 805 = gA m 16 7 := h.1.2.2.2.2.2.1.2.2.2.2.2.1
  have rS : rg 0 1 (gA m 16 7) := h.1.2.2.2.2.2.1.2.2.2.2.2.2.2.2.2.2.2.1
  have g1 := hb.1
  have g2 := hb.2
  have ed := tdiv (a := b) tl_16 (by decide) g1
  have e14 : (14 - b / 16).toInt = 14 - (b / 16).toInt := by
    rw [tsub (by rw [tl_14]; omega) (by rw [tl_14]; omega), tl_14]
  have l4 := lo4 hb
  have h4 := hi4 hb
  have n1 : nf .boolean 1 := ⟨rfl, by decide⟩
  have r1 : rg (-1) 15 (b / 16) := ⟨by omega, by omega⟩
  have r2 : rg (-1) 15 (14 - b / 16) := ⟨by omega, by omega⟩
  rcases rg01 rS with e | e
  · by_cases ho : v - v / 2 * 2 = 1
    · refine ⟨b / 16, (b / 4) &&& 3, b &&& 3, r1, rg3 _, rg3 _, ?_⟩
      simp +decide only [fX2_decode_71, fX2_decode_102, fX2_decode_114, fX2_decode_143, fX2_decode_159, fX11_defines_114, kX11_defines_114, fX11_defines_137, kX11_defines_137, fX11_defines_153, kX11_defines_153, fX11_defines_170, kX11_defines_170, fX11_defines_197, kX11_defines_197, eq_self, Classical.not_not, Sum.inr.injEq, Sum.inl.injEq, forall_eq', forall_eq, reduceCtorEq, implies_true, forall_const, true_and, and_true, and_self, false_implies, true_implies, not_true_eq_false, not_false_eq_true, if_true, if_false, gI_sI, gI_sL, gI_sA, gI_sB, gL_sI, gL_sL, gL_sA, gL_sB, gA_sI, gA_sL, gA_sA, gA_sB, gB_sI, gB_sL, gB_sA, gB_sB, upd_at, Nat.reduceEqDiff, if_true, if_false, reduceIte, eS, e, ho, l4, h4, cl_7, eq_true n1]
      exact ⟨h, id⟩
    · refine ⟨b / 16, b &&& 3, (b / 4) &&& 3, r1, rg3 _, rg3 _, ?_⟩
      simp +decide only [fX2_decode_71, fX2_decode_102, fX2_decode_114, fX2_decode_143, fX2_decode_159, fX11_defines_114, kX11_defines_114, fX11_defines_137, kX11_defines_137, fX11_defines_153, kX11_defines_153, fX11_defines_170, kX11_defines_170, fX11_defines_197, kX11_defines_197, eq_self, Classical.not_not, Sum.inr.injEq, Sum.inl.injEq, forall_eq', forall_eq, reduceCtorEq, implies_true, forall_const, true_and, and_true, and_self, false_implies, true_implies, not_true_eq_false, not_false_eq_true, if_true, if_false, gI_sI, gI_sL, gI_sA, gI_sB, gL_sI, gL_sL, gL_sA, gL_sB, gA_sI, gA_sL, gA_sA, gA_sB, gB_sI, gB_sL, gB_sA, gB_sB, upd_at, Nat.reduceEqDiff, if_true, if_false, reduceIte, eS, e, ho, l4, h4, cl_7, eq_true n1]
      exact ⟨h, id⟩
  · by_cases ho : v - v / 2 * 2 = 1
    · refine ⟨14 - b / 16, (b / 4) &&& 3, b &&& 3, r2, rg3 _, rg3 _, ?_⟩
      simp +decide only [fX2_decode_71, fX2_decode_102, fX2_decode_114, fX2_decode_143, fX2_decode_159, fX11_defines_114, kX11_defines_114, fX11_defines_137, kX11_defines_137, fX11_defines_153, kX11_defines_153, fX11_defines_170, kX11_defines_170, fX11_defines_197, kX11_defines_197, eq_self, Classical.not_not, Sum.inr.injEq, Sum.inl.injEq, forall_eq', forall_eq, reduceCtorEq, implies_true, forall_const, true_and, and_true, and_self, false_implies, true_implies, not_true_eq_false, not_false_eq_true, if_true, if_false, gI_sI, gI_sL, gI_sA, gI_sB, gL_sI, gL_sL, gL_sA, gL_sB, gA_sI, gA_sL, gA_sA, gA_sB, gB_sI, gB_sL, gB_sA, gB_sB, upd_at, Nat.reduceEqDiff, if_true, if_false, reduceIte, eS, e, ho, l4, h4, cl_7, eq_true n1]
      exact ⟨h, id⟩
    · refine ⟨14 - b / 16, b &&& 3, (b / 4) &&& 3, r2, rg3 _, rg3 _, ?_⟩
      simp +decide only [fX2_decode_71, fX2_decode_102, fX2_decode_114, fX2_decode_143, fX2_decode_159, fX11_defines_114, kX11_defines_114, fX11_defines_137, kX11_defines_137, fX11_defines_153, kX11_defines_153, fX11_defines_170, kX11_defines_170, fX11_defines_197, kX11_defines_197, eq_self, Classical.not_not, Sum.inr.injEq, Sum.inl.injEq, forall_eq', forall_eq, reduceCtorEq, implies_true, forall_const, true_and, and_true, and_self, false_implies, true_implies, not_true_eq_false, not_false_eq_true, if_true, if_false, gI_sI, gI_sL, gI_sA, gI_sB, gL_sI, gL_sL, gL_sA, gL_sB, gA_sI, gA_sL, gA_sA, gA_sB, gB_sI, gB_sL, gB_sA, gB_sB, upd_at, Nat.reduceEqDiff, if_true, if_false, reduceIte, eS, e, ho, l4, h4, cl_7, eq_true n1]
      exact ⟨h, id⟩
