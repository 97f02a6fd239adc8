/-! ===== PURE: the row of returns ===== -/
def sh (f : Nat → Int32) : Nat → Int32 := upd (upd (upd f 0 (f 1)) 1 (f 2)) 2 (f 3)
theorem cl_2m1 : (2 - 1 : Int32).toNatClampNeg = 1 := by decide
theorem cl_1m1 : (1 - 1 : Int32).toNatClampNeg = 0 := by decide
theorem i11 : (1 + 1 : Int32) = 2 := by decide
theorem i21 : (2 + 1 : Int32) = 3 := by decide
theorem i31 : (3 + 1 : Int32) = 4 := by decide
theorem i01 : (0 + 1 : Int32) = 1 := by decide
theorem i1m : (1 - 1 : Int32) = 0 := by decide
theorem i2m : (2 - 1 : Int32) = 1 := by decide
theorem i3m : (3 - 1 : Int32) = 2 := by decide
theorem in4_0 : vp_in 0 4 := tin (by decide) (by decide)
theorem in4_1 : vp_in 1 4 := tin (by decide) (by decide)
theorem in4_2 : vp_in 2 4 := tin (by decide) (by decide)
theorem in4_3 : vp_in 3 4 := tin (by decide) (by decide)
theorem x_shift (q : SS) (v : Int32) : kX6_putReturn_10 10 q v 1 ∧ fX6_putReturn_10 10 q v 1 = fX6_putReturn_40 (sI (sA q 22 (sh (gA q 22))) 509 3) v := by
  constructor
  · simp +decide only [kX6_putReturn_10, kX6_putReturn_40, eq_self, Classical.not_not, Sum.inr.injEq, Sum.inl.injEq, forall_eq', forall_eq, reduceCtorEq, implies_true, forall_const, true_and, and_true, and_self, false_implies, true_implies, not_true_eq_false, not_false_eq_true, if_true, if_false, gI_sI, gI_sL, gI_sA, gI_sB, gL_sI, gL_sL, gL_sA, gL_sB, gA_sI, gA_sL, gA_sA, gA_sB, gB_sI, gB_sL, gB_sA, gB_sB, upd_at, Nat.reduceEqDiff, if_true, if_false, reduceIte, i11, i21, i31, i1m, i2m, i3m, eq_true in4_0, eq_true in4_1, eq_true in4_2, eq_true in4_3]
  · simp +decide only [fX6_putReturn_10, eq_self, Classical.not_not, Sum.inr.injEq, Sum.inl.injEq, forall_eq', forall_eq, reduceCtorEq, implies_true, forall_const, true_and, and_true, and_self, false_implies, true_implies, not_true_eq_false, not_false_eq_true, if_true, if_false, gI_sI, gI_sL, gI_sA, gI_sB, gL_sI, gL_sL, gL_sA, gL_sB, gA_sI, gA_sL, gA_sA, gA_sB, gB_sI, gB_sL, gB_sA, gB_sB, upd_at, Nat.reduceEqDiff, if_true, if_false, reduceIte, i11, i21, i31, i1m, i2m, i3m, sA_sA, cl_0, cl_1, cl_2, cl_3, sh]
theorem m_shift (q : SS) (v : Int32) : (kX11_leads_131 (sI (sA q 19 (sh (gA q 19))) 7 3) v → kX11_leads_101 130 q v 0) ∧ fX11_leads_101 130 q v 0 = fX11_leads_131 (sI (sA q 19 (sh (gA q 19))) 7 3) v := by
  have n0 : ¬ (3 : Int32) ≤ 0 := by decide
  have n1 : ¬ (3 : Int32) ≤ 1 := by decide
  have n2 : ¬ (3 : Int32) ≤ 2 := by decide
  have n3 : (3 : Int32) ≤ 3 := by decide
  have s : ∀ n, fX11_leads_101 (n + 4) q v 0 = fX11_leads_131 (sI (sA q 19 (sh (gA q 19))) 7 3) v := by
    intro n
    rw [fX11_leads_101, if_neg n0, i01, fX11_leads_101, if_neg n1, i11, fX11_leads_101, if_neg n2, i21, fX11_leads_101, if_pos n3]
    simp +decide only [eq_self, Classical.not_not, Sum.inr.injEq, Sum.inl.injEq, forall_eq', forall_eq, reduceCtorEq, implies_true, forall_const, true_and, and_true, and_self, false_implies, true_implies, not_true_eq_false, not_false_eq_true, if_true, if_false, gI_sI, gI_sL, gI_sA, gI_sB, gL_sI, gL_sL, gL_sA, gL_sB, gA_sI, gA_sL, gA_sA, gA_sB, gB_sI, gB_sL, gB_sA, gB_sB, upd_at, Nat.reduceEqDiff, if_true, if_false, reduceIte, sA_sA, cl_0, cl_1, cl_2, cl_3, sh, upd_at]
  have t : ∀ n, kX11_leads_131 (sI (sA q 19 (sh (gA q 19))) 7 3) v → kX11_leads_101 (n + 4) q v 0 := by
    intro n h
    refine ⟨fun e => absurd e n0, fun _ => ⟨by rw [i01]; exact in4_1, in4_0, ?_⟩⟩
    rw [i01]
    refine ⟨fun e => absurd e n1, fun _ => ⟨by rw [i11]; exact in4_2, in4_1, ?_⟩⟩
    rw [i11]
    refine ⟨fun e => absurd e n2, fun _ => ⟨by rw [i21]; exact in4_3, in4_2, ?_⟩⟩
    rw [i21]
    refine ⟨fun _ => ?_, fun e => absurd n3 e⟩
    exact h
  exact ⟨t 126, s 126⟩
theorem rf_sh {f : Nat → Int32} (h : rf 0 80 f) : rf 0 80 (sh f) := rf_upd (rf_upd (rf_upd h (h 1) _) (h 2) _) (h 3) _
theorem ret40_R {c : Int} {x m : SS} (h : R1 c x m) (h7 : rg 0 3 (gI m 7)) {v : Int32} (hv : rg 0 80 v) : kX6_putReturn_40 x v ∧ R1 c (fX6_putReturn_40 x v) (sI (sA m 19 (upd (gA m 19) (gI m 7).toNatClampNeg v)) 7 (gI m 7 + 1)) := by
  obtain ⟨h, hg⟩ := h
  obtain ⟨hW, hV, hT, hP, hQ, hK, hM, hR, hN, hF, hC, hS, hE⟩ := h
  obtain ⟨r1, r2, r3, r4⟩ := hR
  have e : (gI m 7 + 1).toInt = (gI m 7).toInt + 1 := by
    have g1 := h7.1
    have g2 := h7.2
    rw [tadd (by rw [tl_1]; omega) (by rw [tl_1]; omega), tl_1]
  have hin : vp_in (gI x 509) 4 := by
    rw [r3]
    exact rin h7 (by decide)
  have g1 := h7.1
  have g2 := h7.2
  refine ⟨⟨hin, trivial⟩, ⟨hW, hV, hT, hP, hQ, hK, hM, ⟨?_, rf_upd r2 hv _, ?_, ?_⟩, hN, hF, hC, hS, hE⟩, hg⟩
  · show upd (gA x 22) (gI x 509).toNatClampNeg v = upd (gA m 19) (gI m 7).toNatClampNeg v
    rw [r1, r3]
  · show gI x 509 + 1 = gI m 7 + 1
    rw [r3]
  · show rg 0 4 (gI m 7 + 1)
    exact ⟨by omega, by omega⟩
theorem rg43 : rg 0 4 3 := ⟨by decide, by decide⟩
theorem shift_R {c : Int} {x m : SS} (h : R1 c x m) : R1 c (sI (sA x 22 (sh (gA x 22))) 509 3) (sI (sA m 19 (sh (gA m 19))) 7 3) := by
  obtain ⟨h, hg⟩ := h
  obtain ⟨hW, hV, hT, hP, hQ, hK, hM, hR, hN, hF, hC, hS, hE⟩ := h
  obtain ⟨r1, r2, r3, r4⟩ := hR
  refine ⟨⟨hW, hV, hT, hP, hQ, hK, hM, ⟨?_, rf_sh r2, rfl, rg43⟩, hN, hF, hC, hS, hE⟩, hg⟩
  show sh (gA x 22) = sh (gA m 19)
  rw [r1]
