/-! ===== PURE: late flags, beginnings, taking back, interrupts ===== -/
theorem in_5_16 : vp_in 5 16 := tin (by decide) (by decide)
theorem in_6_16 : vp_in 6 16 := tin (by decide) (by decide)
theorem finds_R {c : Int} {x m : SS} (h : R c x m) : kX11_finds m ∧ kX6_findFlags x ∧ R c (fX6_findFlags x) (fX11_finds m) := by
  have hRR := h
  obtain ⟨hW, hV, hT, hP, hQ, hK, hM, hR, hN, hF, hC, hS, hE⟩ := h
  obtain ⟨f1, f2, f3⟩ := hF
  by_cases h1 : gI m 26 = 0
  · simp +decide only [fX11_finds_63, kX11_finds_63, fX11_finds_41, kX11_finds_41, fX11_finds_33, kX11_finds_33, fX11_finds, kX11_finds, fX6_findFlags_52, kX6_findFlags_52, fX6_findFlags_31, kX6_findFlags_31, fX6_findFlags_28, kX6_findFlags_28, fX6_findFlags_21, kX6_findFlags_21, fX6_findFlags, kX6_findFlags, eq_self, Classical.not_not, Sum.inr.injEq, Sum.inl.injEq, forall_eq', forall_eq, reduceCtorEq, implies_true, forall_const, true_and, and_true, and_self, false_implies, true_implies, not_true_eq_false, not_false_eq_true, if_true, if_false, h1, f1, f1.trans h1]
    exact hRR
  · obtain ⟨g1, g2, g3, g4, g5, g6⟩ := f3 h1
    have hc := m_combined (sI m 26 0) g4 g5 g6
    have hy := fun q => m_carry q g4 g5 g6
    have hcr := cry01 (gI m 18) (gI m 19) (gI m 20)
    have hn := nb01 hcr
    have key : ∀ z w : Int32, rg 0 1 z → rg 0 1 w → R c (sI (sI (sI (sI x 703 z) 704 w) 1000 0) 407 (gI x 407 + 1)) (sI (sA (sA (sI m 26 0) 15 (upd (gA m 15) 5 z)) 15 (upd (upd (gA m 15) 5 z) 6 w)) 16 (gI m 16 + 1)) := by
      intro z w hz hw
      obtain ⟨p0, p1, p2, p3, p4, p5, p6, p7, p8, p9, p10, p11, p12⟩ := hP
      obtain ⟨⟨v0, v4, v5, v6, v7, v8, v9⟩, q10, q11, q12, q13, q14, q15⟩ := hQ
      obtain ⟨c1, c2, c3, c4, c5, c6, c7⟩ := hC
      refine ⟨hW, hV, hT, ⟨?_, p1, p2, rfl, rfl, p5, p6, p7, p8, p9, p10, p11, p12⟩, ⟨⟨?_, v4, hz, hw, v7, v8, v9⟩, q10, q11, q12, q13, q14, q15⟩, hK, hM, hR, hN, ⟨rfl, rg_0, fun e => absurd rfl e⟩, ⟨c1, c2, c3, c4, c5, c6, ?_⟩, hS, ?_⟩
      · intro r hr
        show gA x 25 r = upd (upd (gA m 15) 5 z) 6 w r
        rw [upd_ne (by omega), upd_ne (by omega)]
        exact p0 r hr
      · intro r hr
        show rg 0 255 (upd (upd (gA m 15) 5 z) 6 w r)
        rw [upd_ne (by omega), upd_ne (by omega)]
        exact v0 r hr
      · show gI x 407 + 1 = gI m 16 + 1
        rw [c7]
      · intro hb
        exact absurd (hE hb).1 h1
    have n1 : ¬ gI x 1000 = 0 := by
      rw [f1]
      exact h1
    have c7 : gI x 407 = gI m 16 := hC.2.2.2.2.2.2
    by_cases h2 : cmb (gI m 18) (gI m 19) (gI m 20) = 0
    · rcases rg01 hcr with e | e
      · simp +decide only [fX11_finds_63, kX11_finds_63, fX11_finds_41, kX11_finds_41, fX11_finds_33, kX11_finds_33, fX11_finds, kX11_finds, fX6_findFlags_52, kX6_findFlags_52, fX6_findFlags_31, kX6_findFlags_31, fX6_findFlags_28, kX6_findFlags_28, fX6_findFlags_21, kX6_findFlags_21, fX6_findFlags, kX6_findFlags, fX4_isZero_23, kX4_isZero_23, fX4_isZero_15, kX4_isZero_15, fX4_isZero, kX4_isZero, fX4_isCarry, kX4_isCarry, fX8_setFlags_now_23, kX8_setFlags_now_23, fX8_setFlags_now_10, kX8_setFlags_now_10, fX8_setFlags_now, kX8_setFlags_now, eq_self, Classical.not_not, Sum.inr.injEq, Sum.inl.injEq, forall_eq', forall_eq, reduceCtorEq, implies_true, forall_const, true_and, and_true, and_self, false_implies, true_implies, not_true_eq_false, not_false_eq_true, if_true, if_false, h1, n1, g1, g2, g3, mk_combined, mk_carry, hc.1, hy, xk_resultOf, xf_resultOf, xk_hasCarry, xf_hasCarry, h2, e, nb_0, nb_1, cl_5, cl_6, eq_true in_5_16, eq_true in_6_16, gI_sI, gI_sL, gI_sA, gI_sB, gL_sI, gL_sL, gL_sA, gL_sB, gA_sI, gA_sL, gA_sA, gA_sB, gB_sI, gB_sL, gB_sA, gB_sB, upd_at, Nat.reduceEqDiff, if_true, if_false, reduceIte]
        exact key 1 0 rg_1 rg_0
      · simp +decide only [fX11_finds_63, kX11_finds_63, fX11_finds_41, kX11_finds_41, fX11_finds_33, kX11_finds_33, fX11_finds, kX11_finds, fX6_findFlags_52, kX6_findFlags_52, fX6_findFlags_31, kX6_findFlags_31, fX6_findFlags_28, kX6_findFlags_28, fX6_findFlags_21, kX6_findFlags_21, fX6_findFlags, kX6_findFlags, fX4_isZero_23, kX4_isZero_23, fX4_isZero_15, kX4_isZero_15, fX4_isZero, kX4_isZero, fX4_isCarry, kX4_isCarry, fX8_setFlags_now_23, kX8_setFlags_now_23, fX8_setFlags_now_10, kX8_setFlags_now_10, fX8_setFlags_now, kX8_setFlags_now, eq_self, Classical.not_not, Sum.inr.injEq, Sum.inl.injEq, forall_eq', forall_eq, reduceCtorEq, implies_true, forall_const, true_and, and_true, and_self, false_implies, true_implies, not_true_eq_false, not_false_eq_true, if_true, if_false, h1, n1, g1, g2, g3, mk_combined, mk_carry, hc.1, hy, xk_resultOf, xf_resultOf, xk_hasCarry, xf_hasCarry, h2, e, nb_0, nb_1, cl_5, cl_6, eq_true in_5_16, eq_true in_6_16, gI_sI, gI_sL, gI_sA, gI_sB, gL_sI, gL_sL, gL_sA, gL_sB, gA_sI, gA_sL, gA_sA, gA_sB, gB_sI, gB_sL, gB_sA, gB_sB, upd_at, Nat.reduceEqDiff, if_true, if_false, reduceIte]
        exact key 1 1 rg_1 rg_1
    · rcases rg01 hcr with e | e
      · simp +decide only [fX11_finds_63, kX11_finds_63, fX11_finds_41, kX11_finds_41, fX11_finds_33, kX11_finds_33, fX11_finds, kX11_finds, fX6_findFlags_52, kX6_findFlags_52, fX6_findFlags_31, kX6_findFlags_31, fX6_findFlags_28, kX6_findFlags_28, fX6_findFlags_21, kX6_findFlags_21, fX6_findFlags, kX6_findFlags, fX4_isZero_23, kX4_isZero_23, fX4_isZero_15, kX4_isZero_15, fX4_isZero, kX4_isZero, fX4_isCarry, kX4_isCarry, fX8_setFlags_now_23, kX8_setFlags_now_23, fX8_setFlags_now_10, kX8_setFlags_now_10, fX8_setFlags_now, kX8_setFlags_now, eq_self, Classical.not_not, Sum.inr.injEq, Sum.inl.injEq, forall_eq', forall_eq, reduceCtorEq, implies_true, forall_const, true_and, and_true, and_self, false_implies, true_implies, not_true_eq_false, not_false_eq_true, if_true, if_false, h1, n1, g1, g2, g3, mk_combined, mk_carry, hc.1, hy, xk_resultOf, xf_resultOf, xk_hasCarry, xf_hasCarry, h2, e, nb_0, nb_1, cl_5, cl_6, eq_true in_5_16, eq_true in_6_16, gI_sI, gI_sL, gI_sA, gI_sB, gL_sI, gL_sL, gL_sA, gL_sB, gA_sI, gA_sL, gA_sA, gA_sB, gB_sI, gB_sL, gB_sA, gB_sB, upd_at, Nat.reduceEqDiff, if_true, if_false, reduceIte]
        exact key 0 0 rg_0 rg_0
      · simp +decide only [fX11_finds_63, kX11_finds_63, fX11_finds_41, kX11_finds_41, fX11_finds_33, kX11_finds_33, fX11_finds, kX11_finds, fX6_findFlags_52, kX6_findFlags_52, fX6_findFlags_31, kX6_findFlags_31, fX6_findFlags_28, kX6_findFlags_28, fX6_findFlags_21, kX6_findFlags_21, fX6_findFlags, kX6_findFlags, fX4_isZero_23, kX4_isZero_23, fX4_isZero_15, kX4_isZero_15, fX4_isZero, kX4_isZero, fX4_isCarry, kX4_isCarry, fX8_setFlags_now_23, kX8_setFlags_now_23, fX8_setFlags_now_10, kX8_setFlags_now_10, fX8_setFlags_now, kX8_setFlags_now, eq_self, Classical.not_not, Sum.inr.injEq, Sum.inl.injEq, forall_eq', forall_eq, reduceCtorEq, implies_true, forall_const, true_and, and_true, and_self, false_implies, true_implies, not_true_eq_false, not_false_eq_true, if_true, if_false, h1, n1, g1, g2, g3, mk_combined, mk_carry, hc.1, hy, xk_resultOf, xf_resultOf, xk_hasCarry, xf_hasCarry, h2, e, nb_0, nb_1, cl_5, cl_6, eq_true in_5_16, eq_true in_6_16, gI_sI, gI_sL, gI_sA, gI_sB, gL_sI, gL_sL, gL_sA, gL_sB, gA_sI, gA_sL, gA_sA, gA_sB, gB_sI, gB_sL, gB_sA, gB_sB, upd_at, Nat.reduceEqDiff, if_true, if_false, reduceIte]
        exact key 0 1 rg_0 rg_1
theorem again_eq (q : SS) : fX11_again q = sI (sI (sI (sA q 15 (upd (gA q 15) 15 0)) 7 0) 6 0) 25 0 := rfl
theorem begin_R {c : Int} {x m : SS} (h : R c x m) (ht : gI m 26 = 0) : kX11_begins m ∧ kX6_begin x ∧ R c (fX6_begin x) (fX11_begins m) := by
  refine ⟨(m_begins m).1, ?_, ?_⟩
  · refine ⟨(x_copy_keptv_now x).1, (x_keep ?_).1, trivial⟩
    rw [(x_copy_keptv_now x).2]
    exact h.2.2.2.2.2.2.1.1
  · have hmi : MI (fX8_copyFrom_keptv_now x) := by
      rw [(x_copy_keptv_now x).2]
      exact h.2.2.2.2.2.2.1.1
    rw [(m_begins m).2, again_eq, show fX6_begin x = sI (sI (sI (sI (fX5_keep (fX8_copyFrom_keptv_now x)) 905 0) 509 0) 510 0) 511 0 from rfl, (x_keep hmi).2]
    have hmk := MI_keep (fX8_copyFrom_keptv_now x)
    rw [(x_copy_keptv_now x).2] at hmk ⊢
    obtain ⟨hW, hV, hT, hP, hQ, hK, hM, hR, hN, hF, hC, hS, hE⟩ := h
    obtain ⟨p0, p1, p2, p3, p4, p5, p6, p7, p8, p9, p10, p11, p12⟩ := hP
    obtain ⟨⟨v0, v4, v5, v6, v7, v8, v9⟩, q10, q11, q12, q13, q14, q15⟩ := hQ
    obtain ⟨k0, k1, k2, k3, k4, k5, k6, w0, w4, w5, w6, w7, w8, w9⟩ := hK
    obtain ⟨mI, m1, m2, m3, m4⟩ := hM
    obtain ⟨n1, n2, n3, n4, n5, n6, n7, n8, n9, n10, n11, n12, n13, n14, n15⟩ := hN
    obtain ⟨r1, r2, r3, r4⟩ := hR
    refine ⟨hW, hV, hT, ⟨?_, p1, p2, p3, p4, p5, p6, p7, p8, p9, p10, p11, rfl⟩, ⟨⟨?_, v4, v5, v6, v7, v8, v9⟩, q10, q11, q12, q13, q14, rg_0⟩, ⟨?_, p1, p2, p3, p4, p5, p6, ?_, v4, v5, v6, v7, v8, v9⟩, ⟨hmk, m1, ?_, m3, ?_⟩, ⟨r1, r2, rfl, rg_0.mono (by decide) (by decide)⟩, ⟨rfl, rg_0.mono (by decide) (by decide), rfl, rg_0, n5, n6, n7, n8, n9, n10, n11, n12, n13, n14, n15⟩, hF, hC, hS, ?_⟩
    · intro r hr
      show gA x 25 r = upd (gA m 15) 15 0 r
      rw [upd_ne (by omega)]
      exact p0 r hr
    · intro r hr
      show rg 0 255 (upd (gA m 15) 15 0 r)
      rw [upd_ne (by omega)]
      exact v0 r hr
    · intro r hr
      show cpf 0 4 (gA x 25) (gA x 26) r = cpf 0 10 (gA m 15) (gA m 16) r
      rw [cpf_at 4 _ _ hr, cpf_at 10 _ _ (by omega)]
      exact p0 r hr
    · intro r hr
      show rg 0 255 (cpf 0 10 (gA m 15) (gA m 16) r)
      rw [cpf_at 10 _ _ (by omega)]
      exact v0 r hr
    · intro k hk
      show cpf 0 64 (gA x 16) (gA x 17) k = cpf 0 64 (gA m 17) (gA m 18) k
      rw [cpf_at 64 _ _ hk, cpf_at 64 _ _ hk]
      exact m1 k hk
    · intro k hk
      show rg 0 255 (cpf 0 64 (gA m 17) (gA m 18) k)
      rw [cpf_at 64 _ _ hk]
      exact m3 k hk
    · intro _
      refine ⟨ht, fun k hk => ?_⟩
      show upd (gA m 15) 15 0 k = cpf 0 10 (gA m 15) (gA m 16) k
      rw [upd_ne (by omega), cpf_at 10 _ _ hk]
theorem cpf_idem {n : Nat} {f g : Nat → Int32} (h : ∀ k, k < n → f k = g k) : cpf 0 n f g = g := by
  funext k
  by_cases hk : k < n
  · rw [cpf_at n _ _ hk, h k hk]
  · rw [cpf_out n _ _ hk]
theorem back_R {c : Int} {x m : SS} (h : R c x m) : kX11_back m ∧ kX6_takeBack x ∧ R c (fX6_takeBack x) (fX11_back m) := by
  have hmi : MI (fX8_copyFrom_now_keptv x) := by
    rw [(x_copy_now_keptv x).2]
    exact h.2.2.2.2.2.2.1.1
  have hR1 : R c (sI (fX5_takeBack (fX8_copyFrom_now_keptv x)) 1000 0) (sI (sA (sA m 15 (cpf 0 10 (gA m 16) (gA m 15))) 17 (cpf 0 64 (gA m 18) (gA m 17))) 26 0) := by
    rw [(x_takeBack hmi).2]
    have hmk := MI_takeBack (fX8_copyFrom_now_keptv x)
    rw [(x_copy_now_keptv x).2] at hmk ⊢
    obtain ⟨hW, hV, hT, hP, hQ, hK, hM, hR, hN, hF, hC, hS, hE⟩ := h
    obtain ⟨p0, p1, p2, p3, p4, p5, p6, p7, p8, p9, p10, p11, p12⟩ := hP
    obtain ⟨⟨v0, v4, v5, v6, v7, v8, v9⟩, q10, q11, q12, q13, q14, q15⟩ := hQ
    obtain ⟨k0, k1, k2, k3, k4, k5, k6, w0, w4, w5, w6, w7, w8, w9⟩ := hK
    obtain ⟨mI, m1, m2, m3, m4⟩ := hM
    refine ⟨hW, hV, hT, ⟨?_, k1, k2, k3, k4, k5, k6, p7, p8, p9, p10, p11, p12⟩, ⟨⟨?_, w4, w5, w6, w7, w8, w9⟩, q10, q11, q12, q13, q14, q15⟩, ⟨k0, k1, k2, k3, k4, k5, k6, w0, w4, w5, w6, w7, w8, w9⟩, ⟨hmk, ?_, m2, ?_, m4⟩, hR, hN, ⟨rfl, rg_0, fun e => absurd rfl e⟩, hC, hS, ?_⟩
    · intro r hr
      show cpf 0 4 (gA x 26) (gA x 25) r = cpf 0 10 (gA m 16) (gA m 15) r
      rw [cpf_at 4 _ _ hr, cpf_at 10 _ _ (by omega)]
      exact k0 r hr
    · intro r hr
      show rg 0 255 (cpf 0 10 (gA m 16) (gA m 15) r)
      rw [cpf_at 10 _ _ (by omega)]
      exact w0 r hr
    · intro k hk
      show cpf 0 64 (gA x 17) (gA x 16) k = cpf 0 64 (gA m 18) (gA m 17) k
      rw [cpf_at 64 _ _ hk, cpf_at 64 _ _ hk]
      exact m2 k hk
    · intro k hk
      show rg 0 255 (cpf 0 64 (gA m 18) (gA m 17) k)
      rw [cpf_at 64 _ _ hk]
      exact m4 k hk
    · intro _
      refine ⟨rfl, fun k hk => ?_⟩
      show cpf 0 10 (gA m 16) (gA m 15) k = gA m 16 k
      rw [cpf_at 10 _ _ hk]
  obtain ⟨b1, b2, b3⟩ := begin_R hR1 rfl
  refine ⟨(m_back m).1, ⟨(x_copy_now_keptv x).1, (x_takeBack hmi).1, b2, trivial⟩, ?_⟩
  have e : fX11_begins (sI (sA (sA m 15 (cpf 0 10 (gA m 16) (gA m 15))) 17 (cpf 0 64 (gA m 18) (gA m 17))) 26 0) = fX11_back m := by
    rw [(m_begins _).2, (m_back m).2]
    simp only [gI_sI, gI_sL, gI_sA, gI_sB, gL_sI, gL_sL, gL_sA, gL_sB, gA_sI, gA_sL, gA_sA, gA_sB, gB_sI, gB_sL, gB_sA, gB_sB, upd_at, Nat.reduceEqDiff, if_true, if_false, reduceIte]
    rw [cpf_idem (n := 10) (f := cpf 0 10 (gA m 16) (gA m 15)) (g := gA m 16) (fun k hk => cpf_at 10 _ _ hk), cpf_idem (n := 64) (f := cpf 0 64 (gA m 18) (gA m 17)) (g := gA m 18) (fun k hk => cpf_at 64 _ _ hk)]
    congr 1
    have e1 := sA_self (sI (sA (sA m 15 (cpf 0 10 (gA m 16) (gA m 15))) 17 (cpf 0 64 (gA m 18) (gA m 17))) 26 0) 16
    have e2 := sA_self (sI (sA (sA m 15 (cpf 0 10 (gA m 16) (gA m 15))) 17 (cpf 0 64 (gA m 18) (gA m 17))) 26 0) 18
    simp only [gI_sI, gI_sL, gI_sA, gI_sB, gL_sI, gL_sL, gL_sA, gL_sB, gA_sI, gA_sL, gA_sA, gA_sB, gB_sI, gB_sL, gB_sA, gB_sB, upd_at, Nat.reduceEqDiff, if_true, if_false, reduceIte] at e1 e2
    rw [e1, e2]
  rw [← e]
  exact b3
