/-! ===== PURE: interrupts, reset ===== -/
theorem again_again (q : SS) : fX11_again (fX11_again q) = fX11_again q := by
  have e1 := sA_self (fX11_again q) 15
  have e2 := sI_self (fX11_again q) 7
  have e3 := sI_self (fX11_again q) 6
  have e4 := sI_self (fX11_again q) 25
  have g1 : gA (fX11_again q) 15 = upd (gA q 15) 15 0 := rfl
  have g2 : gI (fX11_again q) 7 = 0 := rfl
  have g3 : gI (fX11_again q) 6 = 0 := rfl
  have g4 : gI (fX11_again q) 25 = 0 := rfl
  rw [g1] at e1
  rw [g2] at e2
  rw [g3] at e3
  rw [g4] at e4
  rw [again_eq (fX11_again q), g1, upd_upd, e1, e2, e3, e4]
theorem begins_back (m : SS) : fX11_begins (fX11_back m) = fX11_back m := by
  rw [(m_begins _).2]
  have h16 : cpf 0 10 (gA (fX11_back m) 15) (gA (fX11_back m) 16) = gA (fX11_back m) 16 := by
    refine cpf_idem (fun k hk => ?_)
    rw [(m_back m).2]
    show upd (cpf 0 10 (gA m 16) (gA m 15)) 15 0 k = gA m 16 k
    rw [upd_ne (by omega), cpf_at 10 _ _ hk]
  have h18 : cpf 0 64 (gA (fX11_back m) 17) (gA (fX11_back m) 18) = gA (fX11_back m) 18 := by
    refine cpf_idem (fun k hk => ?_)
    rw [(m_back m).2]
    show cpf 0 64 (gA m 18) (gA m 17) k = gA m 18 k
    rw [cpf_at 64 _ _ hk]
  rw [h16, h18]
  have e1 := sA_self (fX11_back m) 16
  rw [e1]
  have e2 := sA_self (fX11_back m) 18
  rw [e2, (m_back m).2]
  exact again_again _
theorem intr_R {c : Int} {y m : SS} (h : R c y (fX11_begins m)) : kX11_asks m ∧ kX6_takeInterrupt y ∧ R c (fX6_takeInterrupt y) (fX11_begins (fX11_asks m)) := by
  have n8 : gI y 514 = gI m 24 := by
    have e := h.2.2.2.2.2.2.2.2.1.2.2.2.2.2.2.2.1
    rw [(m_begins m).2] at e
    exact e
  have p6 : gI y 706 = gA m 15 8 := by
    have e := h.2.2.2.1.2.2.2.2.2.2.1
    rw [(m_begins m).2] at e
    exact e
  have v8 : rg 0 1 (gA m 15 8) := by
    have e := h.2.2.2.2.1.1.2.2.2.2.2.1
    rw [(m_begins m).2] at e
    exact e
  by_cases h1 : gI m 24 = 0
  · simp +decide only [fX11_asks_17, kX11_asks_17, fX11_asks_63, kX11_asks_63, fX11_asks, kX11_asks, fX6_takeInterrupt_18, kX6_takeInterrupt_18, fX6_takeInterrupt_71, kX6_takeInterrupt_71, fX6_takeInterrupt, kX6_takeInterrupt, eq_self, Classical.not_not, Sum.inr.injEq, Sum.inl.injEq, forall_eq', forall_eq, reduceCtorEq, implies_true, forall_const, true_and, and_true, and_self, false_implies, true_implies, not_true_eq_false, not_false_eq_true, if_true, if_false, h1, n8]
    exact h
  · rcases rg01 v8 with h2 | h2
    · simp +decide only [fX11_asks_17, kX11_asks_17, fX11_asks_63, kX11_asks_63, fX11_asks, kX11_asks, fX6_takeInterrupt_18, kX6_takeInterrupt_18, fX6_takeInterrupt_71, kX6_takeInterrupt_71, fX6_takeInterrupt, kX6_takeInterrupt, eq_self, Classical.not_not, Sum.inr.injEq, Sum.inl.injEq, forall_eq', forall_eq, reduceCtorEq, implies_true, forall_const, true_and, and_true, and_self, false_implies, true_implies, not_true_eq_false, not_false_eq_true, if_true, if_false, h1, n8, cl_8, h2, p6]
      exact h
    · simp +decide only [fX11_asks_17, kX11_asks_17, fX11_asks_63, kX11_asks_63, fX11_asks, kX11_asks, fX6_takeInterrupt_18, kX6_takeInterrupt_18, fX6_takeInterrupt_71, kX6_takeInterrupt_71, fX6_takeInterrupt, kX6_takeInterrupt, eq_self, Classical.not_not, Sum.inr.injEq, Sum.inl.injEq, forall_eq', forall_eq, reduceCtorEq, implies_true, forall_const, true_and, and_true, and_self, false_implies, true_implies, not_true_eq_false, not_false_eq_true, if_true, if_false, h1, n8, cl_8, cl_9, cl_4, cl_7, h2, p6, xk_copy_kn, gI_sI, gI_sL, gI_sA, gI_sB, gL_sI, gL_sL, gL_sA, gL_sB, gA_sI, gA_sL, gA_sA, gA_sB, gB_sI, gB_sL, gB_sA, gB_sB, upd_at, Nat.reduceEqDiff, if_true, if_false, reduceIte]
      rw [(x_copy_keptv_now _).2, (m_begins _).2, again_eq]
      rw [(m_begins m).2, again_eq] at h
      obtain ⟨hW, hV, hT, hP, hQ, hK, hM, hR, hN, hF, hC, hS, hE⟩ := h
      obtain ⟨p0, p1, p2, p3, p4, p5, p6, p7, p8, p9, p10, p11, p12⟩ := hP
      obtain ⟨⟨v0, v4, v5, v6, v7, v8, v9⟩, q10, q11, q12, q13, q14, q15⟩ := hQ
      obtain ⟨k0, k1, k2, k3, k4, k5, k6, w0, w4, w5, w6, w7, w8, w9⟩ := hK
      obtain ⟨mI, m1, m2, m3, m4⟩ := hM
      obtain ⟨n1, n2, n3, n4, n5, n6, n7, n8, n9, n10, n11, n12, n13, n14, n15⟩ := hN
      obtain ⟨c1, c2, c3, c4, c5, c6, c7⟩ := hC
      obtain ⟨r1, r2, r3, r4⟩ := hR
      refine ⟨hW, hV, hT, ⟨?_, n10, p1, p3, p4, rfl, rfl, p7, p8, p9, p10, p11, p12⟩, ⟨⟨?_, n11, v5, v6, rg_0, rg_0, v4⟩, q10, q11, q12, q13, q14, rg_0⟩, ⟨?_, n10, p1, p3, p4, rfl, rfl, ?_, n11, v5, v6, rg_0, rg_0, v4⟩, ⟨mI, m1, m2, m3, m4⟩, ⟨r1, r2, r3, r4⟩, ⟨n1, n2, n3, n4, n5, n6, n7, rfl, rg_0, n10, n11, n12, n13, n14, n15⟩, hF, ⟨c1, c2, c3, c4, c5, ?_, c7⟩, hS, ?_⟩
      · intro r hr
        show gA y 25 r = upd (upd (upd (upd (upd (gA m 15) 9 (gA m 15 4)) 4 (gI m 4)) 7 0) 8 0) 15 0 r
        rw [upd_ne (by omega), upd_ne (by omega), upd_ne (by omega), upd_ne (by omega), upd_ne (by omega)]
        have e := p0 r hr
        rw [show gA y 25 r = upd (gA m 15) 15 0 r from e, upd_ne (by omega)]
      · intro r hr
        show rg 0 255 (upd (upd (upd (upd (upd (gA m 15) 9 (gA m 15 4)) 4 (gI m 4)) 7 0) 8 0) 15 0 r)
        rw [upd_ne (by omega), upd_ne (by omega), upd_ne (by omega), upd_ne (by omega), upd_ne (by omega)]
        have e : rg 0 255 (upd (gA m 15) 15 0 r) := v0 r hr
        rw [upd_ne (by omega)] at e
        exact e
      · intro r hr
        show cpf 0 4 (gA y 25) (gA y 26) r = cpf 0 10 (upd (upd (upd (upd (gA m 15) 9 (gA m 15 4)) 4 (gI m 4)) 7 0) 8 0) (gA m 16) r
        rw [cpf_at 4 _ _ hr, cpf_at 10 _ _ (by omega), upd_ne (by omega), upd_ne (by omega), upd_ne (by omega), upd_ne (by omega)]
        have e := p0 r hr
        rw [show gA y 25 r = upd (gA m 15) 15 0 r from e, upd_ne (by omega)]
      · intro r hr
        show rg 0 255 (cpf 0 10 (upd (upd (upd (upd (gA m 15) 9 (gA m 15 4)) 4 (gI m 4)) 7 0) 8 0) (gA m 16) r)
        rw [cpf_at 10 _ _ (by omega), upd_ne (by omega), upd_ne (by omega), upd_ne (by omega), upd_ne (by omega)]
        have e : rg 0 255 (upd (gA m 15) 15 0 r) := v0 r hr
        rw [upd_ne (by omega)] at e
        exact e
      · show gI y 406 + 1 = gI m 15 + 1
        have e : gI y 406 = gI m 15 := c6
        rw [e]
      · intro hb
        refine ⟨(hE rfl).1, fun k hk => ?_⟩
        show upd (upd (upd (upd (upd (gA m 15) 9 (gA m 15 4)) 4 (gI m 4)) 7 0) 8 0) 15 0 k = cpf 0 10 (upd (upd (upd (upd (gA m 15) 9 (gA m 15 4)) 4 (gI m 4)) 7 0) 8 0) (gA m 16) k
        rw [upd_ne (by omega), cpf_at 10 _ _ hk]
theorem run_R {c : Int} {x m : SS} (h : R c x m) : R c (sI x 512 114) (sI m 23 114) := by
  obtain ⟨hW, hV, hT, hP, hQ, hK, hM, hR, hN, hF, hC, hS, hE⟩ := h
  obtain ⟨n1, n2, n3, n4, n5, n6, n7, n8, n9, n10, n11, n12, n13, n14, n15⟩ := hN
  exact ⟨hW, hV, hT, hP, hQ, hK, hM, hR, ⟨n1, n2, n3, n4, rfl, ⟨(by decide : (0 : Int) ≤ (114 : Int32).toInt), (by decide : (114 : Int32).toInt ≤ 65535)⟩, fun e => absurd (show (114 : Int32) = 119 from e) (by decide), n8, n9, n10, n11, n12, n13, n14, n15⟩, hF, hC, hS, hE⟩
theorem op_reset {c : Int} {x m : SS} (h : R c x m) : kX11_reset m ∧ kX10_reset x ∧ (fX10_reset x).1 = (fX11_reset m).1 ∧ R c (fX10_reset x).2 (fX11_reset m).2 := by
  obtain ⟨h1, h2, h3⟩ := back_R h
  have n1 : gI x 510 = gI m 6 := h.2.2.2.2.2.2.2.2.1.1
  have n5 : gI (fX6_takeBack x) 512 = gI (fX11_back m) 23 := h3.2.2.2.2.2.2.2.2.1.2.2.2.2.1
  have h5 := run_R h3
  simp only [fX11_reset_24, kX11_reset_24, fX11_reset_9, kX11_reset_9, fX11_reset, kX11_reset, fX10_reset_22, kX10_reset_22, fX10_reset_15, kX10_reset_15, fX10_reset, kX10_reset, fX6_comeBack_15, kX6_comeBack_15, fX6_comeBack, kX6_comeBack, eq_true h1, eq_true h2, n5, n1]
  generalize fX11_back m = M at *
  generalize fX6_takeBack x = X at *
  by_cases h4 : gI M 23 = 108
  · simp +decide only [eq_self, Classical.not_not, Sum.inr.injEq, Sum.inl.injEq, forall_eq', forall_eq, reduceCtorEq, implies_true, forall_const, true_and, and_true, and_self, false_implies, true_implies, not_true_eq_false, not_false_eq_true, if_true, if_false, h4]
    exact h5
  · simp +decide only [eq_self, Classical.not_not, Sum.inr.injEq, Sum.inl.injEq, forall_eq', forall_eq, reduceCtorEq, implies_true, forall_const, true_and, and_true, and_self, false_implies, true_implies, not_true_eq_false, not_false_eq_true, if_true, if_false, h4]
    exact h3
