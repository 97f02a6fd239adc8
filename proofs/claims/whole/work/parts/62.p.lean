/-! ===== PURE: an order that ends nothing ===== -/
theorem R1_E {c : Int} {x m : SS} (h : R1 c x m) {v : Int32} (hv : rg 0 1 v) : R1 c (sI x 905 v) (sA m 15 (upd (gA m 15) 15 v)) := by
  obtain ⟨h, hb⟩ := h
  refine ⟨?_, hb⟩
  obtain ⟨hW, hV, hT, hP, hQ, hK, hM, hR, hN, hF, hC, hS, hE⟩ := h
  obtain ⟨p0, p1, p2, p3, p4, p5, p6, p7, p8, p9, p10, p11, p12⟩ := hP
  obtain ⟨⟨v0, v4, v5, v6, v7, v8, v9⟩, q10, q11, q12, q13, q14, q15⟩ := hQ
  refine ⟨hW, hV, hT, ⟨?_, p1, p2, p3, p4, p5, p6, p7, p8, p9, p10, p11, rfl⟩, ⟨⟨?_, v4, v5, v6, v7, v8, v9⟩, q10, q11, q12, q13, q14, hv⟩, hK, hM, hR, hN, hF, hC, hS, fun e => absurd e hb⟩
  · intro r hr
    show gA x 25 r = upd (gA m 15) 15 v r
    rw [upd_ne (by omega)]
    exact p0 r hr
  · intro r hr
    show rg 0 255 (upd (gA m 15) 15 v r)
    rw [upd_ne (by omega)]
    exact v0 r hr
theorem mf_follows (q : SS) (v : Int32) : fX11_follows q v = (flw q v, q) := (m_follows q v).2
theorem mk_follows (q : SS) (v : Int32) : kX11_follows q v = True := eq_true (m_follows q v).1
theorem or79 : ∀ n, n < 80 → ∀ b, b < 8 → rg (-1) 80 (nI n ||| nI b) := by decide +kernel
theorem go_R {c : Int} {x m : SS} (h : R c x m) {n : Int32} (hn : rg (-1) 80 n) : R c (sI x 510 (flw m n)) (sI m 6 (flw m n)) := next_R h (flw_rg h hn)
theorem obey_R {c : Int} {x m : SS} (h : R1 c x m) {a v : Int32} (ha : rg 0 79 a) (hn : gI m 6 = a) (hw : isW x a.toNatClampNeg) (ho : isOrd (gA m 9 a.toNatClampNeg)) (he : ¬ isEnd (gA m 9 a.toNatClampNeg)) : kX6_obey x a.toNatClampNeg ∧ kX11_orders m a v ∧ R c (fX6_obey x a.toNatClampNeg) (fX11_orders m a v) := by
  have h1 := h
  obtain ⟨h, hg⟩ := h
  have hRR := h
  have hin : vp_in a 80 := rin ha (by decide)
  obtain ⟨hW, hV, hT, hP, hQ, hK, hM, hR, hN, hF, hC, hS, hE⟩ := h
  obtain ⟨a1, a2, a3, a4, a5, a6, a7, a8, a9, a10, a11⟩ := hW
  obtain ⟨b1, b2, b3, b4, b5, b6, b7, b8, b9, b10, b11⟩ := hV
  obtain ⟨t1, t2, t3, t4, t5, t6, t7, t8, t9⟩ := hT
  obtain ⟨p0, p1, p2, p3, p4, p5, p6, p7, p8, p9, p10, p11, p12⟩ := hP
  obtain ⟨⟨v0, v4, v5, v6, v7, v8, v9⟩, q10, q11, q12, q13, q14, q15⟩ := hQ
  obtain ⟨n1, n2, n3, n4, n5, n6, n7, n8, n9, n10, n11, n12, n13, n14, n15⟩ := hN
  have ex : gA x 34 a.toNatClampNeg = gA m 9 a.toNatClampNeg := congrFun a5 _
  have e35 : gA x 35 a.toNatClampNeg = gA m 5 a.toNatClampNeg := congrFun a6 _
  have e36 : gA x 36 a.toNatClampNeg = gA m 6 a.toNatClampNeg := congrFun a7 _
  have r5 : rg (-1) 80 (gA m 5 a.toNatClampNeg) := (b5 _).mono (by decide) (by decide)
  have fx := fun w => x_followed (q := x) (m := m) t4 w
  have fk : ∀ w, kX7_followed x w = True := fun w => eq_true (fx w).1
  have ff : ∀ w, fX7_followed x w = (flw m w, x) := fun w => (fx w).2
  rcases ho with eo | eo | eo | eo | eo | eo | eo | eo | eo | eo | eo
  · simp +decide only [fX6_obey, kX6_obey, fX6_obey_252, kX6_obey_252, fX6_obey_96, kX6_obey_96, fX6_obey_139, kX6_obey_139, fX6_obey_151, kX6_obey_151, fX6_obey_204, kX6_obey_204, fX6_obey_201, kX6_obey_201, fX6_obey_198, kX6_obey_198, fX6_obey_119, kX6_obey_119, fX6_obey_123, kX6_obey_123, fX6_obey_235, kX6_obey_235, fX6_obey_166, kX6_obey_166, fX6_obey_169, kX6_obey_169, fX6_obey_245, kX6_obey_245, fX6_obey_249, kX6_obey_249, fX11_orders, kX11_orders, fX11_orders_30, kX11_orders_30, fX11_orders_40, kX11_orders_40, fX11_orders_43, kX11_orders_43, fX11_orders_17, kX11_orders_17, fX11_orders_21, kX11_orders_21, fX11_leads, kX11_leads, fX11_leads_40, kX11_leads_40, fX11_leads_131, kX11_leads_131, mk_ends, mf_ends, tb1, tb0, eq_self, Classical.not_not, Sum.inr.injEq, Sum.inl.injEq, forall_eq', forall_eq, reduceCtorEq, implies_true, forall_const, true_and, and_true, and_self, false_implies, true_implies, not_true_eq_false, not_false_eq_true, if_true, if_false, ex, eo, eq_true hin, eq_true hw, fk, ff, mf_follows, mk_follows, e35]
    exact go_R hRR r5
  · obtain ⟨bk1, bk2, b, hb, hb1, hb2, hb3⟩ := bits_R hRR ha
    have fx2 := x_followed (q := (fX6_testedBits x (gA m 6 a.toNatClampNeg)).2) (m := (fX11_bits m a).2) hb3.2.2.1.2.2.2.1 (gA m 5 a.toNatClampNeg ||| b)
    obtain ⟨i, hi, ei⟩ := tof (n := 80) (b5 a.toNatClampNeg).1 (by have := (b5 a.toNatClampNeg).2; omega) (by decide)
    obtain ⟨j, hj, ej⟩ := tof (n := 8) hb.1 (by have := hb.2; omega) (by decide)
    have ro : rg (-1) 80 (gA m 5 a.toNatClampNeg ||| b) := by
      rw [ei, ej]
      exact or79 i hi j hj
    simp +decide only [fX6_obey, kX6_obey, fX6_obey_252, kX6_obey_252, fX6_obey_96, kX6_obey_96, fX6_obey_139, kX6_obey_139, fX6_obey_151, kX6_obey_151, fX6_obey_204, kX6_obey_204, fX6_obey_201, kX6_obey_201, fX6_obey_198, kX6_obey_198, fX6_obey_119, kX6_obey_119, fX6_obey_123, kX6_obey_123, fX6_obey_235, kX6_obey_235, fX6_obey_166, kX6_obey_166, fX6_obey_169, kX6_obey_169, fX6_obey_245, kX6_obey_245, fX6_obey_249, kX6_obey_249, fX11_orders, kX11_orders, fX11_orders_30, kX11_orders_30, fX11_orders_40, kX11_orders_40, fX11_orders_43, kX11_orders_43, fX11_orders_17, kX11_orders_17, fX11_orders_21, kX11_orders_21, fX11_leads, kX11_leads, fX11_leads_40, kX11_leads_40, fX11_leads_131, kX11_leads_131, mk_ends, mf_ends, tb1, tb0, eq_self, Classical.not_not, Sum.inr.injEq, Sum.inl.injEq, forall_eq', forall_eq, reduceCtorEq, implies_true, forall_const, true_and, and_true, and_self, false_implies, true_implies, not_true_eq_false, not_false_eq_true, if_true, if_false, ex, eo, eq_true hin, eq_true hw, mf_follows, mk_follows, e35, e36, eq_true bk1, eq_true bk2, hb1, hb2, eq_true fx2.1, fx2.2]
    exact go_R hb3 ro
  · have g1 := ha.1
    have g2 := ha.2
    have ea : (a + 1).toInt = a.toInt + 1 := by
      rw [tadd (by rw [tl_1]; omega) (by rw [tl_1]; omega), tl_1]
    have rv : rg 0 80 (a + 1) := ⟨by omega, by omega⟩
    have r3 : gI x 509 = gI m 7 := hR.2.2.1
    have r4 : rg 0 4 (gI m 7) := hR.2.2.2
    have h10 : gI x 510 = a := n1.trans hn
    by_cases h4 : gI m 7 = 4
    · have hs := ret40_R (shift_R h1) (show rg 0 3 (3 : Int32) from ⟨by decide, by decide⟩) rv
      have fx2 := x_followed (q := fX6_putReturn_40 (sI (sA x 22 (sh (gA x 22))) 509 3) (a + 1)) (m := m) t4 (gA m 5 a.toNatClampNeg)
      have e35' : gA (fX6_putReturn_40 (sI (sA x 22 (sh (gA x 22))) 509 3) (a + 1)) 35 a.toNatClampNeg = gA m 5 a.toNatClampNeg := e35
      have hw' : isW (fX6_putReturn_40 (sI (sA x 22 (sh (gA x 22))) 509 3) (a + 1)) a.toNatClampNeg := hw
      have xs := x_shift x (a + 1)
      have hk40 : kX6_putReturn_10 10 x (a + 1) 1 := xs.1
      have ms := m_shift m a
      have km : kX11_leads_101 130 m a 0 := ms.1 ⟨in4_3, hin, trivial⟩
      simp +decide only [fX6_obey, kX6_obey, fX6_obey_252, kX6_obey_252, fX6_obey_96, kX6_obey_96, fX6_obey_139, kX6_obey_139, fX6_obey_151, kX6_obey_151, fX6_obey_204, kX6_obey_204, fX6_obey_201, kX6_obey_201, fX6_obey_198, kX6_obey_198, fX6_obey_119, kX6_obey_119, fX6_obey_123, kX6_obey_123, fX6_obey_235, kX6_obey_235, fX6_obey_166, kX6_obey_166, fX6_obey_169, kX6_obey_169, fX6_obey_245, kX6_obey_245, fX6_obey_249, kX6_obey_249, fX11_orders, kX11_orders, fX11_orders_30, kX11_orders_30, fX11_orders_40, kX11_orders_40, fX11_orders_43, kX11_orders_43, fX11_orders_17, kX11_orders_17, fX11_orders_21, kX11_orders_21, fX11_leads, kX11_leads, fX11_leads_40, kX11_leads_40, fX11_leads_131, kX11_leads_131, mk_ends, mf_ends, tb1, tb0, eq_self, Classical.not_not, Sum.inr.injEq, Sum.inl.injEq, forall_eq', forall_eq, reduceCtorEq, implies_true, forall_const, true_and, and_true, and_self, false_implies, true_implies, not_true_eq_false, not_false_eq_true, if_true, if_false, eq_self, Classical.not_not, Sum.inr.injEq, Sum.inl.injEq, forall_eq', forall_eq, reduceCtorEq, implies_true, forall_const, true_and, and_true, and_self, false_implies, true_implies, not_true_eq_false, not_false_eq_true, if_true, if_false, ex, eo, eq_true hin, eq_true hw, mf_follows, mk_follows, h10, fX6_putReturn, kX6_putReturn, r3, h4, eq_true hk40, xs.2, ms.2, eq_true km, e35', eq_true hw', eq_true fx2.1, fx2.2]
      exact go_R hs.2.1 r5
    · have h4' : gI m 7 < 4 := by
        have g3 := r4.2
        have g4 : ¬ (gI m 7).toInt = 4 := fun z => h4 (tI.mpr z)
        rw [Int32.lt_iff_toInt_lt, tl_4]
        omega
      have r7 : rg 0 3 (gI m 7) := by
        rw [Int32.lt_iff_toInt_lt, tl_4] at h4'
        exact ⟨r4.1, by omega⟩
      have hs := ret40_R h1 r7 rv
      have fx2 := x_followed (q := fX6_putReturn_40 x (a + 1)) (m := m) t4 (gA m 5 a.toNatClampNeg)
      have e35' : gA (fX6_putReturn_40 x (a + 1)) 35 a.toNatClampNeg = gA m 5 a.toNatClampNeg := e35
      have hw' : isW (fX6_putReturn_40 x (a + 1)) a.toNatClampNeg := hw
      have i7 : vp_in (gI m 7) 4 := rin r7 (by decide)
      simp +decide only [fX6_obey, kX6_obey, fX6_obey_252, kX6_obey_252, fX6_obey_96, kX6_obey_96, fX6_obey_139, kX6_obey_139, fX6_obey_151, kX6_obey_151, fX6_obey_204, kX6_obey_204, fX6_obey_201, kX6_obey_201, fX6_obey_198, kX6_obey_198, fX6_obey_119, kX6_obey_119, fX6_obey_123, kX6_obey_123, fX6_obey_235, kX6_obey_235, fX6_obey_166, kX6_obey_166, fX6_obey_169, kX6_obey_169, fX6_obey_245, kX6_obey_245, fX6_obey_249, kX6_obey_249, fX11_orders, kX11_orders, fX11_orders_30, kX11_orders_30, fX11_orders_40, kX11_orders_40, fX11_orders_43, kX11_orders_43, fX11_orders_17, kX11_orders_17, fX11_orders_21, kX11_orders_21, fX11_leads, kX11_leads, fX11_leads_40, kX11_leads_40, fX11_leads_131, kX11_leads_131, mk_ends, mf_ends, tb1, tb0, eq_self, Classical.not_not, Sum.inr.injEq, Sum.inl.injEq, forall_eq', forall_eq, reduceCtorEq, implies_true, forall_const, true_and, and_true, and_self, false_implies, true_implies, not_true_eq_false, not_false_eq_true, if_true, if_false, eq_self, Classical.not_not, Sum.inr.injEq, Sum.inl.injEq, forall_eq', forall_eq, reduceCtorEq, implies_true, forall_const, true_and, and_true, and_self, false_implies, true_implies, not_true_eq_false, not_false_eq_true, if_true, if_false, ex, eo, eq_true hin, eq_true hw, mf_follows, mk_follows, h10, fX6_putReturn, kX6_putReturn, r3, h4, eq_true h4', eq_true hs.1, e35', eq_true hw', eq_true fx2.1, fx2.2, eq_true i7]
      exact go_R hs.2.1 r5
  · have r1 : gA x 22 = gA m 19 := hR.1
    have r2 : rf 0 80 (gA m 19) := hR.2.1
    have r3 : gI x 509 = gI m 7 := hR.2.2.1
    have r4 : rg 0 4 (gI m 7) := hR.2.2.2
    have g1 := r4.1
    have g2 := r4.2
    by_cases h0 : gI m 7 = 0
    · simp +decide only [fX6_obey, kX6_obey, fX6_obey_252, kX6_obey_252, fX6_obey_96, kX6_obey_96, fX6_obey_139, kX6_obey_139, fX6_obey_151, kX6_obey_151, fX6_obey_204, kX6_obey_204, fX6_obey_201, kX6_obey_201, fX6_obey_198, kX6_obey_198, fX6_obey_119, kX6_obey_119, fX6_obey_123, kX6_obey_123, fX6_obey_235, kX6_obey_235, fX6_obey_166, kX6_obey_166, fX6_obey_169, kX6_obey_169, fX6_obey_245, kX6_obey_245, fX6_obey_249, kX6_obey_249, fX11_orders, kX11_orders, fX11_orders_30, kX11_orders_30, fX11_orders_40, kX11_orders_40, fX11_orders_43, kX11_orders_43, fX11_orders_17, kX11_orders_17, fX11_orders_21, kX11_orders_21, fX11_leads, kX11_leads, fX11_leads_40, kX11_leads_40, fX11_leads_131, kX11_leads_131, mk_ends, mf_ends, tb1, tb0, eq_self, Classical.not_not, Sum.inr.injEq, Sum.inl.injEq, forall_eq', forall_eq, reduceCtorEq, implies_true, forall_const, true_and, and_true, and_self, false_implies, true_implies, not_true_eq_false, not_false_eq_true, if_true, if_false, eq_self, Classical.not_not, Sum.inr.injEq, Sum.inl.injEq, forall_eq', forall_eq, reduceCtorEq, implies_true, forall_const, true_and, and_true, and_self, false_implies, true_implies, not_true_eq_false, not_false_eq_true, if_true, if_false, ex, eo, eq_true hin, eq_true hw, fk, ff, mf_follows, mk_follows, fX6_takeReturn_15, kX6_takeReturn_15, fX6_takeReturn, kX6_takeReturn, r3, h0]
      exact go_R hRR ⟨by decide, by decide⟩
    · have h0' : ¬ (gI m 7).toInt = 0 := fun z => h0 (tI.mpr z)
      have l0 : ¬ gI m 7 ≤ 0 := by
        rw [Int32.le_iff_toInt_le, tl_0]
        omega
      have l4 : gI m 7 ≤ 4 := by
        rw [Int32.le_iff_toInt_le, tl_4]
        omega
      have em : (gI m 7 - 1).toInt = (gI m 7).toInt - 1 := by
        rw [tsub (by rw [tl_1]; omega) (by rw [tl_1]; omega), tl_1]
      have i4 : vp_in (gI m 7 - 1) 4 := tin (by omega) (by omega)
      have hR2 : R c (sI x 509 (gI m 7 - 1)) (sI m 7 (gI m 7 - 1)) := by
        have h := hRR
        obtain ⟨hW, hV, hT, hP, hQ, hK, hM, hR, hN, hF, hC, hS, hE⟩ := h
        exact ⟨hW, hV, hT, hP, hQ, hK, hM, ⟨r1, r2, rfl, ⟨by show 0 ≤ (gI m 7 - 1).toInt; omega, by show (gI m 7 - 1).toInt ≤ 4; omega⟩⟩, hN, hF, hC, hS, hE⟩
      have fx2 := x_followed (q := sI x 509 (gI m 7 - 1)) (m := m) t4 (gA m 19 (gI m 7 - 1).toNatClampNeg)
      simp +decide only [fX6_obey, kX6_obey, fX6_obey_252, kX6_obey_252, fX6_obey_96, kX6_obey_96, fX6_obey_139, kX6_obey_139, fX6_obey_151, kX6_obey_151, fX6_obey_204, kX6_obey_204, fX6_obey_201, kX6_obey_201, fX6_obey_198, kX6_obey_198, fX6_obey_119, kX6_obey_119, fX6_obey_123, kX6_obey_123, fX6_obey_235, kX6_obey_235, fX6_obey_166, kX6_obey_166, fX6_obey_169, kX6_obey_169, fX6_obey_245, kX6_obey_245, fX6_obey_249, kX6_obey_249, fX11_orders, kX11_orders, fX11_orders_30, kX11_orders_30, fX11_orders_40, kX11_orders_40, fX11_orders_43, kX11_orders_43, fX11_orders_17, kX11_orders_17, fX11_orders_21, kX11_orders_21, fX11_leads, kX11_leads, fX11_leads_40, kX11_leads_40, fX11_leads_131, kX11_leads_131, mk_ends, mf_ends, tb1, tb0, eq_self, Classical.not_not, Sum.inr.injEq, Sum.inl.injEq, forall_eq', forall_eq, reduceCtorEq, implies_true, forall_const, true_and, and_true, and_self, false_implies, true_implies, not_true_eq_false, not_false_eq_true, if_true, if_false, eq_self, Classical.not_not, Sum.inr.injEq, Sum.inl.injEq, forall_eq', forall_eq, reduceCtorEq, implies_true, forall_const, true_and, and_true, and_self, false_implies, true_implies, not_true_eq_false, not_false_eq_true, if_true, if_false, ex, eo, eq_true hin, eq_true hw, mf_follows, mk_follows, fX6_takeReturn_15, kX6_takeReturn_15, fX6_takeReturn, kX6_takeReturn, r3, h0, eq_false l0, eq_true l4, eq_true i4, r1, eq_true fx2.1, fx2.2]
      exact go_R hR2 ((r2 _).mono (by decide) (by decide))
  · have g1 := v7.1
    have g2 := v7.2
    have g3 := q14.1
    have g4 := q14.2
    have ed := tdiv (a := gA m 15 14) tl_16 (by decide) g3
    have e1 : gA m 15 7 &&& 1 = gA m 15 7 := tand2 1 (by decide) (by decide) g1 (by omega)
    have e2 : gA m 15 14 / 16 &&& 15 = gA m 15 14 / 16 := tand2 4 (by decide) (by decide) (by omega) (by omega)
    have e3 : gA m 15 7 * 16 = 16 * gA m 15 7 := Int32.mul_comm _ 16
    have e4 : (16 * gA m 15 7).toInt = 16 * (gA m 15 7).toInt := by
      rw [tmul (by rw [tl_16]; omega) (by rw [tl_16]; omega), tl_16]
    have e5 : (16 * gA m 15 7 + gA m 15 14 / 16).toInt = 16 * (gA m 15 7).toInt + (gA m 15 14 / 16).toInt := by
      rw [tadd (by omega) (by omega), e4]
    have i32 : vp_in (16 * gA m 15 7 + gA m 15 14 / 16) 32 := tin (by omega) (by omega)
    simp +decide only [fX6_obey, kX6_obey, fX6_obey_252, kX6_obey_252, fX6_obey_96, kX6_obey_96, fX6_obey_139, kX6_obey_139, fX6_obey_151, kX6_obey_151, fX6_obey_204, kX6_obey_204, fX6_obey_201, kX6_obey_201, fX6_obey_198, kX6_obey_198, fX6_obey_119, kX6_obey_119, fX6_obey_123, kX6_obey_123, fX6_obey_235, kX6_obey_235, fX6_obey_166, kX6_obey_166, fX6_obey_169, kX6_obey_169, fX6_obey_245, kX6_obey_245, fX6_obey_249, kX6_obey_249, fX11_orders, kX11_orders, fX11_orders_30, kX11_orders_30, fX11_orders_40, kX11_orders_40, fX11_orders_43, kX11_orders_43, fX11_orders_17, kX11_orders_17, fX11_orders_21, kX11_orders_21, fX11_leads, kX11_leads, fX11_leads_40, kX11_leads_40, fX11_leads_131, kX11_leads_131, mk_ends, mf_ends, tb1, tb0, eq_self, Classical.not_not, Sum.inr.injEq, Sum.inl.injEq, forall_eq', forall_eq, reduceCtorEq, implies_true, forall_const, true_and, and_true, and_self, false_implies, true_implies, not_true_eq_false, not_false_eq_true, if_true, if_false, eq_self, Classical.not_not, Sum.inr.injEq, Sum.inl.injEq, forall_eq', forall_eq, reduceCtorEq, implies_true, forall_const, true_and, and_true, and_self, false_implies, true_implies, not_true_eq_false, not_false_eq_true, if_true, if_false, ex, eo, eq_true hin, eq_true hw, fk, ff, mf_follows, mk_follows, fX3_operation, kX3_operation, fX7_entryOf, kX7_entryOf, p5, p11, e1, e2, e3, t2, cl_7, cl_14, eq_true i32]
    exact go_R hRR ((t3 _).mono (by decide) (by decide))
  · have fx2 := x_followed (q := sI x 905 (1 - gI x 905)) (m := sA m 15 (upd (gA m 15) 15 (1 - gA m 15 15))) t4 0
    have rE : rg 0 1 (1 - gA m 15 15) := by
      rcases rg01 q15 with e | e
      · rw [e]
        exact rg_1
      · rw [e]
        exact rg_0
    have hR := R1_E h1 rE
    rw [p12] at fx2
    simp +decide only [fX6_obey, kX6_obey, fX6_obey_252, kX6_obey_252, fX6_obey_96, kX6_obey_96, fX6_obey_139, kX6_obey_139, fX6_obey_151, kX6_obey_151, fX6_obey_204, kX6_obey_204, fX6_obey_201, kX6_obey_201, fX6_obey_198, kX6_obey_198, fX6_obey_119, kX6_obey_119, fX6_obey_123, kX6_obey_123, fX6_obey_235, kX6_obey_235, fX6_obey_166, kX6_obey_166, fX6_obey_169, kX6_obey_169, fX6_obey_245, kX6_obey_245, fX6_obey_249, kX6_obey_249, fX11_orders, kX11_orders, fX11_orders_30, kX11_orders_30, fX11_orders_40, kX11_orders_40, fX11_orders_43, kX11_orders_43, fX11_orders_17, kX11_orders_17, fX11_orders_21, kX11_orders_21, fX11_leads, kX11_leads, fX11_leads_40, kX11_leads_40, fX11_leads_131, kX11_leads_131, mk_ends, mf_ends, tb1, tb0, eq_self, Classical.not_not, Sum.inr.injEq, Sum.inl.injEq, forall_eq', forall_eq, reduceCtorEq, implies_true, forall_const, true_and, and_true, and_self, false_implies, true_implies, not_true_eq_false, not_false_eq_true, if_true, if_false, ex, eo, eq_true hin, eq_true hw, mf_follows, mk_follows, p12, eq_true fx2.1, fx2.2, cl_15, eq_true in_15_16]
    exact go_R hR.1 ⟨by decide, by decide⟩
  · exact absurd (Or.inl eo) he
  · exact absurd (Or.inr (Or.inl eo)) he
  · exact absurd (Or.inr (Or.inr (Or.inl eo))) he
  · exact absurd (Or.inr (Or.inr (Or.inr eo))) he
  · obtain ⟨k1, k2, k3⟩ := back_R hRR
    have e := begins_back m
    have k4 := intr_R (y := fX6_takeBack x) (m := fX11_back m) (c := c) (by rw [e]; exact k3)
    have kb := (m_begins (fX11_asks (fX11_back m))).1
    simp +decide only [fX6_obey, kX6_obey, fX6_obey_252, kX6_obey_252, fX6_obey_96, kX6_obey_96, fX6_obey_139, kX6_obey_139, fX6_obey_151, kX6_obey_151, fX6_obey_204, kX6_obey_204, fX6_obey_201, kX6_obey_201, fX6_obey_198, kX6_obey_198, fX6_obey_119, kX6_obey_119, fX6_obey_123, kX6_obey_123, fX6_obey_235, kX6_obey_235, fX6_obey_166, kX6_obey_166, fX6_obey_169, kX6_obey_169, fX6_obey_245, kX6_obey_245, fX6_obey_249, kX6_obey_249, fX11_orders, kX11_orders, fX11_orders_30, kX11_orders_30, fX11_orders_40, kX11_orders_40, fX11_orders_43, kX11_orders_43, fX11_orders_17, kX11_orders_17, fX11_orders_21, kX11_orders_21, fX11_leads, kX11_leads, fX11_leads_40, kX11_leads_40, fX11_leads_131, kX11_leads_131, mk_ends, mf_ends, tb1, tb0, eq_self, Classical.not_not, Sum.inr.injEq, Sum.inl.injEq, forall_eq', forall_eq, reduceCtorEq, implies_true, forall_const, true_and, and_true, and_self, false_implies, true_implies, not_true_eq_false, not_false_eq_true, if_true, if_false, ex, eo, eq_true hin, eq_true hw, eq_true k1, eq_true k2, eq_true k4.1, eq_true k4.2.1, eq_true kb, eq_self, Classical.not_not, Sum.inr.injEq, Sum.inl.injEq, forall_eq', forall_eq, reduceCtorEq, implies_true, forall_const, true_and, and_true, and_self, false_implies, true_implies, not_true_eq_false, not_false_eq_true, if_true, if_false]
    exact k4.2.2
