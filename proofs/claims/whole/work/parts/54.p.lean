/-! ===== PURE: what listens ===== -/
def R1 (c : Int) (x m : SS) : Prop := R c x m ∧ ¬ gI m 25 = 0
theorem R1_T {c : Int} {x m : SS} (h : R1 c x m) {v : Int32} (hv : rg 0 255 v) : R1 c (sI x 900 v) (sA m 15 (upd (gA m 15) 10 v)) := by
  obtain ⟨h, hb⟩ := h
  refine ⟨?_, hb⟩
  obtain ⟨hW, hV, hT, hP, hQ, hK, hM, hR, hN, hF, hC, hS, hE⟩ := h
  obtain ⟨p0, p1, p2, p3, p4, p5, p6, p7, p8, p9, p10, p11, p12⟩ := hP
  obtain ⟨⟨v0, v4, v5, v6, v7, v8, v9⟩, q10, q11, q12, q13, q14, q15⟩ := hQ
  refine ⟨hW, hV, hT, ⟨?_, p1, p2, p3, p4, p5, p6, rfl, p8, p9, p10, p11, p12⟩, ⟨⟨?_, v4, v5, v6, v7, v8, v9⟩, hv, q11, q12, q13, q14, q15⟩, hK, hM, hR, hN, hF, hC, hS, fun e => absurd e hb⟩
  · intro r hr
    show gA x 25 r = upd (gA m 15) 10 v r
    rw [upd_ne (by omega)]
    exact p0 r hr
  · intro r hr
    show rg 0 255 (upd (gA m 15) 10 v r)
    rw [upd_ne (by omega)]
    exact v0 r hr
theorem R1_U {c : Int} {x m : SS} (h : R1 c x m) {v : Int32} (hv : rg 0 255 v) : R1 c (sI x 901 v) (sA m 15 (upd (gA m 15) 11 v)) := by
  obtain ⟨h, hb⟩ := h
  refine ⟨?_, hb⟩
  obtain ⟨hW, hV, hT, hP, hQ, hK, hM, hR, hN, hF, hC, hS, hE⟩ := h
  obtain ⟨p0, p1, p2, p3, p4, p5, p6, p7, p8, p9, p10, p11, p12⟩ := hP
  obtain ⟨⟨v0, v4, v5, v6, v7, v8, v9⟩, q10, q11, q12, q13, q14, q15⟩ := hQ
  refine ⟨hW, hV, hT, ⟨?_, p1, p2, p3, p4, p5, p6, p7, rfl, p9, p10, p11, p12⟩, ⟨⟨?_, v4, v5, v6, v7, v8, v9⟩, q10, hv, q12, q13, q14, q15⟩, hK, hM, hR, hN, hF, hC, hS, fun e => absurd e hb⟩
  · intro r hr
    show gA x 25 r = upd (gA m 15) 11 v r
    rw [upd_ne (by omega)]
    exact p0 r hr
  · intro r hr
    show rg 0 255 (upd (gA m 15) 11 v r)
    rw [upd_ne (by omega)]
    exact v0 r hr
theorem R1_A {c : Int} {x m : SS} (h : R1 c x m) {v : Int32} (hv : rg 0 63 v) : R1 c (sI x 902 v) (sA m 15 (upd (gA m 15) 12 v)) := by
  obtain ⟨h, hb⟩ := h
  refine ⟨?_, hb⟩
  obtain ⟨hW, hV, hT, hP, hQ, hK, hM, hR, hN, hF, hC, hS, hE⟩ := h
  obtain ⟨p0, p1, p2, p3, p4, p5, p6, p7, p8, p9, p10, p11, p12⟩ := hP
  obtain ⟨⟨v0, v4, v5, v6, v7, v8, v9⟩, q10, q11, q12, q13, q14, q15⟩ := hQ
  refine ⟨hW, hV, hT, ⟨?_, p1, p2, p3, p4, p5, p6, p7, p8, rfl, p10, p11, p12⟩, ⟨⟨?_, v4, v5, v6, v7, v8, v9⟩, q10, q11, hv, q13, q14, q15⟩, hK, hM, hR, hN, hF, hC, hS, fun e => absurd e hb⟩
  · intro r hr
    show gA x 25 r = upd (gA m 15) 12 v r
    rw [upd_ne (by omega)]
    exact p0 r hr
  · intro r hr
    show rg 0 255 (upd (gA m 15) 12 v r)
    rw [upd_ne (by omega)]
    exact v0 r hr
theorem R1_D {c : Int} {x m : SS} (h : R1 c x m) {v : Int32} (hv : rg 0 255 v) : R1 c (sI x 903 v) (sA m 15 (upd (gA m 15) 13 v)) := by
  obtain ⟨h, hb⟩ := h
  refine ⟨?_, hb⟩
  obtain ⟨hW, hV, hT, hP, hQ, hK, hM, hR, hN, hF, hC, hS, hE⟩ := h
  obtain ⟨p0, p1, p2, p3, p4, p5, p6, p7, p8, p9, p10, p11, p12⟩ := hP
  obtain ⟨⟨v0, v4, v5, v6, v7, v8, v9⟩, q10, q11, q12, q13, q14, q15⟩ := hQ
  refine ⟨hW, hV, hT, ⟨?_, p1, p2, p3, p4, p5, p6, p7, p8, p9, rfl, p11, p12⟩, ⟨⟨?_, v4, v5, v6, v7, v8, v9⟩, q10, q11, q12, hv, q14, q15⟩, hK, hM, hR, hN, hF, hC, hS, fun e => absurd e hb⟩
  · intro r hr
    show gA x 25 r = upd (gA m 15) 13 v r
    rw [upd_ne (by omega)]
    exact p0 r hr
  · intro r hr
    show rg 0 255 (upd (gA m 15) 13 v r)
    rw [upd_ne (by omega)]
    exact v0 r hr
theorem R1_P {c : Int} {x m : SS} (h : R1 c x m) {v : Int32} (hv : rg 0 63 v) : R1 c (sI x 701 v) (sA m 15 (upd (gA m 15) 4 v)) := by
  obtain ⟨h, hb⟩ := h
  refine ⟨?_, hb⟩
  obtain ⟨hW, hV, hT, hP, hQ, hK, hM, hR, hN, hF, hC, hS, hE⟩ := h
  obtain ⟨p0, p1, p2, p3, p4, p5, p6, p7, p8, p9, p10, p11, p12⟩ := hP
  obtain ⟨⟨v0, v4, v5, v6, v7, v8, v9⟩, q10, q11, q12, q13, q14, q15⟩ := hQ
  refine ⟨hW, hV, hT, ⟨?_, rfl, p2, p3, p4, p5, p6, p7, p8, p9, p10, p11, p12⟩, ⟨⟨?_, hv, v5, v6, v7, v8, v9⟩, q10, q11, q12, q13, q14, q15⟩, hK, hM, hR, hN, hF, hC, hS, fun e => absurd e hb⟩
  · intro r hr
    show gA x 25 r = upd (gA m 15) 4 v r
    rw [upd_ne (by omega)]
    exact p0 r hr
  · intro r hr
    show rg 0 255 (upd (gA m 15) 4 v r)
    rw [upd_ne (by omega)]
    exact v0 r hr
theorem R1_X {c : Int} {x m : SS} (h : R1 c x m) {v : Int32} (hv : rg 0 255 v) : R1 c (sI x 904 v) (sA m 15 (upd (gA m 15) 14 v)) := by
  obtain ⟨h, hb⟩ := h
  refine ⟨?_, hb⟩
  obtain ⟨hW, hV, hT, hP, hQ, hK, hM, hR, hN, hF, hC, hS, hE⟩ := h
  obtain ⟨p0, p1, p2, p3, p4, p5, p6, p7, p8, p9, p10, p11, p12⟩ := hP
  obtain ⟨⟨v0, v4, v5, v6, v7, v8, v9⟩, q10, q11, q12, q13, q14, q15⟩ := hQ
  refine ⟨hW, hV, hT, ⟨?_, p1, p2, p3, p4, p5, p6, p7, p8, p9, p10, rfl, p12⟩, ⟨⟨?_, v4, v5, v6, v7, v8, v9⟩, q10, q11, q12, q13, hv, q15⟩, hK, hM, hR, hN, hF, hC, hS, fun e => absurd e hb⟩
  · intro r hr
    show gA x 25 r = upd (gA m 15) 14 v r
    rw [upd_ne (by omega)]
    exact p0 r hr
  · intro r hr
    show rg 0 255 (upd (gA m 15) 14 v r)
    rw [upd_ne (by omega)]
    exact v0 r hr
theorem R1_reg {c : Int} {x m : SS} (h : R1 c x m) {v : Int32} (hv : rg 0 255 v) {i : Nat} (hi : i < 4) : R1 c (sA x 25 (upd (gA x 25) i v)) (sA m 15 (upd (gA m 15) i v)) := by
  obtain ⟨h, hb⟩ := h
  refine ⟨?_, hb⟩
  obtain ⟨hW, hV, hT, hP, hQ, hK, hM, hR, hN, hF, hC, hS, hE⟩ := h
  obtain ⟨p0, p1, p2, p3, p4, p5, p6, p7, p8, p9, p10, p11, p12⟩ := hP
  obtain ⟨⟨v0, v4, v5, v6, v7, v8, v9⟩, q10, q11, q12, q13, q14, q15⟩ := hQ
  have hu : ∀ k : Nat, 4 ≤ k → upd (gA m 15) i v k = gA m 15 k := fun k hk => upd_ne (by omega)
  refine ⟨hW, hV, hT, ⟨?_, ?_⟩, ⟨⟨?_, ?_⟩, ?_⟩, hK, hM, hR, hN, hF, hC, hS, fun e => absurd e hb⟩
  · intro r hr
    show upd (gA x 25) i v r = upd (gA m 15) i v r
    rw [upd_at, upd_at, p0 r hr]
  · show gI x 701 = upd (gA m 15) i v 4 ∧ gI x 702 = upd (gA m 15) i v 9 ∧ gI x 703 = upd (gA m 15) i v 5 ∧ gI x 704 = upd (gA m 15) i v 6 ∧ gI x 705 = upd (gA m 15) i v 7 ∧ gI x 706 = upd (gA m 15) i v 8 ∧ gI x 900 = upd (gA m 15) i v 10 ∧ gI x 901 = upd (gA m 15) i v 11 ∧ gI x 902 = upd (gA m 15) i v 12 ∧ gI x 903 = upd (gA m 15) i v 13 ∧ gI x 904 = upd (gA m 15) i v 14 ∧ gI x 905 = upd (gA m 15) i v 15
    rw [hu 4 (by decide), hu 9 (by decide), hu 5 (by decide), hu 6 (by decide), hu 7 (by decide), hu 8 (by decide), hu 10 (by decide), hu 11 (by decide), hu 12 (by decide), hu 13 (by decide), hu 14 (by decide), hu 15 (by decide)]
    exact ⟨p1, p2, p3, p4, p5, p6, p7, p8, p9, p10, p11, p12⟩
  · intro r hr
    show rg 0 255 (upd (gA m 15) i v r)
    rw [upd_at]
    split
    · exact hv
    · exact v0 r hr
  · show rg 0 63 (upd (gA m 15) i v 4) ∧ rg 0 1 (upd (gA m 15) i v 5) ∧ rg 0 1 (upd (gA m 15) i v 6) ∧ rg 0 1 (upd (gA m 15) i v 7) ∧ rg 0 1 (upd (gA m 15) i v 8) ∧ rg 0 63 (upd (gA m 15) i v 9)
    rw [hu 4 (by decide), hu 9 (by decide), hu 5 (by decide), hu 6 (by decide), hu 7 (by decide), hu 8 (by decide)]
    exact ⟨v4, v5, v6, v7, v8, v9⟩
  · show rg 0 255 (upd (gA m 15) i v 10) ∧ rg 0 255 (upd (gA m 15) i v 11) ∧ rg 0 63 (upd (gA m 15) i v 12) ∧ rg 0 255 (upd (gA m 15) i v 13) ∧ rg 0 255 (upd (gA m 15) i v 14) ∧ rg 0 1 (upd (gA m 15) i v 15)
    rw [hu 10 (by decide), hu 11 (by decide), hu 12 (by decide), hu 13 (by decide), hu 14 (by decide), hu 15 (by decide)]
    exact ⟨q10, q11, q12, q13, q14, q15⟩
theorem lo4 {v : Int32} (h : rg 0 255 v) : v - v / 4 * 4 = v &&& 3 := by
  rw [tI, tmod tl_4 (by decide) (by decide) h.1, tand _ 2 (by decide) (by decide)]
  rfl
theorem hi4 {v : Int32} (h : rg 0 255 v) : v / 4 - v / 4 / 4 * 4 = (v / 4) &&& 3 := by
  have e := tdiv (a := v) tl_4 (by decide) h.1
  have h1 := h.1
  rw [tI, tmod tl_4 (by decide) (by decide) (by omega), tand _ 2 (by decide) (by decide)]
  rfl
theorem mo64 {v : Int32} (h : rg 0 255 v) : v - v / 64 * 64 = v &&& 63 := by
  rw [tI, tmod tl_64 (by decide) (by decide) h.1, tand _ 6 (by decide) (by decide)]
  rfl
theorem rg63 (v : Int32) : rg 0 63 (v &&& 63) := rg_and v 6 (by decide) (by decide) (by decide)
theorem rg3 (v : Int32) : rg 0 3 (v &&& 3) := rg_and v 2 (by decide) (by decide) (by decide)
/-- the two registers that X and E tell -/
def ra (X E : Int32) : Int32 := if E = 0 then X &&& 3 else (X / 4) &&& 3
def rb (X E : Int32) : Int32 := if E = 0 then (X / 4) &&& 3 else X &&& 3
theorem ra3 (X E : Int32) : rg 0 3 (ra X E) := by
  unfold ra
  split <;> exact rg3 _
theorem rb3 (X E : Int32) : rg 0 3 (rb X E) := by
  unfold rb
  split <;> exact rg3 _
theorem in_14_16 : vp_in 14 16 := tin (by decide) (by decide)
theorem in_15_16 : vp_in 15 16 := tin (by decide) (by decide)
theorem m_reg0 (q : SS) (hX : rg 0 255 (gA q 15 14)) (hE : rg 0 1 (gA q 15 15)) : kX11_registerOf q 0 ∧ fX11_registerOf q 0 = (ra (gA q 15 14) (gA q 15 15), q) := by
  rcases rg01 hE with e | e
  · simp +decide only [fX11_registerOf_60, kX11_registerOf_60, fX11_registerOf_32, kX11_registerOf_32, fX11_registerOf_24, kX11_registerOf_24, fX11_registerOf_9, kX11_registerOf_9, fX11_registerOf, kX11_registerOf, ra, eq_self, Classical.not_not, Sum.inr.injEq, Sum.inl.injEq, forall_eq', forall_eq, reduceCtorEq, implies_true, forall_const, true_and, and_true, and_self, false_implies, true_implies, not_true_eq_false, not_false_eq_true, if_true, if_false, e, cl_14, cl_15, lo4 hX, hi4 hX, eq_true in_14_16, eq_true in_15_16]
  · simp +decide only [fX11_registerOf_60, kX11_registerOf_60, fX11_registerOf_32, kX11_registerOf_32, fX11_registerOf_24, kX11_registerOf_24, fX11_registerOf_9, kX11_registerOf_9, fX11_registerOf, kX11_registerOf, ra, eq_self, Classical.not_not, Sum.inr.injEq, Sum.inl.injEq, forall_eq', forall_eq, reduceCtorEq, implies_true, forall_const, true_and, and_true, and_self, false_implies, true_implies, not_true_eq_false, not_false_eq_true, if_true, if_false, e, cl_14, cl_15, lo4 hX, hi4 hX, eq_true in_14_16, eq_true in_15_16]
theorem m_reg1 (q : SS) (hX : rg 0 255 (gA q 15 14)) (hE : rg 0 1 (gA q 15 15)) : kX11_registerOf q 1 ∧ fX11_registerOf q 1 = (rb (gA q 15 14) (gA q 15 15), q) := by
  rcases rg01 hE with e | e
  · simp +decide only [fX11_registerOf_60, kX11_registerOf_60, fX11_registerOf_32, kX11_registerOf_32, fX11_registerOf_24, kX11_registerOf_24, fX11_registerOf_9, kX11_registerOf_9, fX11_registerOf, kX11_registerOf, rb, eq_self, Classical.not_not, Sum.inr.injEq, Sum.inl.injEq, forall_eq', forall_eq, reduceCtorEq, implies_true, forall_const, true_and, and_true, and_self, false_implies, true_implies, not_true_eq_false, not_false_eq_true, if_true, if_false, e, cl_14, cl_15, lo4 hX, hi4 hX, eq_true in_14_16, eq_true in_15_16]
  · simp +decide only [fX11_registerOf_60, kX11_registerOf_60, fX11_registerOf_32, kX11_registerOf_32, fX11_registerOf_24, kX11_registerOf_24, fX11_registerOf_9, kX11_registerOf_9, fX11_registerOf, kX11_registerOf, rb, eq_self, Classical.not_not, Sum.inr.injEq, Sum.inl.injEq, forall_eq', forall_eq, reduceCtorEq, implies_true, forall_const, true_and, and_true, and_self, false_implies, true_implies, not_true_eq_false, not_false_eq_true, if_true, if_false, e, cl_14, cl_15, lo4 hX, hi4 hX, eq_true in_14_16, eq_true in_15_16]
theorem x_first (q : SS) (hE : rg 0 1 (gI q 905)) : kX3_first q ∧ fX3_first q = (ra (gI q 904) (gI q 905), q) := by
  rcases rg01 hE with e | e
  · simp +decide only [fX3_first_19, kX3_first_19, fX3_first_12, kX3_first_12, fX3_first, kX3_first, fX3_low, kX3_low, fX3_high, kX3_high, ra, eq_self, Classical.not_not, Sum.inr.injEq, Sum.inl.injEq, forall_eq', forall_eq, reduceCtorEq, implies_true, forall_const, true_and, and_true, and_self, false_implies, true_implies, not_true_eq_false, not_false_eq_true, if_true, if_false, e]
  · simp +decide only [fX3_first_19, kX3_first_19, fX3_first_12, kX3_first_12, fX3_first, kX3_first, fX3_low, kX3_low, fX3_high, kX3_high, ra, eq_self, Classical.not_not, Sum.inr.injEq, Sum.inl.injEq, forall_eq', forall_eq, reduceCtorEq, implies_true, forall_const, true_and, and_true, and_self, false_implies, true_implies, not_true_eq_false, not_false_eq_true, if_true, if_false, e]
theorem x_second (q : SS) (hE : rg 0 1 (gI q 905)) : kX3_second q ∧ fX3_second q = (rb (gI q 904) (gI q 905), q) := by
  rcases rg01 hE with e | e
  · simp +decide only [fX3_second_19, kX3_second_19, fX3_second_12, kX3_second_12, fX3_second, kX3_second, fX3_low, kX3_low, fX3_high, kX3_high, rb, eq_self, Classical.not_not, Sum.inr.injEq, Sum.inl.injEq, forall_eq', forall_eq, reduceCtorEq, implies_true, forall_const, true_and, and_true, and_self, false_implies, true_implies, not_true_eq_false, not_false_eq_true, if_true, if_false, e]
  · simp +decide only [fX3_second_19, kX3_second_19, fX3_second_12, kX3_second_12, fX3_second, kX3_second, fX3_low, kX3_low, fX3_high, kX3_high, rb, eq_self, Classical.not_not, Sum.inr.injEq, Sum.inl.injEq, forall_eq', forall_eq, reduceCtorEq, implies_true, forall_const, true_and, and_true, and_self, false_implies, true_implies, not_true_eq_false, not_false_eq_true, if_true, if_false, e]
