/-! ===== PURE: what is read, and start ===== -/
theorem op_next {c : Int} {x m : SS} (h : R c x m) : kX11_next m ∧ kX10_next x ∧ (fX10_next x).1 = (fX11_next m).1 ∧ R c (fX10_next x).2 (fX11_next m).2 := ⟨trivial, trivial, h.2.2.2.2.2.2.2.2.1.1, h⟩
theorem op_returns {c : Int} {x m : SS} (h : R c x m) : kX11_returns m ∧ kX10_returns x ∧ (fX10_returns x).1 = (fX11_returns m).1 ∧ R c (fX10_returns x).2 (fX11_returns m).2 := ⟨trivial, trivial, h.2.2.2.2.2.2.2.1.2.2.1, h⟩
theorem op_bus {c : Int} {x m : SS} (h : R c x m) : kX11_bus m ∧ kX10_bus x ∧ (fX10_bus x).1 = (fX11_bus m).1 ∧ R c (fX10_bus x).2 (fX11_bus m).2 := ⟨trivial, trivial, h.2.2.2.2.2.2.2.2.1.2.2.2.2.2.2.2.2.2.2.2.2.2.1, h⟩
theorem op_drivers {c : Int} {x m : SS} (h : R c x m) : kX11_drivers m ∧ kX10_drivers x ∧ (fX10_drivers x).1 = (fX11_drivers m).1 ∧ R c (fX10_drivers x).2 (fX11_drivers m).2 := ⟨trivial, trivial, h.2.2.2.2.2.2.2.2.1.2.2.2.2.2.2.2.2.2.2.2.2.2.2, h⟩
theorem op_ended {c : Int} {x m : SS} (h : R c x m) : kX11_ended m ∧ kX10_ended x ∧ (fX10_ended x).1 = (fX11_ended m).1 ∧ R c (fX10_ended x).2 (fX11_ended m).2 := ⟨trivial, trivial, h.2.2.2.2.2.2.2.2.2.2.1.1, h⟩
theorem op_wrong {c : Int} {x m : SS} (h : R c x m) : kX11_wrong m ∧ kX10_wrong x ∧ (fX10_wrong x).1 = (fX11_wrong m).1 ∧ R c (fX10_wrong x).2 (fX11_wrong m).2 := ⟨trivial, trivial, h.2.2.2.2.2.2.2.2.2.2.1.2.1, h⟩
theorem op_fights {c : Int} {x m : SS} (h : R c x m) : kX11_fights m ∧ kX10_fights x ∧ (fX10_fights x).1 = (fX11_fights m).1 ∧ R c (fX10_fights x).2 (fX11_fights m).2 := ⟨trivial, trivial, h.2.2.2.2.2.2.2.2.2.2.1.2.2.2.1, h⟩
theorem op_faults {c : Int} {x m : SS} (h : R c x m) : kX11_faults m ∧ kX10_faults x ∧ (fX10_faults x).1 = (fX11_faults m).1 ∧ R c (fX10_faults x).2 (fX11_faults m).2 := ⟨trivial, trivial, h.2.2.2.2.2.2.2.2.2.2.1.2.2.2.2.1, h⟩
theorem op_taken {c : Int} {x m : SS} (h : R c x m) : kX11_taken m ∧ kX10_taken x ∧ (fX10_taken x).1 = (fX11_taken m).1 ∧ R c (fX10_taken x).2 (fX11_taken m).2 := ⟨trivial, trivial, h.2.2.2.2.2.2.2.2.2.2.1.2.2.2.2.2.1, h⟩
theorem op_found {c : Int} {x m : SS} (h : R c x m) : kX11_found m ∧ kX10_found x ∧ (fX10_found x).1 = (fX11_found m).1 ∧ R c (fX10_found x).2 (fX11_found m).2 := ⟨trivial, trivial, h.2.2.2.2.2.2.2.2.2.2.1.2.2.2.2.2.2, h⟩
theorem op_cycles {c : Int} {x m : SS} (h : R c x m) : kX11_cycles m ∧ kX10_cycles x ∧ (fX10_cycles x).1 = (fX11_cycles m).1 ∧ R c (fX10_cycles x).2 (fX11_cycles m).2 := ⟨trivial, trivial, h.2.2.2.2.2.2.2.2.2.2.2.1.1, h⟩
def okL (c : Int) (tab : List Nat) (F : (Nat × SS) ⊕ (Int64 × SS)) (b : Int64) (m : SS) : Prop := match F with
  | .inl u => (∃ i : Nat, tab[i]? = some u.1 ∧ gI m 0 = nI (i + 1)) ∧ R c u.2 m
  | .inr u => gI m 0 = 0 ∧ u.1 = b ∧ R c u.2 m
theorem op_cyclesOf {c : Int} {x m : SS} (h : R c x m) (v w : Int32) : kX11_cyclesOf m v w ∧ kX10_cyclesOf x v w ∧ okL c [0] (fX10_cyclesOf x v w) (fX11_cyclesOf m v w).1 (fX11_cyclesOf m v w).2 := by
  by_cases h1 : rg 0 1 v
  · by_cases h2 : rg 0 15 w
    · have e3 : v * 16 = 16 * v := Int32.mul_comm v 16
      have g1 := h1.1
      have g2 := h1.2
      have g3 := h2.1
      have g4 := h2.2
      have e4 : (16 * v).toInt = 16 * v.toInt := by
        rw [tmul (by rw [tl_16]; omega) (by rw [tl_16]; omega), tl_16]
      have e5 : (16 * v + w).toInt = 16 * v.toInt + w.toInt := by
        rw [tadd (by omega) (by omega), e4]
      have hin : vp_in (16 * v + w) 32 := tin (by omega) (by omega)
      have s3 : gB x 21 = gB m 22 := h.2.2.2.2.2.2.2.2.2.2.2.1.2.2.1
      simp +decide only [fX11_cyclesOf_50, kX11_cyclesOf_50, fX11_cyclesOf_25, kX11_cyclesOf_25, fX11_cyclesOf_24, kX11_cyclesOf_24, fX11_cyclesOf_17, kX11_cyclesOf_17, fX11_cyclesOf_7, kX11_cyclesOf_7, fX11_cyclesOf, kX11_cyclesOf, fX10_cyclesOf, kX10_cyclesOf, xb_inr, xb_inl, oc_some, oc_none, xk_requireIndex, xf_requireIndex, xk_requireNumber, xf_requireNumber, xk_requireNotBegun, fX10_requireNotBegun, xk_isOutside, xf_isOutside, mk_isIn, mf_isIn, mk_out, mf_out, mk_refuse, mf_refuse, tb1, tb0, tm_4, tm_64, tm_80, Int.reduceSub, tl_m1, tl_0, tl_1, tl_2, tl_3, tl_4, tl_5, tl_6, tl_7, tl_8, tl_9, tl_10, tl_11, tl_12, tl_13, tl_14, tl_15, tl_16, tl_20, tl_32, tl_48, tl_60, tl_63, tl_64, tl_79, tl_80, tl_96, tl_100, tl_127, tl_128, tl_200, tl_255, tl_256, eq_self, Classical.not_not, Sum.inr.injEq, Sum.inl.injEq, forall_eq', forall_eq, reduceCtorEq, implies_true, forall_const, true_and, and_true, and_self, false_implies, true_implies, not_true_eq_false, not_false_eq_true, if_true, if_false, eq_true h1, eq_true h2, e3, eq_true hin, s3]
      exact ⟨rfl, rfl, h⟩
    · simp +decide only [fX11_cyclesOf_50, kX11_cyclesOf_50, fX11_cyclesOf_25, kX11_cyclesOf_25, fX11_cyclesOf_24, kX11_cyclesOf_24, fX11_cyclesOf_17, kX11_cyclesOf_17, fX11_cyclesOf_7, kX11_cyclesOf_7, fX11_cyclesOf, kX11_cyclesOf, fX10_cyclesOf, kX10_cyclesOf, xb_inr, xb_inl, oc_some, oc_none, xk_requireIndex, xf_requireIndex, xk_requireNumber, xf_requireNumber, xk_requireNotBegun, fX10_requireNotBegun, xk_isOutside, xf_isOutside, mk_isIn, mf_isIn, mk_out, mf_out, mk_refuse, mf_refuse, tb1, tb0, tm_4, tm_64, tm_80, Int.reduceSub, tl_m1, tl_0, tl_1, tl_2, tl_3, tl_4, tl_5, tl_6, tl_7, tl_8, tl_9, tl_10, tl_11, tl_12, tl_13, tl_14, tl_15, tl_16, tl_20, tl_32, tl_48, tl_60, tl_63, tl_64, tl_79, tl_80, tl_96, tl_100, tl_127, tl_128, tl_200, tl_255, tl_256, eq_self, Classical.not_not, Sum.inr.injEq, Sum.inl.injEq, forall_eq', forall_eq, reduceCtorEq, implies_true, forall_const, true_and, and_true, and_self, false_implies, true_implies, not_true_eq_false, not_false_eq_true, if_true, if_false, eq_true h1, eq_false h2]
      exact ⟨⟨0, rfl, rfl⟩, h⟩
  · simp +decide only [fX11_cyclesOf_50, kX11_cyclesOf_50, fX11_cyclesOf_25, kX11_cyclesOf_25, fX11_cyclesOf_24, kX11_cyclesOf_24, fX11_cyclesOf_17, kX11_cyclesOf_17, fX11_cyclesOf_7, kX11_cyclesOf_7, fX11_cyclesOf, kX11_cyclesOf, fX10_cyclesOf, kX10_cyclesOf, xb_inr, xb_inl, oc_some, oc_none, xk_requireIndex, xf_requireIndex, xk_requireNumber, xf_requireNumber, xk_requireNotBegun, fX10_requireNotBegun, xk_isOutside, xf_isOutside, mk_isIn, mf_isIn, mk_out, mf_out, mk_refuse, mf_refuse, tb1, tb0, tm_4, tm_64, tm_80, Int.reduceSub, tl_m1, tl_0, tl_1, tl_2, tl_3, tl_4, tl_5, tl_6, tl_7, tl_8, tl_9, tl_10, tl_11, tl_12, tl_13, tl_14, tl_15, tl_16, tl_20, tl_32, tl_48, tl_60, tl_63, tl_64, tl_79, tl_80, tl_96, tl_100, tl_127, tl_128, tl_200, tl_255, tl_256, eq_self, Classical.not_not, Sum.inr.injEq, Sum.inl.injEq, forall_eq', forall_eq, reduceCtorEq, implies_true, forall_const, true_and, and_true, and_self, false_implies, true_implies, not_true_eq_false, not_false_eq_true, if_true, if_false, eq_false h1]
    exact ⟨⟨0, rfl, rfl⟩, h⟩
theorem m_start_85 : ∀ (d n i : Nat) (q : SS) (v : Int32), i + d = 9 → d < n → kX11_start_85 n q v (nI i) ∧ fX11_start_85 n q v (nI i) = (v, sA q 16 (cpf i 9 (gA q 15) (gA q 16))) := by
  intro d
  induction d with
  | zero =>
    intro n i q v h hn
    obtain ⟨k, rfl⟩ := fuel hn
    have hi : i = 9 := by omega
    subst hi
    have c : (8 : Int32) < nI 9 := by decide
    refine ⟨⟨fun _ => trivial, fun e => absurd c e⟩, ?_⟩
    rw [fX11_start_85, if_pos c, cpf_nil, sA_self]
  | succ d ih =>
    intro n i q v h hn
    obtain ⟨k, rfl⟩ := fuel hn
    have c : ¬ (8 : Int32) < nI i := by
      rw [show (8 : Int32) = nI 8 from rfl, nI_ltI (by omega) (by omega)]
      omega
    have hin : vp_in (nI i) 16 := vp_in_nI (by omega) (by decide)
    have hc : (nI i).toNatClampNeg = i := nI_clamp (by omega)
    have hs := ih k (i + 1) (sA q 16 (upd (gA q 16) i (gA q 15 i))) v (by omega) (by omega)
    rw [fX11_start_85, if_neg c, hc, nI_1]
    refine ⟨⟨fun e => absurd e c, fun _ => ⟨hin, hin, ?_⟩⟩, ?_⟩
    · rw [hc, nI_1]
      exact hs.1
    · rw [hs.2, sA_sA]
      simp only [gI_sI, gI_sL, gI_sA, gI_sB, gL_sI, gL_sL, gL_sA, gL_sB, gA_sI, gA_sL, gA_sA, gA_sB, gB_sI, gB_sL, gB_sA, gB_sB, upd_at, Nat.reduceEqDiff, if_true, if_false, reduceIte]
      rw [cpf_step (by omega)]
theorem mk_start_85 (q : SS) (v : Int32) : kX11_start_85 130 q v 4 = True := eq_true (m_start_85 5 130 4 q v rfl (by decide)).1
theorem mf_start_85 (q : SS) (v : Int32) : fX11_start_85 130 q v 4 = (v, sA q 16 (cpf 4 9 (gA q 15) (gA q 16))) := (m_start_85 5 130 4 q v rfl (by decide)).2
theorem xk_copy_kn (q : SS) : kX8_copyFrom_keptv_now q = True := eq_true (x_copy_keptv_now q).1
theorem xk_copy_nk (q : SS) : kX8_copyFrom_now_keptv q = True := eq_true (x_copy_now_keptv q).1
theorem xk_copy_ak (q : SS) : kX8_copyFrom_after_keptv q = True := eq_true (x_copy_after_keptv q).1
theorem cl_4 : (4 : Int32).toNatClampNeg = 4 := by decide
theorem cl_5 : (5 : Int32).toNatClampNeg = 5 := by decide
theorem cl_6 : (6 : Int32).toNatClampNeg = 6 := by decide
theorem cl_7 : (7 : Int32).toNatClampNeg = 7 := by decide
theorem cl_8 : (8 : Int32).toNatClampNeg = 8 := by decide
theorem cl_9 : (9 : Int32).toNatClampNeg = 9 := by decide
theorem cl_10 : (10 : Int32).toNatClampNeg = 10 := by decide
theorem cl_11 : (11 : Int32).toNatClampNeg = 11 := by decide
theorem cl_12 : (12 : Int32).toNatClampNeg = 12 := by decide
theorem cl_13 : (13 : Int32).toNatClampNeg = 13 := by decide
theorem cl_14 : (14 : Int32).toNatClampNeg = 14 := by decide
theorem cl_15 : (15 : Int32).toNatClampNeg = 15 := by decide
theorem in_8_16 : vp_in 8 16 := tin (by decide) (by decide)
theorem upd_ne {f : Nat → Int32} {k j : Nat} {v : Int32} (h : ¬ j = k) : upd f k v j = f j := by
  rw [upd_at, if_neg h]
theorem start_R {c : Int} {x m : SS} (h : R c x m) (h3 : gI m 25 = 0) {v w b : Int32} (h1 : rg 0 63 v) (h2 : rg 0 1 w) (hb : rg 0 1 b) : R c (fX8_copyFrom_keptv_now (sI (sI (sI x 701 v) 705 w) 706 b)) (sA (sA (sA (sA (sI m 0 0) 15 (upd (gA m 15) 4 v)) 15 (upd (upd (gA m 15) 4 v) 7 w)) 15 (upd (upd (upd (gA m 15) 4 v) 7 w) 8 b)) 16 (cpf 4 9 (upd (upd (upd (gA m 15) 4 v) 7 w) 8 b) (gA m 16))) := by
  rw [(x_copy_keptv_now _).2]
  obtain ⟨hW, hV, hT, hP, hQ, hK, hM, hR, hN, hF, hC, hS, hE⟩ := h
  obtain ⟨p0, p1, p2, p3, p4, p5, p6, p7, p8, p9, p10, p11, p12⟩ := hP
  obtain ⟨⟨v0, v4, v5, v6, v7, v8, v9⟩, q10, q11, q12, q13, q14, q15⟩ := hQ
  obtain ⟨k0, k1, k2, k3, k4, k5, k6, w0, w4, w5, w6, w7, w8, w9⟩ := hK
  obtain ⟨e1, e2⟩ := hE h3
  refine ⟨hW, hV, hT, ⟨?_, rfl, p2, p3, p4, rfl, rfl, p7, p8, p9, p10, p11, p12⟩, ⟨⟨?_, h1, v5, v6, h2, hb, v9⟩, q10, q11, q12, q13, q14, q15⟩, ⟨?_, rfl, ?_, ?_, ?_, rfl, rfl, ?_, h1, ?_, ?_, h2, hb, w9⟩, hM, hR, hN, hF, hC, hS, ?_⟩
  · intro r hr
    show gA x 25 r = upd (upd (upd (gA m 15) 4 v) 7 w) 8 b r
    rw [upd_ne (by omega), upd_ne (by omega), upd_ne (by omega)]
    exact p0 r hr
  · intro r hr
    show rg 0 255 (upd (upd (upd (gA m 15) 4 v) 7 w) 8 b r)
    rw [upd_ne (by omega), upd_ne (by omega), upd_ne (by omega)]
    exact v0 r hr
  · intro r hr
    show cpf 0 4 (gA x 25) (gA x 26) r = cpf 4 9 (upd (upd (upd (gA m 15) 4 v) 7 w) 8 b) (gA m 16) r
    rw [cpf_at 4 _ _ hr, cpf, if_neg (by omega), p0 r hr]
    exact e2 r (by omega)
  · exact p2.trans (e2 9 (by decide))
  · exact p3
  · exact p4
  · intro r hr
    show rg 0 255 (cpf 4 9 (upd (upd (upd (gA m 15) 4 v) 7 w) 8 b) (gA m 16) r)
    rw [cpf, if_neg (by omega)]
    exact w0 r hr
  · exact v5
  · exact v6
  · intro hb2
    refine ⟨e1, fun k hk => ?_⟩
    show upd (upd (upd (gA m 15) 4 v) 7 w) 8 b k = cpf 4 9 (upd (upd (upd (gA m 15) 4 v) 7 w) 8 b) (gA m 16) k
    rw [cpf]
    by_cases hk2 : 4 ≤ k ∧ k < 9
    · rw [if_pos hk2]
    · rw [if_neg hk2, upd_at, if_neg (by omega), upd_at, if_neg (by omega), upd_at, if_neg (by omega)]
      exact e2 k hk
theorem op_start {c : Int} {x m : SS} (h : R c x m) (v w b : Int32) : kX11_start m v w b ∧ kX10_start x v w b ∧ okI c [1, 4] (fX10_start x v w b) (fX11_start m v w b).1 (fX11_start m v w b).2 := by
  have n3 : gI x 511 = gI m 25 := h.2.2.2.2.2.2.2.2.1.2.2.1
  by_cases h1 : rg 0 63 v
  · by_cases h2 : rg 0 1 w
    · by_cases h3 : gI m 25 = 0
      · have p1 : gI x 701 = gA m 15 4 := h.2.2.2.1.2.1
        by_cases h4 : b = 0
        · simp +decide only [fX11_start_19, kX11_start_19, fX11_start_81, kX11_start_81, fX11_start_16, kX11_start_16, fX11_start_7, kX11_start_7, fX11_start, kX11_start, fX10_start_32, kX10_start_32, fX10_start, kX10_start, fX6_startAt_44, kX6_startAt_44, fX6_startAt, kX6_startAt, xb_inr, xb_inl, oc_some, oc_none, xk_requireIndex, xf_requireIndex, xk_requireNumber, xf_requireNumber, xk_requireNotBegun, fX10_requireNotBegun, xk_isOutside, xf_isOutside, mk_isIn, mf_isIn, mk_out, mf_out, mk_refuse, mf_refuse, tb1, tb0, tm_4, tm_64, tm_80, Int.reduceSub, tl_m1, tl_0, tl_1, tl_2, tl_3, tl_4, tl_5, tl_6, tl_7, tl_8, tl_9, tl_10, tl_11, tl_12, tl_13, tl_14, tl_15, tl_16, tl_20, tl_32, tl_48, tl_60, tl_63, tl_64, tl_79, tl_80, tl_96, tl_100, tl_127, tl_128, tl_200, tl_255, tl_256, eq_self, Classical.not_not, Sum.inr.injEq, Sum.inl.injEq, forall_eq', forall_eq, reduceCtorEq, implies_true, forall_const, true_and, and_true, and_self, false_implies, true_implies, not_true_eq_false, not_false_eq_true, if_true, if_false, eq_true h1, eq_true h2, n3, gI_sI, gI_sL, gI_sA, gI_sB, gL_sI, gL_sL, gL_sA, gL_sB, gA_sI, gA_sL, gA_sA, gA_sB, gB_sI, gB_sL, gB_sA, gB_sB, upd_at, Nat.reduceEqDiff, if_true, if_false, reduceIte, h3, h4, mk_start_85, mf_start_85, xk_copy_kn, cl_4, cl_7, cl_8, eq_true in_8_16]
          exact okI_r rfl p1 (start_R h h3 h1 h2 rg_0)
        · simp +decide only [fX11_start_19, kX11_start_19, fX11_start_81, kX11_start_81, fX11_start_16, kX11_start_16, fX11_start_7, kX11_start_7, fX11_start, kX11_start, fX10_start_32, kX10_start_32, fX10_start, kX10_start, fX6_startAt_44, kX6_startAt_44, fX6_startAt, kX6_startAt, xb_inr, xb_inl, oc_some, oc_none, xk_requireIndex, xf_requireIndex, xk_requireNumber, xf_requireNumber, xk_requireNotBegun, fX10_requireNotBegun, xk_isOutside, xf_isOutside, mk_isIn, mf_isIn, mk_out, mf_out, mk_refuse, mf_refuse, tb1, tb0, tm_4, tm_64, tm_80, Int.reduceSub, tl_m1, tl_0, tl_1, tl_2, tl_3, tl_4, tl_5, tl_6, tl_7, tl_8, tl_9, tl_10, tl_11, tl_12, tl_13, tl_14, tl_15, tl_16, tl_20, tl_32, tl_48, tl_60, tl_63, tl_64, tl_79, tl_80, tl_96, tl_100, tl_127, tl_128, tl_200, tl_255, tl_256, eq_self, Classical.not_not, Sum.inr.injEq, Sum.inl.injEq, forall_eq', forall_eq, reduceCtorEq, implies_true, forall_const, true_and, and_true, and_self, false_implies, true_implies, not_true_eq_false, not_false_eq_true, if_true, if_false, eq_true h1, eq_true h2, n3, gI_sI, gI_sL, gI_sA, gI_sB, gL_sI, gL_sL, gL_sA, gL_sB, gA_sI, gA_sL, gA_sA, gA_sB, gB_sI, gB_sL, gB_sA, gB_sB, upd_at, Nat.reduceEqDiff, if_true, if_false, reduceIte, h3, h4, mk_start_85, mf_start_85, xk_copy_kn, cl_4, cl_7, cl_8, eq_true in_8_16]
          exact okI_r rfl p1 (start_R h h3 h1 h2 rg_1)
      · simp +decide only [fX11_start_19, kX11_start_19, fX11_start_81, kX11_start_81, fX11_start_16, kX11_start_16, fX11_start_7, kX11_start_7, fX11_start, kX11_start, fX10_start_32, kX10_start_32, fX10_start, kX10_start, fX6_startAt_44, kX6_startAt_44, fX6_startAt, kX6_startAt, xb_inr, xb_inl, oc_some, oc_none, xk_requireIndex, xf_requireIndex, xk_requireNumber, xf_requireNumber, xk_requireNotBegun, fX10_requireNotBegun, xk_isOutside, xf_isOutside, mk_isIn, mf_isIn, mk_out, mf_out, mk_refuse, mf_refuse, tb1, tb0, tm_4, tm_64, tm_80, Int.reduceSub, tl_m1, tl_0, tl_1, tl_2, tl_3, tl_4, tl_5, tl_6, tl_7, tl_8, tl_9, tl_10, tl_11, tl_12, tl_13, tl_14, tl_15, tl_16, tl_20, tl_32, tl_48, tl_60, tl_63, tl_64, tl_79, tl_80, tl_96, tl_100, tl_127, tl_128, tl_200, tl_255, tl_256, eq_self, Classical.not_not, Sum.inr.injEq, Sum.inl.injEq, forall_eq', forall_eq, reduceCtorEq, implies_true, forall_const, true_and, and_true, and_self, false_implies, true_implies, not_true_eq_false, not_false_eq_true, if_true, if_false, eq_true h1, eq_true h2, n3, gI_sI, gI_sL, gI_sA, gI_sB, gL_sI, gL_sL, gL_sA, gL_sB, gA_sI, gA_sL, gA_sA, gA_sB, gB_sI, gB_sL, gB_sA, gB_sB, upd_at, Nat.reduceEqDiff, if_true, if_false, reduceIte, h3]
        exact okI_l 1 rfl rfl h
    · simp +decide only [fX11_start_19, kX11_start_19, fX11_start_81, kX11_start_81, fX11_start_16, kX11_start_16, fX11_start_7, kX11_start_7, fX11_start, kX11_start, fX10_start_32, kX10_start_32, fX10_start, kX10_start, fX6_startAt_44, kX6_startAt_44, fX6_startAt, kX6_startAt, xb_inr, xb_inl, oc_some, oc_none, xk_requireIndex, xf_requireIndex, xk_requireNumber, xf_requireNumber, xk_requireNotBegun, fX10_requireNotBegun, xk_isOutside, xf_isOutside, mk_isIn, mf_isIn, mk_out, mf_out, mk_refuse, mf_refuse, tb1, tb0, tm_4, tm_64, tm_80, Int.reduceSub, tl_m1, tl_0, tl_1, tl_2, tl_3, tl_4, tl_5, tl_6, tl_7, tl_8, tl_9, tl_10, tl_11, tl_12, tl_13, tl_14, tl_15, tl_16, tl_20, tl_32, tl_48, tl_60, tl_63, tl_64, tl_79, tl_80, tl_96, tl_100, tl_127, tl_128, tl_200, tl_255, tl_256, eq_self, Classical.not_not, Sum.inr.injEq, Sum.inl.injEq, forall_eq', forall_eq, reduceCtorEq, implies_true, forall_const, true_and, and_true, and_self, false_implies, true_implies, not_true_eq_false, not_false_eq_true, if_true, if_false, eq_true h1, eq_false h2]
      exact okI_l 0 rfl rfl h
  · simp +decide only [fX11_start_19, kX11_start_19, fX11_start_81, kX11_start_81, fX11_start_16, kX11_start_16, fX11_start_7, kX11_start_7, fX11_start, kX11_start, fX10_start_32, kX10_start_32, fX10_start, kX10_start, fX6_startAt_44, kX6_startAt_44, fX6_startAt, kX6_startAt, xb_inr, xb_inl, oc_some, oc_none, xk_requireIndex, xf_requireIndex, xk_requireNumber, xf_requireNumber, xk_requireNotBegun, fX10_requireNotBegun, xk_isOutside, xf_isOutside, mk_isIn, mf_isIn, mk_out, mf_out, mk_refuse, mf_refuse, tb1, tb0, tm_4, tm_64, tm_80, Int.reduceSub, tl_m1, tl_0, tl_1, tl_2, tl_3, tl_4, tl_5, tl_6, tl_7, tl_8, tl_9, tl_10, tl_11, tl_12, tl_13, tl_14, tl_15, tl_16, tl_20, tl_32, tl_48, tl_60, tl_63, tl_64, tl_79, tl_80, tl_96, tl_100, tl_127, tl_128, tl_200, tl_255, tl_256, eq_self, Classical.not_not, Sum.inr.injEq, Sum.inl.injEq, forall_eq', forall_eq, reduceCtorEq, implies_true, forall_const, true_and, and_true, and_self, false_implies, true_implies, not_true_eq_false, not_false_eq_true, if_true, if_false, eq_false h1]
    exact okI_l 0 rfl rfl h
