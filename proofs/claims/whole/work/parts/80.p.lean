/-! ===== PURE: patch ===== -/
def cpW (q : SS) (w0 w1 : Nat) : SS := sA (sA (sA (sA (sA (sA (sA (sA (sA q 30 (upd (gA q 30) w0 (gA q 30 w1))) 31 (upd (gA q 31) w0 (gA q 31 w1))) 32 (upd (gA q 32) w0 (gA q 32 w1))) 33 (upd (gA q 33) w0 (gA q 33 w1))) 34 (upd (gA q 34) w0 (gA q 34 w1))) 35 (upd (gA q 35) w0 (gA q 35 w1))) 36 (upd (gA q 36) w0 (gA q 36 w1))) 37 (upd (gA q 37) w0 (gA q 37 w1))) 38 (upd (gA q 38) w0 (gA q 38 w1))
theorem x_copyW {q : SS} {w0 w1 : Nat} (h0 : isW q w0) (h1 : isW q w1) (hb : nf .boolean (gA q 37 w1)) (hc : nf .char (gA q 34 w1)) : kX9_copyFrom q w0 w1 ∧ fX9_copyFrom q w0 w1 = cpW q w0 w1 := by
  obtain ⟨a0, b0⟩ := h0
  obtain ⟨a1, b1⟩ := h1
  constructor
  · simp +decide only [kX9_copyFrom, kX9_copyFrom_56, isW, gI_sI, gI_sL, gI_sA, gI_sB, gL_sI, gL_sL, gL_sA, gL_sB, gA_sI, gA_sL, gA_sA, gA_sB, gB_sI, gB_sL, gB_sA, gB_sB, upd_at, Nat.reduceEqDiff, if_true, if_false, reduceIte, eq_self, Classical.not_not, Sum.inr.injEq, Sum.inl.injEq, forall_eq', forall_eq, reduceCtorEq, implies_true, forall_const, true_and, and_true, and_self, false_implies, true_implies, not_true_eq_false, not_false_eq_true, if_true, if_false, a0, a1, b0, b1, eq_true hb, eq_true hc]
  · simp +decide only [fX9_copyFrom, fX9_copyFrom_56, cpW, gI_sI, gI_sL, gI_sA, gI_sB, gL_sI, gL_sL, gL_sA, gL_sB, gA_sI, gA_sL, gA_sA, gA_sB, gB_sI, gB_sL, gB_sA, gB_sB, upd_at, Nat.reduceEqDiff, if_true, if_false, reduceIte]
def mP (m : SS) (a f : Nat) (n : Int32) : SS := sA (sA (sA (sA (sA (sA (sA (sA (sA (sI m 0 0) 1 (upd (gA m 1) a (gA m 1 f))) 2 (upd (gA m 2) a (gA m 2 f))) 3 (upd (gA m 3) a (gA m 3 f))) 4 (upd (gA m 4) a (gA m 4 f))) 9 (upd (gA m 9) a (gA m 9 f))) 5 (upd (gA m 5) a n)) 6 (upd (gA m 6) a (gA m 6 f))) 11 (upd (gA m 11) a (gA m 11 f))) 7 (upd (gA m 7) a (gA m 7 f))
theorem m_patch {m : SS} {v1 v2 v3 : Int32} (h1 : rg 64 79 v1) (h2 : rg 0 79 v2) (h3 : rg 0 79 v3) (hw : ¬ gA m 10 v2.toNatClampNeg = 0) (hb : rg 0 1 (gA m 11 v2.toNatClampNeg)) (hc : rg 0 65535 (gA m 9 v2.toNatClampNeg)) : kX11_patch m v1 v2 v3 ∧ fX11_patch m v1 v2 v3 = fX11_adds (mP m v1.toNatClampNeg v2.toNatClampNeg v3) v1 := by
  have i1 : vp_in v1 80 := tin (by have := h1.1; omega) (by have := h1.2; omega)
  have i2 : vp_in v2 80 := rin h2 (by decide)
  have hvc : vp_nar .char (gA m 9 v2.toNatClampNeg) = gA m 9 v2.toNatClampNeg := tvc hc.1 (by have := hc.2; omega)
  have hvb : vp_nar .boolean (gA m 11 v2.toNatClampNeg) = gA m 11 v2.toNatClampNeg := vb01 hb
  have hnc : nf .char (gA m 9 v2.toNatClampNeg) := ⟨nc16 hc, tfc hc.1 (by have := hc.2; omega)⟩
  have hnb : nf .boolean (gA m 11 v2.toNatClampNeg) := ⟨nb01 hb, by rcases rg01 hb with e | e <;> (rw [e]; decide)⟩
  have ka : ∀ q, kX11_adds q v1 := fun q => ⟨i1, fun _ => ⟨i1, trivial⟩, fun _ => ⟨i1, trivial⟩⟩
  constructor
  · simp +decide only [fX11_patch_154, kX11_patch_154, fX11_patch_112, kX11_patch_112, fX11_patch_46, kX11_patch_46, fX11_patch_27, kX11_patch_27, fX11_patch_26, kX11_patch_26, fX11_patch_19, kX11_patch_19, fX11_patch_9, kX11_patch_9, fX11_patch, kX11_patch, xb_inr, xb_inl, oc_some, oc_none, xk_requireIndex, xf_requireIndex, xk_requireNumber, xf_requireNumber, xk_requireNotBegun, fX10_requireNotBegun, xk_isOutside, xf_isOutside, mk_isIn, mf_isIn, mk_out, mf_out, mk_refuse, mf_refuse, tb1, tb0, tm_4, tm_64, tm_80, Int.reduceSub, tl_m1, tl_0, tl_1, tl_2, tl_3, tl_4, tl_5, tl_6, tl_7, tl_8, tl_9, tl_10, tl_11, tl_12, tl_13, tl_14, tl_15, tl_16, tl_20, tl_32, tl_48, tl_60, tl_63, tl_64, tl_79, tl_80, tl_96, tl_100, tl_127, tl_128, tl_200, tl_255, tl_256, eq_self, Classical.not_not, Sum.inr.injEq, Sum.inl.injEq, forall_eq', forall_eq, reduceCtorEq, implies_true, forall_const, true_and, and_true, and_self, false_implies, true_implies, not_true_eq_false, not_false_eq_true, if_true, if_false, eq_true h1, eq_true h2, eq_true h3, eq_true i1, eq_true i2, hw, gI_sI, gI_sL, gI_sA, gI_sB, gL_sI, gL_sL, gL_sA, gL_sB, gA_sI, gA_sL, gA_sA, gA_sB, gB_sI, gB_sL, gB_sA, gB_sB, upd_at, Nat.reduceEqDiff, if_true, if_false, reduceIte, hvc, hvb, eq_true hnc, eq_true hnb, ka]
  · simp +decide only [fX11_patch_154, kX11_patch_154, fX11_patch_112, kX11_patch_112, fX11_patch_46, kX11_patch_46, fX11_patch_27, kX11_patch_27, fX11_patch_26, kX11_patch_26, fX11_patch_19, kX11_patch_19, fX11_patch_9, kX11_patch_9, fX11_patch, kX11_patch, xb_inr, xb_inl, oc_some, oc_none, xk_requireIndex, xf_requireIndex, xk_requireNumber, xf_requireNumber, xk_requireNotBegun, fX10_requireNotBegun, xk_isOutside, xf_isOutside, mk_isIn, mf_isIn, mk_out, mf_out, mk_refuse, mf_refuse, tb1, tb0, tm_4, tm_64, tm_80, Int.reduceSub, tl_m1, tl_0, tl_1, tl_2, tl_3, tl_4, tl_5, tl_6, tl_7, tl_8, tl_9, tl_10, tl_11, tl_12, tl_13, tl_14, tl_15, tl_16, tl_20, tl_32, tl_48, tl_60, tl_63, tl_64, tl_79, tl_80, tl_96, tl_100, tl_127, tl_128, tl_200, tl_255, tl_256, eq_self, Classical.not_not, Sum.inr.injEq, Sum.inl.injEq, forall_eq', forall_eq, reduceCtorEq, implies_true, forall_const, true_and, and_true, and_self, false_implies, true_implies, not_true_eq_false, not_false_eq_true, if_true, if_false, eq_true h1, eq_true h2, eq_true h3, hw, gI_sI, gI_sL, gI_sA, gI_sB, gL_sI, gL_sL, gL_sA, gL_sB, gA_sI, gA_sL, gA_sA, gA_sB, gB_sI, gB_sL, gB_sA, gB_sB, upd_at, Nat.reduceEqDiff, if_true, if_false, reduceIte, hvc, hvb, mP]
theorem bf01 {v : Int32} (hb : rg 0 1 v) : nf .boolean v := ⟨nb01 hb, by rcases rg01 hb with e | e <;> (rw [e]; decide)⟩
theorem cf16 {v : Int32} (hc : rg 0 65535 v) : nf .char v := ⟨nc16 hc, tfc hc.1 (by have := hc.2; omega)⟩
set_option maxHeartbeats 4000000 in
theorem op_patch {c : Int} {x m : SS} (h : R c x m) (v1 v2 v3 : Int32) : kX11_patch m v1 v2 v3 ∧ kX10_patch x v1 v2 v3 ∧ okI c [0, 1, 3] (fX10_patch x v1 v2 v3) (fX11_patch m v1 v2 v3).1 (fX11_patch m v1 v2 v3).2 := by
  by_cases h1 : rg 64 79 v1
  · have h1a : rg 0 79 v1 := ⟨by have := h1.1; omega, h1.2⟩
    have h1b : 64 ≤ v1 := by
      rw [Int32.le_iff_toInt_le, tl_64]
      exact h1.1
    by_cases h2 : rg 0 79 v2
    · by_cases h3 : rg 0 79 v3
      · obtain ⟨kw, w1, w2⟩ := w_at x v2
        have e39 : gA x 39 = gA m 10 := h.1.2.2.2.2.2.2.2.2.2.1
        by_cases h4 : gA m 10 v2.toNatClampNeg = 0
        · have ew := w2 (fun _ => by rw [e39]; exact h4)
          have i2 : vp_in v2 80 := rin h2 (by decide)
          simp +decide only [fX11_patch_154, kX11_patch_154, fX11_patch_112, kX11_patch_112, fX11_patch_46, kX11_patch_46, fX11_patch_27, kX11_patch_27, fX11_patch_26, kX11_patch_26, fX11_patch_19, kX11_patch_19, fX11_patch_9, kX11_patch_9, fX11_patch, kX11_patch, fX10_patch_77, kX10_patch_77, fX10_patch_68, kX10_patch_68, fX10_patch, kX10_patch, xb_inr, xb_inl, oc_some, oc_none, xk_requireIndex, xf_requireIndex, xk_requireNumber, xf_requireNumber, xk_requireNotBegun, fX10_requireNotBegun, xk_isOutside, xf_isOutside, mk_isIn, mf_isIn, mk_out, mf_out, mk_refuse, mf_refuse, tb1, tb0, tm_4, tm_64, tm_80, Int.reduceSub, tl_m1, tl_0, tl_1, tl_2, tl_3, tl_4, tl_5, tl_6, tl_7, tl_8, tl_9, tl_10, tl_11, tl_12, tl_13, tl_14, tl_15, tl_16, tl_20, tl_32, tl_48, tl_60, tl_63, tl_64, tl_79, tl_80, tl_96, tl_100, tl_127, tl_128, tl_200, tl_255, tl_256, eq_self, Classical.not_not, Sum.inr.injEq, Sum.inl.injEq, forall_eq', forall_eq, reduceCtorEq, implies_true, forall_const, true_and, and_true, and_self, false_implies, true_implies, not_true_eq_false, not_false_eq_true, if_true, if_false, eq_true h1, eq_true h1a, eq_true h1b, eq_true h2, eq_true h3, eq_true kw, ew, eq_true i2, gI_sI, gI_sL, gI_sA, gI_sB, gL_sI, gL_sL, gL_sA, gL_sB, gA_sI, gA_sL, gA_sA, gA_sB, gB_sI, gB_sL, gB_sA, gB_sB, upd_at, Nat.reduceEqDiff, if_true, if_false, reduceIte, h4]
          exact okI_l 2 rfl rfl h
        · have ew := w1 h2 (by rw [e39]; exact h4)
          have hV := h.2.1
          obtain ⟨b1, b2, b3, b4, b5, b6, b7, b8, b9, b10, b11⟩ := hV
          obtain ⟨mk, mf⟩ := m_patch h1 h2 h3 h4 (b9 _) (b8 _)
          have hW := h.1
          obtain ⟨a1, a2, a3, a4, a5, a6, a7, a8, a9, a10, a11⟩ := hW
          have i1 : vp_in v1 80 := rin h1a (by decide)
          have hf : isW x v2.toNatClampNeg := (isW_m h).mpr ⟨ridx h2 (by decide), h4⟩
          have l1 : v1.toNatClampNeg < 80 := ridx h1a (by decide)
          have fx : fX10_patch x v1 v2 v3 = fX10_patch_68 (fX7_claim x v1) v3 v2.toNatClampNeg v1.toNatClampNeg := by
            simp +decide only [fX10_patch, xb_inr, xb_inl, oc_some, oc_none, xk_requireIndex, xf_requireIndex, xk_requireNumber, xf_requireNumber, xk_requireNotBegun, fX10_requireNotBegun, xk_isOutside, xf_isOutside, mk_isIn, mf_isIn, mk_out, mf_out, mk_refuse, mf_refuse, tb1, tb0, tm_4, tm_64, tm_80, Int.reduceSub, tl_m1, tl_0, tl_1, tl_2, tl_3, tl_4, tl_5, tl_6, tl_7, tl_8, tl_9, tl_10, tl_11, tl_12, tl_13, tl_14, tl_15, tl_16, tl_20, tl_32, tl_48, tl_60, tl_63, tl_64, tl_79, tl_80, tl_96, tl_100, tl_127, tl_128, tl_200, tl_255, tl_256, eq_self, Classical.not_not, Sum.inr.injEq, Sum.inl.injEq, forall_eq', forall_eq, reduceCtorEq, implies_true, forall_const, true_and, and_true, and_self, false_implies, true_implies, not_true_eq_false, not_false_eq_true, if_true, if_false, eq_true h1, eq_true h1a, eq_true h1b, eq_true h2, eq_true h3, ew]
          have kx : kX10_patch_68 (fX7_claim x v1) v3 v2.toNatClampNeg v1.toNatClampNeg → kX10_patch x v1 v2 v3 := by
            intro z
            simp +decide only [kX10_patch, xb_inr, xb_inl, oc_some, oc_none, xk_requireIndex, xf_requireIndex, xk_requireNumber, xf_requireNumber, xk_requireNotBegun, fX10_requireNotBegun, xk_isOutside, xf_isOutside, mk_isIn, mf_isIn, mk_out, mf_out, mk_refuse, mf_refuse, tb1, tb0, tm_4, tm_64, tm_80, Int.reduceSub, tl_m1, tl_0, tl_1, tl_2, tl_3, tl_4, tl_5, tl_6, tl_7, tl_8, tl_9, tl_10, tl_11, tl_12, tl_13, tl_14, tl_15, tl_16, tl_20, tl_32, tl_48, tl_60, tl_63, tl_64, tl_79, tl_80, tl_96, tl_100, tl_127, tl_128, tl_200, tl_255, tl_256, eq_self, Classical.not_not, Sum.inr.injEq, Sum.inl.injEq, forall_eq', forall_eq, reduceCtorEq, implies_true, forall_const, true_and, and_true, and_self, false_implies, true_implies, not_true_eq_false, not_false_eq_true, if_true, if_false, eq_true h1, eq_true h1a, eq_true h1b, eq_true h2, eq_true h3, ew, eq_true kw, Option.some.injEq, eq_true i1, eq_true hf]
            exact z
          rw [fx, mf]
          refine ⟨mk, ?_⟩
          generalize hA : v1.toNatClampNeg = A at *
          generalize v2.toNatClampNeg = B at *
          have f37 : nf .boolean (gA x 37 B) := by
            rw [a8]
            exact bf01 (b9 _)
          have f34 : nf .char (gA x 34 B) := by
            rw [a5]
            exact cf16 (b8 _)
          by_cases h5 : gA m 10 A = 0
          · have hBA : ¬ B = A := fun z => h4 (by rw [z]; exact h5)
            have h5x : gA x 39 A = 0 := by
              rw [e39]
              exact h5
            have ec : fX7_claim x v1 = sI (blankW x A) 204 (gI x 204 + 1) := by
              rw [fX7_claim, hA, if_pos h5x]
            have wA : isW (sI (blankW x A) 204 (gI x 204 + 1)) A := ⟨l1, by show ¬ upd (gA x 39) A 1 A = 0; rw [upd_at, if_pos rfl]; decide⟩
            have wB : isW (sI (blankW x A) 204 (gI x 204 + 1)) B := ⟨hf.1, by show ¬ upd (gA x 39) A 1 B = 0; rw [upd_ne hBA]; exact hf.2⟩
            have f37 : nf .boolean (gA (sI (blankW x A) 204 (gI x 204 + 1)) 37 B) := by
              show nf .boolean (upd (gA x 37) A 0 B)
              rw [upd_ne hBA]
              exact f37
            have f34 : nf .char (gA (sI (blankW x A) 204 (gI x 204 + 1)) 34 B) := by
              show nf .char (upd (gA x 34) A 0 B)
              rw [upd_ne hBA]
              exact f34
            obtain ⟨ck, cf⟩ := x_copyW wA wB f37 f34
            have e68 : fX10_patch_68 (fX7_claim x v1) v3 B A = .inr (gI (cpW (sI (blankW x A) 204 (gI x 204 + 1)) A B) 204, sA (cpW (sI (blankW x A) 204 (gI x 204 + 1)) A B) 35 (upd (gA (cpW (sI (blankW x A) 204 (gI x 204 + 1)) A B) 35) A v3)) := by
              rw [ec, fX10_patch_68, cf, fX10_patch_77]
            have k68 : kX10_patch_68 (fX7_claim x v1) v3 B A := by
              rw [ec]
              refine ⟨ck, wA, ?_⟩
              rw [cf]
              exact ⟨wA, trivial⟩
            have ea : fX11_adds (mP m A B v3) v1 = (gI m 1 + 1, sA (sI (mP m A B v3) 1 (gI m 1 + 1)) 10 (upd (gA m 10) A 1)) := by
              have g : gA (mP m A B v3) 10 v1.toNatClampNeg = 0 := by
                rw [hA]
                exact h5
              rw [fX11_adds, if_pos g, fX11_adds_19, hA, tvb1]
              rfl
            rw [e68, ea]
            refine ⟨kx k68, ?_⟩
            obtain ⟨hW, hV, hT, hP, hQ, hK, hM, hR, hN, hF, hC, hS, hE⟩ := h
            refine okI_r rfl ?_ ⟨⟨?_, ?_, ?_, ?_, ?_, ?_, ?_, ?_, ?_, ?_, ?_⟩, ⟨rf_upd b1 (b1 _) _, rf_upd b2 (b2 _) _, rf_upd b3 (b3 _) _, rf_upd b4 (b4 _) _, rf_upd b5 h3 _, rf_upd b6 (b6 _) _, rf_upd b7 (b7 _) _, rf_upd b8 (b8 _) _, rf_upd b9 (b9 _) _, ordu b10 (b10 B h4) A, rf_upd b11 rg_1 _⟩, hT, hP, hQ, hK, hM, hR, hN, hF, hC, hS, hE⟩
            · show gI x 204 + 1 = gI m 1 + 1
              rw [a11]
            · show upd (upd (gA x 30) A 0) A (upd (gA x 30) A 0 B) = upd (gA m 1) A (gA m 1 B)
              rw [upd_upd, upd_ne hBA, a1]
            · show upd (upd (gA x 31) A 0) A (upd (gA x 31) A 0 B) = upd (gA m 2) A (gA m 2 B)
              rw [upd_upd, upd_ne hBA, a2]
            · show upd (upd (gA x 32) A 0) A (upd (gA x 32) A 0 B) = upd (gA m 3) A (gA m 3 B)
              rw [upd_upd, upd_ne hBA, a3]
            · show upd (upd (gA x 33) A 0) A (upd (gA x 33) A 0 B) = upd (gA m 4) A (gA m 4 B)
              rw [upd_upd, upd_ne hBA, a4]
            · show upd (upd (gA x 34) A 0) A (upd (gA x 34) A 0 B) = upd (gA m 9) A (gA m 9 B)
              rw [upd_upd, upd_ne hBA, a5]
            · show upd (upd (upd (gA x 35) A 0) A (upd (gA x 35) A 0 B)) A v3 = upd (gA m 5) A v3
              rw [upd_upd, upd_upd, a6]
            · show upd (upd (gA x 36) A 0) A (upd (gA x 36) A 0 B) = upd (gA m 6) A (gA m 6 B)
              rw [upd_upd, upd_ne hBA, a7]
            · show upd (upd (gA x 37) A 0) A (upd (gA x 37) A 0 B) = upd (gA m 11) A (gA m 11 B)
              rw [upd_upd, upd_ne hBA, a8]
            · show upd (upd (gA x 38) A 0) A (upd (gA x 38) A 0 B) = upd (gA m 7) A (gA m 7 B)
              rw [upd_upd, upd_ne hBA, a9]
            · show upd (gA x 39) A 1 = upd (gA m 10) A 1
              rw [a10]
            · show gI x 204 + 1 = gI m 1 + 1
              rw [a11]
          · have h5x : ¬ gA x 39 A = 0 := by
              rw [e39]
              exact h5
            have hself : upd (gA m 10) A 1 = gA m 10 := by
              rcases rg01 (b11 A) with e | e
              · exact absurd e h5
              · rw [← e, upd_self]
            have ec : fX7_claim x v1 = x := by
              rw [fX7_claim, hA, if_neg h5x]
            have wA : isW x A := ⟨l1, h5x⟩
            have wB := hf
            obtain ⟨ck, cf⟩ := x_copyW wA wB f37 f34
            have e68 : fX10_patch_68 (fX7_claim x v1) v3 B A = .inr (gI (cpW (x) A B) 204, sA (cpW (x) A B) 35 (upd (gA (cpW (x) A B) 35) A v3)) := by
              rw [ec, fX10_patch_68, cf, fX10_patch_77]
            have k68 : kX10_patch_68 (fX7_claim x v1) v3 B A := by
              rw [ec]
              refine ⟨ck, wA, ?_⟩
              rw [cf]
              exact ⟨wA, trivial⟩
            have ea : fX11_adds (mP m A B v3) v1 = (gI m 1 + 0, sA (sI (mP m A B v3) 1 (gI m 1 + 0)) 10 (upd (gA m 10) A 1)) := by
              have g : ¬ gA (mP m A B v3) 10 v1.toNatClampNeg = 0 := by
                rw [hA]
                exact h5
              rw [fX11_adds, if_neg g, fX11_adds_19, hA, tvb1]
              rfl
            rw [e68, ea]
            refine ⟨kx k68, ?_⟩
            obtain ⟨hW, hV, hT, hP, hQ, hK, hM, hR, hN, hF, hC, hS, hE⟩ := h
            refine okI_r rfl ?_ ⟨⟨?_, ?_, ?_, ?_, ?_, ?_, ?_, ?_, ?_, ?_, ?_⟩, ⟨rf_upd b1 (b1 _) _, rf_upd b2 (b2 _) _, rf_upd b3 (b3 _) _, rf_upd b4 (b4 _) _, rf_upd b5 h3 _, rf_upd b6 (b6 _) _, rf_upd b7 (b7 _) _, rf_upd b8 (b8 _) _, rf_upd b9 (b9 _) _, ?_, ?_⟩, hT, hP, hQ, hK, hM, hR, hN, hF, hC, hS, hE⟩
            · show gI x 204 = gI m 1 + 0
              rw [Int32.add_zero, a11]
            · show upd (gA x 30) A (gA x 30 B) = upd (gA m 1) A (gA m 1 B)
              rw [a1]
            · show upd (gA x 31) A (gA x 31 B) = upd (gA m 2) A (gA m 2 B)
              rw [a2]
            · show upd (gA x 32) A (gA x 32 B) = upd (gA m 3) A (gA m 3 B)
              rw [a3]
            · show upd (gA x 33) A (gA x 33 B) = upd (gA m 4) A (gA m 4 B)
              rw [a4]
            · show upd (gA x 34) A (gA x 34 B) = upd (gA m 9) A (gA m 9 B)
              rw [a5]
            · show upd (upd (gA x 35) A (gA x 35 B)) A v3 = upd (gA m 5) A v3
              rw [upd_upd, a6]
            · show upd (gA x 36) A (gA x 36 B) = upd (gA m 6) A (gA m 6 B)
              rw [a7]
            · show upd (gA x 37) A (gA x 37 B) = upd (gA m 11) A (gA m 11 B)
              rw [a8]
            · show upd (gA x 38) A (gA x 38 B) = upd (gA m 7) A (gA m 7 B)
              rw [a9]
            · show gA x 39 = upd (gA m 10) A 1
              rw [hself, a10]
            · show gI x 204 = gI m 1 + 0
              rw [Int32.add_zero, a11]
            · show ∀ a, ¬ upd (gA m 10) A 1 a = 0 → isOrd (upd (gA m 9) A (gA m 9 B) a)
              rw [hself]
              exact ordo b10 (b10 B h4) A
            · show rf 0 1 (upd (gA m 10) A 1)
              rw [hself]
              exact b11
      · have ew := (w_at x v2).1
        simp +decide only [fX11_patch_154, kX11_patch_154, fX11_patch_112, kX11_patch_112, fX11_patch_46, kX11_patch_46, fX11_patch_27, kX11_patch_27, fX11_patch_26, kX11_patch_26, fX11_patch_19, kX11_patch_19, fX11_patch_9, kX11_patch_9, fX11_patch, kX11_patch, fX10_patch_77, kX10_patch_77, fX10_patch_68, kX10_patch_68, fX10_patch, kX10_patch, xb_inr, xb_inl, oc_some, oc_none, xk_requireIndex, xf_requireIndex, xk_requireNumber, xf_requireNumber, xk_requireNotBegun, fX10_requireNotBegun, xk_isOutside, xf_isOutside, mk_isIn, mf_isIn, mk_out, mf_out, mk_refuse, mf_refuse, tb1, tb0, tm_4, tm_64, tm_80, Int.reduceSub, tl_m1, tl_0, tl_1, tl_2, tl_3, tl_4, tl_5, tl_6, tl_7, tl_8, tl_9, tl_10, tl_11, tl_12, tl_13, tl_14, tl_15, tl_16, tl_20, tl_32, tl_48, tl_60, tl_63, tl_64, tl_79, tl_80, tl_96, tl_100, tl_127, tl_128, tl_200, tl_255, tl_256, eq_self, Classical.not_not, Sum.inr.injEq, Sum.inl.injEq, forall_eq', forall_eq, reduceCtorEq, implies_true, forall_const, true_and, and_true, and_self, false_implies, true_implies, not_true_eq_false, not_false_eq_true, if_true, if_false, eq_true h1, eq_true h1a, eq_true h1b, eq_true h2, eq_false h3]
        exact okI_l 1 rfl rfl h
    · simp +decide only [fX11_patch_154, kX11_patch_154, fX11_patch_112, kX11_patch_112, fX11_patch_46, kX11_patch_46, fX11_patch_27, kX11_patch_27, fX11_patch_26, kX11_patch_26, fX11_patch_19, kX11_patch_19, fX11_patch_9, kX11_patch_9, fX11_patch, kX11_patch, fX10_patch_77, kX10_patch_77, fX10_patch_68, kX10_patch_68, fX10_patch, kX10_patch, xb_inr, xb_inl, oc_some, oc_none, xk_requireIndex, xf_requireIndex, xk_requireNumber, xf_requireNumber, xk_requireNotBegun, fX10_requireNotBegun, xk_isOutside, xf_isOutside, mk_isIn, mf_isIn, mk_out, mf_out, mk_refuse, mf_refuse, tb1, tb0, tm_4, tm_64, tm_80, Int.reduceSub, tl_m1, tl_0, tl_1, tl_2, tl_3, tl_4, tl_5, tl_6, tl_7, tl_8, tl_9, tl_10, tl_11, tl_12, tl_13, tl_14, tl_15, tl_16, tl_20, tl_32, tl_48, tl_60, tl_63, tl_64, tl_79, tl_80, tl_96, tl_100, tl_127, tl_128, tl_200, tl_255, tl_256, eq_self, Classical.not_not, Sum.inr.injEq, Sum.inl.injEq, forall_eq', forall_eq, reduceCtorEq, implies_true, forall_const, true_and, and_true, and_self, false_implies, true_implies, not_true_eq_false, not_false_eq_true, if_true, if_false, eq_true h1, eq_true h1a, eq_true h1b, eq_false h2]
      exact okI_l 0 rfl rfl h
  · by_cases h1a : rg 0 79 v1
    · have h1b : ¬ 64 ≤ v1 := by
        rw [Int32.le_iff_toInt_le, tl_64]
        intro z
        exact h1 ⟨z, h1a.2⟩
      simp +decide only [fX11_patch_154, kX11_patch_154, fX11_patch_112, kX11_patch_112, fX11_patch_46, kX11_patch_46, fX11_patch_27, kX11_patch_27, fX11_patch_26, kX11_patch_26, fX11_patch_19, kX11_patch_19, fX11_patch_9, kX11_patch_9, fX11_patch, kX11_patch, fX10_patch_77, kX10_patch_77, fX10_patch_68, kX10_patch_68, fX10_patch, kX10_patch, xb_inr, xb_inl, oc_some, oc_none, xk_requireIndex, xf_requireIndex, xk_requireNumber, xf_requireNumber, xk_requireNotBegun, fX10_requireNotBegun, xk_isOutside, xf_isOutside, mk_isIn, mf_isIn, mk_out, mf_out, mk_refuse, mf_refuse, tb1, tb0, tm_4, tm_64, tm_80, Int.reduceSub, tl_m1, tl_0, tl_1, tl_2, tl_3, tl_4, tl_5, tl_6, tl_7, tl_8, tl_9, tl_10, tl_11, tl_12, tl_13, tl_14, tl_15, tl_16, tl_20, tl_32, tl_48, tl_60, tl_63, tl_64, tl_79, tl_80, tl_96, tl_100, tl_127, tl_128, tl_200, tl_255, tl_256, eq_self, Classical.not_not, Sum.inr.injEq, Sum.inl.injEq, forall_eq', forall_eq, reduceCtorEq, implies_true, forall_const, true_and, and_true, and_self, false_implies, true_implies, not_true_eq_false, not_false_eq_true, if_true, if_false, eq_false h1, eq_true h1a, eq_false h1b]
      exact okI_l 0 rfl rfl h
    · simp +decide only [fX11_patch_154, kX11_patch_154, fX11_patch_112, kX11_patch_112, fX11_patch_46, kX11_patch_46, fX11_patch_27, kX11_patch_27, fX11_patch_26, kX11_patch_26, fX11_patch_19, kX11_patch_19, fX11_patch_9, kX11_patch_9, fX11_patch, kX11_patch, fX10_patch_77, kX10_patch_77, fX10_patch_68, kX10_patch_68, fX10_patch, kX10_patch, xb_inr, xb_inl, oc_some, oc_none, xk_requireIndex, xf_requireIndex, xk_requireNumber, xf_requireNumber, xk_requireNotBegun, fX10_requireNotBegun, xk_isOutside, xf_isOutside, mk_isIn, mf_isIn, mk_out, mf_out, mk_refuse, mf_refuse, tb1, tb0, tm_4, tm_64, tm_80, Int.reduceSub, tl_m1, tl_0, tl_1, tl_2, tl_3, tl_4, tl_5, tl_6, tl_7, tl_8, tl_9, tl_10, tl_11, tl_12, tl_13, tl_14, tl_15, tl_16, tl_20, tl_32, tl_48, tl_60, tl_63, tl_64, tl_79, tl_80, tl_96, tl_100, tl_127, tl_128, tl_200, tl_255, tl_256, eq_self, Classical.not_not, Sum.inr.injEq, Sum.inl.injEq, forall_eq', forall_eq, reduceCtorEq, implies_true, forall_const, true_and, and_true, and_self, false_implies, true_implies, not_true_eq_false, not_false_eq_true, if_true, if_false, eq_false h1, eq_false h1a]
      exact okI_l 0 rfl rfl h
