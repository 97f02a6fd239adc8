/-! ===== PURE: a fault, where a way leads, tested bits ===== -/
theorem page_R {x m : SS} {c : Int} (h : R c x m) : gI x 902 = gA m 15 12 ∧ ((gA m 15 12 &&& 63) / 16) = gA m 15 12 / 16 ∧ rg 0 3 (gA m 15 12 / 16) := by
  have q12 : rg 0 63 (gA m 15 12) := h.2.2.2.2.1.2.2.2.1
  have e63 : gA m 15 12 &&& 63 = gA m 15 12 := tand2 6 (by decide) (by decide) q12.1 (by have := q12.2; omega)
  have e := tdiv (a := gA m 15 12) tl_16 (by decide) q12.1
  have g1 := q12.1
  have g2 := q12.2
  refine ⟨h.2.2.2.1.2.2.2.2.2.2.2.2.2.1, by rw [e63], by omega, by omega⟩
theorem fault_R {c : Int} {x m : SS} (h : R c x m) : kX6_fault x ∧ kX11_back (sI (sI (sI m 14 (gI m 14 + 1)) 23 119) 5 (gA m 15 12 / 16)) ∧ R c (fX6_fault x) (fX11_back (sI (sI (sI m 14 (gI m 14 + 1)) 23 119) 5 (gA m 15 12 / 16))) := by
  obtain ⟨p9, e1, e2⟩ := page_R h
  have h2 : R c (sI (sI (sI x 405 (gI x 405 + 1)) 512 119) 513 (gA m 15 12 / 16)) (sI (sI (sI m 14 (gI m 14 + 1)) 23 119) 5 (gA m 15 12 / 16)) := by
    obtain ⟨hW, hV, hT, hP, hQ, hK, hM, hR, hN, hF, hC, hS, hE⟩ := h
    obtain ⟨n1, n2, n3, n4, n5, n6, n7, n8, n9, n10, n11, n12, n13, n14, n15⟩ := hN
    obtain ⟨c1, c2, c3, c4, c5, c6, c7⟩ := hC
    refine ⟨hW, hV, hT, hP, hQ, hK, hM, hR, ⟨n1, n2, n3, n4, rfl, ⟨(by decide : (0 : Int) ≤ (119 : Int32).toInt), (by decide : (119 : Int32).toInt ≤ 65535)⟩, fun _ => rfl, n8, n9, n10, n11, n12, n13, n14, n15⟩, hF, ⟨c1, c2, c3, c4, ?_, c6, c7⟩, hS, hE⟩
    show gI x 405 + 1 = gI m 14 + 1
    rw [c5]
  obtain ⟨a1, a2, a3⟩ := back_R h2
  have ep : (gI x 902 &&& 63) / 16 = gA m 15 12 / 16 := by
    rw [p9, e1]
  refine ⟨⟨trivial, ?_, trivial⟩, a1, ?_⟩
  · show kX6_takeBack (sI (sI (sI x 405 (gI x 405 + 1)) 512 119) 513 ((gI x 902 &&& 63) / 16))
    rw [ep]
    exact a2
  · show R c (fX6_takeBack (sI (sI (sI x 405 (gI x 405 + 1)) 512 119) 513 ((gI x 902 &&& 63) / 16))) _
    rw [ep]
    exact a3
/-- where a way leads on -/
def flw (m : SS) (v : Int32) : Int32 := if rg 0 79 v then (if gA m 8 v.toNatClampNeg = -1 then v else gA m 8 v.toNatClampNeg) else v
theorem m_follows (q : SS) (v : Int32) : kX11_follows q v ∧ fX11_follows q v = (flw q v, q) := by
  by_cases h1 : rg 0 79 v
  · have hin : vp_in v 80 := rin h1 (by decide)
    by_cases h2 : gA q 8 v.toNatClampNeg = -1
    · simp +decide only [fX11_follows_30, kX11_follows_30, fX11_follows_29, kX11_follows_29, fX11_follows_7, kX11_follows_7, fX11_follows, kX11_follows, flw, xb_inr, xb_inl, oc_some, oc_none, xk_requireIndex, xf_requireIndex, xk_requireNumber, xf_requireNumber, xk_requireNotBegun, fX10_requireNotBegun, xk_isOutside, xf_isOutside, mk_isIn, mf_isIn, mk_out, mf_out, mk_refuse, mf_refuse, tb1, tb0, tm_4, tm_64, tm_80, Int.reduceSub, tl_m1, tl_0, tl_1, tl_2, tl_3, tl_4, tl_5, tl_6, tl_7, tl_8, tl_9, tl_10, tl_11, tl_12, tl_13, tl_14, tl_15, tl_16, tl_20, tl_32, tl_48, tl_60, tl_63, tl_64, tl_79, tl_80, tl_96, tl_100, tl_127, tl_128, tl_200, tl_255, tl_256, eq_self, Classical.not_not, Sum.inr.injEq, Sum.inl.injEq, forall_eq', forall_eq, reduceCtorEq, implies_true, forall_const, true_and, and_true, and_self, false_implies, true_implies, not_true_eq_false, not_false_eq_true, if_true, if_false, eq_true h1, eq_true hin, h2]
    · simp +decide only [fX11_follows_30, kX11_follows_30, fX11_follows_29, kX11_follows_29, fX11_follows_7, kX11_follows_7, fX11_follows, kX11_follows, flw, xb_inr, xb_inl, oc_some, oc_none, xk_requireIndex, xf_requireIndex, xk_requireNumber, xf_requireNumber, xk_requireNotBegun, fX10_requireNotBegun, xk_isOutside, xf_isOutside, mk_isIn, mf_isIn, mk_out, mf_out, mk_refuse, mf_refuse, tb1, tb0, tm_4, tm_64, tm_80, Int.reduceSub, tl_m1, tl_0, tl_1, tl_2, tl_3, tl_4, tl_5, tl_6, tl_7, tl_8, tl_9, tl_10, tl_11, tl_12, tl_13, tl_14, tl_15, tl_16, tl_20, tl_32, tl_48, tl_60, tl_63, tl_64, tl_79, tl_80, tl_96, tl_100, tl_127, tl_128, tl_200, tl_255, tl_256, eq_self, Classical.not_not, Sum.inr.injEq, Sum.inl.injEq, forall_eq', forall_eq, reduceCtorEq, implies_true, forall_const, true_and, and_true, and_self, false_implies, true_implies, not_true_eq_false, not_false_eq_true, if_true, if_false, eq_true h1, eq_true hin, h2]
  · simp +decide only [fX11_follows_30, kX11_follows_30, fX11_follows_29, kX11_follows_29, fX11_follows_7, kX11_follows_7, fX11_follows, kX11_follows, flw, xb_inr, xb_inl, oc_some, oc_none, xk_requireIndex, xf_requireIndex, xk_requireNumber, xf_requireNumber, xk_requireNotBegun, fX10_requireNotBegun, xk_isOutside, xf_isOutside, mk_isIn, mf_isIn, mk_out, mf_out, mk_refuse, mf_refuse, tb1, tb0, tm_4, tm_64, tm_80, Int.reduceSub, tl_m1, tl_0, tl_1, tl_2, tl_3, tl_4, tl_5, tl_6, tl_7, tl_8, tl_9, tl_10, tl_11, tl_12, tl_13, tl_14, tl_15, tl_16, tl_20, tl_32, tl_48, tl_60, tl_63, tl_64, tl_79, tl_80, tl_96, tl_100, tl_127, tl_128, tl_200, tl_255, tl_256, eq_self, Classical.not_not, Sum.inr.injEq, Sum.inl.injEq, forall_eq', forall_eq, reduceCtorEq, implies_true, forall_const, true_and, and_true, and_self, false_implies, true_implies, not_true_eq_false, not_false_eq_true, if_true, if_false, eq_false h1]
theorem x_followed {q m : SS} (t4 : gA q 15 = gA m 8) (v : Int32) : kX7_followed q v ∧ fX7_followed q v = (flw m v, q) := by
  by_cases h1 : rg 0 79 v
  · have hin : vp_in v 80 := rin h1 (by decide)
    have hc := x_isCaught q h1
    by_cases h2 : gA m 8 v.toNatClampNeg = -1
    · simp +decide only [fX7_followed_18, kX7_followed_18, fX7_followed_5, kX7_followed_5, fX7_followed, kX7_followed, flw, xb_inr, xb_inl, oc_some, oc_none, xk_requireIndex, xf_requireIndex, xk_requireNumber, xf_requireNumber, xk_requireNotBegun, fX10_requireNotBegun, xk_isOutside, xf_isOutside, mk_isIn, mf_isIn, mk_out, mf_out, mk_refuse, mf_refuse, tb1, tb0, tm_4, tm_64, tm_80, Int.reduceSub, tl_m1, tl_0, tl_1, tl_2, tl_3, tl_4, tl_5, tl_6, tl_7, tl_8, tl_9, tl_10, tl_11, tl_12, tl_13, tl_14, tl_15, tl_16, tl_20, tl_32, tl_48, tl_60, tl_63, tl_64, tl_79, tl_80, tl_96, tl_100, tl_127, tl_128, tl_200, tl_255, tl_256, eq_self, Classical.not_not, Sum.inr.injEq, Sum.inl.injEq, forall_eq', forall_eq, reduceCtorEq, implies_true, forall_const, true_and, and_true, and_self, false_implies, true_implies, not_true_eq_false, not_false_eq_true, if_true, if_false, eq_true h1, eq_true hin, eq_true hc.1, hc.2, t4, h2]
    · simp +decide only [fX7_followed_18, kX7_followed_18, fX7_followed_5, kX7_followed_5, fX7_followed, kX7_followed, flw, xb_inr, xb_inl, oc_some, oc_none, xk_requireIndex, xf_requireIndex, xk_requireNumber, xf_requireNumber, xk_requireNotBegun, fX10_requireNotBegun, xk_isOutside, xf_isOutside, mk_isIn, mf_isIn, mk_out, mf_out, mk_refuse, mf_refuse, tb1, tb0, tm_4, tm_64, tm_80, Int.reduceSub, tl_m1, tl_0, tl_1, tl_2, tl_3, tl_4, tl_5, tl_6, tl_7, tl_8, tl_9, tl_10, tl_11, tl_12, tl_13, tl_14, tl_15, tl_16, tl_20, tl_32, tl_48, tl_60, tl_63, tl_64, tl_79, tl_80, tl_96, tl_100, tl_127, tl_128, tl_200, tl_255, tl_256, eq_self, Classical.not_not, Sum.inr.injEq, Sum.inl.injEq, forall_eq', forall_eq, reduceCtorEq, implies_true, forall_const, true_and, and_true, and_self, false_implies, true_implies, not_true_eq_false, not_false_eq_true, if_true, if_false, eq_true h1, eq_true hin, eq_true hc.1, hc.2, t4, h2]
  · have hc := x_isCaughtO q h1
    simp +decide only [fX7_followed_18, kX7_followed_18, fX7_followed_5, kX7_followed_5, fX7_followed, kX7_followed, flw, xb_inr, xb_inl, oc_some, oc_none, xk_requireIndex, xf_requireIndex, xk_requireNumber, xf_requireNumber, xk_requireNotBegun, fX10_requireNotBegun, xk_isOutside, xf_isOutside, mk_isIn, mf_isIn, mk_out, mf_out, mk_refuse, mf_refuse, tb1, tb0, tm_4, tm_64, tm_80, Int.reduceSub, tl_m1, tl_0, tl_1, tl_2, tl_3, tl_4, tl_5, tl_6, tl_7, tl_8, tl_9, tl_10, tl_11, tl_12, tl_13, tl_14, tl_15, tl_16, tl_20, tl_32, tl_48, tl_60, tl_63, tl_64, tl_79, tl_80, tl_96, tl_100, tl_127, tl_128, tl_200, tl_255, tl_256, eq_self, Classical.not_not, Sum.inr.injEq, Sum.inl.injEq, forall_eq', forall_eq, reduceCtorEq, implies_true, forall_const, true_and, and_true, and_self, false_implies, true_implies, not_true_eq_false, not_false_eq_true, if_true, if_false, eq_false h1, eq_true hc.1, hc.2]
theorem flw_rg {c : Int} {x m : SS} (h : R c x m) {v : Int32} (hv : rg (-1) 80 v) : rg (-1) 80 (flw m v) := by
  unfold flw
  split
  · split
    · exact hv
    · rcases h.2.2.1.2.2.2.2.1 v.toNatClampNeg with e | e
      · exact absurd e (by assumption)
      · exact e.mono (by decide) (by decide)
  · exact hv
theorem next_R {c : Int} {x m : SS} (h : R c x m) {n : Int32} (hn : rg (-1) 80 n) : R c (sI x 510 n) (sI m 6 n) := by
  obtain ⟨hW, hV, hT, hP, hQ, hK, hM, hR, hN, hF, hC, hS, hE⟩ := h
  obtain ⟨n1, n2, n3, n4, n5, n6, n7, n8, n9, n10, n11, n12, n13, n14, n15⟩ := hN
  exact ⟨hW, hV, hT, hP, hQ, hK, hM, hR, ⟨rfl, hn, n3, n4, n5, n6, n7, n8, n9, n10, n11, n12, n13, n14, n15⟩, hF, hC, hS, hE⟩
/-- the bits that a word's tests find -/
def tb (t z k i g : Int32) : Int32 := ((if t &&& 1 = 0 then 0 else (if z = 1 then 1 else 0)) ||| (if t &&& 2 = 0 then 0 else (if k = 1 then 2 else 0))) ||| (if t &&& 4 = 0 then 0 else (if i = 0 then 0 else (if g = 1 then 4 else 0)))
theorem m_bits15 (q : SS) {a : Int32} (ha : vp_in a 80) : kX11_bits_15 q a ∧ fX11_bits_15 q a = (tb (gA q 6 a.toNatClampNeg) (gA q 15 5) (gA q 15 6) (gI q 24) (gA q 15 8), q) := by
  constructor
  · simp +decide only [fX11_bits_107, kX11_bits_107, fX11_bits_106, kX11_bits_106, fX11_bits_70, kX11_bits_70, fX11_bits_69, kX11_bits_69, fX11_bits_41, kX11_bits_41, fX11_bits_40, kX11_bits_40, fX11_bits_15, kX11_bits_15, fX11_bits, kX11_bits, eq_self, Classical.not_not, Sum.inr.injEq, Sum.inl.injEq, forall_eq', forall_eq, reduceCtorEq, implies_true, forall_const, true_and, and_true, and_self, false_implies, true_implies, not_true_eq_false, not_false_eq_true, if_true, if_false, eq_true ha, cl_5, cl_6, cl_8]
  · simp only [fX11_bits_107, kX11_bits_107, fX11_bits_106, kX11_bits_106, fX11_bits_70, kX11_bits_70, fX11_bits_69, kX11_bits_69, fX11_bits_41, kX11_bits_41, fX11_bits_40, kX11_bits_40, fX11_bits_15, kX11_bits_15, fX11_bits, kX11_bits, tb, cl_5, cl_6, cl_8]
    (repeat' split) <;> first | rfl | (exfalso; simp_all; done) | simp_all
def xb10 (t z k i g : Int32) : Int32 := (((if z = 1 then 1 else 0) ||| (if k = 1 then 2 else 0)) ||| (if i = 0 then 0 else (if g = 1 then 4 else 0))) &&& t
theorem tbx : ∀ n, n < 8 → ∀ a b : Bool, ∀ d : Bool, (((if a then (1 : Int32) else 0) ||| (if b then 2 else 0)) ||| (if d then 4 else 0)) &&& nI n = ((if nI n &&& 1 = 0 then 0 else (if a then (1 : Int32) else 0)) ||| (if nI n &&& 2 = 0 then 0 else (if b then 2 else 0))) ||| (if nI n &&& 4 = 0 then 0 else (if d then 4 else 0)) := by decide +kernel
