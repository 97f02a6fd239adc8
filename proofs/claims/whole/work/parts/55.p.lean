/-! ===== PURE: a result is listened to ===== -/
theorem li_8 {c : Int} {x m : SS} (h : R1 c x m) {to v : Int32} (hv : rg 0 255 v) : kX6_takeResult_130 x to v ∧ kX11_listens_134 m v to ∧ R1 c (fX6_takeResult_130 x to v) (fX11_listens_134 m v to) := by
  by_cases hb : to &&& 128 = 0
  · simp +decide only [fX6_takeResult_130, kX6_takeResult_130, fX11_listens_134, kX11_listens_134, fX6_takeResult_146, kX6_takeResult_146, fX11_listens_151, kX11_listens_151, eq_self, Classical.not_not, Sum.inr.injEq, Sum.inl.injEq, forall_eq', forall_eq, reduceCtorEq, implies_true, forall_const, true_and, and_true, and_self, false_implies, true_implies, not_true_eq_false, not_false_eq_true, if_true, if_false, hb]
    exact h
  · simp +decide only [fX6_takeResult_130, kX6_takeResult_130, fX11_listens_134, kX11_listens_134, fX6_takeResult_146, kX6_takeResult_146, fX11_listens_151, kX11_listens_151, eq_self, Classical.not_not, Sum.inr.injEq, Sum.inl.injEq, forall_eq', forall_eq, reduceCtorEq, implies_true, forall_const, true_and, and_true, and_self, false_implies, true_implies, not_true_eq_false, not_false_eq_true, if_true, if_false, hb, cl_14, eq_true in_14_16]
    exact R1_X h hv
theorem li_7 {c : Int} {x m : SS} (h : R1 c x m) {to v s : Int32} (hv : rg 0 255 v) (hs : rg 0 3 s) : kX6_takeResult_112 x to v s ∧ kX11_listens_118 m v s to ∧ R1 c (fX6_takeResult_112 x to v s) (fX11_listens_118 m v s to) := by
  by_cases hb : to &&& 64 = 0
  · simp only [fX6_takeResult_112, kX6_takeResult_112, fX11_listens_118, kX11_listens_118, eq_self, Classical.not_not, Sum.inr.injEq, Sum.inl.injEq, forall_eq', forall_eq, reduceCtorEq, implies_true, forall_const, true_and, and_true, and_self, false_implies, true_implies, not_true_eq_false, not_false_eq_true, if_true, if_false, hb]
    exact li_8 (h) hv
  · simp only [fX6_takeResult_112, kX6_takeResult_112, fX11_listens_118, kX11_listens_118, eq_self, Classical.not_not, Sum.inr.injEq, Sum.inl.injEq, forall_eq', forall_eq, reduceCtorEq, implies_true, forall_const, true_and, and_true, and_self, false_implies, true_implies, not_true_eq_false, not_false_eq_true, if_true, if_false, hb, eq_true (rin hs (by decide) : vp_in s 4), eq_true (rin hs (by decide) : vp_in s 16)]
    exact li_8 (R1_reg h hv (ridx hs (by decide))) hv
theorem li_6 {c : Int} {x m : SS} (h : R1 c x m) {to v f s : Int32} (hv : rg 0 255 v) (hf : rg 0 3 f) (hs : rg 0 3 s) : kX6_takeResult_95 x to v f s ∧ kX11_listens_103 m v f s to ∧ R1 c (fX6_takeResult_95 x to v f s) (fX11_listens_103 m v f s to) := by
  by_cases hb : to &&& 32 = 0
  · simp only [fX6_takeResult_95, kX6_takeResult_95, fX11_listens_103, kX11_listens_103, eq_self, Classical.not_not, Sum.inr.injEq, Sum.inl.injEq, forall_eq', forall_eq, reduceCtorEq, implies_true, forall_const, true_and, and_true, and_self, false_implies, true_implies, not_true_eq_false, not_false_eq_true, if_true, if_false, hb]
    exact li_7 (h) hv hs
  · simp only [fX6_takeResult_95, kX6_takeResult_95, fX11_listens_103, kX11_listens_103, eq_self, Classical.not_not, Sum.inr.injEq, Sum.inl.injEq, forall_eq', forall_eq, reduceCtorEq, implies_true, forall_const, true_and, and_true, and_self, false_implies, true_implies, not_true_eq_false, not_false_eq_true, if_true, if_false, hb, eq_true (rin hf (by decide) : vp_in f 4), eq_true (rin hf (by decide) : vp_in f 16)]
    exact li_7 (R1_reg h hv (ridx hf (by decide))) hv hs
theorem li_5 {c : Int} {x m : SS} (h : R1 c x m) {to v f s : Int32} (hv : rg 0 255 v) (hf : rg 0 3 f) (hs : rg 0 3 s) : kX6_takeResult_77 x to v f s ∧ kX11_listens_85 m v f s to ∧ R1 c (fX6_takeResult_77 x to v f s) (fX11_listens_85 m v f s to) := by
  by_cases hb : to &&& 16 = 0
  · simp only [fX6_takeResult_77, kX6_takeResult_77, fX11_listens_85, kX11_listens_85, eq_self, Classical.not_not, Sum.inr.injEq, Sum.inl.injEq, forall_eq', forall_eq, reduceCtorEq, implies_true, forall_const, true_and, and_true, and_self, false_implies, true_implies, not_true_eq_false, not_false_eq_true, if_true, if_false, hb]
    exact li_6 (h) hv hf hs
  · simp only [fX6_takeResult_77, kX6_takeResult_77, fX11_listens_85, kX11_listens_85, eq_self, Classical.not_not, Sum.inr.injEq, Sum.inl.injEq, forall_eq', forall_eq, reduceCtorEq, implies_true, forall_const, true_and, and_true, and_self, false_implies, true_implies, not_true_eq_false, not_false_eq_true, if_true, if_false, hb, mo64 hv, cl_4, eq_true (tin (by decide) (by decide) : vp_in 4 16)]
    exact li_6 (R1_P h (rg63 v)) hv hf hs
theorem li_4 {c : Int} {x m : SS} (h : R1 c x m) {to v f s : Int32} (hv : rg 0 255 v) (hf : rg 0 3 f) (hs : rg 0 3 s) : kX6_takeResult_62 x to v f s ∧ kX11_listens_69 m v f s to ∧ R1 c (fX6_takeResult_62 x to v f s) (fX11_listens_69 m v f s to) := by
  by_cases hb : to &&& 8 = 0
  · simp only [fX6_takeResult_62, kX6_takeResult_62, fX11_listens_69, kX11_listens_69, eq_self, Classical.not_not, Sum.inr.injEq, Sum.inl.injEq, forall_eq', forall_eq, reduceCtorEq, implies_true, forall_const, true_and, and_true, and_self, false_implies, true_implies, not_true_eq_false, not_false_eq_true, if_true, if_false, hb]
    exact li_5 (h) hv hf hs
  · simp only [fX6_takeResult_62, kX6_takeResult_62, fX11_listens_69, kX11_listens_69, eq_self, Classical.not_not, Sum.inr.injEq, Sum.inl.injEq, forall_eq', forall_eq, reduceCtorEq, implies_true, forall_const, true_and, and_true, and_self, false_implies, true_implies, not_true_eq_false, not_false_eq_true, if_true, if_false, hb, cl_13, eq_true (tin (by decide) (by decide) : vp_in 13 16)]
    exact li_5 (R1_D h hv) hv hf hs
theorem li_3 {c : Int} {x m : SS} (h : R1 c x m) {to v f s : Int32} (hv : rg 0 255 v) (hf : rg 0 3 f) (hs : rg 0 3 s) : kX6_takeResult_45 x to v f s ∧ kX11_listens_51 m v f s to ∧ R1 c (fX6_takeResult_45 x to v f s) (fX11_listens_51 m v f s to) := by
  by_cases hb : to &&& 4 = 0
  · simp only [fX6_takeResult_45, kX6_takeResult_45, fX11_listens_51, kX11_listens_51, eq_self, Classical.not_not, Sum.inr.injEq, Sum.inl.injEq, forall_eq', forall_eq, reduceCtorEq, implies_true, forall_const, true_and, and_true, and_self, false_implies, true_implies, not_true_eq_false, not_false_eq_true, if_true, if_false, hb]
    exact li_4 (h) hv hf hs
  · simp only [fX6_takeResult_45, kX6_takeResult_45, fX11_listens_51, kX11_listens_51, eq_self, Classical.not_not, Sum.inr.injEq, Sum.inl.injEq, forall_eq', forall_eq, reduceCtorEq, implies_true, forall_const, true_and, and_true, and_self, false_implies, true_implies, not_true_eq_false, not_false_eq_true, if_true, if_false, hb, mo64 hv, cl_12, eq_true (tin (by decide) (by decide) : vp_in 12 16)]
    exact li_4 (R1_A h (rg63 v)) hv hf hs
theorem li_2 {c : Int} {x m : SS} (h : R1 c x m) {to v f s : Int32} (hv : rg 0 255 v) (hf : rg 0 3 f) (hs : rg 0 3 s) : kX6_takeResult_31 x to v f s ∧ kX11_listens_36 m v f s to ∧ R1 c (fX6_takeResult_31 x to v f s) (fX11_listens_36 m v f s to) := by
  by_cases hb : to &&& 2 = 0
  · simp only [fX6_takeResult_31, kX6_takeResult_31, fX11_listens_36, kX11_listens_36, eq_self, Classical.not_not, Sum.inr.injEq, Sum.inl.injEq, forall_eq', forall_eq, reduceCtorEq, implies_true, forall_const, true_and, and_true, and_self, false_implies, true_implies, not_true_eq_false, not_false_eq_true, if_true, if_false, hb]
    exact li_3 (h) hv hf hs
  · simp only [fX6_takeResult_31, kX6_takeResult_31, fX11_listens_36, kX11_listens_36, eq_self, Classical.not_not, Sum.inr.injEq, Sum.inl.injEq, forall_eq', forall_eq, reduceCtorEq, implies_true, forall_const, true_and, and_true, and_self, false_implies, true_implies, not_true_eq_false, not_false_eq_true, if_true, if_false, hb, cl_11, eq_true (tin (by decide) (by decide) : vp_in 11 16)]
    exact li_3 (R1_U h hv) hv hf hs
theorem li_1 {c : Int} {x m : SS} (h : R1 c x m) {a v f s : Int32} (ha : vp_in a 80) (hv : rg 0 255 v) (hf : rg 0 3 f) (hs : rg 0 3 s) : kX6_takeResult_15 x (gA m 3 a.toNatClampNeg) v f s ∧ kX11_listens_11 m a v f s ∧ R1 c (fX6_takeResult_15 x (gA m 3 a.toNatClampNeg) v f s) (fX11_listens_11 m a v f s) := by
  by_cases hb : gA m 3 a.toNatClampNeg &&& 1 = 0
  · simp only [fX6_takeResult_15, kX6_takeResult_15, fX11_listens_11, kX11_listens_11, eq_self, Classical.not_not, Sum.inr.injEq, Sum.inl.injEq, forall_eq', forall_eq, reduceCtorEq, implies_true, forall_const, true_and, and_true, and_self, false_implies, true_implies, not_true_eq_false, not_false_eq_true, if_true, if_false, hb, eq_true ha]
    exact li_2 h hv hf hs
  · simp only [fX6_takeResult_15, kX6_takeResult_15, fX11_listens_11, kX11_listens_11, eq_self, Classical.not_not, Sum.inr.injEq, Sum.inl.injEq, forall_eq', forall_eq, reduceCtorEq, implies_true, forall_const, true_and, and_true, and_self, false_implies, true_implies, not_true_eq_false, not_false_eq_true, if_true, if_false, hb, eq_true ha, cl_10, eq_true (tin (by decide) (by decide) : vp_in 10 16)]
    exact li_2 (R1_T h hv) hv hf hs
theorem listens_R {c : Int} {x m : SS} (h : R1 c x m) {a v : Int32} (ha : vp_in a 80) (hv : rg 0 255 v) : kX6_takeResult x (gA m 3 a.toNatClampNeg) v ∧ kX11_listens m a v ∧ R1 c (fX6_takeResult x (gA m 3 a.toNatClampNeg) v) (fX11_listens m a v) := by
  have q14 : rg 0 255 (gA m 15 14) := h.1.2.2.2.2.1.2.2.2.2.2.1
  have q15 : rg 0 1 (gA m 15 15) := h.1.2.2.2.2.1.2.2.2.2.2.2
  have p11 : gI x 904 = gA m 15 14 := h.1.2.2.2.1.2.2.2.2.2.2.2.2.2.2.2.1
  have p12 : gI x 905 = gA m 15 15 := h.1.2.2.2.1.2.2.2.2.2.2.2.2.2.2.2.2
  obtain ⟨e1, e2⟩ := m_reg0 m q14 q15
  obtain ⟨e3, e4⟩ := m_reg1 m q14 q15
  obtain ⟨e5, e6⟩ := x_first x (by rw [p12]; exact q15)
  obtain ⟨e7, e8⟩ := x_second x (by rw [p12]; exact q15)
  have hl := li_1 h ha hv (ra3 (gA m 15 14) (gA m 15 15)) (rb3 (gA m 15 14) (gA m 15 15))
  simp only [fX6_takeResult, kX6_takeResult, fX6_takeResult_7, kX6_takeResult_7, fX11_listens, kX11_listens, fX11_listens_5, kX11_listens_5, e2, e4, e6, e8, p11, p12, eq_true e1, eq_true e3, eq_true e5, eq_true e7, eq_self, Classical.not_not, Sum.inr.injEq, Sum.inl.injEq, forall_eq', forall_eq, reduceCtorEq, implies_true, forall_const, true_and, and_true, and_self, false_implies, true_implies, not_true_eq_false, not_false_eq_true, if_true, if_false]
  exact hl
