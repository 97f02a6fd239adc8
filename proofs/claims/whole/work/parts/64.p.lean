/-! ===== PURE: free ===== -/
theorem x_isFree (q : SS) {v : Int32} (h : rg 0 63 v) : kX7_isFree q v ∧ fX7_isFree q v = (if gA q 39 v.toNatClampNeg = 0 ∧ gA q 13 v.toNatClampNeg = 0 then 1 else 0, q) := by
  have hin : vp_in v 80 := rin h (by decide)
  have hin2 : vp_in v 64 := rin h (by decide)
  by_cases h1 : gA q 39 v.toNatClampNeg = 0
  · by_cases h2 : gA q 13 v.toNatClampNeg = 0
    · simp +decide only [fX7_isFree_23, kX7_isFree_23, fX7_isFree_22, kX7_isFree_22, fX7_isFree, kX7_isFree, eq_self, Classical.not_not, Sum.inr.injEq, Sum.inl.injEq, forall_eq', forall_eq, reduceCtorEq, implies_true, forall_const, true_and, and_true, and_self, false_implies, true_implies, not_true_eq_false, not_false_eq_true, if_true, if_false, eq_true hin, eq_true hin2, h1, h2, nb_0, nb_1]
    · simp +decide only [fX7_isFree_23, kX7_isFree_23, fX7_isFree_22, kX7_isFree_22, fX7_isFree, kX7_isFree, eq_self, Classical.not_not, Sum.inr.injEq, Sum.inl.injEq, forall_eq', forall_eq, reduceCtorEq, implies_true, forall_const, true_and, and_true, and_self, false_implies, true_implies, not_true_eq_false, not_false_eq_true, if_true, if_false, eq_true hin, eq_true hin2, h1, h2, nb_0, nb_1, and_false]
  · simp +decide only [fX7_isFree_23, kX7_isFree_23, fX7_isFree_22, kX7_isFree_22, fX7_isFree, kX7_isFree, eq_self, Classical.not_not, Sum.inr.injEq, Sum.inl.injEq, forall_eq', forall_eq, reduceCtorEq, implies_true, forall_const, true_and, and_true, and_self, false_implies, true_implies, not_true_eq_false, not_false_eq_true, if_true, if_false, eq_true hin, eq_true hin2, h1, nb_0, nb_1, false_and]
theorem m_isFree (q : SS) {v : Int32} (h : rg 0 63 v) : kX11_isFree q v ∧ fX11_isFree q v = (if gA q 10 v.toNatClampNeg = 0 ∧ gA q 12 v.toNatClampNeg = 0 then 1 else 0, q) := by
  have hin : vp_in v 80 := rin h (by decide)
  by_cases h1 : gA q 10 v.toNatClampNeg = 0
  · by_cases h2 : gA q 12 v.toNatClampNeg = 0
    · simp +decide only [fX11_isFree_23, kX11_isFree_23, fX11_isFree_22, kX11_isFree_22, fX11_isFree, kX11_isFree, eq_self, Classical.not_not, Sum.inr.injEq, Sum.inl.injEq, forall_eq', forall_eq, reduceCtorEq, implies_true, forall_const, true_and, and_true, and_self, false_implies, true_implies, not_true_eq_false, not_false_eq_true, if_true, if_false, eq_true hin, h1, h2, nb_0, nb_1]
    · simp +decide only [fX11_isFree_23, kX11_isFree_23, fX11_isFree_22, kX11_isFree_22, fX11_isFree, kX11_isFree, eq_self, Classical.not_not, Sum.inr.injEq, Sum.inl.injEq, forall_eq', forall_eq, reduceCtorEq, implies_true, forall_const, true_and, and_true, and_self, false_implies, true_implies, not_true_eq_false, not_false_eq_true, if_true, if_false, eq_true hin, h1, h2, nb_0, nb_1, and_false]
  · simp +decide only [fX11_isFree_23, kX11_isFree_23, fX11_isFree_22, kX11_isFree_22, fX11_isFree, kX11_isFree, eq_self, Classical.not_not, Sum.inr.injEq, Sum.inl.injEq, forall_eq', forall_eq, reduceCtorEq, implies_true, forall_const, true_and, and_true, and_self, false_implies, true_implies, not_true_eq_false, not_false_eq_true, if_true, if_false, eq_true hin, h1, nb_0, nb_1, false_and]
theorem free_L {x m : SS} (a10 : gA x 39 = gA m 10) (t1 : gA x 13 = gA m 12) : ∀ (d n1 n2 i : Nat) (v : Int32), i + d = 64 → d < n1 → d < n2 → kX7_freeCount_4 n1 x v (nI i) ∧ kX11_free_4 n2 m v (nI i) ∧ ∃ r : Int32, fX7_freeCount_4 n1 x v (nI i) = (r, x) ∧ fX11_free_4 n2 m v (nI i) = (r, m) := by
  intro d
  induction d with
  | zero =>
    intro n1 n2 i v h h1 h2
    obtain ⟨k1, rfl⟩ := fuel h1
    obtain ⟨k2, rfl⟩ := fuel h2
    have hi : i = 64 := by omega
    subst hi
    have c : (64 : Int32) ≤ nI 64 := by decide
    refine ⟨⟨fun _ => trivial, fun e => absurd c e⟩, ⟨fun _ => trivial, fun e => absurd c e⟩, v, ?_, ?_⟩
    · rw [fX7_freeCount_4, if_pos c]
    · rw [fX11_free_4, if_pos c]
  | succ d ih =>
    intro n1 n2 i v h h1 h2
    obtain ⟨k1, rfl⟩ := fuel h1
    obtain ⟨k2, rfl⟩ := fuel h2
    have c : ¬ (64 : Int32) ≤ nI i := nle (n := 64) (by omega) (by decide) rfl
    have hr : rg 0 63 (nI i) := by
      rw [rg, nI_toInt (by omega)]
      omega
    have hx := x_isFree x hr
    have hm := m_isFree m hr
    rw [a10, t1] at hx
    by_cases hc : gA m 10 (nI i).toNatClampNeg = 0 ∧ gA m 12 (nI i).toNatClampNeg = 0
    · rw [if_pos hc] at hx hm
      obtain ⟨a1, a2, r, a3, a4⟩ := ih k1 k2 (i + 1) (v + 1) (by omega) (by omega) (by omega)
      refine ⟨⟨fun e => absurd e c, fun _ => ⟨hx.1, ?_⟩⟩, ⟨fun e => absurd e c, fun _ => ⟨hm.1, ?_⟩⟩, r, ?_, ?_⟩
      · rw [hx.2]
        simp +decide only [kX7_freeCount_15, kX7_freeCount_21, eq_self, Classical.not_not, Sum.inr.injEq, Sum.inl.injEq, forall_eq', forall_eq, reduceCtorEq, implies_true, forall_const, true_and, and_true, and_self, false_implies, true_implies, not_true_eq_false, not_false_eq_true, if_true, if_false, nI_1]
        exact a1
      · rw [hm.2]
        simp +decide only [kX11_free_16, kX11_free_24, eq_self, Classical.not_not, Sum.inr.injEq, Sum.inl.injEq, forall_eq', forall_eq, reduceCtorEq, implies_true, forall_const, true_and, and_true, and_self, false_implies, true_implies, not_true_eq_false, not_false_eq_true, if_true, if_false, nI_1]
        exact a2
      · rw [fX7_freeCount_4, if_neg c, hx.2]
        simp +decide only [fX7_freeCount_15, fX7_freeCount_21, eq_self, Classical.not_not, Sum.inr.injEq, Sum.inl.injEq, forall_eq', forall_eq, reduceCtorEq, implies_true, forall_const, true_and, and_true, and_self, false_implies, true_implies, not_true_eq_false, not_false_eq_true, if_true, if_false, nI_1]
        exact a3
      · rw [fX11_free_4, if_neg c, hm.2]
        simp +decide only [fX11_free_16, fX11_free_24, eq_self, Classical.not_not, Sum.inr.injEq, Sum.inl.injEq, forall_eq', forall_eq, reduceCtorEq, implies_true, forall_const, true_and, and_true, and_self, false_implies, true_implies, not_true_eq_false, not_false_eq_true, if_true, if_false, nI_1]
        exact a4
    · rw [if_neg hc] at hx hm
      obtain ⟨a1, a2, r, a3, a4⟩ := ih k1 k2 (i + 1) v (by omega) (by omega) (by omega)
      refine ⟨⟨fun e => absurd e c, fun _ => ⟨hx.1, ?_⟩⟩, ⟨fun e => absurd e c, fun _ => ⟨hm.1, ?_⟩⟩, r, ?_, ?_⟩
      · rw [hx.2]
        simp +decide only [kX7_freeCount_15, kX7_freeCount_21, eq_self, Classical.not_not, Sum.inr.injEq, Sum.inl.injEq, forall_eq', forall_eq, reduceCtorEq, implies_true, forall_const, true_and, and_true, and_self, false_implies, true_implies, not_true_eq_false, not_false_eq_true, if_true, if_false, nI_1]
        exact a1
      · rw [hm.2]
        simp +decide only [kX11_free_16, kX11_free_24, eq_self, Classical.not_not, Sum.inr.injEq, Sum.inl.injEq, forall_eq', forall_eq, reduceCtorEq, implies_true, forall_const, true_and, and_true, and_self, false_implies, true_implies, not_true_eq_false, not_false_eq_true, if_true, if_false, nI_1, Int32.add_zero]
        exact a2
      · rw [fX7_freeCount_4, if_neg c, hx.2]
        simp +decide only [fX7_freeCount_15, fX7_freeCount_21, eq_self, Classical.not_not, Sum.inr.injEq, Sum.inl.injEq, forall_eq', forall_eq, reduceCtorEq, implies_true, forall_const, true_and, and_true, and_self, false_implies, true_implies, not_true_eq_false, not_false_eq_true, if_true, if_false, nI_1]
        exact a3
      · rw [fX11_free_4, if_neg c, hm.2]
        simp +decide only [fX11_free_16, fX11_free_24, eq_self, Classical.not_not, Sum.inr.injEq, Sum.inl.injEq, forall_eq', forall_eq, reduceCtorEq, implies_true, forall_const, true_and, and_true, and_self, false_implies, true_implies, not_true_eq_false, not_false_eq_true, if_true, if_false, nI_1, Int32.add_zero]
        exact a4
theorem op_free {c : Int} {x m : SS} (h : R c x m) : kX11_free m ∧ kX10_free x ∧ (fX10_free x).1 = (fX11_free m).1 ∧ R c (fX10_free x).2 (fX11_free m).2 := by
  have a10 : gA x 39 = gA m 10 := h.1.2.2.2.2.2.2.2.2.2.1
  have t1 : gA x 13 = gA m 12 := h.2.2.1.1
  obtain ⟨k1, k2, r, e1, e2⟩ := free_L a10 t1 64 70 130 0 0 rfl (by decide) (by decide)
  have e1' : fX7_freeCount_4 70 x 0 0 = (r, x) := e1
  have e2' : fX11_free_4 130 m 0 0 = (r, m) := e2
  refine ⟨k2, ⟨k1, trivial⟩, ?_, ?_⟩
  · rw [fX10_free, fX7_freeCount, e1', fX11_free, e2']
  · rw [fX10_free, fX7_freeCount, e1', fX11_free, e2']
    exact h
