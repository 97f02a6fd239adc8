/-! ===== PURE: tested bits, both sides ===== -/
theorem e01 : (0 : Int32) ||| 1 = 1 := by decide
theorem t8 {t : Int32} (h : rg 0 7 t) : ∃ n, n < 8 ∧ t = nI n := tof (n := 8) h.1 (by have := h.2; omega) (by decide)
theorem x_bits10 (q : SS) {t : Int32} (ht : rg 0 7 t) : kX6_testedBits_10 q t ∧ fX6_testedBits_10 q t = (tb t (gI q 703) (gI q 704) (gI q 514) (gI q 706), q) := by
  constructor
  · simp +decide only [kX6_testedBits_10, kX6_testedBits_27, kX6_testedBits_42, kX6_testedBits_64, eq_self, Classical.not_not, Sum.inr.injEq, Sum.inl.injEq, forall_eq', forall_eq, reduceCtorEq, implies_true, forall_const, true_and, and_true, and_self, false_implies, true_implies, not_true_eq_false, not_false_eq_true, if_true, if_false]
  · obtain ⟨n, hn, rfl⟩ := t8 ht
    by_cases hz : gI q 703 = 1
    · by_cases hk : gI q 704 = 1
      · by_cases hi : gI q 514 = 0
        · by_cases hg : gI q 706 = 1
          · have h := tbx n hn true true false
            simp only [Bool.false_eq_true, if_true, if_false, Int32.or_zero, Int32.zero_or] at h
            simp only [fX6_testedBits_10, fX6_testedBits_27, fX6_testedBits_42, fX6_testedBits_64, tb, hz, hk, hi, hg, if_true, if_false, e01, Int32.or_zero, Int32.zero_or, ← h]
          · have h := tbx n hn true true false
            simp only [Bool.false_eq_true, if_true, if_false, Int32.or_zero, Int32.zero_or] at h
            simp only [fX6_testedBits_10, fX6_testedBits_27, fX6_testedBits_42, fX6_testedBits_64, tb, hz, hk, hi, hg, if_true, if_false, e01, Int32.or_zero, Int32.zero_or, ← h]
        · by_cases hg : gI q 706 = 1
          · have h := tbx n hn true true true
            simp only [Bool.false_eq_true, if_true, if_false, Int32.or_zero, Int32.zero_or] at h
            simp only [fX6_testedBits_10, fX6_testedBits_27, fX6_testedBits_42, fX6_testedBits_64, tb, hz, hk, hi, hg, if_true, if_false, e01, Int32.or_zero, Int32.zero_or, ← h]
          · have h := tbx n hn true true false
            simp only [Bool.false_eq_true, if_true, if_false, Int32.or_zero, Int32.zero_or] at h
            simp only [fX6_testedBits_10, fX6_testedBits_27, fX6_testedBits_42, fX6_testedBits_64, tb, hz, hk, hi, hg, if_true, if_false, e01, Int32.or_zero, Int32.zero_or, ← h]
      · by_cases hi : gI q 514 = 0
        · by_cases hg : gI q 706 = 1
          · have h := tbx n hn true false false
            simp only [Bool.false_eq_true, if_true, if_false, Int32.or_zero, Int32.zero_or] at h
            simp only [fX6_testedBits_10, fX6_testedBits_27, fX6_testedBits_42, fX6_testedBits_64, tb, hz, hk, hi, hg, if_true, if_false, e01, Int32.or_zero, Int32.zero_or, ← h]
          · have h := tbx n hn true false false
            simp only [Bool.false_eq_true, if_true, if_false, Int32.or_zero, Int32.zero_or] at h
            simp only [fX6_testedBits_10, fX6_testedBits_27, fX6_testedBits_42, fX6_testedBits_64, tb, hz, hk, hi, hg, if_true, if_false, e01, Int32.or_zero, Int32.zero_or, ← h]
        · by_cases hg : gI q 706 = 1
          · have h := tbx n hn true false true
            simp only [Bool.false_eq_true, if_true, if_false, Int32.or_zero, Int32.zero_or] at h
            simp only [fX6_testedBits_10, fX6_testedBits_27, fX6_testedBits_42, fX6_testedBits_64, tb, hz, hk, hi, hg, if_true, if_false, e01, Int32.or_zero, Int32.zero_or, ← h]
          · have h := tbx n hn true false false
            simp only [Bool.false_eq_true, if_true, if_false, Int32.or_zero, Int32.zero_or] at h
            simp only [fX6_testedBits_10, fX6_testedBits_27, fX6_testedBits_42, fX6_testedBits_64, tb, hz, hk, hi, hg, if_true, if_false, e01, Int32.or_zero, Int32.zero_or, ← h]
    · by_cases hk : gI q 704 = 1
      · by_cases hi : gI q 514 = 0
        · by_cases hg : gI q 706 = 1
          · have h := tbx n hn false true false
            simp only [Bool.false_eq_true, if_true, if_false, Int32.or_zero, Int32.zero_or] at h
            simp only [fX6_testedBits_10, fX6_testedBits_27, fX6_testedBits_42, fX6_testedBits_64, tb, hz, hk, hi, hg, if_true, if_false, e01, Int32.or_zero, Int32.zero_or, ← h]
          · have h := tbx n hn false true false
            simp only [Bool.false_eq_true, if_true, if_false, Int32.or_zero, Int32.zero_or] at h
            simp only [fX6_testedBits_10, fX6_testedBits_27, fX6_testedBits_42, fX6_testedBits_64, tb, hz, hk, hi, hg, if_true, if_false, e01, Int32.or_zero, Int32.zero_or, ← h]
        · by_cases hg : gI q 706 = 1
          · have h := tbx n hn false true true
            simp only [Bool.false_eq_true, if_true, if_false, Int32.or_zero, Int32.zero_or] at h
            simp only [fX6_testedBits_10, fX6_testedBits_27, fX6_testedBits_42, fX6_testedBits_64, tb, hz, hk, hi, hg, if_true, if_false, e01, Int32.or_zero, Int32.zero_or, ← h]
          · have h := tbx n hn false true false
            simp only [Bool.false_eq_true, if_true, if_false, Int32.or_zero, Int32.zero_or] at h
            simp only [fX6_testedBits_10, fX6_testedBits_27, fX6_testedBits_42, fX6_testedBits_64, tb, hz, hk, hi, hg, if_true, if_false, e01, Int32.or_zero, Int32.zero_or, ← h]
      · by_cases hi : gI q 514 = 0
        · by_cases hg : gI q 706 = 1
          · have h := tbx n hn false false false
            simp only [Bool.false_eq_true, if_true, if_false, Int32.or_zero, Int32.zero_or] at h
            simp only [fX6_testedBits_10, fX6_testedBits_27, fX6_testedBits_42, fX6_testedBits_64, tb, hz, hk, hi, hg, if_true, if_false, e01, Int32.or_zero, Int32.zero_or, ← h]
          · have h := tbx n hn false false false
            simp only [Bool.false_eq_true, if_true, if_false, Int32.or_zero, Int32.zero_or] at h
            simp only [fX6_testedBits_10, fX6_testedBits_27, fX6_testedBits_42, fX6_testedBits_64, tb, hz, hk, hi, hg, if_true, if_false, e01, Int32.or_zero, Int32.zero_or, ← h]
        · by_cases hg : gI q 706 = 1
          · have h := tbx n hn false false true
            simp only [Bool.false_eq_true, if_true, if_false, Int32.or_zero, Int32.zero_or] at h
            simp only [fX6_testedBits_10, fX6_testedBits_27, fX6_testedBits_42, fX6_testedBits_64, tb, hz, hk, hi, hg, if_true, if_false, e01, Int32.or_zero, Int32.zero_or, ← h]
          · have h := tbx n hn false false false
            simp only [Bool.false_eq_true, if_true, if_false, Int32.or_zero, Int32.zero_or] at h
            simp only [fX6_testedBits_10, fX6_testedBits_27, fX6_testedBits_42, fX6_testedBits_64, tb, hz, hk, hi, hg, if_true, if_false, e01, Int32.or_zero, Int32.zero_or, ← h]
theorem c_comb (q : SS) (k t b : Int32) : (fX11_combined q k t b).2 = q := by
  simp only [fX11_combined_90, kX11_combined_90, fX11_combined, kX11_combined]
  (repeat' split) <;> rfl
theorem c_c64 (q : SS) (s : Int32) : (fX11_carry_64 q s).2 = q := by
  rw [fX11_carry_64]
  split <;> rfl
theorem c_c46 (q : SS) (k b : Int32) : (fX11_carry_46 q k b).2 = q := by
  rw [fX11_carry_46]
  split
  · split
    · exact c_c64 _ _
    · exact c_c64 _ _
  · exact c_c64 _ _
theorem c_c36 (q : SS) (k b : Int32) : (fX11_carry_36 q k b).2 = q := by
  rw [fX11_carry_36]
  split
  · split
    · exact c_c64 _ _
    · exact c_c46 _ _ _
  · exact c_c46 _ _ _
theorem c_c24 (q : SS) (k b : Int32) : (fX11_carry_24 q k b).2 = q := by
  rw [fX11_carry_24]
  split
  · split
    · exact c_c64 _ _
    · exact c_c36 _ _ _
  · exact c_c36 _ _ _
theorem c_c14 (q : SS) (k t b : Int32) : (fX11_carry_14 q k t b).2 = q := by
  rw [fX11_carry_14]
  split
  · split
    · exact c_c64 _ _
    · exact c_c24 _ _ _
  · exact c_c24 _ _ _
theorem c_carry (q : SS) (k t b : Int32) : (fX11_carry q k t b).2 = q := by
  rw [fX11_carry]
  split
  · split
    · exact c_c64 _ _
    · exact c_c14 _ _ _ _
  · exact c_c14 _ _ _ _
theorem finds_A (m : SS) {j : Nat} (hj : ¬ j = 15) : gA (fX11_finds m) j = gA m j := by
  by_cases h : gI m 26 = 0
  · rw [fX11_finds, if_pos h]
  · rw [fX11_finds, if_neg h, c_comb, fX11_finds_33]
    split <;> (rw [fX11_finds_41, c_carry, fX11_finds_63]; simp only [gI_sI, gI_sL, gI_sA, gI_sB, gL_sI, gL_sL, gL_sA, gL_sB, gA_sI, gA_sL, gA_sA, gA_sB, gB_sI, gB_sL, gB_sA, gB_sB, upd_at, Nat.reduceEqDiff, if_true, if_false, reduceIte, hj])
theorem tb_rg {t z k i g : Int32} (ht : rg 0 7 t) : rg 0 7 (tb t z k i g) := by
  obtain ⟨n, hn, rfl⟩ := t8 ht
  have key : ∀ a b d : Bool, rg 0 7 (((if nI n &&& 1 = 0 then 0 else (if a then (1 : Int32) else 0)) ||| (if nI n &&& 2 = 0 then 0 else (if b then 2 else 0))) ||| (if nI n &&& 4 = 0 then 0 else (if d then 4 else 0))) := by
    intro a b d
    rw [← tbx n hn a b d, Int32.and_comm]
    have e : nI n &&& 7 = nI n := tand2 3 (by decide) (by decide) ht.1 (by have := ht.2; omega)
    rw [← e, Int32.and_comm, ← Int32.and_assoc]
    exact rg_and _ 3 (by decide) (by decide) (by decide)
  have h := key (decide (z = 1)) (decide (k = 1)) (decide (¬ i = 0) && decide (g = 1))
  have e : tb (nI n) z k i g = ((if nI n &&& 1 = 0 then 0 else (if decide (z = 1) = true then (1 : Int32) else 0)) ||| (if nI n &&& 2 = 0 then 0 else (if decide (k = 1) = true then 2 else 0))) ||| (if nI n &&& 4 = 0 then 0 else (if (decide (¬ i = 0) && decide (g = 1)) = true then 4 else 0)) := by
    unfold tb
    simp only [decide_eq_true_eq, Bool.and_eq_true]
    by_cases hi : i = 0
    · simp only [hi, if_true, not_true_eq_false, false_and, if_false]
    · simp only [hi, if_false, not_false_eq_true, true_and]
  rw [e]
  exact h
theorem bits_R {c : Int} {x m : SS} (h : R c x m) {a : Int32} (ha : rg 0 79 a) : kX11_bits m a ∧ kX6_testedBits x (gA m 6 a.toNatClampNeg) ∧ ∃ b : Int32, rg 0 7 b ∧ (fX6_testedBits x (gA m 6 a.toNatClampNeg)).1 = b ∧ (fX11_bits m a).1 = b ∧ R c (fX6_testedBits x (gA m 6 a.toNatClampNeg)).2 (fX11_bits m a).2 := by
  have hin : vp_in a 80 := rin ha (by decide)
  have key : ∀ (x m2 : SS), R c x m2 → gA m2 6 = gA m 6 → kX11_bits_15 m2 a ∧ kX6_testedBits_10 x (gA m 6 a.toNatClampNeg) ∧ ∃ b : Int32, rg 0 7 b ∧ (fX6_testedBits_10 x (gA m 6 a.toNatClampNeg)).1 = b ∧ (fX11_bits_15 m2 a).1 = b ∧ R c (fX6_testedBits_10 x (gA m 6 a.toNatClampNeg)).2 (fX11_bits_15 m2 a).2 := by
    intro x m2 h e6
    have ht : rg 0 7 (gA m 6 a.toNatClampNeg) := by
      rw [← e6]
      exact h.2.1.2.2.2.2.2.1 _
    have hm := m_bits15 m2 hin
    have hx := x_bits10 x ht
    have hRR := h
    obtain ⟨hW, hV, hT, hP, hQ, hK, hM, hR, hN, hF, hC, hS, hE⟩ := h
    obtain ⟨n1, n2, n3, n4, n5, n6, n7, n8, n9, n10, n11, n12, n13, n14, n15⟩ := hN
    obtain ⟨p0, p1, p2, p3, p4, p5, p6, p7, p8, p9, p10, p11, p12⟩ := hP
    rw [hm.2, hx.2, e6, p3, p4, n8, p6]
    exact ⟨hm.1, hx.1, _, tb_rg ht, rfl, rfl, hRR⟩
  obtain ⟨f1, f2, f3⟩ := finds_R h
  by_cases h3 : gA m 6 a.toNatClampNeg &&& 3 = 0
  · simp only [fX11_bits, kX11_bits, fX6_testedBits, kX6_testedBits, h3, eq_self, Classical.not_not, Sum.inr.injEq, Sum.inl.injEq, forall_eq', forall_eq, reduceCtorEq, implies_true, forall_const, true_and, and_true, and_self, false_implies, true_implies, not_true_eq_false, not_false_eq_true, if_true, if_false, eq_true hin]
    exact key x m h rfl
  · simp only [fX11_bits, kX11_bits, fX6_testedBits, kX6_testedBits, h3, eq_self, Classical.not_not, Sum.inr.injEq, Sum.inl.injEq, forall_eq', forall_eq, reduceCtorEq, implies_true, forall_const, true_and, and_true, and_self, false_implies, true_implies, not_true_eq_false, not_false_eq_true, if_true, if_false, eq_true hin, eq_true f1, eq_true f2]
    exact key _ _ f3 (finds_A m (by decide))
