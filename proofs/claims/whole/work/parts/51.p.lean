/-! ===== PURE: what a combination makes and carries ===== -/
def cmb (k t b : Int32) : Int32 := (fX10_resultOf q00 k t b).1
def cry (k t b : Int32) : Int32 := (fX10_hasCarry q00 k t b).1
theorem xk_resultOf (q : SS) (k t b : Int32) : kX10_resultOf q k t b = True := by
  simp +decide only [fX10_resultOf, kX10_resultOf, eq_self, Classical.not_not, Sum.inr.injEq, Sum.inl.injEq, forall_eq', forall_eq, reduceCtorEq, implies_true, forall_const, true_and, and_true, and_self, false_implies, true_implies, not_true_eq_false, not_false_eq_true, if_true, if_false]
theorem xf_resultOf (q : SS) (k t b : Int32) : fX10_resultOf q k t b = (cmb k t b, q) := by
  simp only [cmb, fX10_resultOf]
  (repeat' split) <;> rfl
theorem xk_hasCarry (q : SS) (k t b : Int32) : kX10_hasCarry q k t b = True := by
  simp +decide only [fX10_hasCarry_58, kX10_hasCarry_58, fX10_hasCarry_69, kX10_hasCarry_69, fX10_hasCarry_82, kX10_hasCarry_82, fX10_hasCarry_92, kX10_hasCarry_92, fX10_hasCarry_105, kX10_hasCarry_105, fX10_hasCarry_106, kX10_hasCarry_106, fX10_hasCarry, kX10_hasCarry, eq_self, Classical.not_not, Sum.inr.injEq, Sum.inl.injEq, forall_eq', forall_eq, reduceCtorEq, implies_true, forall_const, true_and, and_true, and_self, false_implies, true_implies, not_true_eq_false, not_false_eq_true, if_true, if_false, nb_0, nb_1]
theorem xf_hasCarry (q : SS) (k t b : Int32) : fX10_hasCarry q k t b = (cry k t b, q) := by
  simp only [cry, fX10_hasCarry_58, kX10_hasCarry_58, fX10_hasCarry_69, kX10_hasCarry_69, fX10_hasCarry_82, kX10_hasCarry_82, fX10_hasCarry_92, kX10_hasCarry_92, fX10_hasCarry_105, kX10_hasCarry_105, fX10_hasCarry_106, kX10_hasCarry_106, fX10_hasCarry, kX10_hasCarry]
  (repeat' split) <;> rfl
theorem cry01 (k t b : Int32) : rg 0 1 (cry k t b) := by
  simp only [cry, fX10_hasCarry_58, kX10_hasCarry_58, fX10_hasCarry_69, kX10_hasCarry_69, fX10_hasCarry_82, kX10_hasCarry_82, fX10_hasCarry_92, kX10_hasCarry_92, fX10_hasCarry_105, kX10_hasCarry_105, fX10_hasCarry_106, kX10_hasCarry_106, fX10_hasCarry, kX10_hasCarry]
  (repeat' split) <;> first | exact rg_0 | exact rg_1
theorem rg_and (x : Int32) {m : Int32} (k : Nat) {hi : Int} (hm : m.toBitVec.toNat = 2 ^ k - 1) (hk : k ≤ 30) (h : (2 : Int) ^ k = hi + 1) : rg 0 hi (x &&& m) := by
  rw [rg, tand x k hm hk, h]
  have h0 : (0 : Int) < hi + 1 := by
    rw [← h]
    exact Int.pow_pos (by decide)
  exact ⟨Int.emod_nonneg _ (by omega), by have := Int.emod_lt_of_pos x.toInt h0; omega⟩
theorem b255 {v : Int32} (h : rg 0 255 v) : v &&& 255 = v := tand2 8 (by decide) (by decide) h.1 (by have := h.2; omega)
theorem rg_band {t b : Int32} (hb : rg 0 255 b) : rg 0 255 (t &&& b) := by
  rw [← b255 hb, ← Int32.and_assoc]
  exact rg_and _ 8 (by decide) (by decide) (by decide)
theorem rg_bxor {t b : Int32} (ht : rg 0 255 t) (hb : rg 0 255 b) : rg 0 255 (t ^^^ b) := by
  obtain ⟨i, hi, rfl⟩ := tof (n := 256) ht.1 (by have := ht.2; omega) (by decide)
  obtain ⟨j, hj, rfl⟩ := tof (n := 256) hb.1 (by have := hb.2; omega) (by decide)
  have h1 : i ^^^ j < 2 ^ 8 := Nat.xor_lt_two_pow hi hj
  have h2 : nI i ^^^ nI j = nI (i ^^^ j) := by
    apply Int32.toBitVec_inj.mp
    apply BitVec.eq_of_toNat_eq
    rw [Int32.toBitVec_xor, BitVec.toNat_xor, pk_tn (by omega), pk_tn (by omega), pk_tn (by omega)]
  rw [h2, rg, nI_toInt (by omega)]
  omega
theorem k8 {k : Int32} (h : rg 0 7 k) : k = 0 ∨ k = 1 ∨ k = 2 ∨ k = 3 ∨ k = 4 ∨ k = 5 ∨ k = 6 ∨ k = 7 := by
  have h1 := h.1
  have h2 := h.2
  rw [tI, tI, tI, tI, tI, tI, tI, tI, tl_0, tl_1, tl_2, tl_3, tl_4, tl_5, tl_6, tl_7]
  omega
theorem shr1 : ∀ n, n < 256 → ((nI n) >>> ((1 : Int32) &&& 31)) = nI n / 2 := by decide +kernel
theorem m_combined (q : SS) {k t b : Int32} (hk : rg 0 7 k) (ht : rg 0 255 t) (hb : rg 0 255 b) : fX11_combined q k t b = (cmb k t b, q) ∧ rg 0 255 (cmb k t b) := by
  have t1 := ht.1
  have t2 := ht.2
  have b1 := hb.1
  have b2 := hb.2
  have a1 : (t + b).toInt = t.toInt + b.toInt := tadd (by omega) (by omega)
  have a2 : (t - b).toInt = t.toInt - b.toInt := tsub (by omega) (by omega)
  have a3 : (t + 256).toInt = t.toInt + 256 := by
    rw [tadd (by rw [tl_256]; omega) (by rw [tl_256]; omega), tl_256]
  have a4 : (t + 256 - b).toInt = t.toInt + 256 - b.toInt := by
    rw [tsub (by omega) (by omega), a3]
  have a5 : (b + 1).toInt = b.toInt + 1 := by
    rw [tadd (by rw [tl_1]; omega) (by rw [tl_1]; omega), tl_1]
  have a6 : (b - 1).toInt = b.toInt - 1 := by
    rw [tsub (by rw [tl_1]; omega) (by rw [tl_1]; omega), tl_1]
  have a7 : (b + 255).toInt = b.toInt + 255 := by
    rw [tadd (by rw [tl_255]; omega) (by rw [tl_255]; omega), tl_255]
  have r255 : ∀ x : Int32, rg 0 255 (x &&& 255) := fun x => rg_and x 8 (by decide) (by decide) (by decide)
  rcases k8 hk with rfl | rfl | rfl | rfl | rfl | rfl | rfl | rfl
  · exact ⟨rfl, hb⟩
  · refine ⟨?_, r255 _⟩
    show ((t + b) - (t + b) / 256 * 256, q) = ((t + b) &&& 255, q)
    congr 1
    rw [tI, tmod tl_256 (by decide) (by decide) (by omega), tand _ 8 (by decide) (by decide)]
    rfl
  · refine ⟨?_, r255 _⟩
    show ((t + 256 - b) - (t + 256 - b) / 256 * 256, q) = ((t - b) &&& 255, q)
    congr 1
    rw [tI, tmod tl_256 (by decide) (by decide) (by omega), tand _ 8 (by decide) (by decide), a4, a2]
    show _ = (t.toInt - b.toInt) % 256
    omega
  · exact ⟨rfl, rg_band hb⟩
  · exact ⟨rfl, rg_bxor ht hb⟩
  · refine ⟨?_, r255 _⟩
    show ((b + 1) - (b + 1) / 256 * 256, q) = ((b + 1) &&& 255, q)
    congr 1
    rw [tI, tmod tl_256 (by decide) (by decide) (by omega), tand _ 8 (by decide) (by decide)]
    rfl
  · refine ⟨?_, r255 _⟩
    show ((b + 255) - (b + 255) / 256 * 256, q) = ((b - 1) &&& 255, q)
    congr 1
    rw [tI, tmod tl_256 (by decide) (by decide) (by omega), tand _ 8 (by decide) (by decide), a7, a6]
    show _ = (b.toInt - 1) % 256
    omega
  · obtain ⟨n, hn, rfl⟩ := tof (n := 256) hb.1 (by omega) (by decide)
    have e := shr1 n hn
    have h2 := tdiv (a := nI n) (b := 2) (n := 2) tl_2 (by decide) b1
    refine ⟨?_, ?_⟩
    · show (nI n / 2, q) = (nI n >>> ((1 : Int32) &&& 31), q)
      rw [e]
    · show rg 0 255 (nI n >>> ((1 : Int32) &&& 31))
      rw [e, rg, h2]
      omega
theorem mk_combined (q : SS) (k t b : Int32) : kX11_combined q k t b = True := by
  simp +decide only [fX11_combined_90, kX11_combined_90, fX11_combined, kX11_combined, eq_self, Classical.not_not, Sum.inr.injEq, Sum.inl.injEq, forall_eq', forall_eq, reduceCtorEq, implies_true, forall_const, true_and, and_true, and_self, false_implies, true_implies, not_true_eq_false, not_false_eq_true, if_true, if_false]
theorem mk_carry (q : SS) (k t b : Int32) : kX11_carry q k t b = True := by
  simp +decide only [fX11_carry_74, kX11_carry_74, fX11_carry_64, kX11_carry_64, fX11_carry_63, kX11_carry_63, fX11_carry_59, kX11_carry_59, fX11_carry_46, kX11_carry_46, fX11_carry_36, kX11_carry_36, fX11_carry_24, kX11_carry_24, fX11_carry_14, kX11_carry_14, fX11_carry, kX11_carry, eq_self, Classical.not_not, Sum.inr.injEq, Sum.inl.injEq, forall_eq', forall_eq, reduceCtorEq, implies_true, forall_const, true_and, and_true, and_self, false_implies, true_implies, not_true_eq_false, not_false_eq_true, if_true, if_false]
theorem odd1 : ∀ n, n < 256 → (decide (nI n &&& 1 = 1) = decide (nI n - nI n / 2 * 2 = 1)) := by decide +kernel
theorem m_carry (q : SS) {k t b : Int32} (hk : rg 0 7 k) (ht : rg 0 255 t) (hb : rg 0 255 b) : fX11_carry q k t b = (cry k t b, q) := by
  have t1 := ht.1
  have t2 := ht.2
  have b1 := hb.1
  have b2 := hb.2
  have a1 : (t + b).toInt = t.toInt + b.toInt := tadd (by omega) (by omega)
  rcases k8 hk with rfl | rfl | rfl | rfl | rfl | rfl | rfl | rfl
  · rfl
  · by_cases h : t + b < 256
    · have h' : ¬ 255 < t + b := by
        rw [Int32.lt_iff_toInt_lt, tl_256] at h
        rw [Int32.lt_iff_toInt_lt, tl_255]
        omega
      simp +decide only [cry, fX10_hasCarry_58, kX10_hasCarry_58, fX10_hasCarry_69, kX10_hasCarry_69, fX10_hasCarry_82, kX10_hasCarry_82, fX10_hasCarry_92, kX10_hasCarry_92, fX10_hasCarry_105, kX10_hasCarry_105, fX10_hasCarry_106, kX10_hasCarry_106, fX10_hasCarry, kX10_hasCarry, fX11_carry_74, kX11_carry_74, fX11_carry_64, kX11_carry_64, fX11_carry_63, kX11_carry_63, fX11_carry_59, kX11_carry_59, fX11_carry_46, kX11_carry_46, fX11_carry_36, kX11_carry_36, fX11_carry_24, kX11_carry_24, fX11_carry_14, kX11_carry_14, fX11_carry, kX11_carry, eq_self, Classical.not_not, Sum.inr.injEq, Sum.inl.injEq, forall_eq', forall_eq, reduceCtorEq, implies_true, forall_const, true_and, and_true, and_self, false_implies, true_implies, not_true_eq_false, not_false_eq_true, if_true, if_false, h, h']
    · have h' : 255 < t + b := by
        rw [Int32.lt_iff_toInt_lt, tl_256] at h
        rw [Int32.lt_iff_toInt_lt, tl_255]
        omega
      simp +decide only [cry, fX10_hasCarry_58, kX10_hasCarry_58, fX10_hasCarry_69, kX10_hasCarry_69, fX10_hasCarry_82, kX10_hasCarry_82, fX10_hasCarry_92, kX10_hasCarry_92, fX10_hasCarry_105, kX10_hasCarry_105, fX10_hasCarry_106, kX10_hasCarry_106, fX10_hasCarry, kX10_hasCarry, fX11_carry_74, kX11_carry_74, fX11_carry_64, kX11_carry_64, fX11_carry_63, kX11_carry_63, fX11_carry_59, kX11_carry_59, fX11_carry_46, kX11_carry_46, fX11_carry_36, kX11_carry_36, fX11_carry_24, kX11_carry_24, fX11_carry_14, kX11_carry_14, fX11_carry, kX11_carry, eq_self, Classical.not_not, Sum.inr.injEq, Sum.inl.injEq, forall_eq', forall_eq, reduceCtorEq, implies_true, forall_const, true_and, and_true, and_self, false_implies, true_implies, not_true_eq_false, not_false_eq_true, if_true, if_false, h, h']
  · by_cases h : t < b
    · have h' : ¬ b ≤ t := by
        rw [Int32.lt_iff_toInt_lt] at h
        rw [Int32.le_iff_toInt_le]
        omega
      simp +decide only [cry, fX10_hasCarry_58, kX10_hasCarry_58, fX10_hasCarry_69, kX10_hasCarry_69, fX10_hasCarry_82, kX10_hasCarry_82, fX10_hasCarry_92, kX10_hasCarry_92, fX10_hasCarry_105, kX10_hasCarry_105, fX10_hasCarry_106, kX10_hasCarry_106, fX10_hasCarry, kX10_hasCarry, fX11_carry_74, kX11_carry_74, fX11_carry_64, kX11_carry_64, fX11_carry_63, kX11_carry_63, fX11_carry_59, kX11_carry_59, fX11_carry_46, kX11_carry_46, fX11_carry_36, kX11_carry_36, fX11_carry_24, kX11_carry_24, fX11_carry_14, kX11_carry_14, fX11_carry, kX11_carry, eq_self, Classical.not_not, Sum.inr.injEq, Sum.inl.injEq, forall_eq', forall_eq, reduceCtorEq, implies_true, forall_const, true_and, and_true, and_self, false_implies, true_implies, not_true_eq_false, not_false_eq_true, if_true, if_false, h, h']
    · have h' : b ≤ t := by
        rw [Int32.lt_iff_toInt_lt] at h
        rw [Int32.le_iff_toInt_le]
        omega
      simp +decide only [cry, fX10_hasCarry_58, kX10_hasCarry_58, fX10_hasCarry_69, kX10_hasCarry_69, fX10_hasCarry_82, kX10_hasCarry_82, fX10_hasCarry_92, kX10_hasCarry_92, fX10_hasCarry_105, kX10_hasCarry_105, fX10_hasCarry_106, kX10_hasCarry_106, fX10_hasCarry, kX10_hasCarry, fX11_carry_74, kX11_carry_74, fX11_carry_64, kX11_carry_64, fX11_carry_63, kX11_carry_63, fX11_carry_59, kX11_carry_59, fX11_carry_46, kX11_carry_46, fX11_carry_36, kX11_carry_36, fX11_carry_24, kX11_carry_24, fX11_carry_14, kX11_carry_14, fX11_carry, kX11_carry, eq_self, Classical.not_not, Sum.inr.injEq, Sum.inl.injEq, forall_eq', forall_eq, reduceCtorEq, implies_true, forall_const, true_and, and_true, and_self, false_implies, true_implies, not_true_eq_false, not_false_eq_true, if_true, if_false, h, h']
  · rfl
  · rfl
  · by_cases h : b = 255
    · simp +decide only [cry, fX10_hasCarry_58, kX10_hasCarry_58, fX10_hasCarry_69, kX10_hasCarry_69, fX10_hasCarry_82, kX10_hasCarry_82, fX10_hasCarry_92, kX10_hasCarry_92, fX10_hasCarry_105, kX10_hasCarry_105, fX10_hasCarry_106, kX10_hasCarry_106, fX10_hasCarry, kX10_hasCarry, fX11_carry_74, kX11_carry_74, fX11_carry_64, kX11_carry_64, fX11_carry_63, kX11_carry_63, fX11_carry_59, kX11_carry_59, fX11_carry_46, kX11_carry_46, fX11_carry_36, kX11_carry_36, fX11_carry_24, kX11_carry_24, fX11_carry_14, kX11_carry_14, fX11_carry, kX11_carry, eq_self, Classical.not_not, Sum.inr.injEq, Sum.inl.injEq, forall_eq', forall_eq, reduceCtorEq, implies_true, forall_const, true_and, and_true, and_self, false_implies, true_implies, not_true_eq_false, not_false_eq_true, if_true, if_false, h]
    · simp +decide only [cry, fX10_hasCarry_58, kX10_hasCarry_58, fX10_hasCarry_69, kX10_hasCarry_69, fX10_hasCarry_82, kX10_hasCarry_82, fX10_hasCarry_92, kX10_hasCarry_92, fX10_hasCarry_105, kX10_hasCarry_105, fX10_hasCarry_106, kX10_hasCarry_106, fX10_hasCarry, kX10_hasCarry, fX11_carry_74, kX11_carry_74, fX11_carry_64, kX11_carry_64, fX11_carry_63, kX11_carry_63, fX11_carry_59, kX11_carry_59, fX11_carry_46, kX11_carry_46, fX11_carry_36, kX11_carry_36, fX11_carry_24, kX11_carry_24, fX11_carry_14, kX11_carry_14, fX11_carry, kX11_carry, eq_self, Classical.not_not, Sum.inr.injEq, Sum.inl.injEq, forall_eq', forall_eq, reduceCtorEq, implies_true, forall_const, true_and, and_true, and_self, false_implies, true_implies, not_true_eq_false, not_false_eq_true, if_true, if_false, h]
  · by_cases h : b = 0
    · simp +decide only [cry, fX10_hasCarry_58, kX10_hasCarry_58, fX10_hasCarry_69, kX10_hasCarry_69, fX10_hasCarry_82, kX10_hasCarry_82, fX10_hasCarry_92, kX10_hasCarry_92, fX10_hasCarry_105, kX10_hasCarry_105, fX10_hasCarry_106, kX10_hasCarry_106, fX10_hasCarry, kX10_hasCarry, fX11_carry_74, kX11_carry_74, fX11_carry_64, kX11_carry_64, fX11_carry_63, kX11_carry_63, fX11_carry_59, kX11_carry_59, fX11_carry_46, kX11_carry_46, fX11_carry_36, kX11_carry_36, fX11_carry_24, kX11_carry_24, fX11_carry_14, kX11_carry_14, fX11_carry, kX11_carry, eq_self, Classical.not_not, Sum.inr.injEq, Sum.inl.injEq, forall_eq', forall_eq, reduceCtorEq, implies_true, forall_const, true_and, and_true, and_self, false_implies, true_implies, not_true_eq_false, not_false_eq_true, if_true, if_false, h]
    · simp +decide only [cry, fX10_hasCarry_58, kX10_hasCarry_58, fX10_hasCarry_69, kX10_hasCarry_69, fX10_hasCarry_82, kX10_hasCarry_82, fX10_hasCarry_92, kX10_hasCarry_92, fX10_hasCarry_105, kX10_hasCarry_105, fX10_hasCarry_106, kX10_hasCarry_106, fX10_hasCarry, kX10_hasCarry, fX11_carry_74, kX11_carry_74, fX11_carry_64, kX11_carry_64, fX11_carry_63, kX11_carry_63, fX11_carry_59, kX11_carry_59, fX11_carry_46, kX11_carry_46, fX11_carry_36, kX11_carry_36, fX11_carry_24, kX11_carry_24, fX11_carry_14, kX11_carry_14, fX11_carry, kX11_carry, eq_self, Classical.not_not, Sum.inr.injEq, Sum.inl.injEq, forall_eq', forall_eq, reduceCtorEq, implies_true, forall_const, true_and, and_true, and_self, false_implies, true_implies, not_true_eq_false, not_false_eq_true, if_true, if_false, h]
  · obtain ⟨n, hn, rfl⟩ := tof (n := 256) hb.1 (by omega) (by decide)
    have e := decide_eq_decide.mp (odd1 n hn)
    by_cases h : nI n &&& 1 = 1
    · simp +decide only [cry, fX10_hasCarry_58, kX10_hasCarry_58, fX10_hasCarry_69, kX10_hasCarry_69, fX10_hasCarry_82, kX10_hasCarry_82, fX10_hasCarry_92, kX10_hasCarry_92, fX10_hasCarry_105, kX10_hasCarry_105, fX10_hasCarry_106, kX10_hasCarry_106, fX10_hasCarry, kX10_hasCarry, fX11_carry_74, kX11_carry_74, fX11_carry_64, kX11_carry_64, fX11_carry_63, kX11_carry_63, fX11_carry_59, kX11_carry_59, fX11_carry_46, kX11_carry_46, fX11_carry_36, kX11_carry_36, fX11_carry_24, kX11_carry_24, fX11_carry_14, kX11_carry_14, fX11_carry, kX11_carry, eq_self, Classical.not_not, Sum.inr.injEq, Sum.inl.injEq, forall_eq', forall_eq, reduceCtorEq, implies_true, forall_const, true_and, and_true, and_self, false_implies, true_implies, not_true_eq_false, not_false_eq_true, if_true, if_false, h, e.mp h]
    · simp +decide only [cry, fX10_hasCarry_58, kX10_hasCarry_58, fX10_hasCarry_69, kX10_hasCarry_69, fX10_hasCarry_82, kX10_hasCarry_82, fX10_hasCarry_92, kX10_hasCarry_92, fX10_hasCarry_105, kX10_hasCarry_105, fX10_hasCarry_106, kX10_hasCarry_106, fX10_hasCarry, kX10_hasCarry, fX11_carry_74, kX11_carry_74, fX11_carry_64, kX11_carry_64, fX11_carry_63, kX11_carry_63, fX11_carry_59, kX11_carry_59, fX11_carry_46, kX11_carry_46, fX11_carry_36, kX11_carry_36, fX11_carry_24, kX11_carry_24, fX11_carry_14, kX11_carry_14, fX11_carry, kX11_carry, eq_self, Classical.not_not, Sum.inr.injEq, Sum.inl.injEq, forall_eq', forall_eq, reduceCtorEq, implies_true, forall_const, true_and, and_true, and_self, false_implies, true_implies, not_true_eq_false, not_false_eq_true, if_true, if_false, h, eq_false (fun z => h (e.mpr z))]
