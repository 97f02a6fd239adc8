/-! ===== PURE: telling flags, cycles, memory ===== -/
theorem tell_R {c : Int} {x m : SS} (h : R1 c x m) {k t b : Int32} (hk : rg 0 7 k) (ht : rg 0 255 t) (hb : rg 0 255 b) : R1 c (fX4_tell x k t b) (sI (sI (sI (sI m 26 1) 18 k) 19 t) 20 b) := by
  obtain ⟨h, hg⟩ := h
  refine ⟨?_, hg⟩
  obtain ⟨hW, hV, hT, hP, hQ, hK, hM, hR, hN, hF, hC, hS, hE⟩ := h
  exact ⟨hW, hV, hT, hP, hQ, hK, hM, hR, hN, ⟨rfl, rg_1, fun _ => ⟨rfl, rfl, rfl, hk, ht, hb⟩⟩, hC, hS, fun e => absurd e hg⟩
theorem t64 (v : Int32) : v.toInt64.toInt = v.toInt := Int32.toInt_toInt64 v
theorem tadd64 {a b : Int64} (h1 : -9223372036854775808 ≤ a.toInt + b.toInt) (h2 : a.toInt + b.toInt < 9223372036854775808) : (a + b).toInt = a.toInt + b.toInt := by
  rw [Int64.toInt_add]
  exact Int.bmod_eq_of_le (by omega) (by omega)
theorem tsub64 {a b : Int64} (h1 : -9223372036854775808 ≤ a.toInt - b.toInt) (h2 : a.toInt - b.toInt < 9223372036854775808) : (a - b).toInt = a.toInt - b.toInt := by
  rw [Int64.toInt_sub]
  exact Int.bmod_eq_of_le (by omega) (by omega)
theorem cyc_R {c : Int} {x m : SS} (h : R1 c x m) (hc : c ≤ 2000000000) {s : Int32} (hs : rg 1 10 s) : R1 (c + 10) (sL x 408 (gL x 408 + s.toInt64)) (sI (sL m 21 (gL m 21 + s.toInt64)) 17 (gI m 17 + s)) := by
  obtain ⟨h, hg⟩ := h
  refine ⟨?_, hg⟩
  have z6 : (gL m 21).toInt ≤ c := h.2.2.2.2.2.2.2.2.2.2.2.1.2.2.2.2.2.1
  have h := h.mono (c2 := c + 10) (by omega)
  obtain ⟨hW, hV, hT, hP, hQ, hK, hM, hR, hN, hF, hC, hS, hE⟩ := h
  obtain ⟨s1, s2, s3, s4, s5, s6, s7⟩ := hS
  have g1 := hs.1
  have g2 := hs.2
  have e1 : (gL m 21 + s.toInt64).toInt = (gL m 21).toInt + s.toInt := by
    rw [tadd64 (by rw [t64]; omega) (by rw [t64]; omega), t64]
  have e2 : (gI m 17 + s).toInt = (gI m 17).toInt + s.toInt := tadd (by omega) (by omega)
  refine ⟨hW, hV, hT, hP, hQ, hK, hM, hR, hN, hF, hC, ⟨?_, s2, s3, s4, ?_, ?_, ?_⟩, fun e => absurd e hg⟩
  · show gL x 408 + s.toInt64 = gL m 21 + s.toInt64
    rw [s1]
  · show (gL m 22).toInt ≤ (gL m 21 + s.toInt64).toInt
    omega
  · show (gL m 21 + s.toInt64).toInt ≤ c + 10
    omega
  · show (gI m 17 + s).toInt = (gL m 21 + s.toInt64).toInt - (gL m 22).toInt
    omega
theorem put_R {c : Int} {x m : SS} (h : R1 c x m) {a v : Int32} (ha : rg 0 63 a) (hv : rg 0 255 v) : kX5_put x a v ∧ R1 c (fX5_put x a v) (sA m 17 (upd (gA m 17) a.toNatClampNeg v)) := by
  obtain ⟨h, hg⟩ := h
  have e63 : a &&& 63 = a := tand2 6 (by decide) (by decide) ha.1 (by have := ha.2; omega)
  have hin : vp_in a 64 := rin ha (by decide)
  have hi : a.toNatClampNeg < 64 := ridx ha (by decide)
  obtain ⟨n, hn, en⟩ := tof (n := 64) ha.1 (by have := ha.2; omega) (by decide)
  have hA : a.toNatClampNeg = n := by
    rw [en, nI_clamp (by omega)]
  rw [hA]
  have hRR := h
  obtain ⟨hW, hV, hT, hP, hQ, hK, hM, hR, hN, hF, hC, hS, hE⟩ := h
  obtain ⟨mI, m1, m2, m3, m4⟩ := hM
  obtain ⟨w, g1, g2, g3, g4, g5⟩ := mI
  have hcells : ∀ c, c < 64 → upd (gA x 16) n v c = upd (gA m 17) n v c := by
    intro k hk
    rw [upd_at, upd_at, m1 k hk]
  have hrange : ∀ c, c < 64 → rg 0 255 (upd (gA m 17) n v c) := by
    intro k hk
    rw [upd_at]
    split
    · exact hv
    · exact m3 k hk
  by_cases h1 : gA x 20 n = 0
  · have hlt : w < 64 := by
      rw [g3]
      exact cnt_lt hn h1
    have hc : ¬ (64 : Int32) ≤ gI x 305 := by
      rw [g2, show (64 : Int32) = nI 64 from rfl, nI_leI (by omega) (by omega)]
      omega
    have hin2 : vp_in (gI x 305) 64 := by
      rw [g2]
      exact vp_in_nI hlt (by decide)
    have hw : (gI x 305).toNatClampNeg = w := by
      rw [g2, nI_clamp (by omega)]
    simp only [fX5_put_57, kX5_put_57, fX5_put_37, kX5_put_37, fX5_put, kX5_put, e63, hA, h1, hc, eq_self, Classical.not_not, Sum.inr.injEq, Sum.inl.injEq, forall_eq', forall_eq, reduceCtorEq, implies_true, forall_const, true_and, and_true, and_self, false_implies, true_implies, not_true_eq_false, not_false_eq_true, if_true, if_false, eq_true hin, gI_sI, gI_sL, gI_sA, gI_sB, gL_sI, gL_sL, gL_sA, gL_sB, gA_sI, gA_sL, gA_sA, gA_sB, gB_sI, gB_sL, gB_sA, gB_sB, upd_at, Nat.reduceEqDiff, if_true, if_false, reduceIte, eq_true hin2, tvb1, hw]
    refine ⟨⟨hW, hV, hT, hP, hQ, hK, ⟨⟨w + 1, by omega, ?_, ?_, ?_, ?_⟩, hcells, m2, hrange, m4⟩, hR, hN, hF, hC, hS, hE⟩, hg⟩
    · show gI x 305 + 1 = nI (w + 1)
      rw [g2, nI_1]
    · show w + 1 = cnt 64 (upd (gA x 20) n 1)
      rw [cnt_upd hn h1 (by decide), ← g3]
    · intro i hiw
      show ∃ c, c < 64 ∧ upd (gA x 19) w a i = nI c
      by_cases e : i = w
      · exact ⟨n, hn, by rw [upd_at, if_pos e, en]⟩
      · rw [upd_ne e]
        exact g4 i (by omega)
    · intro k hk
      show (upd (gA x 20) n 1 k = 0 ∧ upd (gA x 16) n v k = gA x 17 k) ∨ (upd (gA x 20) n 1 k = 1 ∧ ∃ i, i < w + 1 ∧ upd (gA x 19) w a i = nI k)
      by_cases e : k = n
      · exact Or.inr ⟨by rw [upd_at, if_pos e], w, by omega, by rw [upd_at, if_pos rfl, en, e]⟩
      · rw [upd_ne e, upd_ne e]
        rcases g5 k hk with b | ⟨b1, i, b2, b3⟩
        · exact Or.inl b
        · exact Or.inr ⟨b1, i, by omega, by rw [upd_ne (by omega)]; exact b3⟩
  · simp only [fX5_put_57, kX5_put_57, fX5_put_37, kX5_put_37, fX5_put, kX5_put, e63, hA, h1, eq_self, Classical.not_not, Sum.inr.injEq, Sum.inl.injEq, forall_eq', forall_eq, reduceCtorEq, implies_true, forall_const, true_and, and_true, and_self, false_implies, true_implies, not_true_eq_false, not_false_eq_true, if_true, if_false, eq_true hin]
    refine ⟨⟨hW, hV, hT, hP, hQ, hK, ⟨⟨w, g1, g2, g3, g4, ?_⟩, hcells, m2, hrange, m4⟩, hR, hN, hF, hC, hS, hE⟩, hg⟩
    intro k hk
    show (gA x 20 k = 0 ∧ upd (gA x 16) n v k = gA x 17 k) ∨ (gA x 20 k = 1 ∧ ∃ i, i < w ∧ gA x 19 i = nI k)
    by_cases e : k = n
    · rcases g5 k hk with ⟨b, _⟩ | b
      · rw [e] at b
        exact absurd b h1
      · exact Or.inr b
    · rw [upd_ne e]
      exact g5 k hk
theorem mem_R {c : Int} {x m : SS} (h : R1 c x m) (act : Int32) : kX6_reachMemory x act ∧ (act = 1 → R1 c (fX6_reachMemory x act) (sA m 15 (upd (gA m 15) 13 (gA m 17 (gA m 15 12).toNatClampNeg)))) ∧ (act = 2 → R1 c (fX6_reachMemory x act) (sA m 17 (upd (gA m 17) (gA m 15 12).toNatClampNeg (gA m 15 13)))) ∧ (¬ act = 1 → ¬ act = 2 → fX6_reachMemory x act = x) := by
  have p9 : gI x 902 = gA m 15 12 := h.1.2.2.2.1.2.2.2.2.2.2.2.2.2.1
  have p10 : gI x 903 = gA m 15 13 := h.1.2.2.2.1.2.2.2.2.2.2.2.2.2.2.1
  have q12 : rg 0 63 (gA m 15 12) := h.1.2.2.2.2.1.2.2.2.1
  have q13 : rg 0 255 (gA m 15 13) := h.1.2.2.2.2.1.2.2.2.2.1
  have e63 : gA m 15 12 &&& 63 = gA m 15 12 := tand2 6 (by decide) (by decide) q12.1 (by have := q12.2; omega)
  have hin : vp_in (gA m 15 12) 64 := rin q12 (by decide)
  have hi : (gA m 15 12).toNatClampNeg < 64 := ridx q12 (by decide)
  obtain ⟨k1, k2⟩ := put_R h q12 q13
  have hr := R1_D h (h.1.2.2.2.2.2.2.1.2.2.2.1 _ hi)
  have m1 := h.1.2.2.2.2.2.2.1.2.1 _ hi
  refine ⟨?_, fun e => ?_, fun e => ?_, fun e1 e2 => ?_⟩
  · by_cases h1 : act = 1
    · simp +decide only [fX6_reachMemory_55, kX6_reachMemory_55, fX6_reachMemory_23, kX6_reachMemory_23, fX6_reachMemory, kX6_reachMemory, fX5_at, kX5_at, eq_self, Classical.not_not, Sum.inr.injEq, Sum.inl.injEq, forall_eq', forall_eq, reduceCtorEq, implies_true, forall_const, true_and, and_true, and_self, false_implies, true_implies, not_true_eq_false, not_false_eq_true, if_true, if_false, h1, p9, e63, eq_true hin]
    · by_cases h2 : act = 2
      · simp +decide only [fX6_reachMemory_55, kX6_reachMemory_55, fX6_reachMemory_23, kX6_reachMemory_23, fX6_reachMemory, kX6_reachMemory, eq_self, Classical.not_not, Sum.inr.injEq, Sum.inl.injEq, forall_eq', forall_eq, reduceCtorEq, implies_true, forall_const, true_and, and_true, and_self, false_implies, true_implies, not_true_eq_false, not_false_eq_true, if_true, if_false, h1, h2, p9, p10, eq_true k1]
      · simp +decide only [fX6_reachMemory_55, kX6_reachMemory_55, fX6_reachMemory_23, kX6_reachMemory_23, fX6_reachMemory, kX6_reachMemory, eq_self, Classical.not_not, Sum.inr.injEq, Sum.inl.injEq, forall_eq', forall_eq, reduceCtorEq, implies_true, forall_const, true_and, and_true, and_self, false_implies, true_implies, not_true_eq_false, not_false_eq_true, if_true, if_false, h1, h2]
  · subst e
    simp +decide only [fX6_reachMemory_55, kX6_reachMemory_55, fX6_reachMemory_23, kX6_reachMemory_23, fX6_reachMemory, kX6_reachMemory, fX5_at, kX5_at, eq_self, Classical.not_not, Sum.inr.injEq, Sum.inl.injEq, forall_eq', forall_eq, reduceCtorEq, implies_true, forall_const, true_and, and_true, and_self, false_implies, true_implies, not_true_eq_false, not_false_eq_true, if_true, if_false, p9, e63, m1]
    exact hr
  · subst e
    simp +decide only [fX6_reachMemory_55, kX6_reachMemory_55, fX6_reachMemory_23, kX6_reachMemory_23, fX6_reachMemory, kX6_reachMemory, fX5_at, kX5_at, eq_self, Classical.not_not, Sum.inr.injEq, Sum.inl.injEq, forall_eq', forall_eq, reduceCtorEq, implies_true, forall_const, true_and, and_true, and_self, false_implies, true_implies, not_true_eq_false, not_false_eq_true, if_true, if_false, p9, p10]
    exact k2
  · simp +decide only [fX6_reachMemory_55, kX6_reachMemory_55, fX6_reachMemory_23, kX6_reachMemory_23, fX6_reachMemory, kX6_reachMemory, fX5_at, kX5_at, eq_self, Classical.not_not, Sum.inr.injEq, Sum.inl.injEq, forall_eq', forall_eq, reduceCtorEq, implies_true, forall_const, true_and, and_true, and_self, false_implies, true_implies, not_true_eq_false, not_false_eq_true, if_true, if_false, e1, e2]
