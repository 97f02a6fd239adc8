/-! ===== PURE: what is defined ===== -/
theorem place_4 (q : SS) : fX11_place q 80 = (4, q) := by
  rw [fX11_place, if_pos rfl, fX11_place_131]
theorem k_place (q : SS) (v : Int32) : kX11_place q v := by
  simp +decide only [fX11_place_131, kX11_place_131, fX11_place, kX11_place, eq_self, Classical.not_not, Sum.inr.injEq, Sum.inl.injEq, forall_eq', forall_eq, reduceCtorEq, implies_true, forall_const, true_and, and_true, and_self, false_implies, true_implies, not_true_eq_false, not_false_eq_true, if_true, if_false]
theorem op_defined {c : Int} {x m : SS} (h : R c x m) (v : Int32) (hv : rg 0 65535 v) : kX11_defined m v ∧ kX10_defined x v ∧ okI c [1, 2] (fX10_defined x v) (fX11_defined m v).1 (fX11_defined m v).2 := by
  obtain ⟨hk, i, hi, hio⟩ := ix3 x hv
  obtain ⟨kx, km, hd⟩ := define_R h
  have kp := k_place m v
  have hin := mf_isIn m v 48 51
  have e48 : (48 : Int32).toInt = 48 := tl_48
  have e51 : (51 : Int32).toInt = 51 := by decide
  rw [e48, e51] at hin
  have kin := (mk_isIn m v 48 51).mpr trivial
  have z1 : ¬ (1 : Int32) = 0 := by decide
  -- from the place of the part on
  have key : ∀ (k : Int32) (P : Nat → Prop), isDef v → rg 0 9 k → kX11_defined_22 m k ∧ (∀ F : Int32, (RX c (fX6_define x) (fX11_defines m) → kX8_valueOf_after (fX6_define x) v ∧ fX8_valueOf_after (fX6_define x) v = (gA (fX11_defines m) 20 k.toNatClampNeg, fX6_define x)) → kX10_defined x v ∧ okI c [1, 2] (fX10_defined x v) (fX11_defined_22 m k).1 (fX11_defined_22 m k).2) := by
    intro k P hdf hkr
    have h0 : 0 ≤ i := hio.mpr hdf
    have g1 := hkr.1
    have g2 := hkr.2
    have n0 : ¬ k < 0 := by
      rw [Int32.lt_iff_toInt_lt, tl_0]
      omega
    have n10 : k < 10 := by
      rw [Int32.lt_iff_toInt_lt, tl_10]
      omega
    have i16 : vp_in k 16 := tin (by omega) (by omega)
    have e22 : fX11_defined_22 m k = fX11_defined_43 (fX11_defines m) k := by
      rw [fX11_defined_22, if_neg n0, if_pos n10]
    refine ⟨⟨fun e => absurd e n0, fun _ => ⟨fun _ => ⟨km, fun _ => ⟨(mk_refuse _ _).mpr trivial, trivial⟩, fun _ => ⟨i16, trivial⟩⟩, fun e => absurd n10 e⟩⟩, fun F hF => ?_⟩
    have ex : fX10_defined x v = fX10_defined_27 (fX6_define x) v := by
      rw [fX10_defined, hi, fX10_defined_7, if_pos h0]
    have kk : kX10_defined_27 (fX6_define x) v → kX10_defined x v := by
      intro z
      refine ⟨hk, ?_⟩
      rw [hi]
      exact ⟨fun _ => ⟨kx, z⟩, fun e => absurd h0 e⟩
    rw [ex, e22]
    rcases hd with ⟨d1, d2, d3⟩ | ⟨d1, d2, d3⟩
    · refine ⟨kk ⟨fun _ => trivial, fun e => absurd d1 e⟩, ?_⟩
      rw [fX10_defined_27, if_pos d1, fX11_defined_43, if_pos d2, mf_refuse]
      exact okI_l 1 rfl rfl (R_m0 d3 2)
    · obtain ⟨v1, v2⟩ := hF d3
      have n1 : ¬ gI (fX6_define x) 1101 = 0 := by
        rw [d1]
        decide
      have n2 : ¬ gI (fX11_defines m) 27 = 0 := by
        rw [d2]
        decide
      refine ⟨kk ⟨fun e => absurd e n1, fun _ => ⟨v1, trivial⟩⟩, ?_⟩
      rw [fX10_defined_27, if_neg n1, fX11_defined_43, if_neg n2, v2]
      exact okI_r rfl rfl (R_m0 d3.1 0)
  have fin : ∀ k : Int32, isDef v → rg 0 9 k → fX11_defined m v = fX11_defined_22 m k → (kX11_defined_22 m k → kX11_defined m v) → (RX c (fX6_define x) (fX11_defines m) → kX8_valueOf_after (fX6_define x) v ∧ fX8_valueOf_after (fX6_define x) v = (gA (fX11_defines m) 20 k.toNatClampNeg, fX6_define x)) → kX11_defined m v ∧ kX10_defined x v ∧ okI c [1, 2] (fX10_defined x v) (fX11_defined m v).1 (fX11_defined m v).2 := by
    intro k hdf hkr e1 e2 e3
    obtain ⟨y1, y2⟩ := key k (fun _ => True) hdf hkr
    obtain ⟨y3, y4⟩ := y2 0 e3
    rw [e1]
    exact ⟨e2 y1, y3, y4⟩
  by_cases hP : isDef v
  · have hP0 := hP
    rcases hP with e | e | e | e | e | e | e | e | e | e
    · subst e
      have hn : ¬ rg 48 51 (80 : Int32) := by decide
      rw [if_neg hn] at hin
      have ep : fX11_place m 80 = (4, m) := by
        unfold fX11_place fX11_place_131
        simp +decide only [if_true, if_false]
      refine fin 4 hP0 (by decide) ?_ ?_ ?_
      · rw [fX11_defined, hin, fX11_defined_8, if_pos rfl, ep]
      · intro z
        refine ⟨kin, ?_⟩
        rw [hin]
        refine ⟨fun _ => ⟨kp, ?_⟩, fun e => absurd rfl e⟩
        rw [ep]
        exact z
      · intro z
        obtain ⟨_, d0, d1, d2, d3, d4, d5, d6, d7, d8⟩ := z
        refine ⟨?_, ?_⟩
        · simp +decide only [kX8_valueOf_after, eq_self, Classical.not_not, Sum.inr.injEq, Sum.inl.injEq, forall_eq', forall_eq, reduceCtorEq, implies_true, forall_const, true_and, and_true, and_self, false_implies, true_implies, not_true_eq_false, not_false_eq_true, if_true, if_false]
        · rw [cl_4, ← d1]
          unfold fX8_valueOf_after
          simp +decide only [if_true, if_false]
    · subst e
      have hn : ¬ rg 48 51 (90 : Int32) := by decide
      rw [if_neg hn] at hin
      have ep : fX11_place m 90 = (5, m) := by
        unfold fX11_place fX11_place_131
        simp +decide only [if_true, if_false]
      refine fin 5 hP0 (by decide) ?_ ?_ ?_
      · rw [fX11_defined, hin, fX11_defined_8, if_pos rfl, ep]
      · intro z
        refine ⟨kin, ?_⟩
        rw [hin]
        refine ⟨fun _ => ⟨kp, ?_⟩, fun e => absurd rfl e⟩
        rw [ep]
        exact z
      · intro z
        obtain ⟨_, d0, d1, d2, d3, d4, d5, d6, d7, d8⟩ := z
        refine ⟨?_, ?_⟩
        · simp +decide only [kX8_valueOf_after, eq_self, Classical.not_not, Sum.inr.injEq, Sum.inl.injEq, forall_eq', forall_eq, reduceCtorEq, implies_true, forall_const, true_and, and_true, and_self, false_implies, true_implies, not_true_eq_false, not_false_eq_true, if_true, if_false]
        · rw [cl_5, ← d3]
          unfold fX8_valueOf_after
          simp +decide only [if_true, if_false]
    · subst e
      have hn : ¬ rg 48 51 (67 : Int32) := by decide
      rw [if_neg hn] at hin
      have ep : fX11_place m 67 = (6, m) := by
        unfold fX11_place fX11_place_131
        simp +decide only [if_true, if_false]
      refine fin 6 hP0 (by decide) ?_ ?_ ?_
      · rw [fX11_defined, hin, fX11_defined_8, if_pos rfl, ep]
      · intro z
        refine ⟨kin, ?_⟩
        rw [hin]
        refine ⟨fun _ => ⟨kp, ?_⟩, fun e => absurd rfl e⟩
        rw [ep]
        exact z
      · intro z
        obtain ⟨_, d0, d1, d2, d3, d4, d5, d6, d7, d8⟩ := z
        refine ⟨?_, ?_⟩
        · simp +decide only [kX8_valueOf_after, eq_self, Classical.not_not, Sum.inr.injEq, Sum.inl.injEq, forall_eq', forall_eq, reduceCtorEq, implies_true, forall_const, true_and, and_true, and_self, false_implies, true_implies, not_true_eq_false, not_false_eq_true, if_true, if_false]
        · rw [cl_6, ← d4]
          unfold fX8_valueOf_after
          simp +decide only [if_true, if_false]
    · subst e
      have hn : ¬ rg 48 51 (83 : Int32) := by decide
      rw [if_neg hn] at hin
      have ep : fX11_place m 83 = (7, m) := by
        unfold fX11_place fX11_place_131
        simp +decide only [if_true, if_false]
      refine fin 7 hP0 (by decide) ?_ ?_ ?_
      · rw [fX11_defined, hin, fX11_defined_8, if_pos rfl, ep]
      · intro z
        refine ⟨kin, ?_⟩
        rw [hin]
        refine ⟨fun _ => ⟨kp, ?_⟩, fun e => absurd rfl e⟩
        rw [ep]
        exact z
      · intro z
        obtain ⟨_, d0, d1, d2, d3, d4, d5, d6, d7, d8⟩ := z
        refine ⟨?_, ?_⟩
        · simp +decide only [kX8_valueOf_after, eq_self, Classical.not_not, Sum.inr.injEq, Sum.inl.injEq, forall_eq', forall_eq, reduceCtorEq, implies_true, forall_const, true_and, and_true, and_self, false_implies, true_implies, not_true_eq_false, not_false_eq_true, if_true, if_false]
        · rw [cl_7, ← d5]
          unfold fX8_valueOf_after
          simp +decide only [if_true, if_false]
    · subst e
      have hn : ¬ rg 48 51 (73 : Int32) := by decide
      rw [if_neg hn] at hin
      have ep : fX11_place m 73 = (8, m) := by
        unfold fX11_place fX11_place_131
        simp +decide only [if_true, if_false]
      refine fin 8 hP0 (by decide) ?_ ?_ ?_
      · rw [fX11_defined, hin, fX11_defined_8, if_pos rfl, ep]
      · intro z
        refine ⟨kin, ?_⟩
        rw [hin]
        refine ⟨fun _ => ⟨kp, ?_⟩, fun e => absurd rfl e⟩
        rw [ep]
        exact z
      · intro z
        obtain ⟨_, d0, d1, d2, d3, d4, d5, d6, d7, d8⟩ := z
        refine ⟨?_, ?_⟩
        · simp +decide only [kX8_valueOf_after, eq_self, Classical.not_not, Sum.inr.injEq, Sum.inl.injEq, forall_eq', forall_eq, reduceCtorEq, implies_true, forall_const, true_and, and_true, and_self, false_implies, true_implies, not_true_eq_false, not_false_eq_true, if_true, if_false]
        · rw [cl_8, ← d6]
          unfold fX8_valueOf_after
          simp +decide only [if_true, if_false]
    · subst e
      have hn : ¬ rg 48 51 (75 : Int32) := by decide
      rw [if_neg hn] at hin
      have ep : fX11_place m 75 = (9, m) := by
        unfold fX11_place fX11_place_131
        simp +decide only [if_true, if_false]
      refine fin 9 hP0 (by decide) ?_ ?_ ?_
      · rw [fX11_defined, hin, fX11_defined_8, if_pos rfl, ep]
      · intro z
        refine ⟨kin, ?_⟩
        rw [hin]
        refine ⟨fun _ => ⟨kp, ?_⟩, fun e => absurd rfl e⟩
        rw [ep]
        exact z
      · intro z
        obtain ⟨_, d0, d1, d2, d3, d4, d5, d6, d7, d8⟩ := z
        refine ⟨?_, ?_⟩
        · simp +decide only [kX8_valueOf_after, eq_self, Classical.not_not, Sum.inr.injEq, Sum.inl.injEq, forall_eq', forall_eq, reduceCtorEq, implies_true, forall_const, true_and, and_true, and_self, false_implies, true_implies, not_true_eq_false, not_false_eq_true, if_true, if_false]
        · rw [cl_9, ← d2]
          unfold fX8_valueOf_after
          simp +decide only [if_true, if_false]
    · subst e
      have hn : rg 48 51 (48 : Int32) := by decide
      rw [if_pos hn] at hin
      have e48m : (48 - 48 : Int32) = 0 := by decide
      refine fin 0 hP0 (by decide) ?_ ?_ ?_
      · rw [fX11_defined, hin, fX11_defined_8, if_neg z1, e48m]
      · intro z
        refine ⟨kin, ?_⟩
        rw [hin]
        refine ⟨fun e => absurd e z1, fun _ => ?_⟩
        rw [e48m]
        exact z
      · intro z
        obtain ⟨_, d0, d1, d2, d3, d4, d5, d6, d7, d8⟩ := z
        have ea : ((48 - 48 : Int32) &&& 3) = 0 := by decide
        have hi4 : vp_in 0 4 := tin (by decide) (by decide)
        refine ⟨?_, ?_⟩
        · simp +decide only [kX8_valueOf_after, eq_self, Classical.not_not, Sum.inr.injEq, Sum.inl.injEq, forall_eq', forall_eq, reduceCtorEq, implies_true, forall_const, true_and, and_true, and_self, false_implies, true_implies, not_true_eq_false, not_false_eq_true, if_true, if_false, ea, eq_true hi4]
        · rw [cl_0, ← d0 0 (by decide)]
          unfold fX8_valueOf_after
          simp +decide only [if_true, if_false, ea, cl_0]
    · subst e
      have hn : rg 48 51 (49 : Int32) := by decide
      rw [if_pos hn] at hin
      have e48m : (49 - 48 : Int32) = 1 := by decide
      refine fin 1 hP0 (by decide) ?_ ?_ ?_
      · rw [fX11_defined, hin, fX11_defined_8, if_neg z1, e48m]
      · intro z
        refine ⟨kin, ?_⟩
        rw [hin]
        refine ⟨fun e => absurd e z1, fun _ => ?_⟩
        rw [e48m]
        exact z
      · intro z
        obtain ⟨_, d0, d1, d2, d3, d4, d5, d6, d7, d8⟩ := z
        have ea : ((49 - 48 : Int32) &&& 3) = 1 := by decide
        have hi4 : vp_in 1 4 := tin (by decide) (by decide)
        refine ⟨?_, ?_⟩
        · simp +decide only [kX8_valueOf_after, eq_self, Classical.not_not, Sum.inr.injEq, Sum.inl.injEq, forall_eq', forall_eq, reduceCtorEq, implies_true, forall_const, true_and, and_true, and_self, false_implies, true_implies, not_true_eq_false, not_false_eq_true, if_true, if_false, ea, eq_true hi4]
        · rw [cl_1, ← d0 1 (by decide)]
          unfold fX8_valueOf_after
          simp +decide only [if_true, if_false, ea, cl_1]
    · subst e
      have hn : rg 48 51 (50 : Int32) := by decide
      rw [if_pos hn] at hin
      have e48m : (50 - 48 : Int32) = 2 := by decide
      refine fin 2 hP0 (by decide) ?_ ?_ ?_
      · rw [fX11_defined, hin, fX11_defined_8, if_neg z1, e48m]
      · intro z
        refine ⟨kin, ?_⟩
        rw [hin]
        refine ⟨fun e => absurd e z1, fun _ => ?_⟩
        rw [e48m]
        exact z
      · intro z
        obtain ⟨_, d0, d1, d2, d3, d4, d5, d6, d7, d8⟩ := z
        have ea : ((50 - 48 : Int32) &&& 3) = 2 := by decide
        have hi4 : vp_in 2 4 := tin (by decide) (by decide)
        refine ⟨?_, ?_⟩
        · simp +decide only [kX8_valueOf_after, eq_self, Classical.not_not, Sum.inr.injEq, Sum.inl.injEq, forall_eq', forall_eq, reduceCtorEq, implies_true, forall_const, true_and, and_true, and_self, false_implies, true_implies, not_true_eq_false, not_false_eq_true, if_true, if_false, ea, eq_true hi4]
        · rw [cl_2, ← d0 2 (by decide)]
          unfold fX8_valueOf_after
          simp +decide only [if_true, if_false, ea, cl_2]
    · subst e
      have hn : rg 48 51 (51 : Int32) := by decide
      rw [if_pos hn] at hin
      have e48m : (51 - 48 : Int32) = 3 := by decide
      refine fin 3 hP0 (by decide) ?_ ?_ ?_
      · rw [fX11_defined, hin, fX11_defined_8, if_neg z1, e48m]
      · intro z
        refine ⟨kin, ?_⟩
        rw [hin]
        refine ⟨fun e => absurd e z1, fun _ => ?_⟩
        rw [e48m]
        exact z
      · intro z
        obtain ⟨_, d0, d1, d2, d3, d4, d5, d6, d7, d8⟩ := z
        have ea : ((51 - 48 : Int32) &&& 3) = 3 := by decide
        have hi4 : vp_in 3 4 := tin (by decide) (by decide)
        refine ⟨?_, ?_⟩
        · simp +decide only [kX8_valueOf_after, eq_self, Classical.not_not, Sum.inr.injEq, Sum.inl.injEq, forall_eq', forall_eq, reduceCtorEq, implies_true, forall_const, true_and, and_true, and_self, false_implies, true_implies, not_true_eq_false, not_false_eq_true, if_true, if_false, ea, eq_true hi4]
        · rw [cl_3, ← d0 3 (by decide)]
          unfold fX8_valueOf_after
          simp +decide only [if_true, if_false, ea, cl_3]
  · have h0 : ¬ 0 ≤ i := fun z => hP (hio.mp z)
    have ex : fX10_defined x v = .inl (1, x) := by
      rw [fX10_defined, hi, fX10_defined_7, if_neg h0]
    have kk : kX10_defined x v := by
      refine ⟨hk, ?_⟩
      rw [hi]
      exact ⟨fun e => absurd e h0, fun _ => trivial⟩
    have k33 : kX11_defined_33 m := ⟨(mk_refuse _ _).mpr trivial, trivial⟩
    have hno : ¬ rg 48 51 v := by
      intro z
      have z1 := z.1
      have z2 := z.2
      apply hP
      have e49 : (49 : Int32).toInt = 49 := by decide
      have e50 : (50 : Int32).toInt = 50 := by decide
      have e3 : v = 48 ∨ v = 49 ∨ v = 50 ∨ v = 51 := by
        simp only [tI, e48, e49, e50, e51]
        omega
      exact Or.inr (Or.inr (Or.inr (Or.inr (Or.inr (Or.inr e3)))))
    rw [if_neg hno] at hin
    have pl : fX11_place m v = ((fX11_place m v).1, m) ∧ ((fX11_place m v).1 < 0 ∨ ¬ (fX11_place m v).1 < 10) := by
      simp only [not_or] at hP
      obtain ⟨e1, e2, e3, e4, e5, e6, e7, e8, e9, e10⟩ := hP
      unfold fX11_place fX11_place_131
      simp only [e1, e2, e3, e4, e5, e6, if_false]
      (repeat' split) <;> exact ⟨rfl, by dsimp only; decide⟩
    have em : fX11_defined m v = (0, sI m 0 1) ∧ kX11_defined m v := by
      obtain ⟨p1, p2⟩ := pl
      constructor
      · rw [fX11_defined, hin, fX11_defined_8, if_pos rfl, p1, fX11_defined_22]
        by_cases q1 : (fX11_place m v).1 < 0
        · rw [if_pos q1, fX11_defined_33, mf_refuse]
        · rw [if_neg q1, if_neg (p2.resolve_left q1), fX11_defined_33, mf_refuse]
      · refine ⟨kin, ?_⟩
        rw [hin]
        refine ⟨fun _ => ⟨kp, ?_⟩, fun e => absurd rfl e⟩
        rw [p1]
        exact ⟨fun _ => k33, fun q1 => ⟨fun e => absurd e (p2.resolve_left q1), fun _ => k33⟩⟩
    rw [em.1, ex]
    exact ⟨em.2, kk, okI_l 0 rfl rfl (R_m0 h _)⟩
