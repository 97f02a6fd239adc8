/-! ===== PURE: the end of an instruction ===== -/
theorem finds_26 (m : SS) : gI (fX11_finds m) 26 = 0 := by
  by_cases h : gI m 26 = 0
  · rw [fX11_finds, if_pos h]
    exact h
  · rw [fX11_finds, if_neg h, c_comb, fX11_finds_33]
    split
    · rw [fX11_finds_41, c_carry, fX11_finds_63]
      rfl
    · rw [fX11_finds_41, c_carry, fX11_finds_63]
      rfl
theorem wrong_R {c : Int} {x m : SS} (h : R c x m) : kX1_countWrong x (gI x 801) ∧ (gI m 11 = 0 → R c (fX1_countWrong x (gI x 801)) (sI (sI m 12 (gA m 16 4)) 11 (gI m 11 + 1))) ∧ (¬ gI m 11 = 0 → R c (fX1_countWrong x (gI x 801)) (sI m 11 (gI m 11 + 1))) := by
  refine ⟨⟨fun _ => trivial, fun _ => trivial⟩, ?_, ?_⟩
  · intro h0
    obtain ⟨hW, hV, hT, hP, hQ, hK, hM, hR, hN, hF, hC, hS, hE⟩ := h
    obtain ⟨c1, c2, c3, c4, c5, c6, c7⟩ := hC
    have k1 : gI x 801 = gA m 16 4 := hK.2.1
    have e0 : gI x 402 = 0 := c2.trans h0
    rw [fX1_countWrong, if_pos e0, fX1_countWrong_12]
    refine ⟨hW, hV, hT, hP, hQ, hK, hM, hR, hN, hF, ⟨c1, ?_, fun _ => k1, c4, c5, c6, c7⟩, hS, hE⟩
    show gI x 402 + 1 = gI m 11 + 1
    rw [c2]
  · intro h0
    obtain ⟨hW, hV, hT, hP, hQ, hK, hM, hR, hN, hF, hC, hS, hE⟩ := h
    obtain ⟨c1, c2, c3, c4, c5, c6, c7⟩ := hC
    have e0 : ¬ gI x 402 = 0 := fun e => h0 (c2.symm.trans e)
    rw [fX1_countWrong, if_neg e0, fX1_countWrong_12]
    refine ⟨hW, hV, hT, hP, hQ, hK, hM, hR, hN, hF, ⟨c1, ?_, fun _ => c3 h0, c4, c5, c6, c7⟩, hS, hE⟩
    show gI x 402 + 1 = gI m 11 + 1
    rw [c2]
def ix (m : SS) : Int32 := 16 * gA m 16 7 + gA m 15 14 / 16
theorem end_R {c : Int} {x m : SS} (h : R c x m) (h26 : gI m 26 = 0) : kX6_endInstruction_84 x ∧ vp_in (ix m) 32 ∧ kX11_finish_168 (sI m 10 (gI m 10 + 1)) (gI m 17).toInt64 (gB m 22 (ix m).toNatClampNeg) (ix m) ∧ R c (fX6_endInstruction_84 x) (fX11_finish_168 (sI m 10 (gI m 10 + 1)) (gI m 17).toInt64 (gB m 22 (ix m).toNatClampNeg) (ix m)) := by
  have w7 : rg 0 1 (gA m 16 7) := h.2.2.2.2.2.1.2.2.2.2.2.2.2.2.2.2.2.1
  have k5 : gI x 805 = gA m 16 7 := h.2.2.2.2.2.1.2.2.2.2.2.1
  have q14 : rg 0 255 (gA m 15 14) := h.2.2.2.2.1.2.2.2.2.2.1
  have p11 : gI x 904 = gA m 15 14 := h.2.2.2.1.2.2.2.2.2.2.2.2.2.2.2.1
  have g1 := w7.1
  have g2 := w7.2
  have g3 := q14.1
  have g4 := q14.2
  have ed := tdiv (a := gA m 15 14) tl_16 (by decide) g3
  have e1 : gA m 16 7 &&& 1 = gA m 16 7 := tand2 1 (by decide) (by decide) g1 (by omega)
  have e2 : gA m 15 14 / 16 &&& 15 = gA m 15 14 / 16 := tand2 4 (by decide) (by decide) (by omega) (by omega)
  have e3 : gA m 16 7 * 16 = 16 * gA m 16 7 := Int32.mul_comm _ 16
  have e4 : (16 * gA m 16 7).toInt = 16 * (gA m 16 7).toInt := by
    rw [tmul (by rw [tl_16]; omega) (by rw [tl_16]; omega), tl_16]
  have e5 : (ix m).toInt = 16 * (gA m 16 7).toInt + (gA m 15 14 / 16).toInt := by
    rw [ix, tadd (by omega) (by omega), e4]
  have i32 : vp_in (ix m) 32 := tin (by omega) (by omega)
  have eI : ((gI x 805 &&& 1) * 16) + (((gI x 904 / 16) &&& 15) &&& 15) = ix m := by
    rw [k5, p11, e1, e2, e2, e3]
    rfl
  have hX : R c (fX1_countEnd x (gI x 805) ((gI x 904 / 16) &&& 15)) (sI (sL (sB (sI m 10 (gI m 10 + 1)) 22 (vp_updL (gB m 22) (ix m).toNatClampNeg (gB m 22 (ix m).toNatClampNeg + (gI m 17).toInt64))) 22 (gL m 22 + (gI m 17).toInt64)) 17 0) := by
    unfold fX1_countEnd fX1_countEnd_40
    rw [eI]
    obtain ⟨hW, hV, hT, hP, hQ, hK, hM, hR, hN, hF, hC, hS, hE⟩ := h
    obtain ⟨s1, s2, s3, s4, s5, s6, s7⟩ := hS
    obtain ⟨c1, c2, c3, c4, c5, c6, c7⟩ := hC
    have g8 := Int64.toInt_lt (gL m 21)
    have es : (gI m 17).toInt64 = gL m 21 - gL m 22 := Int64.toInt_inj.mp (by rw [t64, tsub64 (by omega) (by omega), s7])
    have eu : gL m 22 + (gI m 17).toInt64 = gL m 21 := Int64.toInt_inj.mp (by rw [tadd64 (by rw [t64]; omega) (by rw [t64]; omega), t64]; omega)
    refine ⟨hW, hV, hT, hP, hQ, hK, hM, hR, hN, hF, ⟨?_, c2, c3, c4, c5, c6, c7⟩, ⟨s1, ?_, ?_, ?_, ?_, s6, ?_⟩, hE⟩
    · show gI x 401 + 1 = gI m 10 + 1
      rw [c1]
    · show gL x 408 = gL m 22 + (gI m 17).toInt64
      rw [eu]
      exact s1
    · show vp_updL (gB x 21) (ix m).toNatClampNeg (gB x 21 (ix m).toNatClampNeg + (gL x 408 - gL x 409)) = vp_updL (gB m 22) (ix m).toNatClampNeg (gB m 22 (ix m).toNatClampNeg + (gI m 17).toInt64)
      rw [s3, s1, s2, es]
    · show 0 ≤ (gL m 22 + (gI m 17).toInt64).toInt
      rw [eu]
      omega
    · show (gL m 22 + (gI m 17).toInt64).toInt ≤ (gL m 21).toInt
      rw [eu]
      omega
    · show (0 : Int32).toInt = (gL m 21).toInt - (gL m 22 + (gI m 17).toInt64).toInt
      rw [eu, tl_0]
      omega
  obtain ⟨b1, b2, b3⟩ := begin_R hX h26
  obtain ⟨d1, d2, d3⟩ := intr_R b3
  refine ⟨⟨trivial, ⟨?_, ?_, trivial⟩, b2, d2, trivial⟩, i32, ⟨i32, d1, (m_begins _).1, trivial⟩, d3⟩
  · show vp_in (((gI x 805 &&& 1) * 16) + (((gI x 904 / 16) &&& 15) &&& 15)) 32
    rw [eI]
    exact i32
  · show vp_in (((gI x 805 &&& 1) * 16) + (((gI x 904 / 16) &&& 15) &&& 15)) 32
    rw [eI]
    exact i32
theorem judge_R {c : Int} {x m : SS} (h : R c x m) (h26 : gI m 26 = 0) {w : Int32} (hw : w = 0 ∨ w = 1) : kX6_endInstruction_65 x w ∧ kE m w ∧ R c (fX6_endInstruction_65 x w) (fE m w) := by
  rcases hw with e | e
  · subst e
    obtain ⟨a1, a2, a3⟩ := wrong_R h
    have ex : fX6_endInstruction_65 x 0 = fX6_endInstruction_84 (fX1_countWrong x (gI x 801)) := by
      rw [fX6_endInstruction_65, if_pos rfl]
    by_cases h0 : gI m 11 = 0
    · have b := end_R (a2 h0) h26
      have em : fE m 0 = fX11_finish_108 (sI m 12 (gA m 16 4)) 0 := by
        rw [fE, if_pos rfl, if_pos h0, cl_4]
      have e108 : fX11_finish_108 (sI m 12 (gA m 16 4)) 0 = fX11_finish_122 (sI m 12 (gA m 16 4)) 1 (gI (sI m 12 (gA m 16 4)) 11) := by
        rw [fX11_finish_108, if_pos rfl]
      refine ⟨⟨fun _ => ⟨a1, b.1⟩, fun e => absurd rfl e⟩, ⟨fun _ => ⟨fun _ => ?_, fun e => absurd h0 e⟩, fun e => absurd rfl e⟩, ?_⟩
      · rw [cl_4]
        exact ⟨fun _ => ⟨b.2.1, b.2.2.1⟩, fun e => absurd rfl e⟩
      · rw [ex, em, e108]
        exact b.2.2.2
    · have b := end_R (a3 h0) h26
      have em : fE m 0 = fX11_finish_108 m 0 := by
        rw [fE, if_pos rfl, if_neg h0]
      have e108 : fX11_finish_108 m 0 = fX11_finish_122 m 1 (gI m 11) := by
        rw [fX11_finish_108, if_pos rfl]
      refine ⟨⟨fun _ => ⟨a1, b.1⟩, fun e => absurd rfl e⟩, ⟨fun _ => ⟨fun e => absurd e h0, fun _ => ?_⟩, fun e => absurd rfl e⟩, ?_⟩
      · exact ⟨fun _ => ⟨b.2.1, b.2.2.1⟩, fun e => absurd rfl e⟩
      · rw [ex, em, e108]
        exact b.2.2.2
  · subst e
    have n1 : ¬ (1 : Int32) = 0 := by decide
    have b := end_R h h26
    have e0 : sI m 11 (gI m 11 + 0) = m := by
      rw [Int32.add_zero, sI_self]
    have ex : fX6_endInstruction_65 x 1 = fX6_endInstruction_84 x := by
      rw [fX6_endInstruction_65, if_neg n1]
    have em : fE m 1 = fX11_finish_122 m 0 (gI m 11) := by
      rw [fE, if_neg n1, fX11_finish_108, if_neg n1]
    have e122 : fX11_finish_122 m 0 (gI m 11) = fX11_finish_168 (sI m 10 (gI m 10 + 1)) (gI m 17).toInt64 (gB m 22 (ix m).toNatClampNeg) (ix m) := by
      rw [fX11_finish_122, e0]
      rfl
    have k122 : kX11_finish_122 m 0 (gI m 11) := by
      refine ⟨b.2.1, ?_⟩
      rw [e0]
      exact b.2.2.1
    refine ⟨⟨fun e => absurd e n1, fun _ => b.1⟩, ⟨fun e => absurd e n1, fun _ => ⟨fun e => absurd e n1, fun _ => k122⟩⟩, ?_⟩
    rw [ex, em, e122]
    exact b.2.2.2
theorem k10 {P : Nat → Prop} (h : ∀ r, r < 4 → P r) (h4 : P 4) (h5 : P 5) (h6 : P 6) (h7 : P 7) (h8 : P 8) (h9 : P 9) : ∀ k, k < 10 → P k := by
  intro k hk
  by_cases g : k < 4
  · exact h k g
  · have : k = 4 ∨ k = 5 ∨ k = 6 ∨ k = 7 ∨ k = 8 ∨ k = 9 := by omega
    rcases this with e | e | e | e | e | e
    · rw [e]; exact h4
    · rw [e]; exact h5
    · rw [e]; exact h6
    · rw [e]; exact h7
    · rw [e]; exact h8
    · rw [e]; exact h9
theorem nIm1 {k : Nat} (hk : k < 64) : ¬ nI k = -1 := by
  intro e
  have e2 := tI.mp e
  rw [nI_toInt (by omega), tl_m1] at e2
  omega
theorem as_RX {c : Int} {x m : SS} (h : RX c x m) : ((∀ r, r < 4 → gA x 25 r = gA x 27 r) ∧ gI x 701 = gI x 1201 ∧ gI x 702 = gI x 1202 ∧ gI x 703 = gI x 1203 ∧ gI x 704 = gI x 1204 ∧ gI x 705 = gI x 1205 ∧ gI x 706 = gI x 1206) ↔ (∀ k, k < 10 → gA m 20 k = gA m 15 k) := by
  obtain ⟨h, d0, d1, d2, d3, d4, d5, d6, d7, d8⟩ := h
  have hP := h.2.2.2.1
  obtain ⟨p0, p1, p2, p3, p4, p5, p6, p7, p8, p9, p10, p11, p12⟩ := hP
  constructor
  · intro ⟨a0, a1, a2, a3, a4, a5, a6⟩
    refine k10 (fun r hr => ?_) ?_ ?_ ?_ ?_ ?_ ?_
    · rw [← d0 r hr, ← p0 r hr, a0 r hr]
    · rw [← d1, ← p1, a1]
    · rw [← d3, ← p3, a3]
    · rw [← d4, ← p4, a4]
    · rw [← d5, ← p5, a5]
    · rw [← d6, ← p6, a6]
    · rw [← d2, ← p2, a2]
  · intro a
    refine ⟨fun r hr => ?_, ?_, ?_, ?_, ?_, ?_, ?_⟩
    · rw [d0 r hr, p0 r hr, a r (by omega)]
    · rw [d1, p1, a 4 (by decide)]
    · rw [d2, p2, a 9 (by decide)]
    · rw [d3, p3, a 5 (by decide)]
    · rw [d4, p4, a 6 (by decide)]
    · rw [d5, p5, a 7 (by decide)]
    · rw [d6, p6, a 8 (by decide)]
theorem kept_RX {c : Int} {x m : SS} (h : RX c x m) : (gI x 1105 = -1 ∨ rg 0 63 (gI x 1105)) ∧ (((gI x 1105 = -1 ∨ gA x 16 (gI x 1105).toNatClampNeg = gI x 1106) ∧ ∀ c, c < 64 → ¬ nI c = gI x 1105 → gA x 16 c = gA x 17 c) ↔ (∀ k, k < 64 → gA m 21 k = gA m 17 k)) := by
  obtain ⟨h, d0, d1, d2, d3, d4, d5, d6, d7, d8⟩ := h
  have hM := h.2.2.2.2.2.2.1
  obtain ⟨mI, m1, m2, m3, m4⟩ := hM
  rcases d8 with ⟨e, d9⟩ | ⟨a, ha, e, d9, d10⟩
  · refine ⟨Or.inl e, ?_⟩
    rw [e]
    constructor
    · intro ⟨_, b⟩ k hk
      rw [← d9 k hk, ← b k hk (nIm1 hk), m1 k hk]
    · intro b
      refine ⟨Or.inl rfl, fun k hk _ => ?_⟩
      rw [m1 k hk, d9 k hk, b k hk]
  · have et : (nI a).toInt = a := nI_toInt (by omega)
    refine ⟨Or.inr (by rw [e]; exact ⟨by omega, by omega⟩), ?_⟩
    rw [e, nI_clamp (by omega)]
    constructor
    · intro ⟨b1, b2⟩ k hk
      by_cases hka : k = a
      · rw [hka, d9, ← m1 a ha]
        exact (b1.resolve_left (nIm1 ha)).symm
      · rw [← d10 k hk hka, ← m1 k hk]
        exact (b2 k hk (fun z => hka ((nI_eq (by omega) (by omega)).mp z))).symm
    · intro b
      refine ⟨Or.inr ?_, fun k hk hne => ?_⟩
      · rw [m1 a ha, ← d9, b a ha]
      · have hka : ¬ k = a := fun z => hne (by rw [z])
        rw [m1 k hk, d10 k hk hka, b k hk]
theorem finish_R {c : Int} {x m : SS} (h : R c x m) : kX6_endInstruction x ∧ kX11_finish m ∧ R c (fX6_endInstruction x) (fX11_finish m) := by
  obtain ⟨a1, a2, a3⟩ := finds_R h
  obtain ⟨b1, b2, b3⟩ := define_R a3
  have h26 : gI (fX11_defines (fX11_finds m)) 26 = 0 := by
    rw [g_defines _ (by decide)]
    exact finds_26 m
  have goal8 : kX6_endInstruction_8 (fX6_define (fX6_findFlags x)) ∧ kX11_finish_8 (fX11_defines (fX11_finds m)) ∧ R c (fX6_endInstruction_8 (fX6_define (fX6_findFlags x))) (fX11_finish_8 (fX11_defines (fX11_finds m))) := by
    generalize fX6_define (fX6_findFlags x) = X at *
    generalize fX11_defines (fX11_finds m) = M at *
    rcases b3 with ⟨e1, e2, hR⟩ | ⟨e1, e2, hRX⟩
    · obtain ⟨w, w1, w2, w3, w4⟩ := m_fin M (v := 0) (Or.inl rfl)
      have w0 : w = 0 := by
        rcases w1 with e | e
        · exact e
        · exact absurd (w2.mp e).1 (by decide)
      subst w0
      obtain ⟨j1, j2, j3⟩ := judge_R hR h26 (w := 0) (Or.inl rfl)
      refine ⟨⟨fun _ => j1, fun e => absurd e1 e⟩, ?_, ?_⟩
      · unfold kX11_finish_8
        rw [e2]
        exact w3 j2
      · rw [fX6_endInstruction_8, if_pos e1, fX6_endInstruction_64, fX11_finish_8, e2, w4]
        exact j3
    · obtain ⟨w, w1, w2, w3, w4⟩ := m_fin M (v := 1) (Or.inr rfl)
      have n1 : ¬ gI X 1101 = 0 := by
        rw [e1]
        decide
      obtain ⟨ku, u, u1, u2, u3⟩ := x_isAs_after X
      obtain ⟨g1, g2⟩ := kept_RX hRX
      obtain ⟨kr, r, r1, r2, r3⟩ := x_kept (q := X) (b := gI X 1106) hRX.1.2.2.2.2.2.2.1.1 g1
      rw [as_RX hRX] at u3
      rw [g2] at r3
      have w5 : w = 1 ↔ u = 1 ∧ r = 1 := by
        rw [w2, u3, r3]
        exact ⟨fun a => a.2, fun a => ⟨rfl, a⟩⟩
      obtain ⟨j1, j2, j3⟩ := judge_R hRX.1 h26 w1
      have k8 : kX11_finish_8 M := by
        unfold kX11_finish_8
        rw [e2]
        exact w3 j2
      have f8 : fX11_finish_8 M = fE M w := by
        rw [fX11_finish_8, e2, w4]
      rw [f8]
      have z1 : ¬ (1 : Int32) = 0 := by decide
      rcases u2 with eu | eu
      · have w0 : w = 0 := by
          rcases w1 with e | e
          · exact e
          · have := (w5.mp e).1
            rw [eu] at this
            exact absurd this (by decide)
        subst w0
        refine ⟨⟨fun e => absurd e n1, fun _ => ⟨ku, ?_⟩⟩, k8, ?_⟩
        · rw [u1, eu]
          exact ⟨fun _ => j1, fun e => absurd rfl e⟩
        · rw [fX6_endInstruction_8, if_neg n1, u1, eu, fX6_endInstruction_33, if_pos rfl]
          exact j3
      · rcases r2 with er | er
        · have w0 : w = 0 := by
            rcases w1 with e | e
            · exact e
            · have := (w5.mp e).2
              rw [er] at this
              exact absurd this (by decide)
          subst w0
          refine ⟨⟨fun e => absurd e n1, fun _ => ⟨ku, ?_⟩⟩, k8, ?_⟩
          · rw [u1, eu]
            refine ⟨fun e => absurd e z1, fun _ => ⟨kr, ?_⟩⟩
            rw [r1, er]
            exact ⟨fun _ => j1, fun e => absurd rfl e⟩
          · rw [fX6_endInstruction_8, if_neg n1, u1, eu, fX6_endInstruction_33, if_neg z1, r1, er, fX6_endInstruction_57, if_pos rfl]
            exact j3
        · have w0 : w = 1 := w5.mpr ⟨eu, er⟩
          subst w0
          refine ⟨⟨fun e => absurd e n1, fun _ => ⟨ku, ?_⟩⟩, k8, ?_⟩
          · rw [u1, eu]
            refine ⟨fun e => absurd e z1, fun _ => ⟨kr, ?_⟩⟩
            rw [r1, er]
            exact ⟨fun e => absurd e z1, fun _ => j1⟩
          · rw [fX6_endInstruction_8, if_neg n1, u1, eu, fX6_endInstruction_33, if_neg z1, r1, er, fX6_endInstruction_57, if_neg z1]
            exact j3
  exact ⟨⟨a2, b1, goal8.1⟩, ⟨a1, b2, goal8.2.1⟩, goal8.2.2⟩
