/-! ===== PURE: the bus, both sides ===== -/
theorem cl_0 : (0 : Int32).toNatClampNeg = 0 := by decide
theorem cl_1 : (1 : Int32).toNatClampNeg = 1 := by decide
theorem cl_2 : (2 : Int32).toNatClampNeg = 2 := by decide
theorem cl_3 : (3 : Int32).toNatClampNeg = 3 := by decide
def F7 (m : SS) (A : Nat) : Nat → Int32 := upd (upd (upd (upd (upd (upd (upd (fun _ => 0) 0 (gA m 15 10)) 1 (gA m 15 11)) 2 (gA m 15 13)) 3 (gA m 15 4)) 4 (gA m 15 (ra (gA m 15 14) (gA m 15 15)).toNatClampNeg)) 5 (gA m 15 (rb (gA m 15 14) (gA m 15 15)).toNatClampNeg)) 6 (gA m 7 A)
theorem rg_stp {d K b v : Int32} (h : rg 0 255 b) : rg 0 255 (stp d K b v) := by
  unfold stp
  split
  · exact h
  · rw [Int32.and_comm]
    exact rg_band h
theorem m_drives {m : SS} {a : Int32} (ha : vp_in a 80) (q14 : rg 0 255 (gA m 15 14)) (q15 : rg 0 1 (gA m 15 15)) : kX11_drives m a ∧ fX11_drives m a = mres (sA m 50 (F7 m a.toNatClampNeg)) (gA m 1 a.toNatClampNeg) (F7 m a.toNatClampNeg) := by
  have r0k : ∀ f : Nat → Int32, kX11_registerOf (sA m 50 f) 0 = True := fun f => eq_true (m_reg0 (sA m 50 f) q14 q15).1
  have r0f : ∀ f : Nat → Int32, fX11_registerOf (sA m 50 f) 0 = (ra (gA m 15 14) (gA m 15 15), sA m 50 f) := fun f => (m_reg0 (sA m 50 f) q14 q15).2
  have r1k : ∀ f : Nat → Int32, kX11_registerOf (sA m 50 f) 1 = True := fun f => eq_true (m_reg1 (sA m 50 f) q14 q15).1
  have r1f : ∀ f : Nat → Int32, fX11_registerOf (sA m 50 f) 1 = (rb (gA m 15 14) (gA m 15 15), sA m 50 f) := fun f => (m_reg1 (sA m 50 f) q14 q15).2
  have hl := m_dr 7 130 0 (sA m 50 (F7 m a.toNatClampNeg)) a (gA m 1 a.toNatClampNeg) (F7 m a.toNatClampNeg) rfl rfl ha rfl (by decide)
  have ia : vp_in (ra (gA m 15 14) (gA m 15 15)) 16 := rin (ra3 _ _) (by decide)
  have ic : vp_in (rb (gA m 15 14) (gA m 15 15)) 16 := rin (rb3 _ _) (by decide)
  have i4 : vp_in 4 7 := tin (by decide) (by decide)
  have i5 : vp_in 5 7 := tin (by decide) (by decide)
  simp only [fX11_drives_166, kX11_drives_166, fX11_drives_153, kX11_drives_153, fX11_drives_132, kX11_drives_132, fX11_drives_81, kX11_drives_81, fX11_drives_67, kX11_drives_67, fX11_drives_45, kX11_drives_45, fX11_drives, kX11_drives, sA_sA, gI_sI, gI_sL, gI_sA, gI_sB, gL_sI, gL_sL, gL_sA, gL_sB, gA_sI, gA_sL, gA_sA, gA_sB, gB_sI, gB_sL, gB_sA, gB_sB, upd_at, Nat.reduceEqDiff, if_true, if_false, reduceIte, eq_self, Classical.not_not, Sum.inr.injEq, Sum.inl.injEq, forall_eq', forall_eq, reduceCtorEq, implies_true, forall_const, true_and, and_true, and_self, false_implies, true_implies, not_true_eq_false, not_false_eq_true, if_true, if_false, r0k, r0f, r1k, r1f, cl_0, cl_1, cl_2, cl_3, cl_4, cl_5, cl_6, cl_10, cl_11, cl_13, eq_true ia, eq_true ic, eq_true ha, eq_true i4, eq_true i5]
  exact hl
theorem drives_R {c : Int} {x m : SS} (h : R1 c x m) {a : Int32} (ha : rg 0 79 a) (hw : isW x a.toNatClampNeg) : kX11_drives m a ∧ kX6_driveBus x a.toNatClampNeg ∧ ∃ b : Int32, rg 0 255 b ∧ (fX6_driveBus x a.toNatClampNeg).1 = b ∧ (fX11_drives m a).1 = b ∧ ∃ n : Int32, (fX11_drives m a).2 = sI (sA m 50 (F7 m a.toNatClampNeg)) 13 n ∧ R1 c (fX6_driveBus x a.toNatClampNeg).2 (sI (sI (sI (sA m 50 (F7 m a.toNatClampNeg)) 13 n) 8 b) 9 (gA m 1 a.toNatClampNeg)) := by
  obtain ⟨h, hb⟩ := h
  have hRR := h
  obtain ⟨hW, hV, hT, hP, hQ, hK, hM, hR, hN, hF, hC, hS, hE⟩ := h
  obtain ⟨a1, a2, a3, a4, a5, a6, a7, a8, a9, a10, a11⟩ := hW
  obtain ⟨b1, b2, b3, b4, b5, b6, b7, b8, b9, b10, b11⟩ := hV
  obtain ⟨p0, p1, p2, p3, p4, p5, p6, p7, p8, p9, p10, p11, p12⟩ := hP
  obtain ⟨⟨v0, v4, v5, v6, v7, v8, v9⟩, q10, q11, q12, q13, q14, q15⟩ := hQ
  obtain ⟨c1, c2, c3, c4, c5, c6, c7⟩ := hC
  have hin : vp_in a 80 := rin ha (by decide)
  obtain ⟨km, em⟩ := m_drives hin q14 q15
  have hE5 : rg 0 1 (gI x 905) := by
    rw [p12]
    exact q15
  generalize hA : a.toNatClampNeg = A at *
  generalize hd : gA m 1 A = d at *
  have hxd : gA x 30 A = d := by
    rw [a1, hd]
  have rd : rg 0 127 d := by
    rw [← hd]
    exact b1 A
  have hx16 := fun b => x_16 x hw hE5 d b
  have hX : kX6_driveBus x A ∧ fX6_driveBus x A = dfin x d (if cb d 7 = 0 then 0 else ib d (F7 m A) 7) := by
    obtain ⟨n, hn, en⟩ := tof (n := 128) rd.1 (by have := rd.2; omega) (by decide)
    have hz : cb d 7 = 0 ↔ d = 0 := by
      rw [en]
      exact decide_eq_decide.mp (dzero n hn)
    by_cases h0 : d = 0
    · refine ⟨⟨hw, ?_, ?_⟩, ?_⟩
      · intro _
        rw [hxd]
        exact (hx16 0).1
      · intro e
        rw [hxd] at e
        exact absurd h0 e
      · rw [fX6_driveBus, hxd, if_pos h0, (hx16 0).2, if_pos (hz.mpr h0)]
        congr 1
        rw [h0]
        simp +decide only [stp, if_true]
    · refine ⟨⟨hw, ?_, ?_⟩, ?_⟩
      · intro e
        rw [hxd] at e
        exact absurd e h0
      · intro _
        rw [hxd]
        exact (hx16 255).1
      · rw [fX6_driveBus, hxd, if_neg h0, (hx16 255).2, if_neg (fun z => h0 (hz.mp z)), ib7 rd]
        congr 1
        rw [p1, p7, p8, p10, p11, p12, a9, p0 _ (ridx (ra3 _ _) (by decide)), p0 _ (ridx (rb3 _ _) (by decide))]
        rfl
  have rb0 : rg 0 255 (if cb d 7 = 0 then 0 else ib d (F7 m A) 7) := by
    split
    · exact rg_0.mono (by decide) (by decide)
    · rw [ib7 rd]
      exact rg_stp (rg_stp (rg_stp (rg_stp (rg_stp (rg_stp (rg_stp ⟨by decide, by decide⟩))))))
  have hcnt : cb d 7 ≤ 1 ↔ (fJ6_bitCount_0f7a4 q00 d).1 ≤ 1 := by
    obtain ⟨n, hn, en⟩ := tof (n := 128) rd.1 (by have := rd.2; omega) (by decide)
    rw [en]
    exact decide_eq_decide.mp (dcnt n hn)
  refine ⟨km, hX.1, _, rb0, ?_, ?_, ?_⟩
  · rw [hX.2, dfin, fX6_driveBus_178]
    split <;> rfl
  · rw [em, mres]
    split
    · rw [fX11_drives_153]
      split <;> rfl
    · rw [fX11_drives_153]
      split <;> rfl
  · by_cases hc : cb d 7 ≤ 1
    · refine ⟨gI m 13 + 0, ?_, ?_⟩
      · rw [em, mres, if_pos hc, fX11_drives_153]
        split <;> rfl
      · rw [hX.2, dfin, fX6_driveBus_178, if_pos (hcnt.mp hc), fX6_driveBus_195]
        generalize (if cb d 7 = 0 then 0 else ib d (F7 m A) 7) = b
        refine ⟨?_, hb⟩
        have h := hRR
        rw [Int32.add_zero]
        obtain ⟨hW, hV, hT, hP, hQ, hK, hM, hR, hN, hF, hC, hS, hE⟩ := h
        obtain ⟨n1, n2, n3, n4, n5, n6, n7, n8, n9, n10, n11, n12, n13, n14, n15⟩ := hN
        obtain ⟨c1, c2, c3, c4, c5, c6, c7⟩ := hC
        exact ⟨hW, hV, hT, hP, hQ, hK, hM, hR, ⟨n1, n2, n3, n4, n5, n6, n7, n8, n9, n10, n11, n12, n13, rfl, rfl⟩, hF, ⟨c1, c2, c3, c4, c5, c6, c7⟩, hS, hE⟩
    · refine ⟨gI m 13 + 1, ?_, ?_⟩
      · rw [em, mres, if_neg hc, fX11_drives_153]
        split <;> rfl
      · rw [hX.2, dfin, fX6_driveBus_178, if_neg (fun z => hc (hcnt.mpr z)), fX6_driveBus_195]
        generalize (if cb d 7 = 0 then 0 else ib d (F7 m A) 7) = b
        refine ⟨?_, hb⟩
        have h := hRR
        obtain ⟨hW, hV, hT, hP, hQ, hK, hM, hR, hN, hF, hC, hS, hE⟩ := h
        obtain ⟨n1, n2, n3, n4, n5, n6, n7, n8, n9, n10, n11, n12, n13, n14, n15⟩ := hN
        obtain ⟨c1, c2, c3, c4, c5, c6, c7⟩ := hC
        refine ⟨hW, hV, hT, hP, hQ, hK, hM, hR, ⟨n1, n2, n3, n4, n5, n6, n7, n8, n9, n10, n11, n12, n13, rfl, rfl⟩, hF, ⟨c1, c2, c3, ?_, c5, c6, c7⟩, hS, hE⟩
        show gI x 404 + 1 = gI m 13 + 1
        rw [c4]
