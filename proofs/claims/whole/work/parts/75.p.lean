/-! ===== PURE: a micro-step whole ===== -/
theorem cyc2_R {c : Int} {x m : SS} (h : R1 c x m) (hc : c ≤ 2000000000) {a v s : Int32} (hs : rg 1 10 (1 + s)) (ha : rg 0 79 a) (hv : rg 0 255 v) (hn : gI m 6 = a) (hw : isW x a.toNatClampNeg) : kX6_advance_127 x a.toNatClampNeg v (1 + s).toInt64 (gL x 408) ∧ kX11_does_117 m a v s 1 ∧ (fX6_advance_127 x a.toNatClampNeg v (1 + s).toInt64 (gL x 408)).1 = 1 ∧ R (c + 10) (fX6_advance_127 x a.toNatClampNeg v (1 + s).toInt64 (gL x 408)).2 (fX11_does_117 m a v s 1) := by
  have hin : vp_in a 80 := rin ha (by decide)
  have hR := cyc_R h hc hs
  have e902 : gI x 902 = gA m 15 12 := h.1.2.2.2.1.2.2.2.2.2.2.2.2.2.1
  obtain ⟨g1, g2, g3⟩ := page_R h.1
  have i4 : vp_in (gA m 15 12 / 16) 4 := rin g3 (by decide)
  have e33 : gA x 33 a.toNatClampNeg = gA m 4 a.toNatClampNeg := congrFun h.1.1.2.2.2.1 _
  have t8 : gA x 18 = gA m 13 := h.1.2.2.1.2.2.2.2.2.2.2.1
  have t9 := h.1.2.2.1.2.2.2.2.2.2.2.2
  have hm10 := (isW_m h.1).mp hw
  have hw2 : isW (sL x 408 (gL x 408 + (1 + s).toInt64)) a.toNatClampNeg := hw
  have hn2 : gI (sI (sL m 21 (gL m 21 + (1 + s).toInt64)) 17 (gI m 17 + (1 + s))) 6 = a := hn
  obtain ⟨y1, y2, y3, y4⟩ := mem2_R hR ha hv hn2 hw2
  by_cases h0 : gA m 4 a.toNatClampNeg = 0
  · have h0x : gA (sL x 408 (gL x 408 + (1 + s).toInt64)) 33 a.toNatClampNeg = 0 := e33.trans h0
    have fx : fX6_advance_127 x a.toNatClampNeg v (1 + s).toInt64 (gL x 408) = fX6_advance_161 (sL x 408 (gL x 408 + (1 + s).toInt64)) a.toNatClampNeg v := by
      rw [fX6_advance_127, if_pos h0x]
    have fm : fX11_does_117 m a v s 1 = fX11_does_202 (sI (sL m 21 (gL m 21 + (1 + s).toInt64)) 17 (gI m 17 + (1 + s))) a v := by
      rw [fX11_does_117, if_pos h0]
    rw [fx, fm]
    exact ⟨⟨hw2, fun _ => y1, fun e => absurd h0x e⟩, ⟨hin, fun _ => y2, fun e => absurd h0 e⟩, y3, y4⟩
  · have h0x : ¬ gA (sL x 408 (gL x 408 + (1 + s).toInt64)) 33 a.toNatClampNeg = 0 := fun e => h0 (e33.symm.trans e)
    have ea : fX5_isAbsentAt (sL x 408 (gL x 408 + (1 + s).toInt64)) (gI x 902) = (gA m 13 (gA m 15 12 / 16).toNatClampNeg, sL x 408 (gL x 408 + (1 + s).toInt64)) := by
      rw [fX5_isAbsentAt, fX5_pageOf, fX5_isAbsentAt_9, e902, g2]
      show (gA x 18 _, _) = _
      rw [t8]
    have ka : kX5_isAbsentAt (sL x 408 (gL x 408 + (1 + s).toInt64)) (gI x 902) := by
      refine ⟨trivial, ?_⟩
      rw [fX5_pageOf, e902, g2]
      refine ⟨i4, ?_, trivial⟩
      show narrow .boolean (.int (gA x 18 _)) = .int (gA x 18 _)
      rw [t8]
      exact nb01 (t9 _)
    have fx : fX6_advance_127 x a.toNatClampNeg v (1 + s).toInt64 (gL x 408) = fX6_advance_152 (sL x 408 (gL x 408 + (1 + s).toInt64)) a.toNatClampNeg v (gA m 13 (gA m 15 12 / 16).toNatClampNeg) := by
      rw [fX6_advance_127, if_neg h0x, ea]
    have kx : kX6_advance_152 (sL x 408 (gL x 408 + (1 + s).toInt64)) a.toNatClampNeg v (gA m 13 (gA m 15 12 / 16).toNatClampNeg) → kX6_advance_127 x a.toNatClampNeg v (1 + s).toInt64 (gL x 408) := by
      intro k
      refine ⟨hw2, fun e => absurd e h0x, fun _ => ⟨ka, ?_⟩⟩
      rw [ea]
      exact k
    rw [fx]
    by_cases h3 : gA m 13 (gA m 15 12 / 16).toNatClampNeg = 0
    · have fm : fX11_does_117 m a v s 1 = fX11_does_202 (sI (sL m 21 (gL m 21 + (1 + s).toInt64)) 17 (gI m 17 + (1 + s))) a v := by
        rw [fX11_does_117, if_neg h0, cl_12, if_pos h3]
      rw [fm]
      refine ⟨kx ⟨fun _ => y1, fun e => absurd h3 e⟩, ⟨hin, fun e => absurd e h0, fun _ => ?_⟩, ?_, ?_⟩
      · rw [cl_12]
        exact ⟨i4, fun _ => y2, fun e => absurd h3 e⟩
      · rw [fX6_advance_152, if_pos h3]
        exact y3
      · rw [fX6_advance_152, if_pos h3]
        exact y4
    · obtain ⟨u1, u2, u3⟩ := fault_R hR.1
      have fm : fX11_does_117 m a v s 1 = fX11_back (sI (sI (sI (sI (sL m 21 (gL m 21 + (1 + s).toInt64)) 17 (gI m 17 + (1 + s))) 14 (gI m 14 + 1)) 23 119) 5 (gA m 15 12 / 16)) := by
        rw [fX11_does_117, if_neg h0, cl_12, if_neg h3]
      rw [fm]
      refine ⟨kx ⟨fun e => absurd e h3, fun _ => ⟨u1, trivial⟩⟩, ⟨hin, fun e => absurd e h0, fun _ => ?_⟩, ?_, ?_⟩
      · rw [cl_12]
        exact ⟨i4, fun e => absurd e h3, fun _ => ⟨u2, trivial⟩⟩
      · rw [fX6_advance_152, if_neg h3]
        rfl
      · rw [fX6_advance_152, if_neg h3]
        exact u3
theorem lis2_R {c : Int} {x m : SS} (h : R1 c x m) (hc : c ≤ 2000000000) {a v : Int32} (ha : rg 0 79 a) (hv : rg 0 255 v) (hn : gI m 6 = a) (hw : isW x a.toNatClampNeg) : kX6_advance_92 x a.toNatClampNeg v ∧ kX11_does_93 m a v ∧ (fX6_advance_92 x a.toNatClampNeg v).1 = 1 ∧ R (c + 10) (fX6_advance_92 x a.toNatClampNeg v).2 (fX11_does_93 m a v) := by
  have hin : vp_in a 80 := rin ha (by decide)
  have e32 : gA x 32 a.toNatClampNeg = gA m 3 a.toNatClampNeg := congrFun h.1.1.2.2.1 _
  have q14 : rg 0 255 (gA m 15 14) := h.1.2.2.2.2.1.2.2.2.2.2.1
  have q15 : rg 0 1 (gA m 15 15) := h.1.2.2.2.2.1.2.2.2.2.2.2
  have hm10 := (isW_m h.1).mp hw
  obtain ⟨l1, l2, l3⟩ := listens_R h hin hv
  obtain ⟨F, eF⟩ := li_f m a v q14 q15
  have fx : fX6_advance_92 x a.toNatClampNeg v = fX6_advance_101 (fX6_takeResult x (gA m 3 a.toNatClampNeg) v) a.toNatClampNeg v := by
    rw [fX6_advance_92, e32]
  have kx : kX6_advance_101 (fX6_takeResult x (gA m 3 a.toNatClampNeg) v) a.toNatClampNeg v → kX6_advance_92 x a.toNatClampNeg v := by
    intro k
    refine ⟨hw, ?_, ?_⟩
    · rw [e32]
      exact l1
    · rw [e32]
      exact k
  have fm : fX11_does_93 m a v = fX11_does_99 (fX11_listens m a v) a v := rfl
  rw [fx, fm]
  have hn3 : gI (fX11_listens m a v) 6 = a := by
    rw [eF]
    exact hn
  have hw3 : isW (fX6_takeResult x (gA m 3 a.toNatClampNeg) v) a.toNatClampNeg := by
    refine (isW_m l3.1).mpr ?_
    rw [eF]
    exact hm10
  have key : kX6_advance_101 (fX6_takeResult x (gA m 3 a.toNatClampNeg) v) a.toNatClampNeg v ∧ kX11_does_99 (fX11_listens m a v) a v ∧ (fX6_advance_101 (fX6_takeResult x (gA m 3 a.toNatClampNeg) v) a.toNatClampNeg v).1 = 1 ∧ R (c + 10) (fX6_advance_101 (fX6_takeResult x (gA m 3 a.toNatClampNeg) v) a.toNatClampNeg v).2 (fX11_does_99 (fX11_listens m a v) a v) := by
    generalize fX6_takeResult x (gA m 3 a.toNatClampNeg) v = X at *
    generalize fX11_listens m a v = M at *
    have e33 : gA X 33 a.toNatClampNeg = gA M 4 a.toNatClampNeg := congrFun l3.1.1.2.2.2.1 _
    have n12 : gI X 516 = gI M 3 := l3.1.2.2.2.2.2.2.2.2.1.2.2.2.2.2.2.2.2.2.2.2.1
    have n13 : rg 0 9 (gI M 3) := l3.1.2.2.2.2.2.2.2.2.1.2.2.2.2.2.2.2.2.2.2.2.2.1
    by_cases h0 : gA M 4 a.toNatClampNeg = 0
    · have h0x := e33.trans h0
      have r10 : rg 1 10 ((1 : Int32) + 0) := ⟨by decide, by decide⟩
      obtain ⟨y1, y2, y3, y4⟩ := cyc2_R l3 hc (s := 0) r10 ha hv hn3 hw3
      have e1 : ((1 : Int32) + 0).toInt64 = 1 := by decide
      rw [e1] at y1 y3 y4
      have fx : fX6_advance_101 X a.toNatClampNeg v = fX6_advance_127 X a.toNatClampNeg v 1 (gL X 408) := by
        rw [fX6_advance_101, if_pos h0x]
      have fm : fX11_does_99 M a v = fX11_does_117 M a v 0 1 := by
        rw [fX11_does_99, if_pos h0]
      rw [fx, fm]
      exact ⟨⟨hw3, fun _ => y1, fun e => absurd h0x e⟩, ⟨hin, fun _ => y2, fun e => absurd h0 e⟩, y3, y4⟩
    · have h0x : ¬ gA X 33 a.toNatClampNeg = 0 := fun e => h0 (e33.symm.trans e)
      have g1 := n13.1
      have g2 := n13.2
      have ew : (1 + gI M 3).toInt = 1 + (gI M 3).toInt := by
        rw [tadd (by rw [tl_1]; omega) (by rw [tl_1]; omega), tl_1]
      have r10 : rg 1 10 (1 + gI M 3) := ⟨by omega, by omega⟩
      obtain ⟨y1, y2, y3, y4⟩ := cyc2_R l3 hc r10 ha hv hn3 hw3
      have fx : fX6_advance_101 X a.toNatClampNeg v = fX6_advance_127 X a.toNatClampNeg v (1 + gI M 3).toInt64 (gL X 408) := by
        rw [fX6_advance_101, if_neg h0x, n12]
      have fm : fX11_does_99 M a v = fX11_does_117 M a v (gI M 3) 1 := by
        rw [fX11_does_99, if_neg h0]
      rw [fx, fm]
      refine ⟨⟨hw3, fun e => absurd e h0x, fun _ => ?_⟩, ⟨hin, fun e => absurd e h0, fun _ => y2⟩, y3, y4⟩
      rw [n12]
      exact y1
  exact ⟨kx key.1, ⟨l2, key.2.1⟩, key.2.2.1, key.2.2.2⟩
theorem begun_R {c : Int} {x m : SS} (h : R c x m) : R1 c (sI x 511 1) (sI m 25 1) := by
  have n1 : ¬ (1 : Int32) = 0 := by decide
  refine ⟨?_, n1⟩
  obtain ⟨hW, hV, hT, hP, hQ, hK, hM, hR, hN, hF, hC, hS, hE⟩ := h
  obtain ⟨n1, n2, n3, n4, n5, n6, n7, n8, n9, n10, n11, n12, n13, n14, n15⟩ := hN
  exact ⟨hW, hV, hT, hP, hQ, hK, hM, hR, ⟨n1, n2, rfl, rg_1, n5, n6, n7, n8, n9, n10, n11, n12, n13, n14, n15⟩, hF, hC, hS, fun e => absurd (show (1 : Int32) = 0 from e) (by decide)⟩
theorem does_R {c : Int} {x m : SS} (h : R c x m) (hc : c ≤ 2000000000) {a : Int32} (ha : rg 0 79 a) (hn : gI m 6 = a) (hw : isW x a.toNatClampNeg) : kX6_driveBus (sI x 511 1) a.toNatClampNeg ∧ kX6_advance_49 (fX6_driveBus (sI x 511 1) a.toNatClampNeg).2 a.toNatClampNeg (fX6_driveBus (sI x 511 1) a.toNatClampNeg).1 ∧ kX11_does m ∧ (fX6_advance_49 (fX6_driveBus (sI x 511 1) a.toNatClampNeg).2 a.toNatClampNeg (fX6_driveBus (sI x 511 1) a.toNatClampNeg).1).1 = 1 ∧ R (c + 10) (fX6_advance_49 (fX6_driveBus (sI x 511 1) a.toNatClampNeg).2 a.toNatClampNeg (fX6_driveBus (sI x 511 1) a.toNatClampNeg).1).2 (fX11_does m) := by
  have hin : vp_in a 80 := rin ha (by decide)
  have hm10 := (isW_m h).mp hw
  have hw0 : isW (sI x 511 1) a.toNatClampNeg := hw
  obtain ⟨kd, kx, b, hb, e1, e2, n, e3, hR⟩ := drives_R (begun_R h) ha hw0
  have ed : fX11_does m = fX11_does_16 (fX11_drives (sI m 25 1) a).2 a (fX11_drives (sI m 25 1) a).1 := by
    rw [fX11_does, hn]
  have kd' : kX11_does_16 (fX11_drives (sI m 25 1) a).2 a (fX11_drives (sI m 25 1) a).1 → kX11_does m := by
    intro k
    unfold kX11_does
    rw [hn]
    exact ⟨kd, k⟩
  rw [e1, e2, e3] at *
  generalize hX : (fX6_driveBus (sI x 511 1) a.toNatClampNeg).2 = X at *
  have hRm : R1 c X (sI (sI (sI (sA (sI m 25 1) 50 (F7 (sI m 25 1) a.toNatClampNeg)) 13 n) 8 b) 9 (gA m 1 a.toNatClampNeg)) := hR
  have hMeq : ∃ M, M = (sI (sI (sI (sA (sI m 25 1) 50 (F7 (sI m 25 1) a.toNatClampNeg)) 13 n) 8 b) 9 (gA m 1 a.toNatClampNeg)) := ⟨_, rfl⟩
  obtain ⟨M, hM⟩ := hMeq
  have hn1 : gI M 6 = a := by
    rw [hM]
    exact hn
  have h8 : gI M 8 = b := by
    rw [hM]
    rfl
  have h10 : gA M 10 = gA m 10 := by
    rw [hM]
    rfl
  have ed2 : fX11_does m = fX11_does_49 (fX11_combined M (gA M 2 a.toNatClampNeg) (gA M 15 10) b).2 a (fX11_combined M (gA M 2 a.toNatClampNeg) (gA M 15 10) b).1 := by
    rw [ed, hM, fX11_does_16, cl_10]
    rfl
  have kd2 : kX11_does_49 (fX11_combined M (gA M 2 a.toNatClampNeg) (gA M 15 10) b).2 a (fX11_combined M (gA M 2 a.toNatClampNeg) (gA M 15 10) b).1 → kX11_does m := by
    intro k
    apply kd'
    rw [hM] at k
    unfold kX11_does_16
    rw [cl_10]
    exact ⟨hin, hin, (mk_combined _ _ _ _).mpr trivial, k⟩
  rw [← hM] at hRm
  have hm10' : a.toNatClampNeg < 80 ∧ ¬ gA M 10 a.toNatClampNeg = 0 := by
    rw [h10]
    exact hm10
  clear hM hR ed kd' hX e3
  have hk : rg 0 7 (gA M 2 a.toNatClampNeg) := hRm.1.2.1.2.1 _
  have ht : rg 0 255 (gA M 15 10) := hRm.1.2.2.2.2.1.2.1
  obtain ⟨ec, hr⟩ := m_combined M hk ht hb
  rw [ec] at ed2 kd2
  have e31 : gA X 31 a.toNatClampNeg = gA M 2 a.toNatClampNeg := congrFun hRm.1.1.2.1 _
  have e900 : gI X 900 = gA M 15 10 := hRm.1.2.2.2.1.2.2.2.2.2.2.2.1
  have e37 : gA X 37 a.toNatClampNeg = gA M 11 a.toNatClampNeg := congrFun hRm.1.1.2.2.2.2.2.2.2.1 _
  have hwX : isW X a.toNatClampNeg := (isW_m hRm.1).mpr hm10'
  have fx : fX6_advance_49 X a.toNatClampNeg b = fX6_advance_65 X a.toNatClampNeg b (cmb (gA M 2 a.toNatClampNeg) (gA M 15 10) b) := by
    rw [fX6_advance_49, e31, e900, xf_resultOf]
  have kx49 : kX6_advance_65 X a.toNatClampNeg b (cmb (gA M 2 a.toNatClampNeg) (gA M 15 10) b) → kX6_advance_49 X a.toNatClampNeg b := by
    intro k
    unfold kX6_advance_49
    rw [e31, e900, xf_resultOf]
    exact ⟨hwX, (xk_resultOf _ _ _ _).mpr trivial, k⟩
  rw [fx, ed2]
  by_cases h11 : gA M 11 a.toNatClampNeg = 0
  · have h11x := e37.trans h11
    obtain ⟨y1, y2, y3, y4⟩ := lis2_R hRm hc ha hr hn1 hwX
    have f1 : fX6_advance_65 X a.toNatClampNeg b (cmb (gA M 2 a.toNatClampNeg) (gA M 15 10) b) = fX6_advance_92 X a.toNatClampNeg (cmb (gA M 2 a.toNatClampNeg) (gA M 15 10) b) := by
      rw [fX6_advance_65, if_pos h11x]
    have f2 : fX11_does_49 M a (cmb (gA M 2 a.toNatClampNeg) (gA M 15 10) b) = fX11_does_93 M a (cmb (gA M 2 a.toNatClampNeg) (gA M 15 10) b) := by
      rw [fX11_does_49, if_pos h11]
    refine ⟨kx, kx49 ⟨hwX, fun _ => y1, fun e => absurd h11x e⟩, kd2 ⟨hin, fun _ => y2, fun e => absurd h11 e⟩, ?_, ?_⟩
    · rw [f1]
      exact y3
    · rw [f1, f2]
      exact y4
  · have h11x : ¬ gA X 37 a.toNatClampNeg = 0 := fun e => h11 (e37.symm.trans e)
    have hRt := tell_R hRm hk ht hb
    obtain ⟨y1, y2, y3, y4⟩ := lis2_R hRt hc ha hr hn1 ((isW_m hRt.1).mpr hm10')
    have f1 : fX6_advance_65 X a.toNatClampNeg b (cmb (gA M 2 a.toNatClampNeg) (gA M 15 10) b) = fX6_advance_92 (fX4_tell X (gA M 2 a.toNatClampNeg) (gA M 15 10) b) a.toNatClampNeg (cmb (gA M 2 a.toNatClampNeg) (gA M 15 10) b) := by
      rw [fX6_advance_65, if_neg h11x, e31, e900]
    have f2 : fX11_does_49 M a (cmb (gA M 2 a.toNatClampNeg) (gA M 15 10) b) = fX11_does_93 (sI (sI (sI (sI M 26 1) 18 (gA M 2 a.toNatClampNeg)) 19 (gA M 15 10)) 20 b) a (cmb (gA M 2 a.toNatClampNeg) (gA M 15 10) b) := by
      rw [fX11_does_49, if_neg h11, cl_10, h8]
    refine ⟨kx, kx49 ⟨hwX, fun e => absurd e h11x, fun _ => ?_⟩, kd2 ⟨hin, fun e => absurd e h11, fun _ => ?_⟩, ?_, ?_⟩
    · rw [e31, e900]
      exact ⟨hwX, trivial, y1⟩
    · rw [cl_10, h8]
      exact ⟨hin, y2⟩
    · rw [f1]
      exact y3
    · rw [f1, f2]
      exact y4
