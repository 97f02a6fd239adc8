/-! ===== PURE: a micro-step ===== -/
theorem R1_S {c : Int} {x m : SS} (h : R1 c x m) {v : Int32} (hv : rg 0 1 v) : R1 c (sI x 705 v) (sA m 15 (upd (gA m 15) 7 v)) := by
  obtain ⟨h, hb⟩ := h
  refine ⟨?_, hb⟩
  obtain ⟨hW, hV, hT, hP, hQ, hK, hM, hR, hN, hF, hC, hS, hE⟩ := h
  obtain ⟨p0, p1, p2, p3, p4, p5, p6, p7, p8, p9, p10, p11, p12⟩ := hP
  obtain ⟨⟨v0, v4, v5, v6, v7, v8, v9⟩, q10, q11, q12, q13, q14, q15⟩ := hQ
  refine ⟨hW, hV, hT, ⟨?_, p1, p2, p3, p4, rfl, p6, p7, p8, p9, p10, p11, p12⟩, ⟨⟨?_, v4, v5, v6, hv, v8, v9⟩, q10, q11, q12, q13, q14, q15⟩, hK, hM, hR, hN, hF, hC, hS, fun e => absurd e hb⟩
  · intro r hr
    show gA x 25 r = upd (gA m 15) 7 v r
    rw [upd_ne (by omega)]
    exact p0 r hr
  · intro r hr
    show rg 0 255 (upd (gA m 15) 7 v r)
    rw [upd_ne (by omega)]
    exact v0 r hr
theorem R1_I {c : Int} {x m : SS} (h : R1 c x m) {v : Int32} (hv : rg 0 1 v) : R1 c (sI x 706 v) (sA m 15 (upd (gA m 15) 8 v)) := by
  obtain ⟨h, hb⟩ := h
  refine ⟨?_, hb⟩
  obtain ⟨hW, hV, hT, hP, hQ, hK, hM, hR, hN, hF, hC, hS, hE⟩ := h
  obtain ⟨p0, p1, p2, p3, p4, p5, p6, p7, p8, p9, p10, p11, p12⟩ := hP
  obtain ⟨⟨v0, v4, v5, v6, v7, v8, v9⟩, q10, q11, q12, q13, q14, q15⟩ := hQ
  refine ⟨hW, hV, hT, ⟨?_, p1, p2, p3, p4, p5, rfl, p7, p8, p9, p10, p11, p12⟩, ⟨⟨?_, v4, v5, v6, v7, hv, v9⟩, q10, q11, q12, q13, q14, q15⟩, hK, hM, hR, hN, hF, hC, hS, fun e => absurd e hb⟩
  · intro r hr
    show gA x 25 r = upd (gA m 15) 8 v r
    rw [upd_ne (by omega)]
    exact p0 r hr
  · intro r hr
    show rg 0 255 (upd (gA m 15) 8 v r)
    rw [upd_ne (by omega)]
    exact v0 r hr
theorem o_end {m : SS} {a v : Int32} (ha : vp_in a 80) (he : isEnd (gA m 9 a.toNatClampNeg)) {M : SS} (hM : M = if gA m 9 a.toNatClampNeg = 115 then sA m 15 (upd (gA m 15) 7 (1 - gA m 15 7)) else if gA m 9 a.toNatClampNeg = 107 then sA (sA m 15 (upd (gA m 15) 4 (gA m 15 9))) 15 (upd (upd (gA m 15) 4 (gA m 15 9)) 8 1) else if gA m 9 a.toNatClampNeg = 103 then sA m 15 (upd (gA m 15) 8 (v - v / 2 * 2)) else m) : (kX11_finish M → kX11_orders m a v) ∧ fX11_orders m a v = fX11_finish M := by
  have n1 : ¬ (1 : Int32) = 0 := by decide
  have ne : ¬ gA m 9 a.toNatClampNeg = 113 := by
    intro z
    rcases he with e | e | e | e
    · exact absurd (e.symm.trans z) (by decide)
    · exact absurd (e.symm.trans z) (by decide)
    · exact absurd (e.symm.trans z) (by decide)
    · exact absurd (e.symm.trans z) (by decide)
  have ef : fX11_ends m (gA m 9 a.toNatClampNeg) = (1, m) := by
    rw [mf_ends, if_pos he]
  have kf : kX11_ends m (gA m 9 a.toNatClampNeg) := by
    rw [mk_ends]
    trivial
  have eo : fX11_orders m a v = fX11_orders_30 m a v (gA m 9 a.toNatClampNeg) 1 := by
    rw [fX11_orders, if_neg ne, ef]
  have ko : kX11_orders_30 m a v (gA m 9 a.toNatClampNeg) 1 → kX11_orders m a v := by
    intro hk
    refine ⟨ha, fun e => absurd e ne, fun _ => ⟨kf, ?_⟩⟩
    rw [ef]
    exact hk
  rw [eo]
  generalize gA m 9 a.toNatClampNeg = o at *
  rcases he with e | e | e | e
  · subst e
    have hM2 : M = m := hM
    subst hM2
    exact ⟨fun hk => ko ⟨fun z => absurd z n1, fun _ => ⟨fun z => absurd z (by decide), fun _ => ⟨fun z => absurd z (by decide), fun _ => ⟨fun z => absurd z (by decide), fun _ => ⟨hk, trivial⟩⟩⟩⟩⟩, by
      rw [fX11_orders_30, if_neg n1, if_neg (by decide), fX11_orders_69, if_neg (by decide), fX11_orders_96, if_neg (by decide), fX11_orders_112]⟩
  · subst e
    have hM2 : M = sA m 15 (upd (gA m 15) 7 (1 - gA m 15 7)) := hM
    subst hM2
    exact ⟨fun hk => ko ⟨fun z => absurd z n1, fun _ => ⟨fun _ => ⟨fun z => absurd z (by decide), fun _ => ⟨fun z => absurd z (by decide), fun _ => ⟨hk, trivial⟩⟩⟩, fun z => absurd rfl z⟩⟩, by
      rw [fX11_orders_30, if_neg n1, if_pos rfl, fX11_orders_69, if_neg (by decide), fX11_orders_96, if_neg (by decide), fX11_orders_112, cl_7]⟩
  · subst e
    have hM2 : M = sA (sA m 15 (upd (gA m 15) 4 (gA m 15 9))) 15 (upd (upd (gA m 15) 4 (gA m 15 9)) 8 1) := hM
    subst hM2
    exact ⟨fun hk => ko ⟨fun z => absurd z n1, fun _ => ⟨fun z => absurd z (by decide), fun _ => ⟨fun _ => ⟨fun z => absurd z (by decide), fun _ => ⟨hk, trivial⟩⟩, fun z => absurd rfl z⟩⟩⟩, by
      rw [fX11_orders_30, if_neg n1, if_neg (by decide), fX11_orders_69, if_pos rfl, fX11_orders_96, if_neg (by decide), fX11_orders_112, cl_4, cl_8, cl_9]⟩
  · subst e
    have hM2 : M = sA m 15 (upd (gA m 15) 8 (v - v / 2 * 2)) := hM
    subst hM2
    exact ⟨fun hk => ko ⟨fun z => absurd z n1, fun _ => ⟨fun z => absurd z (by decide), fun _ => ⟨fun z => absurd z (by decide), fun _ => ⟨fun _ => ⟨hk, trivial⟩, fun z => absurd rfl z⟩⟩⟩⟩, by
      rw [fX11_orders_30, if_neg n1, if_neg (by decide), fX11_orders_69, if_neg (by decide), fX11_orders_96, if_pos rfl, fX11_orders_112, cl_8]⟩
theorem change_R {c : Int} {x m : SS} (h : R1 c x m) {o v : Int32} (he : isEnd o) (hv : rg 0 255 v) : kX6_changeAtEnd x o v ∧ R1 c (fX6_changeAtEnd x o v) (if o = 115 then sA m 15 (upd (gA m 15) 7 (1 - gA m 15 7)) else if o = 107 then sA (sA m 15 (upd (gA m 15) 4 (gA m 15 9))) 15 (upd (upd (gA m 15) 4 (gA m 15 9)) 8 1) else if o = 103 then sA m 15 (upd (gA m 15) 8 (v - v / 2 * 2)) else m) := by
  have v7 := h.1.2.2.2.2.1.1.2.2.2.2.1
  have v9 := h.1.2.2.2.2.1.1.2.2.2.2.2.2
  have p2 : gI x 702 = gA m 15 9 := h.1.2.2.2.1.2.2.1
  have p5 : gI x 705 = gA m 15 7 := h.1.2.2.2.1.2.2.2.2.2.1
  refine ⟨⟨fun _ => trivial, fun _ => ⟨fun _ => trivial, fun _ => ⟨fun _ => trivial, fun _ => trivial⟩⟩⟩, ?_⟩
  rcases he with e | e | e | e
  · subst e
    rw [fX6_changeAtEnd, if_neg (by decide), if_neg (by decide), if_neg (by decide), fX6_changeAtEnd_93, if_neg (by decide), if_neg (by decide), if_neg (by decide)]
    exact h
  · subst e
    rw [fX6_changeAtEnd, if_neg (by decide), if_neg (by decide), if_pos rfl, fX6_changeAtEnd_93, if_pos rfl, p5]
    exact R1_S h (flip01 v7)
  · subst e
    rw [fX6_changeAtEnd, if_neg (by decide), if_pos rfl, fX6_changeAtEnd_93, if_neg (by decide), if_pos rfl, p2]
    exact R1_I (R1_P h v9) rg_1
  · subst e
    rw [fX6_changeAtEnd, if_pos rfl, fX6_changeAtEnd_93, if_neg (by decide), if_neg (by decide), if_pos rfl, od1 hv]
    exact R1_I h (rga1 v)
theorem ends_R {c : Int} {x m : SS} (h : R1 c x m) {a v : Int32} (ha : rg 0 79 a) (hv : rg 0 255 v) (he : isEnd (gA m 9 a.toNatClampNeg)) : kX6_changeAtEnd x (gA m 9 a.toNatClampNeg) v ∧ kX6_endInstruction (fX6_changeAtEnd x (gA m 9 a.toNatClampNeg) v) ∧ kX11_orders m a v ∧ R c (fX6_endInstruction (fX6_changeAtEnd x (gA m 9 a.toNatClampNeg) v)) (fX11_orders m a v) := by
  obtain ⟨o1, o2⟩ := o_end (m := m) (a := a) (v := v) (rin ha (by decide)) he rfl
  obtain ⟨c1, c2⟩ := change_R h he hv
  obtain ⟨f1, f2, f3⟩ := finish_R c2.1
  refine ⟨c1, f1, o1 f2, ?_⟩
  rw [o2]
  exact f3
/-! the frame of listens -/
theorem li_f (q : SS) (a v : Int32) (q14 : rg 0 255 (gA q 15 14)) (q15 : rg 0 1 (gA q 15 15)) : ∃ F, fX11_listens q a v = sA q 15 F := by
  have z : ∀ (q : SS), ∃ F, q = sA q 15 F := fun q => ⟨gA q 15, (sA_self q 15).symm⟩
  have g : ∀ (q : SS) (F : Nat → Int32) (Y : SS), (∃ G, Y = sA (sA q 15 F) 15 G) → ∃ G, Y = sA q 15 G := fun q F Y ⟨G, e⟩ => ⟨G, by rw [e, sA_sA]⟩
  have e8 : ∀ (q : SS) (v t : Int32), ∃ F, fX11_listens_134 q v t = sA q 15 F := by
    intro q v t
    unfold fX11_listens_134
    split
    · exact z q
    · exact ⟨_, rfl⟩
  have e7 : ∀ (q : SS) (v s t : Int32), ∃ F, fX11_listens_118 q v s t = sA q 15 F := by
    intro q v s t
    unfold fX11_listens_118
    split
    · exact e8 _ _ _
    · exact g _ _ _ (e8 _ _ _)
  have e6 : ∀ (q : SS) (v f s t : Int32), ∃ F, fX11_listens_103 q v f s t = sA q 15 F := by
    intro q v f s t
    unfold fX11_listens_103
    split
    · exact e7 _ _ _ _
    · exact g _ _ _ (e7 _ _ _ _)
  have e5 : ∀ (q : SS) (v f s t : Int32), ∃ F, fX11_listens_85 q v f s t = sA q 15 F := by
    intro q v f s t
    unfold fX11_listens_85
    split
    · exact e6 _ _ _ _ _
    · exact g _ _ _ (e6 _ _ _ _ _)
  have e4 : ∀ (q : SS) (v f s t : Int32), ∃ F, fX11_listens_69 q v f s t = sA q 15 F := by
    intro q v f s t
    unfold fX11_listens_69
    split
    · exact e5 _ _ _ _ _
    · exact g _ _ _ (e5 _ _ _ _ _)
  have e3 : ∀ (q : SS) (v f s t : Int32), ∃ F, fX11_listens_51 q v f s t = sA q 15 F := by
    intro q v f s t
    unfold fX11_listens_51
    split
    · exact e4 _ _ _ _ _
    · exact g _ _ _ (e4 _ _ _ _ _)
  have e2 : ∀ (q : SS) (v f s t : Int32), ∃ F, fX11_listens_36 q v f s t = sA q 15 F := by
    intro q v f s t
    unfold fX11_listens_36
    split
    · exact e3 _ _ _ _ _
    · exact g _ _ _ (e3 _ _ _ _ _)
  have e1 : ∀ (q : SS) (a v f s : Int32), ∃ F, fX11_listens_11 q a v f s = sA q 15 F := by
    intro q a v f s
    unfold fX11_listens_11
    split
    · exact e2 _ _ _ _ _
    · exact g _ _ _ (e2 _ _ _ _ _)
  unfold fX11_listens fX11_listens_5
  rw [(m_reg0 q q14 q15).2, (m_reg1 q q14 q15).2]
  exact e1 _ _ _ _ _
theorem isW_m {c : Int} {x m : SS} (h : R c x m) {k : Nat} : isW x k ↔ k < 80 ∧ ¬ gA m 10 k = 0 := by
  have e : gA x 39 = gA m 10 := h.1.2.2.2.2.2.2.2.2.2.1
  unfold isW
  rw [e]
theorem mem3_R {c : Int} {X M : SS} (hX : R1 c X M) {a v : Int32} (ha : rg 0 79 a) (hv : rg 0 255 v) (hN : gI M 6 = a) (hWX : isW X a.toNatClampNeg) : kX6_advance_169 X a.toNatClampNeg v ∧ kX11_does_260 M a v ∧ (fX6_advance_169 X a.toNatClampNeg v).1 = 1 ∧ R c (fX6_advance_169 X a.toNatClampNeg v).2 (fX11_does_260 M a v) := by
  have fo : fX11_does_260 M a v = fX11_orders M a v := rfl
  rw [fo]
  have e34 : gA X 34 a.toNatClampNeg = gA M 9 a.toNatClampNeg := congrFun hX.1.1.2.2.2.2.1 _
  have ho := hX.1.2.1.2.2.2.2.2.2.2.2.2.1 _ ((isW_m hX.1).mp hWX).2
  have r9 := hX.1.2.1.2.2.2.2.2.2.2.1 a.toNatClampNeg
  obtain ⟨ki, i, e1, e2⟩ := ix1 X r9
  by_cases he : isEnd (gA M 9 a.toNatClampNeg)
  · have hi := e2.mpr he
    have ni : ¬ i < 0 := by
      rw [Int32.lt_iff_toInt_lt, tl_0]
      rw [Int32.le_iff_toInt_le, tl_0] at hi
      omega
    obtain ⟨z1, z2, z3, z4⟩ := ends_R hX ha hv he
    have fe : fX6_advance_169 X a.toNatClampNeg v = (1, fX6_endInstruction (fX6_changeAtEnd X (gA M 9 a.toNatClampNeg) v)) := by
      rw [fX6_advance_169, e34, e1, fX6_advance_178, if_neg ni, e34]
      rfl
    refine ⟨⟨hWX, ?_, ?_⟩, ⟨z3, trivial⟩, ?_, ?_⟩
    · rw [e34]
      exact ki
    · rw [e34, e1]
      refine ⟨fun e => absurd e ni, fun _ => ⟨hWX, ?_⟩⟩
      rw [e34]
      exact ⟨z1, z2, trivial⟩
    · rw [fe]
    · rw [fe]
      dsimp only
      exact z4
  · have hi : i < 0 := by
      have n : ¬ 0 ≤ i := fun z => he (e2.mp z)
      rw [Int32.le_iff_toInt_le, tl_0] at n
      rw [Int32.lt_iff_toInt_lt, tl_0]
      omega
    obtain ⟨z1, z2, z3⟩ := obey_R (v := v) hX ha hN hWX ho he
    have fe : fX6_advance_169 X a.toNatClampNeg v = (1, fX6_obey X a.toNatClampNeg) := by
      rw [fX6_advance_169, e34, e1, fX6_advance_178, if_pos hi]
      rfl
    refine ⟨⟨hWX, ?_, ?_⟩, ⟨z2, trivial⟩, ?_, ?_⟩
    · rw [e34]
      exact ki
    · rw [e34, e1]
      exact ⟨fun _ => ⟨z1, trivial⟩, fun e => absurd hi e⟩
    · rw [fe]
    · rw [fe]
      dsimp only
      exact z3
theorem mem2_R {c : Int} {x m : SS} (h : R1 c x m) {a v : Int32} (ha : rg 0 79 a) (hv : rg 0 255 v) (hn : gI m 6 = a) (hw : isW x a.toNatClampNeg) : kX6_advance_161 x a.toNatClampNeg v ∧ kX11_does_202 m a v ∧ (fX6_advance_161 x a.toNatClampNeg v).1 = 1 ∧ R c (fX6_advance_161 x a.toNatClampNeg v).2 (fX11_does_202 m a v) := by
  have hin : vp_in a 80 := rin ha (by decide)
  have e33 : gA x 33 a.toNatClampNeg = gA m 4 a.toNatClampNeg := congrFun h.1.1.2.2.2.1 _
  have q12 : rg 0 63 (gA m 15 12) := h.1.2.2.2.2.1.2.2.2.1
  have i12 : vp_in (gA m 15 12) 64 := rin q12 (by decide)
  obtain ⟨kr, r1, r2, r3⟩ := mem_R h (gA m 4 a.toNatClampNeg)
  have key : ∀ (X M : SS), R1 c X M → gI M 6 = a → isW X a.toNatClampNeg → kX6_advance_169 X a.toNatClampNeg v ∧ kX11_does_260 M a v ∧ (fX6_advance_169 X a.toNatClampNeg v).1 = 1 ∧ R c (fX6_advance_169 X a.toNatClampNeg v).2 (fX11_does_260 M a v) := fun X M h1 h2 h3 => mem3_R h1 ha hv h2 h3
  have fx : fX6_advance_161 x a.toNatClampNeg v = fX6_advance_169 (fX6_reachMemory x (gA m 4 a.toNatClampNeg)) a.toNatClampNeg v := by
    rw [fX6_advance_161, e33]
  have kx : kX6_advance_169 (fX6_reachMemory x (gA m 4 a.toNatClampNeg)) a.toNatClampNeg v → kX6_advance_161 x a.toNatClampNeg v := by
    intro k
    refine ⟨hw, ?_, ?_⟩
    · rw [e33]
      exact kr
    · rw [e33]
      exact k
  rw [fx]
  have hm10 := (isW_m h.1).mp hw
  by_cases h1 : gA m 4 a.toNatClampNeg = 1
  · have n2 : ¬ gA m 4 a.toNatClampNeg = 2 := fun z => absurd (h1.symm.trans z) (by decide)
    have hR := r1 h1
    obtain ⟨y1, y2, y3, y4⟩ := key _ _ hR hn ((isW_m hR.1).mpr hm10)
    have fm : fX11_does_202 m a v = fX11_does_260 (sA m 15 (upd (gA m 15) 13 (gA m 17 (gA m 15 12).toNatClampNeg))) a v := by
      rw [fX11_does_202, if_pos h1, cl_12, cl_13]
      exact if_neg n2
    refine ⟨kx y1, ⟨hin, fun _ => ?_, fun e => absurd h1 e⟩, y3, ?_⟩
    · rw [cl_12, cl_13]
      exact ⟨i12, hin, fun e => absurd e n2, fun _ => y2⟩
    · rw [fm]
      exact y4
  · by_cases h2 : gA m 4 a.toNatClampNeg = 2
    · have hR := r2 h2
      obtain ⟨y1, y2, y3, y4⟩ := key _ _ hR hn ((isW_m hR.1).mpr hm10)
      have fm : fX11_does_202 m a v = fX11_does_260 (sA m 17 (upd (gA m 17) (gA m 15 12).toNatClampNeg (gA m 15 13))) a v := by
        rw [fX11_does_202, if_neg h1, fX11_does_231, if_pos h2, cl_12, cl_13]
      refine ⟨kx y1, ⟨hin, fun e => absurd e h1, fun _ => ⟨hin, fun _ => ?_, fun e => absurd h2 e⟩⟩, y3, ?_⟩
      · rw [cl_12, cl_13]
        exact ⟨i12, y2⟩
      · rw [fm]
        exact y4
    · have hR := r3 h1 h2
      rw [hR] at kx ⊢
      obtain ⟨y1, y2, y3, y4⟩ := key _ _ h hn hw
      have fm : fX11_does_202 m a v = fX11_does_260 m a v := by
        rw [fX11_does_202, if_neg h1, fX11_does_231, if_neg h2]
      refine ⟨kx y1, ⟨hin, fun e => absurd e h1, fun _ => ⟨hin, fun e => absurd e h2, fun _ => y2⟩⟩, y3, ?_⟩
      rw [fm]
      exact y4
