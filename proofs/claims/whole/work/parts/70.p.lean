/-! ===== PURE: carrying out, block by block ===== -/
theorem xc_1 {q : SS} (h : gI q 1102 = 1) : ((vp_in ((gI q 1104) &&& 3) 4 ∧ vp_in ((gI q 1103) &&& 3) 4 ∧ kX2_carryOut_353 (sA q 27 (upd (gA q 27) (((gI q 1103) &&& 3) : Int32).toNatClampNeg ((gA q 27) (((gI q 1104) &&& 3) : Int32).toNatClampNeg)))) → kX2_carryOut q) ∧ fX2_carryOut q = fX2_carryOut_353 (sA q 27 (upd (gA q 27) (((gI q 1103) &&& 3) : Int32).toNatClampNeg ((gA q 27) (((gI q 1104) &&& 3) : Int32).toNatClampNeg))) := by
  exact ⟨fun k => ⟨fun _ => k, fun e => absurd h e⟩, by rw [fX2_carryOut, if_pos h]⟩
theorem xc_2 {q : SS} (h : gI q 1102 = 2) : ((vp_in ((gI q 1104) &&& 3) 4 ∧ kX2_combineInto q ((gI q 1103) &&& 3) 1 ((gA q 27) (((gI q 1104) &&& 3) : Int32).toNatClampNeg) ∧ kX2_carryOut_120 (fX2_combineInto q ((gI q 1103) &&& 3) 1 ((gA q 27) (((gI q 1104) &&& 3) : Int32).toNatClampNeg))) → kX2_carryOut q) ∧ fX2_carryOut q = fX2_carryOut_120 (fX2_combineInto q ((gI q 1103) &&& 3) 1 ((gA q 27) (((gI q 1104) &&& 3) : Int32).toNatClampNeg)) := by
  have h1 : ¬ gI q 1102 = 1 := fun e => absurd (h.symm.trans e) (by decide)
  exact ⟨fun k => ⟨fun e => absurd e h1, fun _ => ⟨fun _ => k, fun e => absurd h e⟩⟩, by rw [fX2_carryOut, if_neg h1, if_pos h]⟩
theorem xc_3 {q : SS} (h : gI q 1102 = 3) : ((vp_in ((gI q 1104) &&& 3) 4 ∧ kX2_combineInto q ((gI q 1103) &&& 3) 2 ((gA q 27) (((gI q 1104) &&& 3) : Int32).toNatClampNeg) ∧ kX2_carryOut_133 (fX2_combineInto q ((gI q 1103) &&& 3) 2 ((gA q 27) (((gI q 1104) &&& 3) : Int32).toNatClampNeg))) → kX2_carryOut q) ∧ fX2_carryOut q = fX2_carryOut_133 (fX2_combineInto q ((gI q 1103) &&& 3) 2 ((gA q 27) (((gI q 1104) &&& 3) : Int32).toNatClampNeg)) := by
  have h1 : ¬ gI q 1102 = 1 := fun e => absurd (h.symm.trans e) (by decide)
  have h2 : ¬ gI q 1102 = 2 := fun e => absurd (h.symm.trans e) (by decide)
  exact ⟨fun k => ⟨fun e => absurd e h1, fun _ => ⟨fun e => absurd e h2, fun _ => ⟨fun _ => k, fun e => absurd h e⟩⟩⟩, by rw [fX2_carryOut, if_neg h1, if_neg h2, if_pos h]⟩
theorem xc_4 {q : SS} (h : gI q 1102 = 4) : ((vp_in ((gI q 1104) &&& 3) 4 ∧ kX2_combineInto q ((gI q 1103) &&& 3) 3 ((gA q 27) (((gI q 1104) &&& 3) : Int32).toNatClampNeg) ∧ kX2_carryOut_146 (fX2_combineInto q ((gI q 1103) &&& 3) 3 ((gA q 27) (((gI q 1104) &&& 3) : Int32).toNatClampNeg))) → kX2_carryOut q) ∧ fX2_carryOut q = fX2_carryOut_146 (fX2_combineInto q ((gI q 1103) &&& 3) 3 ((gA q 27) (((gI q 1104) &&& 3) : Int32).toNatClampNeg)) := by
  have h1 : ¬ gI q 1102 = 1 := fun e => absurd (h.symm.trans e) (by decide)
  have h2 : ¬ gI q 1102 = 2 := fun e => absurd (h.symm.trans e) (by decide)
  have h3 : ¬ gI q 1102 = 3 := fun e => absurd (h.symm.trans e) (by decide)
  exact ⟨fun k => ⟨fun e => absurd e h1, fun _ => ⟨fun e => absurd e h2, fun _ => ⟨fun e => absurd e h3, fun _ => ⟨fun _ => k, fun e => absurd h e⟩⟩⟩⟩, by rw [fX2_carryOut, if_neg h1, if_neg h2, if_neg h3, if_pos h]⟩
theorem xc_5 {q : SS} (h : gI q 1102 = 5) : ((vp_in ((gI q 1103) &&& 3) 4 ∧ kX2_combineInto q ((gI q 1103) &&& 3) 5 ((gA q 27) (((gI q 1103) &&& 3) : Int32).toNatClampNeg) ∧ kX2_carryOut_158 (fX2_combineInto q ((gI q 1103) &&& 3) 5 ((gA q 27) (((gI q 1103) &&& 3) : Int32).toNatClampNeg))) → kX2_carryOut q) ∧ fX2_carryOut q = fX2_carryOut_158 (fX2_combineInto q ((gI q 1103) &&& 3) 5 ((gA q 27) (((gI q 1103) &&& 3) : Int32).toNatClampNeg)) := by
  have h1 : ¬ gI q 1102 = 1 := fun e => absurd (h.symm.trans e) (by decide)
  have h2 : ¬ gI q 1102 = 2 := fun e => absurd (h.symm.trans e) (by decide)
  have h3 : ¬ gI q 1102 = 3 := fun e => absurd (h.symm.trans e) (by decide)
  have h4 : ¬ gI q 1102 = 4 := fun e => absurd (h.symm.trans e) (by decide)
  exact ⟨fun k => ⟨fun e => absurd e h1, fun _ => ⟨fun e => absurd e h2, fun _ => ⟨fun e => absurd e h3, fun _ => ⟨fun e => absurd e h4, fun _ => ⟨fun _ => k, fun e => absurd h e⟩⟩⟩⟩⟩, by rw [fX2_carryOut, if_neg h1, if_neg h2, if_neg h3, if_neg h4, if_pos h]⟩
theorem xc_6 {q : SS} (h : gI q 1102 = 6) : ((kX2_takeByte q ∧ kX2_carryOut_168 (fX2_takeByte q).2 (fX2_takeByte q).1 ((gI q 1103) &&& 3)) → kX2_carryOut q) ∧ fX2_carryOut q = fX2_carryOut_168 (fX2_takeByte q).2 (fX2_takeByte q).1 ((gI q 1103) &&& 3) := by
  have h1 : ¬ gI q 1102 = 1 := fun e => absurd (h.symm.trans e) (by decide)
  have h2 : ¬ gI q 1102 = 2 := fun e => absurd (h.symm.trans e) (by decide)
  have h3 : ¬ gI q 1102 = 3 := fun e => absurd (h.symm.trans e) (by decide)
  have h4 : ¬ gI q 1102 = 4 := fun e => absurd (h.symm.trans e) (by decide)
  have h5 : ¬ gI q 1102 = 5 := fun e => absurd (h.symm.trans e) (by decide)
  exact ⟨fun k => ⟨fun e => absurd e h1, fun _ => ⟨fun e => absurd e h2, fun _ => ⟨fun e => absurd e h3, fun _ => ⟨fun e => absurd e h4, fun _ => ⟨fun e => absurd e h5, fun _ => ⟨fun _ => k, fun e => absurd h e⟩⟩⟩⟩⟩⟩, by rw [fX2_carryOut, if_neg h1, if_neg h2, if_neg h3, if_neg h4, if_neg h5, if_pos h]⟩
theorem xc_7 {q : SS} (h : gI q 1102 = 7) : ((vp_in ((gI q 1104) &&& 3) 4 ∧ vp_in (((gA q 27) (((gI q 1104) &&& 3) : Int32).toNatClampNeg) &&& 63) 64 ∧ vp_in ((gI q 1103) &&& 3) 4 ∧ kX2_carryOut_353 (sA q 27 (upd (gA q 27) (((gI q 1103) &&& 3) : Int32).toNatClampNeg ((gA q 17) ((((gA q 27) (((gI q 1104) &&& 3) : Int32).toNatClampNeg) &&& 63) : Int32).toNatClampNeg)))) → kX2_carryOut q) ∧ fX2_carryOut q = fX2_carryOut_353 (sA q 27 (upd (gA q 27) (((gI q 1103) &&& 3) : Int32).toNatClampNeg ((gA q 17) ((((gA q 27) (((gI q 1104) &&& 3) : Int32).toNatClampNeg) &&& 63) : Int32).toNatClampNeg))) := by
  have h1 : ¬ gI q 1102 = 1 := fun e => absurd (h.symm.trans e) (by decide)
  have h2 : ¬ gI q 1102 = 2 := fun e => absurd (h.symm.trans e) (by decide)
  have h3 : ¬ gI q 1102 = 3 := fun e => absurd (h.symm.trans e) (by decide)
  have h4 : ¬ gI q 1102 = 4 := fun e => absurd (h.symm.trans e) (by decide)
  have h5 : ¬ gI q 1102 = 5 := fun e => absurd (h.symm.trans e) (by decide)
  have h6 : ¬ gI q 1102 = 6 := fun e => absurd (h.symm.trans e) (by decide)
  exact ⟨fun k => ⟨fun e => absurd e h1, fun _ => ⟨fun e => absurd e h2, fun _ => ⟨fun e => absurd e h3, fun _ => ⟨fun e => absurd e h4, fun _ => ⟨fun e => absurd e h5, fun _ => ⟨fun e => absurd e h6, fun _ => ⟨fun _ => k, fun e => absurd h e⟩⟩⟩⟩⟩⟩⟩, by rw [fX2_carryOut, if_neg h1, if_neg h2, if_neg h3, if_neg h4, if_neg h5, if_neg h6, if_pos h]⟩
theorem xc_8 {q : SS} (h : gI q 1102 = 8) : ((vp_in ((gI q 1104) &&& 3) 4 ∧ vp_in ((gI q 1103) &&& 3) 4 ∧ kX2_carryOut_353 (sI (sI q 1105 (((gA q 27) (((gI q 1104) &&& 3) : Int32).toNatClampNeg) &&& 63)) 1106 ((gA q 27) (((gI q 1103) &&& 3) : Int32).toNatClampNeg))) → kX2_carryOut q) ∧ fX2_carryOut q = fX2_carryOut_353 (sI (sI q 1105 (((gA q 27) (((gI q 1104) &&& 3) : Int32).toNatClampNeg) &&& 63)) 1106 ((gA q 27) (((gI q 1103) &&& 3) : Int32).toNatClampNeg)) := by
  have h1 : ¬ gI q 1102 = 1 := fun e => absurd (h.symm.trans e) (by decide)
  have h2 : ¬ gI q 1102 = 2 := fun e => absurd (h.symm.trans e) (by decide)
  have h3 : ¬ gI q 1102 = 3 := fun e => absurd (h.symm.trans e) (by decide)
  have h4 : ¬ gI q 1102 = 4 := fun e => absurd (h.symm.trans e) (by decide)
  have h5 : ¬ gI q 1102 = 5 := fun e => absurd (h.symm.trans e) (by decide)
  have h6 : ¬ gI q 1102 = 6 := fun e => absurd (h.symm.trans e) (by decide)
  have h7 : ¬ gI q 1102 = 7 := fun e => absurd (h.symm.trans e) (by decide)
  exact ⟨fun k => ⟨fun e => absurd e h1, fun _ => ⟨fun e => absurd e h2, fun _ => ⟨fun e => absurd e h3, fun _ => ⟨fun e => absurd e h4, fun _ => ⟨fun e => absurd e h5, fun _ => ⟨fun e => absurd e h6, fun _ => ⟨fun e => absurd e h7, fun _ => ⟨fun _ => k, fun e => absurd h e⟩⟩⟩⟩⟩⟩⟩⟩, by rw [fX2_carryOut, if_neg h1, if_neg h2, if_neg h3, if_neg h4, if_neg h5, if_neg h6, if_neg h7, if_pos h]⟩
theorem xc_9 {q : SS} (h : gI q 1102 = 9) : (((((gI q 1203) = 1 → kX2_carryOut_225 q 1) ∧ (¬ (gI q 1203) = 1 → kX2_carryOut_225 q 0))) → kX2_carryOut q) ∧ fX2_carryOut q = (if (gI q 1203) = 1 then fX2_carryOut_225 q 1 else fX2_carryOut_225 q 0) := by
  have h1 : ¬ gI q 1102 = 1 := fun e => absurd (h.symm.trans e) (by decide)
  have h2 : ¬ gI q 1102 = 2 := fun e => absurd (h.symm.trans e) (by decide)
  have h3 : ¬ gI q 1102 = 3 := fun e => absurd (h.symm.trans e) (by decide)
  have h4 : ¬ gI q 1102 = 4 := fun e => absurd (h.symm.trans e) (by decide)
  have h5 : ¬ gI q 1102 = 5 := fun e => absurd (h.symm.trans e) (by decide)
  have h6 : ¬ gI q 1102 = 6 := fun e => absurd (h.symm.trans e) (by decide)
  have h7 : ¬ gI q 1102 = 7 := fun e => absurd (h.symm.trans e) (by decide)
  have h8 : ¬ gI q 1102 = 8 := fun e => absurd (h.symm.trans e) (by decide)
  exact ⟨fun k => ⟨fun e => absurd e h1, fun _ => ⟨fun e => absurd e h2, fun _ => ⟨fun e => absurd e h3, fun _ => ⟨fun e => absurd e h4, fun _ => ⟨fun e => absurd e h5, fun _ => ⟨fun e => absurd e h6, fun _ => ⟨fun e => absurd e h7, fun _ => ⟨fun e => absurd e h8, fun _ => ⟨fun _ => k, fun e => absurd h e⟩⟩⟩⟩⟩⟩⟩⟩⟩, by rw [fX2_carryOut, if_neg h1, if_neg h2, if_neg h3, if_neg h4, if_neg h5, if_neg h6, if_neg h7, if_neg h8, if_pos h]⟩
theorem xc_10 {q : SS} (h : gI q 1102 = 10) : (((((gI q 1204) = 1 → kX2_carryOut_249 q 1) ∧ (¬ (gI q 1204) = 1 → kX2_carryOut_249 q 0))) → kX2_carryOut q) ∧ fX2_carryOut q = (if (gI q 1204) = 1 then fX2_carryOut_249 q 1 else fX2_carryOut_249 q 0) := by
  have h1 : ¬ gI q 1102 = 1 := fun e => absurd (h.symm.trans e) (by decide)
  have h2 : ¬ gI q 1102 = 2 := fun e => absurd (h.symm.trans e) (by decide)
  have h3 : ¬ gI q 1102 = 3 := fun e => absurd (h.symm.trans e) (by decide)
  have h4 : ¬ gI q 1102 = 4 := fun e => absurd (h.symm.trans e) (by decide)
  have h5 : ¬ gI q 1102 = 5 := fun e => absurd (h.symm.trans e) (by decide)
  have h6 : ¬ gI q 1102 = 6 := fun e => absurd (h.symm.trans e) (by decide)
  have h7 : ¬ gI q 1102 = 7 := fun e => absurd (h.symm.trans e) (by decide)
  have h8 : ¬ gI q 1102 = 8 := fun e => absurd (h.symm.trans e) (by decide)
  have h9 : ¬ gI q 1102 = 9 := fun e => absurd (h.symm.trans e) (by decide)
  exact ⟨fun k => ⟨fun e => absurd e h1, fun _ => ⟨fun e => absurd e h2, fun _ => ⟨fun e => absurd e h3, fun _ => ⟨fun e => absurd e h4, fun _ => ⟨fun e => absurd e h5, fun _ => ⟨fun e => absurd e h6, fun _ => ⟨fun e => absurd e h7, fun _ => ⟨fun e => absurd e h8, fun _ => ⟨fun e => absurd e h9, fun _ => ⟨fun _ => k, fun e => absurd h e⟩⟩⟩⟩⟩⟩⟩⟩⟩⟩, by rw [fX2_carryOut, if_neg h1, if_neg h2, if_neg h3, if_neg h4, if_neg h5, if_neg h6, if_neg h7, if_neg h8, if_neg h9, if_pos h]⟩
theorem xc_11 {q : SS} (h : gI q 1102 = 11) : ((kX2_jumpIf q 1 ∧ kX2_carryOut_262 (fX2_jumpIf q 1)) → kX2_carryOut q) ∧ fX2_carryOut q = fX2_carryOut_262 (fX2_jumpIf q 1) := by
  have h1 : ¬ gI q 1102 = 1 := fun e => absurd (h.symm.trans e) (by decide)
  have h2 : ¬ gI q 1102 = 2 := fun e => absurd (h.symm.trans e) (by decide)
  have h3 : ¬ gI q 1102 = 3 := fun e => absurd (h.symm.trans e) (by decide)
  have h4 : ¬ gI q 1102 = 4 := fun e => absurd (h.symm.trans e) (by decide)
  have h5 : ¬ gI q 1102 = 5 := fun e => absurd (h.symm.trans e) (by decide)
  have h6 : ¬ gI q 1102 = 6 := fun e => absurd (h.symm.trans e) (by decide)
  have h7 : ¬ gI q 1102 = 7 := fun e => absurd (h.symm.trans e) (by decide)
  have h8 : ¬ gI q 1102 = 8 := fun e => absurd (h.symm.trans e) (by decide)
  have h9 : ¬ gI q 1102 = 9 := fun e => absurd (h.symm.trans e) (by decide)
  have h10 : ¬ gI q 1102 = 10 := fun e => absurd (h.symm.trans e) (by decide)
  exact ⟨fun k => ⟨fun e => absurd e h1, fun _ => ⟨fun e => absurd e h2, fun _ => ⟨fun e => absurd e h3, fun _ => ⟨fun e => absurd e h4, fun _ => ⟨fun e => absurd e h5, fun _ => ⟨fun e => absurd e h6, fun _ => ⟨fun e => absurd e h7, fun _ => ⟨fun e => absurd e h8, fun _ => ⟨fun e => absurd e h9, fun _ => ⟨fun e => absurd e h10, fun _ => ⟨fun _ => k, fun e => absurd h e⟩⟩⟩⟩⟩⟩⟩⟩⟩⟩⟩, by rw [fX2_carryOut, if_neg h1, if_neg h2, if_neg h3, if_neg h4, if_neg h5, if_neg h6, if_neg h7, if_neg h8, if_neg h9, if_neg h10, if_pos h]⟩
theorem xc_12 {q : SS} (h : gI q 1102 = 12) : ((vp_in ((gI q 1104) &&& 3) 4 ∧ vp_in (((gA q 27) (((gI q 1104) &&& 3) : Int32).toNatClampNeg) &&& 63) 64 ∧ vp_in ((gI q 1103) &&& 3) 4 ∧ kX2_carryOut_277 (sA q 27 (upd (gA q 27) (((gI q 1103) &&& 3) : Int32).toNatClampNeg ((gA q 17) ((((gA q 27) (((gI q 1104) &&& 3) : Int32).toNatClampNeg) &&& 63) : Int32).toNatClampNeg))) ((gI q 1104) &&& 3)) → kX2_carryOut q) ∧ fX2_carryOut q = fX2_carryOut_277 (sA q 27 (upd (gA q 27) (((gI q 1103) &&& 3) : Int32).toNatClampNeg ((gA q 17) ((((gA q 27) (((gI q 1104) &&& 3) : Int32).toNatClampNeg) &&& 63) : Int32).toNatClampNeg))) ((gI q 1104) &&& 3) := by
  have h1 : ¬ gI q 1102 = 1 := fun e => absurd (h.symm.trans e) (by decide)
  have h2 : ¬ gI q 1102 = 2 := fun e => absurd (h.symm.trans e) (by decide)
  have h3 : ¬ gI q 1102 = 3 := fun e => absurd (h.symm.trans e) (by decide)
  have h4 : ¬ gI q 1102 = 4 := fun e => absurd (h.symm.trans e) (by decide)
  have h5 : ¬ gI q 1102 = 5 := fun e => absurd (h.symm.trans e) (by decide)
  have h6 : ¬ gI q 1102 = 6 := fun e => absurd (h.symm.trans e) (by decide)
  have h7 : ¬ gI q 1102 = 7 := fun e => absurd (h.symm.trans e) (by decide)
  have h8 : ¬ gI q 1102 = 8 := fun e => absurd (h.symm.trans e) (by decide)
  have h9 : ¬ gI q 1102 = 9 := fun e => absurd (h.symm.trans e) (by decide)
  have h10 : ¬ gI q 1102 = 10 := fun e => absurd (h.symm.trans e) (by decide)
  have h11 : ¬ gI q 1102 = 11 := fun e => absurd (h.symm.trans e) (by decide)
  exact ⟨fun k => ⟨fun e => absurd e h1, fun _ => ⟨fun e => absurd e h2, fun _ => ⟨fun e => absurd e h3, fun _ => ⟨fun e => absurd e h4, fun _ => ⟨fun e => absurd e h5, fun _ => ⟨fun e => absurd e h6, fun _ => ⟨fun e => absurd e h7, fun _ => ⟨fun e => absurd e h8, fun _ => ⟨fun e => absurd e h9, fun _ => ⟨fun e => absurd e h10, fun _ => ⟨fun e => absurd e h11, fun _ => ⟨fun _ => k, fun e => absurd h e⟩⟩⟩⟩⟩⟩⟩⟩⟩⟩⟩⟩, by rw [fX2_carryOut, if_neg h1, if_neg h2, if_neg h3, if_neg h4, if_neg h5, if_neg h6, if_neg h7, if_neg h8, if_neg h9, if_neg h10, if_neg h11, if_pos h]⟩
theorem xc_13 {q : SS} (h : gI q 1102 = 13) : ((kX2_carryOut_353 (sI q 1205 (1 - (gI q 1205)))) → kX2_carryOut q) ∧ fX2_carryOut q = fX2_carryOut_353 (sI q 1205 (1 - (gI q 1205))) := by
  have h1 : ¬ gI q 1102 = 1 := fun e => absurd (h.symm.trans e) (by decide)
  have h2 : ¬ gI q 1102 = 2 := fun e => absurd (h.symm.trans e) (by decide)
  have h3 : ¬ gI q 1102 = 3 := fun e => absurd (h.symm.trans e) (by decide)
  have h4 : ¬ gI q 1102 = 4 := fun e => absurd (h.symm.trans e) (by decide)
  have h5 : ¬ gI q 1102 = 5 := fun e => absurd (h.symm.trans e) (by decide)
  have h6 : ¬ gI q 1102 = 6 := fun e => absurd (h.symm.trans e) (by decide)
  have h7 : ¬ gI q 1102 = 7 := fun e => absurd (h.symm.trans e) (by decide)
  have h8 : ¬ gI q 1102 = 8 := fun e => absurd (h.symm.trans e) (by decide)
  have h9 : ¬ gI q 1102 = 9 := fun e => absurd (h.symm.trans e) (by decide)
  have h10 : ¬ gI q 1102 = 10 := fun e => absurd (h.symm.trans e) (by decide)
  have h11 : ¬ gI q 1102 = 11 := fun e => absurd (h.symm.trans e) (by decide)
  have h12 : ¬ gI q 1102 = 12 := fun e => absurd (h.symm.trans e) (by decide)
  exact ⟨fun k => ⟨fun e => absurd e h1, fun _ => ⟨fun e => absurd e h2, fun _ => ⟨fun e => absurd e h3, fun _ => ⟨fun e => absurd e h4, fun _ => ⟨fun e => absurd e h5, fun _ => ⟨fun e => absurd e h6, fun _ => ⟨fun e => absurd e h7, fun _ => ⟨fun e => absurd e h8, fun _ => ⟨fun e => absurd e h9, fun _ => ⟨fun e => absurd e h10, fun _ => ⟨fun e => absurd e h11, fun _ => ⟨fun e => absurd e h12, fun _ => ⟨fun _ => k, fun e => absurd h e⟩⟩⟩⟩⟩⟩⟩⟩⟩⟩⟩⟩⟩, by rw [fX2_carryOut, if_neg h1, if_neg h2, if_neg h3, if_neg h4, if_neg h5, if_neg h6, if_neg h7, if_neg h8, if_neg h9, if_neg h10, if_neg h11, if_neg h12, if_pos h]⟩
theorem xc_14 {q : SS} (h : gI q 1102 = 14) : ((kX2_carryOut_353 (sI (sI q 1201 (gI q 1202)) 1206 1)) → kX2_carryOut q) ∧ fX2_carryOut q = fX2_carryOut_353 (sI (sI q 1201 (gI q 1202)) 1206 1) := by
  have h1 : ¬ gI q 1102 = 1 := fun e => absurd (h.symm.trans e) (by decide)
  have h2 : ¬ gI q 1102 = 2 := fun e => absurd (h.symm.trans e) (by decide)
  have h3 : ¬ gI q 1102 = 3 := fun e => absurd (h.symm.trans e) (by decide)
  have h4 : ¬ gI q 1102 = 4 := fun e => absurd (h.symm.trans e) (by decide)
  have h5 : ¬ gI q 1102 = 5 := fun e => absurd (h.symm.trans e) (by decide)
  have h6 : ¬ gI q 1102 = 6 := fun e => absurd (h.symm.trans e) (by decide)
  have h7 : ¬ gI q 1102 = 7 := fun e => absurd (h.symm.trans e) (by decide)
  have h8 : ¬ gI q 1102 = 8 := fun e => absurd (h.symm.trans e) (by decide)
  have h9 : ¬ gI q 1102 = 9 := fun e => absurd (h.symm.trans e) (by decide)
  have h10 : ¬ gI q 1102 = 10 := fun e => absurd (h.symm.trans e) (by decide)
  have h11 : ¬ gI q 1102 = 11 := fun e => absurd (h.symm.trans e) (by decide)
  have h12 : ¬ gI q 1102 = 12 := fun e => absurd (h.symm.trans e) (by decide)
  have h13 : ¬ gI q 1102 = 13 := fun e => absurd (h.symm.trans e) (by decide)
  exact ⟨fun k => ⟨fun e => absurd e h1, fun _ => ⟨fun e => absurd e h2, fun _ => ⟨fun e => absurd e h3, fun _ => ⟨fun e => absurd e h4, fun _ => ⟨fun e => absurd e h5, fun _ => ⟨fun e => absurd e h6, fun _ => ⟨fun e => absurd e h7, fun _ => ⟨fun e => absurd e h8, fun _ => ⟨fun e => absurd e h9, fun _ => ⟨fun e => absurd e h10, fun _ => ⟨fun e => absurd e h11, fun _ => ⟨fun e => absurd e h12, fun _ => ⟨fun e => absurd e h13, fun _ => ⟨fun _ => k, fun e => absurd h e⟩⟩⟩⟩⟩⟩⟩⟩⟩⟩⟩⟩⟩⟩, by rw [fX2_carryOut, if_neg h1, if_neg h2, if_neg h3, if_neg h4, if_neg h5, if_neg h6, if_neg h7, if_neg h8, if_neg h9, if_neg h10, if_neg h11, if_neg h12, if_neg h13, if_pos h]⟩
theorem xc_15 {q : SS} (h : gI q 1102 = 15) : ((vp_in ((gI q 1103) &&& 3) 4 ∧ kX2_carryOut_353 (sI q 1206 (((gA q 27) (((gI q 1103) &&& 3) : Int32).toNatClampNeg) &&& 1))) → kX2_carryOut q) ∧ fX2_carryOut q = fX2_carryOut_353 (sI q 1206 (((gA q 27) (((gI q 1103) &&& 3) : Int32).toNatClampNeg) &&& 1)) := by
  have h1 : ¬ gI q 1102 = 1 := fun e => absurd (h.symm.trans e) (by decide)
  have h2 : ¬ gI q 1102 = 2 := fun e => absurd (h.symm.trans e) (by decide)
  have h3 : ¬ gI q 1102 = 3 := fun e => absurd (h.symm.trans e) (by decide)
  have h4 : ¬ gI q 1102 = 4 := fun e => absurd (h.symm.trans e) (by decide)
  have h5 : ¬ gI q 1102 = 5 := fun e => absurd (h.symm.trans e) (by decide)
  have h6 : ¬ gI q 1102 = 6 := fun e => absurd (h.symm.trans e) (by decide)
  have h7 : ¬ gI q 1102 = 7 := fun e => absurd (h.symm.trans e) (by decide)
  have h8 : ¬ gI q 1102 = 8 := fun e => absurd (h.symm.trans e) (by decide)
  have h9 : ¬ gI q 1102 = 9 := fun e => absurd (h.symm.trans e) (by decide)
  have h10 : ¬ gI q 1102 = 10 := fun e => absurd (h.symm.trans e) (by decide)
  have h11 : ¬ gI q 1102 = 11 := fun e => absurd (h.symm.trans e) (by decide)
  have h12 : ¬ gI q 1102 = 12 := fun e => absurd (h.symm.trans e) (by decide)
  have h13 : ¬ gI q 1102 = 13 := fun e => absurd (h.symm.trans e) (by decide)
  have h14 : ¬ gI q 1102 = 14 := fun e => absurd (h.symm.trans e) (by decide)
  exact ⟨fun k => ⟨fun e => absurd e h1, fun _ => ⟨fun e => absurd e h2, fun _ => ⟨fun e => absurd e h3, fun _ => ⟨fun e => absurd e h4, fun _ => ⟨fun e => absurd e h5, fun _ => ⟨fun e => absurd e h6, fun _ => ⟨fun e => absurd e h7, fun _ => ⟨fun e => absurd e h8, fun _ => ⟨fun e => absurd e h9, fun _ => ⟨fun e => absurd e h10, fun _ => ⟨fun e => absurd e h11, fun _ => ⟨fun e => absurd e h12, fun _ => ⟨fun e => absurd e h13, fun _ => ⟨fun e => absurd e h14, fun _ => ⟨fun _ => k, fun e => absurd h e⟩⟩⟩⟩⟩⟩⟩⟩⟩⟩⟩⟩⟩⟩⟩, by rw [fX2_carryOut, if_neg h1, if_neg h2, if_neg h3, if_neg h4, if_neg h5, if_neg h6, if_neg h7, if_neg h8, if_neg h9, if_neg h10, if_neg h11, if_neg h12, if_neg h13, if_neg h14, if_pos h]⟩
theorem xc_16 {q : SS} (h : gI q 1102 = 0 ∨ gI q 1102 = -1) : ((kX2_carryOut_353 q) → kX2_carryOut q) ∧ fX2_carryOut q = fX2_carryOut_353 q := by
  have h1 : ¬ gI q 1102 = 1 := fun e => by
    rcases h with h | h
    · exact absurd (h.symm.trans e) (by decide)
    · exact absurd (h.symm.trans e) (by decide)
  have h2 : ¬ gI q 1102 = 2 := fun e => by
    rcases h with h | h
    · exact absurd (h.symm.trans e) (by decide)
    · exact absurd (h.symm.trans e) (by decide)
  have h3 : ¬ gI q 1102 = 3 := fun e => by
    rcases h with h | h
    · exact absurd (h.symm.trans e) (by decide)
    · exact absurd (h.symm.trans e) (by decide)
  have h4 : ¬ gI q 1102 = 4 := fun e => by
    rcases h with h | h
    · exact absurd (h.symm.trans e) (by decide)
    · exact absurd (h.symm.trans e) (by decide)
  have h5 : ¬ gI q 1102 = 5 := fun e => by
    rcases h with h | h
    · exact absurd (h.symm.trans e) (by decide)
    · exact absurd (h.symm.trans e) (by decide)
  have h6 : ¬ gI q 1102 = 6 := fun e => by
    rcases h with h | h
    · exact absurd (h.symm.trans e) (by decide)
    · exact absurd (h.symm.trans e) (by decide)
  have h7 : ¬ gI q 1102 = 7 := fun e => by
    rcases h with h | h
    · exact absurd (h.symm.trans e) (by decide)
    · exact absurd (h.symm.trans e) (by decide)
  have h8 : ¬ gI q 1102 = 8 := fun e => by
    rcases h with h | h
    · exact absurd (h.symm.trans e) (by decide)
    · exact absurd (h.symm.trans e) (by decide)
  have h9 : ¬ gI q 1102 = 9 := fun e => by
    rcases h with h | h
    · exact absurd (h.symm.trans e) (by decide)
    · exact absurd (h.symm.trans e) (by decide)
  have h10 : ¬ gI q 1102 = 10 := fun e => by
    rcases h with h | h
    · exact absurd (h.symm.trans e) (by decide)
    · exact absurd (h.symm.trans e) (by decide)
  have h11 : ¬ gI q 1102 = 11 := fun e => by
    rcases h with h | h
    · exact absurd (h.symm.trans e) (by decide)
    · exact absurd (h.symm.trans e) (by decide)
  have h12 : ¬ gI q 1102 = 12 := fun e => by
    rcases h with h | h
    · exact absurd (h.symm.trans e) (by decide)
    · exact absurd (h.symm.trans e) (by decide)
  have h13 : ¬ gI q 1102 = 13 := fun e => by
    rcases h with h | h
    · exact absurd (h.symm.trans e) (by decide)
    · exact absurd (h.symm.trans e) (by decide)
  have h14 : ¬ gI q 1102 = 14 := fun e => by
    rcases h with h | h
    · exact absurd (h.symm.trans e) (by decide)
    · exact absurd (h.symm.trans e) (by decide)
  have h15 : ¬ gI q 1102 = 15 := fun e => by
    rcases h with h | h
    · exact absurd (h.symm.trans e) (by decide)
    · exact absurd (h.symm.trans e) (by decide)
  exact ⟨fun k => ⟨fun e => absurd e h1, fun _ => ⟨fun e => absurd e h2, fun _ => ⟨fun e => absurd e h3, fun _ => ⟨fun e => absurd e h4, fun _ => ⟨fun e => absurd e h5, fun _ => ⟨fun e => absurd e h6, fun _ => ⟨fun e => absurd e h7, fun _ => ⟨fun e => absurd e h8, fun _ => ⟨fun e => absurd e h9, fun _ => ⟨fun e => absurd e h10, fun _ => ⟨fun e => absurd e h11, fun _ => ⟨fun e => absurd e h12, fun _ => ⟨fun e => absurd e h13, fun _ => ⟨fun e => absurd e h14, fun _ => ⟨fun e => absurd e h15, fun _ => k⟩⟩⟩⟩⟩⟩⟩⟩⟩⟩⟩⟩⟩⟩⟩, by rw [fX2_carryOut, if_neg h1, if_neg h2, if_neg h3, if_neg h4, if_neg h5, if_neg h6, if_neg h7, if_neg h8, if_neg h9, if_neg h10, if_neg h11, if_neg h12, if_neg h13, if_neg h14, if_neg h15]⟩
theorem p_66 {q : SS} {v1 v2 v3 v4 v5 : Int32} (h : ¬ v1 = 5) : (kX11_defines__92 q v1 v2 v3 v4 v5 → kX11_defines__66 q v1 v2 v3 v4 v5) ∧ fX11_defines__66 q v1 v2 v3 v4 v5 = fX11_defines__92 q v1 v2 v3 v4 v5 := ⟨fun k => ⟨fun e => absurd e h, fun _ => k⟩, by rw [fX11_defines__66, if_neg h]⟩
theorem p_92 {q : SS} {v1 v2 v3 v4 v5 : Int32} (h : ¬ v1 = 6) : (kX11_defines__108 q v1 v2 v3 v4 v5 → kX11_defines__92 q v1 v2 v3 v4 v5) ∧ fX11_defines__92 q v1 v2 v3 v4 v5 = fX11_defines__108 q v1 v2 v3 v4 v5 := ⟨fun k => ⟨fun e => absurd e h, fun _ => k⟩, by rw [fX11_defines__92, if_neg h]⟩
theorem p_108 {q : SS} {v1 v2 v3 v4 v5 : Int32} (h : ¬ v1 = 7) : (kX11_defines__130 q v1 v2 v3 v4 v5 → kX11_defines__108 q v1 v2 v3 v4 v5) ∧ fX11_defines__108 q v1 v2 v3 v4 v5 = fX11_defines__130 q v1 v2 v3 v4 v5 := ⟨fun k => ⟨fun e => absurd e h, fun _ => k⟩, by rw [fX11_defines__108, if_neg h]⟩
theorem p_130 {q : SS} {v1 v2 v3 v4 v5 : Int32} (h : ¬ v1 = 8) : (kX11_defines__148 q v1 v2 v3 v4 v5 → kX11_defines__130 q v1 v2 v3 v4 v5) ∧ fX11_defines__130 q v1 v2 v3 v4 v5 = fX11_defines__148 q v1 v2 v3 v4 v5 := ⟨fun k => ⟨fun e => absurd e h, fun _ => k⟩, by rw [fX11_defines__130, if_neg h]⟩
theorem p_29 {q : SS} {v1 v2 v3 v4 v5 : Int32} (h : v1 < 2 ∨ 4 < v1) : (kX11_defines__66 q v1 v2 v3 v4 v5 → kX11_defines__29 q v1 v2 v3 v4 v5) ∧ fX11_defines__29 q v1 v2 v3 v4 v5 = fX11_defines__66 q v1 v2 v3 v4 v5 := by
  by_cases h2 : v1 < 2
  · exact ⟨fun k => ⟨fun _ => k, fun e => absurd h2 e⟩, by rw [fX11_defines__29, if_pos h2]⟩
  · have h4 : 4 < v1 := h.resolve_left h2
    exact ⟨fun k => ⟨fun e => absurd e h2, fun _ => ⟨fun _ => k, fun e => absurd h4 e⟩⟩, by rw [fX11_defines__29, if_neg h2, if_pos h4]⟩
theorem p_148 {q : SS} {v1 v2 v3 v4 v5 : Int32} (h : v1 < 9 ∨ 11 < v1) : (kX11_defines__204 q v1 v2 v3 v4 v5 → kX11_defines__148 q v1 v2 v3 v4 v5) ∧ fX11_defines__148 q v1 v2 v3 v4 v5 = fX11_defines__204 q v1 v2 v3 v4 v5 := by
  by_cases h2 : v1 < 9
  · exact ⟨fun k => ⟨fun _ => k, fun e => absurd h2 e⟩, by rw [fX11_defines__148, if_pos h2]⟩
  · have h4 : 11 < v1 := h.resolve_left h2
    exact ⟨fun k => ⟨fun e => absurd e h2, fun _ => ⟨fun _ => k, fun e => absurd h4 e⟩⟩, by rw [fX11_defines__148, if_neg h2, if_pos h4]⟩
theorem p_ {q : SS} {v1 v2 v3 : Int32} (h : ¬ v1 = 1) (h2 : vp_in v2 16) (h3 : vp_in v3 16) : (kX11_defines__29 q v1 v2 v3 (gA q 20 v2.toNatClampNeg) (gA q 20 v3.toNatClampNeg) → kX11_defines_ q v1 v2 v3) ∧ fX11_defines_ q v1 v2 v3 = fX11_defines__29 q v1 v2 v3 (gA q 20 v2.toNatClampNeg) (gA q 20 v3.toNatClampNeg) := ⟨fun k => ⟨h2, h3, fun e => absurd e h, fun _ => k⟩, by rw [fX11_defines_, if_neg h]⟩
theorem p_204 {q : SS} {v1 v2 v3 v4 v5 : Int32} (h : ¬ v1 = 12) : (kX11_defines__244 q v1 v4 → kX11_defines__204 q v1 v2 v3 v4 v5) ∧ fX11_defines__204 q v1 v2 v3 v4 v5 = fX11_defines__244 q v1 v4 := ⟨fun k => ⟨fun e => absurd e h, fun _ => k⟩, by rw [fX11_defines__204, if_neg h]⟩
theorem p_244 {q : SS} {v1 v4 : Int32} (h : ¬ v1 = 13) : (kX11_defines__266 q v1 v4 → kX11_defines__244 q v1 v4) ∧ fX11_defines__244 q v1 v4 = fX11_defines__266 q v1 v4 := ⟨fun k => ⟨fun e => absurd e h, fun _ => k⟩, by rw [fX11_defines__244, if_neg h]⟩
theorem p_266 {q : SS} {v1 v4 : Int32} (h : ¬ v1 = 14) : (kX11_defines__293 q v1 v4 → kX11_defines__266 q v1 v4) ∧ fX11_defines__266 q v1 v4 = fX11_defines__293 q v1 v4 := ⟨fun k => ⟨fun e => absurd e h, fun _ => k⟩, by rw [fX11_defines__266, if_neg h]⟩
theorem u_293 {q : SS} {v1 v4 : Int32} (h : ¬ v1 = 15) : kX11_defines__293 q v1 v4 ∧ fX11_defines__293 q v1 v4 = q := ⟨⟨fun e => absurd e h, fun _ => trivial⟩, by rw [fX11_defines__293, if_neg h]; rfl⟩
theorem u_266 {q : SS} {v1 v4 : Int32} (h14 : ¬ v1 = 14) (h15 : ¬ v1 = 15) : kX11_defines__266 q v1 v4 ∧ fX11_defines__266 q v1 v4 = q := ⟨(p_266 h14).1 (u_293 h15).1, (p_266 h14).2.trans (u_293 h15).2⟩
theorem u_244 {q : SS} {v1 v4 : Int32} (h13 : ¬ v1 = 13) (h14 : ¬ v1 = 14) (h15 : ¬ v1 = 15) : kX11_defines__244 q v1 v4 ∧ fX11_defines__244 q v1 v4 = q := ⟨(p_244 h13).1 (u_266 h14 h15).1, (p_244 h13).2.trans (u_266 h14 h15).2⟩
theorem u_204 {q : SS} {v1 v2 v3 v4 v5 : Int32} (h12 : ¬ v1 = 12) (h13 : ¬ v1 = 13) (h14 : ¬ v1 = 14) (h15 : ¬ v1 = 15) : kX11_defines__204 q v1 v2 v3 v4 v5 ∧ fX11_defines__204 q v1 v2 v3 v4 v5 = q := ⟨(p_204 h12).1 (u_244 h13 h14 h15).1, (p_204 h12).2.trans (u_244 h13 h14 h15).2⟩
abbrev no4 (v1 : Int32) : Prop := ¬ v1 = 12 ∧ ¬ v1 = 13 ∧ ¬ v1 = 14 ∧ ¬ v1 = 15
theorem u_148 {q : SS} {v1 v2 v3 v4 v5 : Int32} (h : v1 < 9 ∨ 11 < v1) (g : no4 v1) : kX11_defines__148 q v1 v2 v3 v4 v5 ∧ fX11_defines__148 q v1 v2 v3 v4 v5 = q := ⟨(p_148 h).1 (u_204 g.1 g.2.1 g.2.2.1 g.2.2.2).1, (p_148 h).2.trans (u_204 g.1 g.2.1 g.2.2.1 g.2.2.2).2⟩
theorem u_130 {q : SS} {v1 v2 v3 v4 v5 : Int32} (h8 : ¬ v1 = 8) (h : v1 < 9 ∨ 11 < v1) (g : no4 v1) : kX11_defines__130 q v1 v2 v3 v4 v5 ∧ fX11_defines__130 q v1 v2 v3 v4 v5 = q := ⟨(p_130 h8).1 (u_148 h g).1, (p_130 h8).2.trans (u_148 h g).2⟩
theorem u_108 {q : SS} {v1 v2 v3 v4 v5 : Int32} (h7 : ¬ v1 = 7) (h8 : ¬ v1 = 8) (h : v1 < 9 ∨ 11 < v1) (g : no4 v1) : kX11_defines__108 q v1 v2 v3 v4 v5 ∧ fX11_defines__108 q v1 v2 v3 v4 v5 = q := ⟨(p_108 h7).1 (u_130 h8 h g).1, (p_108 h7).2.trans (u_130 h8 h g).2⟩
theorem u_92 {q : SS} {v1 v2 v3 v4 v5 : Int32} (h6 : ¬ v1 = 6) (h7 : ¬ v1 = 7) (h8 : ¬ v1 = 8) (h : v1 < 9 ∨ 11 < v1) (g : no4 v1) : kX11_defines__92 q v1 v2 v3 v4 v5 ∧ fX11_defines__92 q v1 v2 v3 v4 v5 = q := ⟨(p_92 h6).1 (u_108 h7 h8 h g).1, (p_92 h6).2.trans (u_108 h7 h8 h g).2⟩
theorem u_66 {q : SS} {v1 v2 v3 v4 v5 : Int32} (h5 : ¬ v1 = 5) (h6 : ¬ v1 = 6) (h7 : ¬ v1 = 7) (h8 : ¬ v1 = 8) (h : v1 < 9 ∨ 11 < v1) (g : no4 v1) : kX11_defines__66 q v1 v2 v3 v4 v5 ∧ fX11_defines__66 q v1 v2 v3 v4 v5 = q := ⟨(p_66 h5).1 (u_92 h6 h7 h8 h g).1, (p_66 h5).2.trans (u_92 h6 h7 h8 h g).2⟩
theorem u_29 {q : SS} {v1 v2 v3 v4 v5 : Int32} (h29 : v1 < 2 ∨ 4 < v1) (h5 : ¬ v1 = 5) (h6 : ¬ v1 = 6) (h7 : ¬ v1 = 7) (h8 : ¬ v1 = 8) (h : v1 < 9 ∨ 11 < v1) (g : no4 v1) : kX11_defines__29 q v1 v2 v3 v4 v5 ∧ fX11_defines__29 q v1 v2 v3 v4 v5 = q := ⟨(p_29 h29).1 (u_66 h5 h6 h7 h8 h g).1, (p_29 h29).2.trans (u_66 h5 h6 h7 h8 h g).2⟩
/-- what is told at the end of an instruction: the class's changed cell against the reference's told cells -/
def eX (y m : SS) : Prop := (∀ r, r < 4 → gA y 27 r = gA m 20 r) ∧ gI y 1201 = gA m 20 4 ∧ gI y 1202 = gA m 20 9 ∧ gI y 1203 = gA m 20 5 ∧ gI y 1204 = gA m 20 6 ∧ gI y 1205 = gA m 20 7 ∧ gI y 1206 = gA m 20 8 ∧ vis (gA m 20) ∧ ((gI y 1105 = -1 ∧ ∀ c, c < 64 → gA y 17 c = gA m 21 c) ∨ (∃ a, a < 64 ∧ gI y 1105 = nI a ∧ gA m 21 a = gI y 1106 ∧ ∀ c, c < 64 → ¬ c = a → gA y 17 c = gA m 21 c))
def RX (c : Int) (y m : SS) : Prop := R c y m ∧ eX y m
theorem RD.toX {c : Int} {y m : SS} (h : RD c y m) : RX c y m := by
  obtain ⟨hR, d0, d1, d2, d3, d4, d5, d6, d7, d8, d9, d10⟩ := h
  exact ⟨hR, d0, d1, d2, d3, d4, d5, d6, d7, Or.inl ⟨d10, d8⟩⟩
theorem od1 {v : Int32} (h : rg 0 255 v) : v - v / 2 * 2 = v &&& 1 := by
  rw [tI, tmod tl_2 (by decide) (by decide) h.1, tand _ 1 (by decide) (by decide)]
  rfl
theorem rga1 (v : Int32) : rg 0 1 (v &&& 1) := rg_and v 1 (by decide) (by decide) (by decide)
theorem flip01 {v : Int32} (h : rg 0 1 v) : rg 0 1 (1 - v) := by
  rcases rg01 h with e | e
  · rw [e]
    exact rg_1
  · rw [e]
    exact rg_0
theorem and3 {d : Int32} (hd : rg 0 3 d) : d &&& 3 = d := tand2 2 (by decide) (by decide) hd.1 (by have := hd.2; omega)
theorem m_flags {m : SS} {k t b : Int32} (hk : rg 0 7 k) (ht : rg 0 255 t) (hb : rg 0 255 b) : kX11_flags m k t b ∧ fX11_flags m k t b = sA (sA m 20 (upd (gA m 20) 5 (if cmb k t b = 0 then 1 else 0))) 20 (upd (upd (gA m 20) 5 (if cmb k t b = 0 then 1 else 0)) 6 (cry k t b)) := by
  have hc := fun q => (m_combined q hk ht hb).1
  have hy := fun q => m_carry q hk ht hb
  by_cases h : cmb k t b = 0
  · simp +decide only [fX11_flags_32, kX11_flags_32, fX11_flags_19, kX11_flags_19, fX11_flags_11, kX11_flags_11, fX11_flags, kX11_flags, eq_self, Classical.not_not, Sum.inr.injEq, Sum.inl.injEq, forall_eq', forall_eq, reduceCtorEq, implies_true, forall_const, true_and, and_true, and_self, false_implies, true_implies, not_true_eq_false, not_false_eq_true, if_true, if_false, mk_combined, mk_carry, hc, hy, h, cl_5, cl_6, eq_true in_5_16, eq_true in_6_16, gI_sI, gI_sL, gI_sA, gI_sB, gL_sI, gL_sL, gL_sA, gL_sB, gA_sI, gA_sL, gA_sA, gA_sB, gB_sI, gB_sL, gB_sA, gB_sB, upd_at, Nat.reduceEqDiff, if_true, if_false, reduceIte]
  · simp +decide only [fX11_flags_32, kX11_flags_32, fX11_flags_19, kX11_flags_19, fX11_flags_11, kX11_flags_11, fX11_flags, kX11_flags, eq_self, Classical.not_not, Sum.inr.injEq, Sum.inl.injEq, forall_eq', forall_eq, reduceCtorEq, implies_true, forall_const, true_and, and_true, and_self, false_implies, true_implies, not_true_eq_false, not_false_eq_true, if_true, if_false, mk_combined, mk_carry, hc, hy, h, cl_5, cl_6, eq_true in_5_16, eq_true in_6_16, gI_sI, gI_sL, gI_sA, gI_sB, gL_sI, gL_sL, gL_sA, gL_sB, gA_sI, gA_sL, gA_sA, gA_sB, gB_sI, gB_sL, gB_sA, gB_sB, upd_at, Nat.reduceEqDiff, if_true, if_false, reduceIte]
theorem x_comb {y : SS} {d k b : Int32} (hd : rg 0 3 d) : kX2_combineInto y d k b ∧ fX2_combineInto y d k b = sA (sI (sI y 1203 (if cmb k (gA y 27 d.toNatClampNeg) b = 0 then 1 else 0)) 1204 (cry k (gA y 27 d.toNatClampNeg) b)) 27 (upd (gA y 27) d.toNatClampNeg (cmb k (gA y 27 d.toNatClampNeg) b)) := by
  have ed := and3 hd
  have i1 : vp_in d 4 := rin hd (by decide)
  have hcr := cry01 k (gA y 27 d.toNatClampNeg) b
  by_cases h : cmb k (gA y 27 d.toNatClampNeg) b = 0
  · rcases rg01 hcr with e | e
    · simp +decide only [fX2_combineInto_46, kX2_combineInto_46, fX2_combineInto_43, kX2_combineInto_43, fX2_combineInto_36, kX2_combineInto_36, fX2_combineInto_20, kX2_combineInto_20, fX2_combineInto, kX2_combineInto, fX8_setFlags_after_23, kX8_setFlags_after_23, fX8_setFlags_after_10, kX8_setFlags_after_10, fX8_setFlags_after, kX8_setFlags_after, eq_self, Classical.not_not, Sum.inr.injEq, Sum.inl.injEq, forall_eq', forall_eq, reduceCtorEq, implies_true, forall_const, true_and, and_true, and_self, false_implies, true_implies, not_true_eq_false, not_false_eq_true, if_true, if_false, xk_resultOf, xf_resultOf, xk_hasCarry, xf_hasCarry, h, ed, e, eq_true i1, gI_sI, gI_sL, gI_sA, gI_sB, gL_sI, gL_sL, gL_sA, gL_sB, gA_sI, gA_sL, gA_sA, gA_sB, gB_sI, gB_sL, gB_sA, gB_sB, upd_at, Nat.reduceEqDiff, if_true, if_false, reduceIte]
    · simp +decide only [fX2_combineInto_46, kX2_combineInto_46, fX2_combineInto_43, kX2_combineInto_43, fX2_combineInto_36, kX2_combineInto_36, fX2_combineInto_20, kX2_combineInto_20, fX2_combineInto, kX2_combineInto, fX8_setFlags_after_23, kX8_setFlags_after_23, fX8_setFlags_after_10, kX8_setFlags_after_10, fX8_setFlags_after, kX8_setFlags_after, eq_self, Classical.not_not, Sum.inr.injEq, Sum.inl.injEq, forall_eq', forall_eq, reduceCtorEq, implies_true, forall_const, true_and, and_true, and_self, false_implies, true_implies, not_true_eq_false, not_false_eq_true, if_true, if_false, xk_resultOf, xf_resultOf, xk_hasCarry, xf_hasCarry, h, ed, e, eq_true i1, gI_sI, gI_sL, gI_sA, gI_sB, gL_sI, gL_sL, gL_sA, gL_sB, gA_sI, gA_sL, gA_sA, gA_sB, gB_sI, gB_sL, gB_sA, gB_sB, upd_at, Nat.reduceEqDiff, if_true, if_false, reduceIte]
  · rcases rg01 hcr with e | e
    · simp +decide only [fX2_combineInto_46, kX2_combineInto_46, fX2_combineInto_43, kX2_combineInto_43, fX2_combineInto_36, kX2_combineInto_36, fX2_combineInto_20, kX2_combineInto_20, fX2_combineInto, kX2_combineInto, fX8_setFlags_after_23, kX8_setFlags_after_23, fX8_setFlags_after_10, kX8_setFlags_after_10, fX8_setFlags_after, kX8_setFlags_after, eq_self, Classical.not_not, Sum.inr.injEq, Sum.inl.injEq, forall_eq', forall_eq, reduceCtorEq, implies_true, forall_const, true_and, and_true, and_self, false_implies, true_implies, not_true_eq_false, not_false_eq_true, if_true, if_false, xk_resultOf, xf_resultOf, xk_hasCarry, xf_hasCarry, h, ed, e, eq_true i1, gI_sI, gI_sL, gI_sA, gI_sB, gL_sI, gL_sL, gL_sA, gL_sB, gA_sI, gA_sL, gA_sA, gA_sB, gB_sI, gB_sL, gB_sA, gB_sB, upd_at, Nat.reduceEqDiff, if_true, if_false, reduceIte]
    · simp +decide only [fX2_combineInto_46, kX2_combineInto_46, fX2_combineInto_43, kX2_combineInto_43, fX2_combineInto_36, kX2_combineInto_36, fX2_combineInto_20, kX2_combineInto_20, fX2_combineInto, kX2_combineInto, fX8_setFlags_after_23, kX8_setFlags_after_23, fX8_setFlags_after_10, kX8_setFlags_after_10, fX8_setFlags_after, kX8_setFlags_after, eq_self, Classical.not_not, Sum.inr.injEq, Sum.inl.injEq, forall_eq', forall_eq, reduceCtorEq, implies_true, forall_const, true_and, and_true, and_self, false_implies, true_implies, not_true_eq_false, not_false_eq_true, if_true, if_false, xk_resultOf, xf_resultOf, xk_hasCarry, xf_hasCarry, h, ed, e, eq_true i1, gI_sI, gI_sL, gI_sA, gI_sB, gL_sI, gL_sL, gL_sA, gL_sB, gA_sI, gA_sL, gA_sA, gA_sB, gB_sI, gB_sL, gB_sA, gB_sB, upd_at, Nat.reduceEqDiff, if_true, if_false, reduceIte]
theorem RD_comb {c : Int} {y m : SS} (h : RD c y m) {d k b : Int32} (hd : rg 0 3 d) (hk : rg 0 7 k) (hb : rg 0 255 b) : kX2_combineInto y d k b ∧ kX11_flags m k (gA m 20 d.toNatClampNeg) b ∧ (∀ q, fX11_combined q k (gA m 20 d.toNatClampNeg) b = (cmb k (gA m 20 d.toNatClampNeg) b, q)) ∧ RD c (fX2_combineInto y d k b) (sA (fX11_flags m k (gA m 20 d.toNatClampNeg) b) 20 (upd (gA (fX11_flags m k (gA m 20 d.toNatClampNeg) b) 20) d.toNatClampNeg (cmb k (gA m 20 d.toNatClampNeg) b))) := by
  have hd4 : d.toNatClampNeg < 4 := ridx hd (by decide)
  have rd := h.2.1 _ hd4
  have vd := h.2.2.2.2.2.2.2.2.1.1 _ hd4
  obtain ⟨a1, a2⟩ := m_flags (m := m) hk vd hb
  obtain ⟨b1, b2⟩ := x_comb (y := y) (k := k) (b := b) hd
  have hz : rg 0 1 (if cmb k (gA m 20 d.toNatClampNeg) b = 0 then 1 else 0) := by
    split
    · exact rg_1
    · exact rg_0
  refine ⟨b1, a1, fun q => (m_combined q hk vd hb).1, ?_⟩
  rw [b2, a2, rd]
  exact RD_reg (RD_C (RD_Z h hz) (cry01 k _ b)) (m_combined m hk vd hb).2 hd4
theorem coy_1 {c : Int} {y m : SS} (h : RD c y m) {d s : Int32} (hd : rg 0 3 d) (hs : rg 0 3 s) (e1 : gI y 1102 = 1) (e2 : gI y 1103 = d) (e3 : gI y 1104 = s) : kX2_carryOut y ∧ kX11_defines_ m 1 d s ∧ RX c (fX2_carryOut y) (fX11_defines_ m 1 d s) := by
  have ed := and3 hd
  have es := and3 hs
  have hd4 : d.toNatClampNeg < 4 := ridx hd (by decide)
  have hs4 : s.toNatClampNeg < 4 := ridx hs (by decide)
  have i1 : vp_in d 4 := rin hd (by decide)
  have i2 : vp_in s 4 := rin hs (by decide)
  have i3 : vp_in d 16 := rin hd (by decide)
  have i4 : vp_in s 16 := rin hs (by decide)
  have rd := h.2.1 _ hd4
  have rs := h.2.1 _ hs4
  have vd := h.2.2.2.2.2.2.2.2.1.1 _ hd4
  have vs := h.2.2.2.2.2.2.2.2.1.1 _ hs4
  obtain ⟨xk, xf⟩ := xc_1 e1
  have u := u_29 (q := sA m 20 (upd (gA m 20) d.toNatClampNeg (gA m 20 s.toNatClampNeg))) (v1 := 1) (v2 := d) (v3 := s) (v4 := gA m 20 d.toNatClampNeg) (v5 := gA m 20 s.toNatClampNeg) (Or.inl (by decide)) (by decide) (by decide) (by decide) (by decide) (Or.inl (by decide)) ⟨by decide, by decide, by decide, by decide⟩
  rw [e2, e3, ed, es] at xk xf
  refine ⟨xk ⟨i2, i1, trivial⟩, ⟨i3, i4, fun _ => ⟨i3, u.1⟩, fun e => absurd rfl e⟩, ?_⟩
  have em : fX11_defines_ m 1 d s = sA m 20 (upd (gA m 20) d.toNatClampNeg (gA m 20 s.toNatClampNeg)) := by
    rw [fX11_defines_, if_pos rfl]
    exact u.2
  rw [xf, em, rs]
  exact (RD_reg h vs hd4).toX
theorem coy_0 {c : Int} {y m : SS} (h : RD c y m) {d s : Int32} (hd : rg 0 3 d) (hs : rg 0 3 s) (e1 : gI y 1102 = 0) (e2 : gI y 1103 = d) (e3 : gI y 1104 = s) : kX2_carryOut y ∧ kX11_defines_ m 0 d s ∧ RX c (fX2_carryOut y) (fX11_defines_ m 0 d s) := by
  have ed := and3 hd
  have es := and3 hs
  have hd4 : d.toNatClampNeg < 4 := ridx hd (by decide)
  have hs4 : s.toNatClampNeg < 4 := ridx hs (by decide)
  have i1 : vp_in d 4 := rin hd (by decide)
  have i2 : vp_in s 4 := rin hs (by decide)
  have i3 : vp_in d 16 := rin hd (by decide)
  have i4 : vp_in s 16 := rin hs (by decide)
  have rd := h.2.1 _ hd4
  have rs := h.2.1 _ hs4
  have vd := h.2.2.2.2.2.2.2.2.1.1 _ hd4
  have vs := h.2.2.2.2.2.2.2.2.1.1 _ hs4
  obtain ⟨xk, xf⟩ := xc_16 (Or.inl e1)
  have u := u_29 (q := m) (v1 := 0) (v2 := d) (v3 := s) (v4 := gA m 20 d.toNatClampNeg) (v5 := gA m 20 s.toNatClampNeg) (Or.inl (by decide)) (by decide) (by decide) (by decide) (by decide) (Or.inl (by decide)) ⟨by decide, by decide, by decide, by decide⟩
  have p := p_ (q := m) (v1 := 0) (v2 := d) (v3 := s) (by decide) i3 i4
  refine ⟨xk trivial, p.1 u.1, ?_⟩
  rw [xf, p.2, u.2]
  exact h.toX
theorem coy_m1 {c : Int} {y m : SS} (h : RD c y m) {d s : Int32} (hd : rg 0 3 d) (hs : rg 0 3 s) (e1 : gI y 1102 = (-1)) (e2 : gI y 1103 = d) (e3 : gI y 1104 = s) : kX2_carryOut y ∧ kX11_defines_ m (-1) d s ∧ RX c (fX2_carryOut y) (fX11_defines_ m (-1) d s) := by
  have ed := and3 hd
  have es := and3 hs
  have hd4 : d.toNatClampNeg < 4 := ridx hd (by decide)
  have hs4 : s.toNatClampNeg < 4 := ridx hs (by decide)
  have i1 : vp_in d 4 := rin hd (by decide)
  have i2 : vp_in s 4 := rin hs (by decide)
  have i3 : vp_in d 16 := rin hd (by decide)
  have i4 : vp_in s 16 := rin hs (by decide)
  have rd := h.2.1 _ hd4
  have rs := h.2.1 _ hs4
  have vd := h.2.2.2.2.2.2.2.2.1.1 _ hd4
  have vs := h.2.2.2.2.2.2.2.2.1.1 _ hs4
  obtain ⟨xk, xf⟩ := xc_16 (Or.inr e1)
  have u := u_29 (q := m) (v1 := (-1)) (v2 := d) (v3 := s) (v4 := gA m 20 d.toNatClampNeg) (v5 := gA m 20 s.toNatClampNeg) (Or.inl (by decide)) (by decide) (by decide) (by decide) (by decide) (Or.inl (by decide)) ⟨by decide, by decide, by decide, by decide⟩
  have p := p_ (q := m) (v1 := (-1)) (v2 := d) (v3 := s) (by decide) i3 i4
  refine ⟨xk trivial, p.1 u.1, ?_⟩
  rw [xf, p.2, u.2]
  exact h.toX
theorem coy_2 {c : Int} {y m : SS} (h : RD c y m) {d s : Int32} (hd : rg 0 3 d) (hs : rg 0 3 s) (e1 : gI y 1102 = 2) (e2 : gI y 1103 = d) (e3 : gI y 1104 = s) : kX2_carryOut y ∧ kX11_defines_ m 2 d s ∧ RX c (fX2_carryOut y) (fX11_defines_ m 2 d s) := by
  have ed := and3 hd
  have es := and3 hs
  have hd4 : d.toNatClampNeg < 4 := ridx hd (by decide)
  have hs4 : s.toNatClampNeg < 4 := ridx hs (by decide)
  have i1 : vp_in d 4 := rin hd (by decide)
  have i2 : vp_in s 4 := rin hs (by decide)
  have i3 : vp_in d 16 := rin hd (by decide)
  have i4 : vp_in s 16 := rin hs (by decide)
  have rd := h.2.1 _ hd4
  have rs := h.2.1 _ hs4
  have vd := h.2.2.2.2.2.2.2.2.1.1 _ hd4
  have vs := h.2.2.2.2.2.2.2.2.1.1 _ hs4
  obtain ⟨xk, xf⟩ := xc_2 e1
  have p := p_ (q := m) (v1 := 2) (v2 := d) (v3 := s) (by decide) i3 i4
  obtain ⟨g1, g2, g3, g4⟩ := RD_comb h (k := 1) (b := gA m 20 s.toNatClampNeg) hd ⟨by decide, by decide⟩ vs
  have e : (2 : Int32) - 1 = 1 := by decide
  have u := u_66 (q := sA (fX11_flags m 1 (gA m 20 d.toNatClampNeg) (gA m 20 s.toNatClampNeg)) 20 (upd (gA (fX11_flags m 1 (gA m 20 d.toNatClampNeg) (gA m 20 s.toNatClampNeg)) 20) d.toNatClampNeg (cmb 1 (gA m 20 d.toNatClampNeg) (gA m 20 s.toNatClampNeg)))) (v1 := 2) (v2 := d) (v3 := s) (v4 := gA m 20 d.toNatClampNeg) (v5 := gA m 20 s.toNatClampNeg) (by decide) (by decide) (by decide) (by decide) (Or.inl (by decide)) ⟨by decide, by decide, by decide, by decide⟩
  have k29 : kX11_defines__29 m 2 d s (gA m 20 d.toNatClampNeg) (gA m 20 s.toNatClampNeg) := by
    refine ⟨fun e => absurd e (by decide), fun _ => ⟨fun e => absurd e (by decide), fun _ => ?_⟩⟩
    rw [e]
    refine ⟨g2, ?_⟩
    unfold kX11_defines__50
    rw [e, g3]
    exact ⟨(mk_combined _ _ _ _).mpr trivial, i3, u.1⟩
  have f29 : fX11_defines__29 m 2 d s (gA m 20 d.toNatClampNeg) (gA m 20 s.toNatClampNeg) = sA (fX11_flags m 1 (gA m 20 d.toNatClampNeg) (gA m 20 s.toNatClampNeg)) 20 (upd (gA (fX11_flags m 1 (gA m 20 d.toNatClampNeg) (gA m 20 s.toNatClampNeg)) 20) d.toNatClampNeg (cmb 1 (gA m 20 d.toNatClampNeg) (gA m 20 s.toNatClampNeg))) := by
    rw [fX11_defines__29, if_neg (by decide), if_neg (by decide), fX11_defines__50, e, g3]
    exact u.2
  rw [e2, e3, ed, es, rs] at xk xf
  refine ⟨xk ⟨i2, g1, trivial⟩, p.1 k29, ?_⟩
  rw [xf, p.2, f29]
  exact g4.toX
theorem coy_3 {c : Int} {y m : SS} (h : RD c y m) {d s : Int32} (hd : rg 0 3 d) (hs : rg 0 3 s) (e1 : gI y 1102 = 3) (e2 : gI y 1103 = d) (e3 : gI y 1104 = s) : kX2_carryOut y ∧ kX11_defines_ m 3 d s ∧ RX c (fX2_carryOut y) (fX11_defines_ m 3 d s) := by
  have ed := and3 hd
  have es := and3 hs
  have hd4 : d.toNatClampNeg < 4 := ridx hd (by decide)
  have hs4 : s.toNatClampNeg < 4 := ridx hs (by decide)
  have i1 : vp_in d 4 := rin hd (by decide)
  have i2 : vp_in s 4 := rin hs (by decide)
  have i3 : vp_in d 16 := rin hd (by decide)
  have i4 : vp_in s 16 := rin hs (by decide)
  have rd := h.2.1 _ hd4
  have rs := h.2.1 _ hs4
  have vd := h.2.2.2.2.2.2.2.2.1.1 _ hd4
  have vs := h.2.2.2.2.2.2.2.2.1.1 _ hs4
  obtain ⟨xk, xf⟩ := xc_3 e1
  have p := p_ (q := m) (v1 := 3) (v2 := d) (v3 := s) (by decide) i3 i4
  obtain ⟨g1, g2, g3, g4⟩ := RD_comb h (k := 2) (b := gA m 20 s.toNatClampNeg) hd ⟨by decide, by decide⟩ vs
  have e : (3 : Int32) - 1 = 2 := by decide
  have u := u_66 (q := sA (fX11_flags m 2 (gA m 20 d.toNatClampNeg) (gA m 20 s.toNatClampNeg)) 20 (upd (gA (fX11_flags m 2 (gA m 20 d.toNatClampNeg) (gA m 20 s.toNatClampNeg)) 20) d.toNatClampNeg (cmb 2 (gA m 20 d.toNatClampNeg) (gA m 20 s.toNatClampNeg)))) (v1 := 3) (v2 := d) (v3 := s) (v4 := gA m 20 d.toNatClampNeg) (v5 := gA m 20 s.toNatClampNeg) (by decide) (by decide) (by decide) (by decide) (Or.inl (by decide)) ⟨by decide, by decide, by decide, by decide⟩
  have k29 : kX11_defines__29 m 3 d s (gA m 20 d.toNatClampNeg) (gA m 20 s.toNatClampNeg) := by
    refine ⟨fun e => absurd e (by decide), fun _ => ⟨fun e => absurd e (by decide), fun _ => ?_⟩⟩
    rw [e]
    refine ⟨g2, ?_⟩
    unfold kX11_defines__50
    rw [e, g3]
    exact ⟨(mk_combined _ _ _ _).mpr trivial, i3, u.1⟩
  have f29 : fX11_defines__29 m 3 d s (gA m 20 d.toNatClampNeg) (gA m 20 s.toNatClampNeg) = sA (fX11_flags m 2 (gA m 20 d.toNatClampNeg) (gA m 20 s.toNatClampNeg)) 20 (upd (gA (fX11_flags m 2 (gA m 20 d.toNatClampNeg) (gA m 20 s.toNatClampNeg)) 20) d.toNatClampNeg (cmb 2 (gA m 20 d.toNatClampNeg) (gA m 20 s.toNatClampNeg))) := by
    rw [fX11_defines__29, if_neg (by decide), if_neg (by decide), fX11_defines__50, e, g3]
    exact u.2
  rw [e2, e3, ed, es, rs] at xk xf
  refine ⟨xk ⟨i2, g1, trivial⟩, p.1 k29, ?_⟩
  rw [xf, p.2, f29]
  exact g4.toX
theorem coy_4 {c : Int} {y m : SS} (h : RD c y m) {d s : Int32} (hd : rg 0 3 d) (hs : rg 0 3 s) (e1 : gI y 1102 = 4) (e2 : gI y 1103 = d) (e3 : gI y 1104 = s) : kX2_carryOut y ∧ kX11_defines_ m 4 d s ∧ RX c (fX2_carryOut y) (fX11_defines_ m 4 d s) := by
  have ed := and3 hd
  have es := and3 hs
  have hd4 : d.toNatClampNeg < 4 := ridx hd (by decide)
  have hs4 : s.toNatClampNeg < 4 := ridx hs (by decide)
  have i1 : vp_in d 4 := rin hd (by decide)
  have i2 : vp_in s 4 := rin hs (by decide)
  have i3 : vp_in d 16 := rin hd (by decide)
  have i4 : vp_in s 16 := rin hs (by decide)
  have rd := h.2.1 _ hd4
  have rs := h.2.1 _ hs4
  have vd := h.2.2.2.2.2.2.2.2.1.1 _ hd4
  have vs := h.2.2.2.2.2.2.2.2.1.1 _ hs4
  obtain ⟨xk, xf⟩ := xc_4 e1
  have p := p_ (q := m) (v1 := 4) (v2 := d) (v3 := s) (by decide) i3 i4
  obtain ⟨g1, g2, g3, g4⟩ := RD_comb h (k := 3) (b := gA m 20 s.toNatClampNeg) hd ⟨by decide, by decide⟩ vs
  have e : (4 : Int32) - 1 = 3 := by decide
  have u := u_66 (q := sA (fX11_flags m 3 (gA m 20 d.toNatClampNeg) (gA m 20 s.toNatClampNeg)) 20 (upd (gA (fX11_flags m 3 (gA m 20 d.toNatClampNeg) (gA m 20 s.toNatClampNeg)) 20) d.toNatClampNeg (cmb 3 (gA m 20 d.toNatClampNeg) (gA m 20 s.toNatClampNeg)))) (v1 := 4) (v2 := d) (v3 := s) (v4 := gA m 20 d.toNatClampNeg) (v5 := gA m 20 s.toNatClampNeg) (by decide) (by decide) (by decide) (by decide) (Or.inl (by decide)) ⟨by decide, by decide, by decide, by decide⟩
  have k29 : kX11_defines__29 m 4 d s (gA m 20 d.toNatClampNeg) (gA m 20 s.toNatClampNeg) := by
    refine ⟨fun e => absurd e (by decide), fun _ => ⟨fun e => absurd e (by decide), fun _ => ?_⟩⟩
    rw [e]
    refine ⟨g2, ?_⟩
    unfold kX11_defines__50
    rw [e, g3]
    exact ⟨(mk_combined _ _ _ _).mpr trivial, i3, u.1⟩
  have f29 : fX11_defines__29 m 4 d s (gA m 20 d.toNatClampNeg) (gA m 20 s.toNatClampNeg) = sA (fX11_flags m 3 (gA m 20 d.toNatClampNeg) (gA m 20 s.toNatClampNeg)) 20 (upd (gA (fX11_flags m 3 (gA m 20 d.toNatClampNeg) (gA m 20 s.toNatClampNeg)) 20) d.toNatClampNeg (cmb 3 (gA m 20 d.toNatClampNeg) (gA m 20 s.toNatClampNeg))) := by
    rw [fX11_defines__29, if_neg (by decide), if_neg (by decide), fX11_defines__50, e, g3]
    exact u.2
  rw [e2, e3, ed, es, rs] at xk xf
  refine ⟨xk ⟨i2, g1, trivial⟩, p.1 k29, ?_⟩
  rw [xf, p.2, f29]
  exact g4.toX
theorem coy_5 {c : Int} {y m : SS} (h : RD c y m) {d s : Int32} (hd : rg 0 3 d) (hs : rg 0 3 s) (e1 : gI y 1102 = 5) (e2 : gI y 1103 = d) (e3 : gI y 1104 = s) : kX2_carryOut y ∧ kX11_defines_ m 5 d s ∧ RX c (fX2_carryOut y) (fX11_defines_ m 5 d s) := by
  have ed := and3 hd
  have es := and3 hs
  have hd4 : d.toNatClampNeg < 4 := ridx hd (by decide)
  have hs4 : s.toNatClampNeg < 4 := ridx hs (by decide)
  have i1 : vp_in d 4 := rin hd (by decide)
  have i2 : vp_in s 4 := rin hs (by decide)
  have i3 : vp_in d 16 := rin hd (by decide)
  have i4 : vp_in s 16 := rin hs (by decide)
  have rd := h.2.1 _ hd4
  have rs := h.2.1 _ hs4
  have vd := h.2.2.2.2.2.2.2.2.1.1 _ hd4
  have vs := h.2.2.2.2.2.2.2.2.1.1 _ hs4
  obtain ⟨xk, xf⟩ := xc_5 e1
  have p := p_ (q := m) (v1 := 5) (v2 := d) (v3 := s) (by decide) i3 i4
  have p2 := p_29 (q := m) (v1 := 5) (v2 := d) (v3 := s) (v4 := gA m 20 d.toNatClampNeg) (v5 := gA m 20 s.toNatClampNeg) (Or.inr (by decide))
  have hk5 : rg 0 7 (5 : Int32) := ⟨by decide, by decide⟩
  have r0 : rg 0 255 (0 : Int32) := ⟨by decide, by decide⟩
  obtain ⟨g1, g2, g3, g4⟩ := RD_comb h (k := 5) (b := gA m 20 d.toNatClampNeg) hd hk5 vd
  have c5 : ∀ t b, cmb 5 t b = cmb 5 0 b := by
    intro t b
    simp +decide only [cmb, fX10_resultOf, kX10_resultOf, if_true, if_false]
  have y5 : ∀ t b, cry 5 t b = cry 5 0 b := by
    intro t b
    simp +decide only [cry, fX10_hasCarry_58, kX10_hasCarry_58, fX10_hasCarry_69, kX10_hasCarry_69, fX10_hasCarry_82, kX10_hasCarry_82, fX10_hasCarry_92, kX10_hasCarry_92, fX10_hasCarry_105, kX10_hasCarry_105, fX10_hasCarry_106, kX10_hasCarry_106, fX10_hasCarry, kX10_hasCarry, if_true, if_false]
  have ef : fX11_flags m 5 (gA m 20 d.toNatClampNeg) (gA m 20 d.toNatClampNeg) = fX11_flags m 5 0 (gA m 20 d.toNatClampNeg) := by
    rw [(m_flags (m := m) hk5 vd vd).2, (m_flags (m := m) hk5 r0 vd).2, c5, y5]
  rw [ef, c5] at g4
  have g5 := fun q => (m_combined q hk5 r0 vd).1
  have u := u_92 (q := sA (fX11_flags m 5 0 (gA m 20 d.toNatClampNeg)) 20 (upd (gA (fX11_flags m 5 0 (gA m 20 d.toNatClampNeg)) 20) d.toNatClampNeg (cmb 5 0 (gA m 20 d.toNatClampNeg)))) (v1 := 5) (v2 := d) (v3 := s) (v4 := gA m 20 d.toNatClampNeg) (v5 := gA m 20 s.toNatClampNeg) (by decide) (by decide) (by decide) (Or.inl (by decide)) ⟨by decide, by decide, by decide, by decide⟩
  have k66 : kX11_defines__66 m 5 d s (gA m 20 d.toNatClampNeg) (gA m 20 s.toNatClampNeg) := by
    refine ⟨fun _ => ⟨(m_flags (m := m) hk5 r0 vd).1, ?_⟩, fun e => absurd rfl e⟩
    unfold kX11_defines__79
    rw [g5]
    exact ⟨(mk_combined _ _ _ _).mpr trivial, i3, u.1⟩
  have f66 : fX11_defines__66 m 5 d s (gA m 20 d.toNatClampNeg) (gA m 20 s.toNatClampNeg) = sA (fX11_flags m 5 0 (gA m 20 d.toNatClampNeg)) 20 (upd (gA (fX11_flags m 5 0 (gA m 20 d.toNatClampNeg)) 20) d.toNatClampNeg (cmb 5 0 (gA m 20 d.toNatClampNeg))) := by
    rw [fX11_defines__66, if_pos rfl, fX11_defines__79, g5]
    exact u.2
  rw [e2, ed, rd] at xk xf
  refine ⟨xk ⟨i1, g1, trivial⟩, p.1 (p2.1 k66), ?_⟩
  rw [xf, p.2, p2.2, f66]
  exact g4.toX
theorem coy_6 {c : Int} {y m : SS} (h : RD c y m) {d s : Int32} (hd : rg 0 3 d) (hs : rg 0 3 s) (e1 : gI y 1102 = 6) (e2 : gI y 1103 = d) (e3 : gI y 1104 = s) : kX2_carryOut y ∧ kX11_defines_ m 6 d s ∧ RX c (fX2_carryOut y) (fX11_defines_ m 6 d s) := by
  have ed := and3 hd
  have es := and3 hs
  have hd4 : d.toNatClampNeg < 4 := ridx hd (by decide)
  have hs4 : s.toNatClampNeg < 4 := ridx hs (by decide)
  have i1 : vp_in d 4 := rin hd (by decide)
  have i2 : vp_in s 4 := rin hs (by decide)
  have i3 : vp_in d 16 := rin hd (by decide)
  have i4 : vp_in s 16 := rin hs (by decide)
  have rd := h.2.1 _ hd4
  have rs := h.2.1 _ hs4
  have vd := h.2.2.2.2.2.2.2.2.1.1 _ hd4
  have vs := h.2.2.2.2.2.2.2.2.1.1 _ hs4
  obtain ⟨xk, xf⟩ := xc_6 e1
  have p := p_ (q := m) (v1 := 6) (v2 := d) (v3 := s) (by decide) i3 i4
  have p29 := p_29 (q := m) (v1 := 6) (v2 := d) (v3 := s) (v4 := gA m 20 d.toNatClampNeg) (v5 := gA m 20 s.toNatClampNeg) (Or.inr (by decide))
  have p66 := p_66 (q := m) (v1 := 6) (v2 := d) (v3 := s) (v4 := gA m 20 d.toNatClampNeg) (v5 := gA m 20 s.toNatClampNeg) (by decide)
  obtain ⟨t1, t2, b, t3, t4, t5, t6⟩ := take_RD h
  have u := u_108 (q := sA (fX11_takes m).2 20 (upd (gA (fX11_takes m).2 20) d.toNatClampNeg b)) (v1 := 6) (v2 := d) (v3 := s) (v4 := gA m 20 d.toNatClampNeg) (v5 := gA m 20 s.toNatClampNeg) (by decide) (by decide) (Or.inl (by decide)) ⟨by decide, by decide, by decide, by decide⟩
  have kk : kX11_defines__92 m 6 d s (gA m 20 d.toNatClampNeg) (gA m 20 s.toNatClampNeg) := by
    refine ⟨fun _ => ⟨t2, i3, ?_⟩, fun e => absurd rfl e⟩
    rw [t5]
    exact u.1
  have ff : fX11_defines__92 m 6 d s (gA m 20 d.toNatClampNeg) (gA m 20 s.toNatClampNeg) = sA (fX11_takes m).2 20 (upd (gA (fX11_takes m).2 20) d.toNatClampNeg b) := by
    rw [fX11_defines__92, if_pos rfl, fX11_defines__107, t5]
    exact u.2
  rw [e2, ed, t4] at xk xf
  refine ⟨xk ⟨t1, i1, trivial⟩, p.1 (p29.1 (p66.1 (kk))), ?_⟩
  rw [xf, p.2, p29.2, p66.2, ff]
  exact (RD_reg t6 t3 hd4).toX
theorem coy_7 {c : Int} {y m : SS} (h : RD c y m) {d s : Int32} (hd : rg 0 3 d) (hs : rg 0 3 s) (e1 : gI y 1102 = 7) (e2 : gI y 1103 = d) (e3 : gI y 1104 = s) : kX2_carryOut y ∧ kX11_defines_ m 7 d s ∧ RX c (fX2_carryOut y) (fX11_defines_ m 7 d s) := by
  have ed := and3 hd
  have es := and3 hs
  have hd4 : d.toNatClampNeg < 4 := ridx hd (by decide)
  have hs4 : s.toNatClampNeg < 4 := ridx hs (by decide)
  have i1 : vp_in d 4 := rin hd (by decide)
  have i2 : vp_in s 4 := rin hs (by decide)
  have i3 : vp_in d 16 := rin hd (by decide)
  have i4 : vp_in s 16 := rin hs (by decide)
  have rd := h.2.1 _ hd4
  have rs := h.2.1 _ hs4
  have vd := h.2.2.2.2.2.2.2.2.1.1 _ hd4
  have vs := h.2.2.2.2.2.2.2.2.1.1 _ hs4
  obtain ⟨xk, xf⟩ := xc_7 e1
  have p := p_ (q := m) (v1 := 7) (v2 := d) (v3 := s) (by decide) i3 i4
  have p29 := p_29 (q := m) (v1 := 7) (v2 := d) (v3 := s) (v4 := gA m 20 d.toNatClampNeg) (v5 := gA m 20 s.toNatClampNeg) (Or.inr (by decide))
  have p66 := p_66 (q := m) (v1 := 7) (v2 := d) (v3 := s) (v4 := gA m 20 d.toNatClampNeg) (v5 := gA m 20 s.toNatClampNeg) (by decide)
  have p92 := p_92 (q := m) (v1 := 7) (v2 := d) (v3 := s) (v4 := gA m 20 d.toNatClampNeg) (v5 := gA m 20 s.toNatClampNeg) (by decide)
  have vc := h.2.2.2.2.2.2.2.2.2.1
  have wc := h.2.2.2.2.2.2.2.2.2.2.1
  have e64 := mo64 vs
  have r64 := rg63 (gA m 20 s.toNatClampNeg)
  have i6 : vp_in (gA m 20 s.toNatClampNeg &&& 63) 64 := rin r64 (by decide)
  have j6 : (gA m 20 s.toNatClampNeg &&& 63).toNatClampNeg < 64 := ridx r64 (by decide)
  have u := u_130 (q := sA m 20 (upd (gA m 20) d.toNatClampNeg (gA m 21 (gA m 20 s.toNatClampNeg &&& 63).toNatClampNeg))) (v1 := 7) (v2 := d) (v3 := s) (v4 := gA m 20 d.toNatClampNeg) (v5 := gA m 20 s.toNatClampNeg) (by decide) (Or.inl (by decide)) ⟨by decide, by decide, by decide, by decide⟩
  have kk : kX11_defines__108 m 7 d s (gA m 20 d.toNatClampNeg) (gA m 20 s.toNatClampNeg) := by
    refine ⟨fun _ => ?_, fun e => absurd rfl e⟩
    rw [e64]
    exact ⟨i6, i3, u.1⟩
  have ff : fX11_defines__108 m 7 d s (gA m 20 d.toNatClampNeg) (gA m 20 s.toNatClampNeg) = sA m 20 (upd (gA m 20) d.toNatClampNeg (gA m 21 (gA m 20 s.toNatClampNeg &&& 63).toNatClampNeg)) := by
    rw [fX11_defines__108, if_pos rfl, e64]
    exact u.2
  rw [e2, e3, ed, es, rs] at xk xf
  refine ⟨xk ⟨i2, i6, i1, trivial⟩, p.1 (p29.1 (p66.1 (p92.1 (kk)))), ?_⟩
  rw [xf, p.2, p29.2, p66.2, p92.2, ff, vc _ j6]
  exact (RD_reg h (wc _ j6) hd4).toX
theorem coy_8 {c : Int} {y m : SS} (h : RD c y m) {d s : Int32} (hd : rg 0 3 d) (hs : rg 0 3 s) (e1 : gI y 1102 = 8) (e2 : gI y 1103 = d) (e3 : gI y 1104 = s) : kX2_carryOut y ∧ kX11_defines_ m 8 d s ∧ RX c (fX2_carryOut y) (fX11_defines_ m 8 d s) := by
  have ed := and3 hd
  have es := and3 hs
  have hd4 : d.toNatClampNeg < 4 := ridx hd (by decide)
  have hs4 : s.toNatClampNeg < 4 := ridx hs (by decide)
  have i1 : vp_in d 4 := rin hd (by decide)
  have i2 : vp_in s 4 := rin hs (by decide)
  have i3 : vp_in d 16 := rin hd (by decide)
  have i4 : vp_in s 16 := rin hs (by decide)
  have rd := h.2.1 _ hd4
  have rs := h.2.1 _ hs4
  have vd := h.2.2.2.2.2.2.2.2.1.1 _ hd4
  have vs := h.2.2.2.2.2.2.2.2.1.1 _ hs4
  obtain ⟨xk, xf⟩ := xc_8 e1
  have p := p_ (q := m) (v1 := 8) (v2 := d) (v3 := s) (by decide) i3 i4
  have p29 := p_29 (q := m) (v1 := 8) (v2 := d) (v3 := s) (v4 := gA m 20 d.toNatClampNeg) (v5 := gA m 20 s.toNatClampNeg) (Or.inr (by decide))
  have p66 := p_66 (q := m) (v1 := 8) (v2 := d) (v3 := s) (v4 := gA m 20 d.toNatClampNeg) (v5 := gA m 20 s.toNatClampNeg) (by decide)
  have p92 := p_92 (q := m) (v1 := 8) (v2 := d) (v3 := s) (v4 := gA m 20 d.toNatClampNeg) (v5 := gA m 20 s.toNatClampNeg) (by decide)
  have p108 := p_108 (q := m) (v1 := 8) (v2 := d) (v3 := s) (v4 := gA m 20 d.toNatClampNeg) (v5 := gA m 20 s.toNatClampNeg) (by decide)
  have e64 := mo64 vs
  have r64 := rg63 (gA m 20 s.toNatClampNeg)
  have i6 : vp_in (gA m 20 s.toNatClampNeg &&& 63) 64 := rin r64 (by decide)
  have j6 : (gA m 20 s.toNatClampNeg &&& 63).toNatClampNeg < 64 := ridx r64 (by decide)
  have u := u_148 (q := sA m 21 (upd (gA m 21) (gA m 20 s.toNatClampNeg &&& 63).toNatClampNeg (gA m 20 d.toNatClampNeg))) (v1 := 8) (v2 := d) (v3 := s) (v4 := gA m 20 d.toNatClampNeg) (v5 := gA m 20 s.toNatClampNeg) (Or.inl (by decide)) ⟨by decide, by decide, by decide, by decide⟩
  have kk : kX11_defines__130 m 8 d s (gA m 20 d.toNatClampNeg) (gA m 20 s.toNatClampNeg) := by
    refine ⟨fun _ => ?_, fun e => absurd rfl e⟩
    rw [e64]
    exact ⟨i6, u.1⟩
  have ff : fX11_defines__130 m 8 d s (gA m 20 d.toNatClampNeg) (gA m 20 s.toNatClampNeg) = sA m 21 (upd (gA m 21) (gA m 20 s.toNatClampNeg &&& 63).toNatClampNeg (gA m 20 d.toNatClampNeg)) := by
    rw [fX11_defines__130, if_pos rfl, e64]
    exact u.2
  rw [e2, e3, ed, es, rs, rd] at xk xf
  refine ⟨xk ⟨i2, i1, trivial⟩, p.1 (p29.1 (p66.1 (p92.1 (p108.1 (kk))))), ?_⟩
  rw [xf, p.2, p29.2, p66.2, p92.2, p108.2, ff]
  obtain ⟨hR, d0, d1, d2, d3, d4, d5, d6, d7, d8, d9, d10⟩ := h
  refine ⟨hR, d0, d1, d2, d3, d4, d5, d6, d7, Or.inr ⟨(gA m 20 s.toNatClampNeg &&& 63).toNatClampNeg, j6, ?_, ?_, ?_⟩⟩
  · show gA m 20 s.toNatClampNeg &&& 63 = nI (gA m 20 s.toNatClampNeg &&& 63).toNatClampNeg
    obtain ⟨j, hj, ej⟩ := tof (n := 64) r64.1 (by have := r64.2; omega) (by decide)
    rw [ej, nI_clamp (by omega)]
  · show upd (gA m 21) _ _ _ = gA m 20 d.toNatClampNeg
    rw [upd_at, if_pos rfl]
  · intro k hk hne
    show gA y 17 k = upd (gA m 21) _ _ k
    rw [upd_at, if_neg hne]
    exact d8 k hk
theorem jump_RD {c : Int} {y m : SS} (h : RD c y m) : kX2_takeByte y ∧ kX11_takes m ∧ (∀ v, kX2_jumpIf y v) ∧ ∃ b : Int32, rg 0 255 b ∧ (fX11_takes m).1 = b ∧ RD c (fX2_jumpIf y 0) (fX11_takes m).2 ∧ RD c (fX2_jumpIf y 1) (sA (fX11_takes m).2 20 (upd (gA (fX11_takes m).2 20) 4 (b - b / 64 * 64))) ∧ gI y 1203 = gA m 20 5 ∧ gI y 1204 = gA m 20 6 ∧ gA (fX11_takes m).2 20 5 = gA m 20 5 ∧ gA (fX11_takes m).2 20 6 = gA m 20 6 := by
  have z1 := h.2.2.2.2.1
  have z2 := h.2.2.2.2.2.1
  obtain ⟨t1, t2, b, t3, t4, t5, t6⟩ := take_RD h
  have et : (fX11_takes m).2 = sA m 20 (upd (gA m 20) 4 ((gA m 20 4 + 1) - (gA m 20 4 + 1) / 64 * 64)) := by
    rw [fX11_takes, cl_4]
  refine ⟨t1, t2, fun v => ⟨t1, fun _ => trivial, fun _ => trivial⟩, b, t3, t5, ?_, ?_, z1, z2, ?_, ?_⟩
  · rw [fX2_jumpIf, fX2_jumpIf_5, if_pos rfl]
    exact t6
  · rw [fX2_jumpIf, fX2_jumpIf_5, if_neg (by decide), t4, mo64 t3]
    exact RD_P t6 (rg63 b)
  · rw [et, gA_sA, if_pos rfl, upd_ne (by decide)]
  · rw [et, gA_sA, if_pos rfl, upd_ne (by decide)]
theorem coy_9 {c : Int} {y m : SS} (h : RD c y m) {d s : Int32} (hd : rg 0 3 d) (hs : rg 0 3 s) (e1 : gI y 1102 = 9) (e2 : gI y 1103 = d) (e3 : gI y 1104 = s) : kX2_carryOut y ∧ kX11_defines_ m 9 d s ∧ RX c (fX2_carryOut y) (fX11_defines_ m 9 d s) := by
  have ed := and3 hd
  have es := and3 hs
  have hd4 : d.toNatClampNeg < 4 := ridx hd (by decide)
  have hs4 : s.toNatClampNeg < 4 := ridx hs (by decide)
  have i1 : vp_in d 4 := rin hd (by decide)
  have i2 : vp_in s 4 := rin hs (by decide)
  have i3 : vp_in d 16 := rin hd (by decide)
  have i4 : vp_in s 16 := rin hs (by decide)
  have rd := h.2.1 _ hd4
  have rs := h.2.1 _ hs4
  have vd := h.2.2.2.2.2.2.2.2.1.1 _ hd4
  have vs := h.2.2.2.2.2.2.2.2.1.1 _ hs4
  obtain ⟨xk, xf⟩ := xc_9 e1
  have p := p_ (q := m) (v1 := 9) (v2 := d) (v3 := s) (by decide) i3 i4
  have p29 := p_29 (q := m) (v1 := 9) (v2 := d) (v3 := s) (v4 := gA m 20 d.toNatClampNeg) (v5 := gA m 20 s.toNatClampNeg) (Or.inr (by decide))
  have p66 := p_66 (q := m) (v1 := 9) (v2 := d) (v3 := s) (v4 := gA m 20 d.toNatClampNeg) (v5 := gA m 20 s.toNatClampNeg) (by decide)
  have p92 := p_92 (q := m) (v1 := 9) (v2 := d) (v3 := s) (v4 := gA m 20 d.toNatClampNeg) (v5 := gA m 20 s.toNatClampNeg) (by decide)
  have p108 := p_108 (q := m) (v1 := 9) (v2 := d) (v3 := s) (v4 := gA m 20 d.toNatClampNeg) (v5 := gA m 20 s.toNatClampNeg) (by decide)
  have p130 := p_130 (q := m) (v1 := 9) (v2 := d) (v3 := s) (v4 := gA m 20 d.toNatClampNeg) (v5 := gA m 20 s.toNatClampNeg) (by decide)
  obtain ⟨j1, j2, j3, b, j4, j5, j6, j7, j8, j9, j10, j11⟩ := jump_RD h
  have ua := u_204 (q := (fX11_takes m).2) (v1 := 9) (v2 := d) (v3 := s) (v4 := gA m 20 d.toNatClampNeg) (v5 := gA m 20 s.toNatClampNeg) (by decide) (by decide) (by decide) (by decide)
  have ub := u_204 (q := sA (fX11_takes m).2 20 (upd (gA (fX11_takes m).2 20) 4 (b - b / 64 * 64))) (v1 := 9) (v2 := d) (v3 := s) (v4 := gA m 20 d.toNatClampNeg) (v5 := gA m 20 s.toNatClampNeg) (by decide) (by decide) (by decide) (by decide)
  have rz : gA (fX11_takes m).2 20 (5 : Int32).toNatClampNeg = gI y 1203 := by
    rw [cl_5, j10, j8]
  by_cases hz : gI y 1203 = 1
  · have hz2 := rz.trans hz
    have kk : kX11_defines__148 m 9 d s (gA m 20 d.toNatClampNeg) (gA m 20 s.toNatClampNeg) := by
      refine ⟨fun e => absurd e (by decide), fun _ => ⟨fun e => absurd e (by decide), fun _ => ⟨j2, ⟨fun e => absurd e (by decide), fun _ => ⟨fun _ => ⟨in_5_16, fun _ => ?_, fun e => absurd hz2 e⟩, fun e => absurd rfl e⟩⟩⟩⟩⟩
      rw [j5]
      exact ub.1
    have ff : fX11_defines__148 m 9 d s (gA m 20 d.toNatClampNeg) (gA m 20 s.toNatClampNeg) = sA (fX11_takes m).2 20 (upd (gA (fX11_takes m).2 20) 4 (b - b / 64 * 64)) := by
      rw [fX11_defines__148, if_neg (by decide), if_neg (by decide), fX11_defines__164, if_neg (by decide), if_pos rfl, fX11_defines__188, if_pos hz2, j5]
      exact ub.2
    refine ⟨xk ⟨fun _ => ⟨j3 1, trivial⟩, fun e => absurd hz e⟩, p.1 (p29.1 (p66.1 (p92.1 (p108.1 (p130.1 (kk)))))), ?_⟩
    rw [xf, p.2, p29.2, p66.2, p92.2, p108.2, p130.2, ff, if_pos hz]
    exact j7.toX
  · have hz2 : ¬ gA (fX11_takes m).2 20 (5 : Int32).toNatClampNeg = 1 := fun e => hz (rz.symm.trans e)
    have kk : kX11_defines__148 m 9 d s (gA m 20 d.toNatClampNeg) (gA m 20 s.toNatClampNeg) := by
      exact ⟨fun e => absurd e (by decide), fun _ => ⟨fun e => absurd e (by decide), fun _ => ⟨j2, ⟨fun e => absurd e (by decide), fun _ => ⟨fun _ => ⟨in_5_16, fun e => absurd e hz2, fun _ => ua.1⟩, fun e => absurd rfl e⟩⟩⟩⟩⟩
    have ff : fX11_defines__148 m 9 d s (gA m 20 d.toNatClampNeg) (gA m 20 s.toNatClampNeg) = (fX11_takes m).2 := by
      rw [fX11_defines__148, if_neg (by decide), if_neg (by decide), fX11_defines__164, if_neg (by decide), if_pos rfl, fX11_defines__188, if_neg hz2]
      exact ua.2
    refine ⟨xk ⟨fun e => absurd e hz, fun _ => ⟨j3 0, trivial⟩⟩, p.1 (p29.1 (p66.1 (p92.1 (p108.1 (p130.1 (kk)))))), ?_⟩
    rw [xf, p.2, p29.2, p66.2, p92.2, p108.2, p130.2, ff, if_neg hz]
    exact j6.toX
theorem coy_10 {c : Int} {y m : SS} (h : RD c y m) {d s : Int32} (hd : rg 0 3 d) (hs : rg 0 3 s) (e1 : gI y 1102 = 10) (e2 : gI y 1103 = d) (e3 : gI y 1104 = s) : kX2_carryOut y ∧ kX11_defines_ m 10 d s ∧ RX c (fX2_carryOut y) (fX11_defines_ m 10 d s) := by
  have ed := and3 hd
  have es := and3 hs
  have hd4 : d.toNatClampNeg < 4 := ridx hd (by decide)
  have hs4 : s.toNatClampNeg < 4 := ridx hs (by decide)
  have i1 : vp_in d 4 := rin hd (by decide)
  have i2 : vp_in s 4 := rin hs (by decide)
  have i3 : vp_in d 16 := rin hd (by decide)
  have i4 : vp_in s 16 := rin hs (by decide)
  have rd := h.2.1 _ hd4
  have rs := h.2.1 _ hs4
  have vd := h.2.2.2.2.2.2.2.2.1.1 _ hd4
  have vs := h.2.2.2.2.2.2.2.2.1.1 _ hs4
  obtain ⟨xk, xf⟩ := xc_10 e1
  have p := p_ (q := m) (v1 := 10) (v2 := d) (v3 := s) (by decide) i3 i4
  have p29 := p_29 (q := m) (v1 := 10) (v2 := d) (v3 := s) (v4 := gA m 20 d.toNatClampNeg) (v5 := gA m 20 s.toNatClampNeg) (Or.inr (by decide))
  have p66 := p_66 (q := m) (v1 := 10) (v2 := d) (v3 := s) (v4 := gA m 20 d.toNatClampNeg) (v5 := gA m 20 s.toNatClampNeg) (by decide)
  have p92 := p_92 (q := m) (v1 := 10) (v2 := d) (v3 := s) (v4 := gA m 20 d.toNatClampNeg) (v5 := gA m 20 s.toNatClampNeg) (by decide)
  have p108 := p_108 (q := m) (v1 := 10) (v2 := d) (v3 := s) (v4 := gA m 20 d.toNatClampNeg) (v5 := gA m 20 s.toNatClampNeg) (by decide)
  have p130 := p_130 (q := m) (v1 := 10) (v2 := d) (v3 := s) (v4 := gA m 20 d.toNatClampNeg) (v5 := gA m 20 s.toNatClampNeg) (by decide)
  obtain ⟨j1, j2, j3, b, j4, j5, j6, j7, j8, j9, j10, j11⟩ := jump_RD h
  have ua := u_204 (q := (fX11_takes m).2) (v1 := 10) (v2 := d) (v3 := s) (v4 := gA m 20 d.toNatClampNeg) (v5 := gA m 20 s.toNatClampNeg) (by decide) (by decide) (by decide) (by decide)
  have ub := u_204 (q := sA (fX11_takes m).2 20 (upd (gA (fX11_takes m).2 20) 4 (b - b / 64 * 64))) (v1 := 10) (v2 := d) (v3 := s) (v4 := gA m 20 d.toNatClampNeg) (v5 := gA m 20 s.toNatClampNeg) (by decide) (by decide) (by decide) (by decide)
  have rz : gA (fX11_takes m).2 20 (6 : Int32).toNatClampNeg = gI y 1204 := by
    rw [cl_6, j11, j9]
  by_cases hz : gI y 1204 = 1
  · have hz2 := rz.trans hz
    have kk : kX11_defines__148 m 10 d s (gA m 20 d.toNatClampNeg) (gA m 20 s.toNatClampNeg) := by
      refine ⟨fun e => absurd e (by decide), fun _ => ⟨fun e => absurd e (by decide), fun _ => ⟨j2, ⟨fun e => absurd e (by decide), fun _ => ⟨fun e => absurd e (by decide), fun _ => ⟨in_6_16, fun _ => ?_, fun e => absurd hz2 e⟩⟩⟩⟩⟩⟩
      rw [j5]
      exact ub.1
    have ff : fX11_defines__148 m 10 d s (gA m 20 d.toNatClampNeg) (gA m 20 s.toNatClampNeg) = sA (fX11_takes m).2 20 (upd (gA (fX11_takes m).2 20) 4 (b - b / 64 * 64)) := by
      rw [fX11_defines__148, if_neg (by decide), if_neg (by decide), fX11_defines__164, if_neg (by decide), if_neg (by decide), fX11_defines__188, if_pos hz2, j5]
      exact ub.2
    refine ⟨xk ⟨fun _ => ⟨j3 1, trivial⟩, fun e => absurd hz e⟩, p.1 (p29.1 (p66.1 (p92.1 (p108.1 (p130.1 (kk)))))), ?_⟩
    rw [xf, p.2, p29.2, p66.2, p92.2, p108.2, p130.2, ff, if_pos hz]
    exact j7.toX
  · have hz2 : ¬ gA (fX11_takes m).2 20 (6 : Int32).toNatClampNeg = 1 := fun e => hz (rz.symm.trans e)
    have kk : kX11_defines__148 m 10 d s (gA m 20 d.toNatClampNeg) (gA m 20 s.toNatClampNeg) := by
      exact ⟨fun e => absurd e (by decide), fun _ => ⟨fun e => absurd e (by decide), fun _ => ⟨j2, ⟨fun e => absurd e (by decide), fun _ => ⟨fun e => absurd e (by decide), fun _ => ⟨in_6_16, fun e => absurd e hz2, fun _ => ua.1⟩⟩⟩⟩⟩⟩
    have ff : fX11_defines__148 m 10 d s (gA m 20 d.toNatClampNeg) (gA m 20 s.toNatClampNeg) = (fX11_takes m).2 := by
      rw [fX11_defines__148, if_neg (by decide), if_neg (by decide), fX11_defines__164, if_neg (by decide), if_neg (by decide), fX11_defines__188, if_neg hz2]
      exact ua.2
    refine ⟨xk ⟨fun e => absurd e hz, fun _ => ⟨j3 0, trivial⟩⟩, p.1 (p29.1 (p66.1 (p92.1 (p108.1 (p130.1 (kk)))))), ?_⟩
    rw [xf, p.2, p29.2, p66.2, p92.2, p108.2, p130.2, ff, if_neg hz]
    exact j6.toX
theorem coy_11 {c : Int} {y m : SS} (h : RD c y m) {d s : Int32} (hd : rg 0 3 d) (hs : rg 0 3 s) (e1 : gI y 1102 = 11) (e2 : gI y 1103 = d) (e3 : gI y 1104 = s) : kX2_carryOut y ∧ kX11_defines_ m 11 d s ∧ RX c (fX2_carryOut y) (fX11_defines_ m 11 d s) := by
  have ed := and3 hd
  have es := and3 hs
  have hd4 : d.toNatClampNeg < 4 := ridx hd (by decide)
  have hs4 : s.toNatClampNeg < 4 := ridx hs (by decide)
  have i1 : vp_in d 4 := rin hd (by decide)
  have i2 : vp_in s 4 := rin hs (by decide)
  have i3 : vp_in d 16 := rin hd (by decide)
  have i4 : vp_in s 16 := rin hs (by decide)
  have rd := h.2.1 _ hd4
  have rs := h.2.1 _ hs4
  have vd := h.2.2.2.2.2.2.2.2.1.1 _ hd4
  have vs := h.2.2.2.2.2.2.2.2.1.1 _ hs4
  obtain ⟨xk, xf⟩ := xc_11 e1
  have p := p_ (q := m) (v1 := 11) (v2 := d) (v3 := s) (by decide) i3 i4
  have p29 := p_29 (q := m) (v1 := 11) (v2 := d) (v3 := s) (v4 := gA m 20 d.toNatClampNeg) (v5 := gA m 20 s.toNatClampNeg) (Or.inr (by decide))
  have p66 := p_66 (q := m) (v1 := 11) (v2 := d) (v3 := s) (v4 := gA m 20 d.toNatClampNeg) (v5 := gA m 20 s.toNatClampNeg) (by decide)
  have p92 := p_92 (q := m) (v1 := 11) (v2 := d) (v3 := s) (v4 := gA m 20 d.toNatClampNeg) (v5 := gA m 20 s.toNatClampNeg) (by decide)
  have p108 := p_108 (q := m) (v1 := 11) (v2 := d) (v3 := s) (v4 := gA m 20 d.toNatClampNeg) (v5 := gA m 20 s.toNatClampNeg) (by decide)
  have p130 := p_130 (q := m) (v1 := 11) (v2 := d) (v3 := s) (v4 := gA m 20 d.toNatClampNeg) (v5 := gA m 20 s.toNatClampNeg) (by decide)
  obtain ⟨j1, j2, j3, b, j4, j5, j6, j7, j8, j9, j10, j11⟩ := jump_RD h
  have ua := u_204 (q := (fX11_takes m).2) (v1 := 11) (v2 := d) (v3 := s) (v4 := gA m 20 d.toNatClampNeg) (v5 := gA m 20 s.toNatClampNeg) (by decide) (by decide) (by decide) (by decide)
  have ub := u_204 (q := sA (fX11_takes m).2 20 (upd (gA (fX11_takes m).2 20) 4 (b - b / 64 * 64))) (v1 := 11) (v2 := d) (v3 := s) (v4 := gA m 20 d.toNatClampNeg) (v5 := gA m 20 s.toNatClampNeg) (by decide) (by decide) (by decide) (by decide)
  have kk : kX11_defines__148 m 11 d s (gA m 20 d.toNatClampNeg) (gA m 20 s.toNatClampNeg) := by
    refine ⟨fun e => absurd e (by decide), fun _ => ⟨fun e => absurd e (by decide), fun _ => ⟨j2, fun _ => ?_, fun e => absurd rfl e⟩⟩⟩
    rw [j5]
    exact ub.1
  have ff : fX11_defines__148 m 11 d s (gA m 20 d.toNatClampNeg) (gA m 20 s.toNatClampNeg) = sA (fX11_takes m).2 20 (upd (gA (fX11_takes m).2 20) 4 (b - b / 64 * 64)) := by
    rw [fX11_defines__148, if_neg (by decide), if_neg (by decide), fX11_defines__164, if_pos rfl, j5]
    exact ub.2
  refine ⟨xk ⟨j3 1, trivial⟩, p.1 (p29.1 (p66.1 (p92.1 (p108.1 (p130.1 (kk)))))), ?_⟩
  rw [xf, p.2, p29.2, p66.2, p92.2, p108.2, p130.2, ff]
  exact j7.toX
theorem coy_12 {c : Int} {y m : SS} (h : RD c y m) {d s : Int32} (hd : rg 0 3 d) (hs : rg 0 3 s) (e1 : gI y 1102 = 12) (e2 : gI y 1103 = d) (e3 : gI y 1104 = s) : kX2_carryOut y ∧ kX11_defines_ m 12 d s ∧ RX c (fX2_carryOut y) (fX11_defines_ m 12 d s) := by
  have ed := and3 hd
  have es := and3 hs
  have hd4 : d.toNatClampNeg < 4 := ridx hd (by decide)
  have hs4 : s.toNatClampNeg < 4 := ridx hs (by decide)
  have i1 : vp_in d 4 := rin hd (by decide)
  have i2 : vp_in s 4 := rin hs (by decide)
  have i3 : vp_in d 16 := rin hd (by decide)
  have i4 : vp_in s 16 := rin hs (by decide)
  have rd := h.2.1 _ hd4
  have rs := h.2.1 _ hs4
  have vd := h.2.2.2.2.2.2.2.2.1.1 _ hd4
  have vs := h.2.2.2.2.2.2.2.2.1.1 _ hs4
  obtain ⟨xk, xf⟩ := xc_12 e1
  have p := p_ (q := m) (v1 := 12) (v2 := d) (v3 := s) (by decide) i3 i4
  have p29 := p_29 (q := m) (v1 := 12) (v2 := d) (v3 := s) (v4 := gA m 20 d.toNatClampNeg) (v5 := gA m 20 s.toNatClampNeg) (Or.inr (by decide))
  have p66 := p_66 (q := m) (v1 := 12) (v2 := d) (v3 := s) (v4 := gA m 20 d.toNatClampNeg) (v5 := gA m 20 s.toNatClampNeg) (by decide)
  have p92 := p_92 (q := m) (v1 := 12) (v2 := d) (v3 := s) (v4 := gA m 20 d.toNatClampNeg) (v5 := gA m 20 s.toNatClampNeg) (by decide)
  have p108 := p_108 (q := m) (v1 := 12) (v2 := d) (v3 := s) (v4 := gA m 20 d.toNatClampNeg) (v5 := gA m 20 s.toNatClampNeg) (by decide)
  have p130 := p_130 (q := m) (v1 := 12) (v2 := d) (v3 := s) (v4 := gA m 20 d.toNatClampNeg) (v5 := gA m 20 s.toNatClampNeg) (by decide)
  have p148 := p_148 (q := m) (v1 := 12) (v2 := d) (v3 := s) (v4 := gA m 20 d.toNatClampNeg) (v5 := gA m 20 s.toNatClampNeg) (Or.inr (by decide))
  have vc := h.2.2.2.2.2.2.2.2.2.1
  have wc := h.2.2.2.2.2.2.2.2.2.2.1
  have e64 := mo64 vs
  have r64 := rg63 (gA m 20 s.toNatClampNeg)
  have i6 : vp_in (gA m 20 s.toNatClampNeg &&& 63) 64 := rin r64 (by decide)
  have j6 : (gA m 20 s.toNatClampNeg &&& 63).toNatClampNeg < 64 := ridx r64 (by decide)
  have h2 := RD_reg h (wc _ j6) hd4
  have w2 : rg 0 255 (upd (gA m 20) d.toNatClampNeg (gA m 21 (gA m 20 s.toNatClampNeg &&& 63).toNatClampNeg) s.toNatClampNeg) := h2.2.2.2.2.2.2.2.2.1.1 _ hs4
  have g1 := w2.1
  have g2 := w2.2
  have e256 : (upd (gA m 20) d.toNatClampNeg (gA m 21 (gA m 20 s.toNatClampNeg &&& 63).toNatClampNeg) s.toNatClampNeg + 1) - (upd (gA m 20) d.toNatClampNeg (gA m 21 (gA m 20 s.toNatClampNeg &&& 63).toNatClampNeg) s.toNatClampNeg + 1) / 256 * 256 = (upd (gA m 20) d.toNatClampNeg (gA m 21 (gA m 20 s.toNatClampNeg &&& 63).toNatClampNeg) s.toNatClampNeg + 1) &&& 255 := by
    have e1 : (upd (gA m 20) d.toNatClampNeg (gA m 21 (gA m 20 s.toNatClampNeg &&& 63).toNatClampNeg) s.toNatClampNeg + 1).toInt = (upd (gA m 20) d.toNatClampNeg (gA m 21 (gA m 20 s.toNatClampNeg &&& 63).toNatClampNeg) s.toNatClampNeg).toInt + 1 := by
      rw [tadd (by rw [tl_1]; omega) (by rw [tl_1]; omega), tl_1]
    rw [tI, tmod tl_256 (by decide) (by decide) (by omega), tand _ 8 (by decide) (by decide)]
    rfl
  have rs2 : upd (gA y 27) d.toNatClampNeg (gA m 21 (gA m 20 s.toNatClampNeg &&& 63).toNatClampNeg) s.toNatClampNeg = upd (gA m 20) d.toNatClampNeg (gA m 21 (gA m 20 s.toNatClampNeg &&& 63).toNatClampNeg) s.toNatClampNeg := h2.2.1 _ hs4
  have h3 := RD_reg h2 (rg_and (upd (gA m 20) d.toNatClampNeg (gA m 21 (gA m 20 s.toNatClampNeg &&& 63).toNatClampNeg) s.toNatClampNeg + 1) 8 (hi := 255) (m := 255) (by decide) (by decide) (by decide)) hs4
  have u := u_244 (q := sA (sA m 20 (upd (gA m 20) d.toNatClampNeg (gA m 21 (gA m 20 s.toNatClampNeg &&& 63).toNatClampNeg))) 20 (upd (upd (gA m 20) d.toNatClampNeg (gA m 21 (gA m 20 s.toNatClampNeg &&& 63).toNatClampNeg)) s.toNatClampNeg ((upd (gA m 20) d.toNatClampNeg (gA m 21 (gA m 20 s.toNatClampNeg &&& 63).toNatClampNeg) s.toNatClampNeg + 1) &&& 255))) (v1 := 12) (v4 := gA m 20 d.toNatClampNeg) (by decide) (by decide) (by decide)
  have kk : kX11_defines__204 m 12 d s (gA m 20 d.toNatClampNeg) (gA m 20 s.toNatClampNeg) := by
    refine ⟨fun _ => ?_, fun e => absurd rfl e⟩
    rw [e64, e256]
    exact ⟨i6, i3, i4, i4, u.1⟩
  have ff : fX11_defines__204 m 12 d s (gA m 20 d.toNatClampNeg) (gA m 20 s.toNatClampNeg) = sA (sA m 20 (upd (gA m 20) d.toNatClampNeg (gA m 21 (gA m 20 s.toNatClampNeg &&& 63).toNatClampNeg))) 20 (upd (upd (gA m 20) d.toNatClampNeg (gA m 21 (gA m 20 s.toNatClampNeg &&& 63).toNatClampNeg)) s.toNatClampNeg ((upd (gA m 20) d.toNatClampNeg (gA m 21 (gA m 20 s.toNatClampNeg &&& 63).toNatClampNeg) s.toNatClampNeg + 1) &&& 255)) := by
    rw [fX11_defines__204, if_pos rfl, e64, e256]
    exact u.2
  rw [e2, e3, ed, es, rs, vc _ j6] at xk xf
  refine ⟨xk ⟨i2, i6, i1, i2, i2, trivial⟩, p.1 (p29.1 (p66.1 (p92.1 (p108.1 (p130.1 (p148.1 (kk))))))), ?_⟩
  rw [xf, p.2, p29.2, p66.2, p92.2, p108.2, p130.2, p148.2, ff]
  have ex : fX2_carryOut_277 (sA y 27 (upd (gA y 27) d.toNatClampNeg (gA m 21 (gA m 20 s.toNatClampNeg &&& 63).toNatClampNeg))) s = sA (sA y 27 (upd (gA y 27) d.toNatClampNeg (gA m 21 (gA m 20 s.toNatClampNeg &&& 63).toNatClampNeg))) 27 (upd (upd (gA y 27) d.toNatClampNeg (gA m 21 (gA m 20 s.toNatClampNeg &&& 63).toNatClampNeg)) s.toNatClampNeg ((upd (gA y 27) d.toNatClampNeg (gA m 21 (gA m 20 s.toNatClampNeg &&& 63).toNatClampNeg) s.toNatClampNeg + 1) &&& 255)) := rfl
  rw [ex, rs2]
  exact h3.toX
theorem coy_13 {c : Int} {y m : SS} (h : RD c y m) {d s : Int32} (hd : rg 0 3 d) (hs : rg 0 3 s) (e1 : gI y 1102 = 13) (e2 : gI y 1103 = d) (e3 : gI y 1104 = s) : kX2_carryOut y ∧ kX11_defines_ m 13 d s ∧ RX c (fX2_carryOut y) (fX11_defines_ m 13 d s) := by
  have ed := and3 hd
  have es := and3 hs
  have hd4 : d.toNatClampNeg < 4 := ridx hd (by decide)
  have hs4 : s.toNatClampNeg < 4 := ridx hs (by decide)
  have i1 : vp_in d 4 := rin hd (by decide)
  have i2 : vp_in s 4 := rin hs (by decide)
  have i3 : vp_in d 16 := rin hd (by decide)
  have i4 : vp_in s 16 := rin hs (by decide)
  have rd := h.2.1 _ hd4
  have rs := h.2.1 _ hs4
  have vd := h.2.2.2.2.2.2.2.2.1.1 _ hd4
  have vs := h.2.2.2.2.2.2.2.2.1.1 _ hs4
  obtain ⟨xk, xf⟩ := xc_13 e1
  have p := p_ (q := m) (v1 := 13) (v2 := d) (v3 := s) (by decide) i3 i4
  have p29 := p_29 (q := m) (v1 := 13) (v2 := d) (v3 := s) (v4 := gA m 20 d.toNatClampNeg) (v5 := gA m 20 s.toNatClampNeg) (Or.inr (by decide))
  have p66 := p_66 (q := m) (v1 := 13) (v2 := d) (v3 := s) (v4 := gA m 20 d.toNatClampNeg) (v5 := gA m 20 s.toNatClampNeg) (by decide)
  have p92 := p_92 (q := m) (v1 := 13) (v2 := d) (v3 := s) (v4 := gA m 20 d.toNatClampNeg) (v5 := gA m 20 s.toNatClampNeg) (by decide)
  have p108 := p_108 (q := m) (v1 := 13) (v2 := d) (v3 := s) (v4 := gA m 20 d.toNatClampNeg) (v5 := gA m 20 s.toNatClampNeg) (by decide)
  have p130 := p_130 (q := m) (v1 := 13) (v2 := d) (v3 := s) (v4 := gA m 20 d.toNatClampNeg) (v5 := gA m 20 s.toNatClampNeg) (by decide)
  have p148 := p_148 (q := m) (v1 := 13) (v2 := d) (v3 := s) (v4 := gA m 20 d.toNatClampNeg) (v5 := gA m 20 s.toNatClampNeg) (Or.inr (by decide))
  have p204 := p_204 (q := m) (v1 := 13) (v2 := d) (v3 := s) (v4 := gA m 20 d.toNatClampNeg) (v5 := gA m 20 s.toNatClampNeg) (by decide)
  have v7 := h.2.2.2.2.2.2.2.2.1.2.2.2.2.1
  have d5 := h.2.2.2.2.2.2.1
  have u := u_266 (q := sA m 20 (upd (gA m 20) 7 (1 - gA m 20 7))) (v1 := 13) (v4 := gA m 20 d.toNatClampNeg) (by decide) (by decide)
  have kk : kX11_defines__244 m 13 (gA m 20 d.toNatClampNeg) := ⟨fun _ => u.1, fun e => absurd rfl e⟩
  have ff : fX11_defines__244 m 13 (gA m 20 d.toNatClampNeg) = sA m 20 (upd (gA m 20) 7 (1 - gA m 20 7)) := by
    rw [fX11_defines__244, if_pos rfl, cl_7]
    exact u.2
  refine ⟨xk trivial, p.1 (p29.1 (p66.1 (p92.1 (p108.1 (p130.1 (p148.1 (p204.1 (kk)))))))), ?_⟩
  rw [xf, p.2, p29.2, p66.2, p92.2, p108.2, p130.2, p148.2, p204.2, ff, d5]
  exact (RD_S h (flip01 v7)).toX
theorem coy_14 {c : Int} {y m : SS} (h : RD c y m) {d s : Int32} (hd : rg 0 3 d) (hs : rg 0 3 s) (e1 : gI y 1102 = 14) (e2 : gI y 1103 = d) (e3 : gI y 1104 = s) : kX2_carryOut y ∧ kX11_defines_ m 14 d s ∧ RX c (fX2_carryOut y) (fX11_defines_ m 14 d s) := by
  have ed := and3 hd
  have es := and3 hs
  have hd4 : d.toNatClampNeg < 4 := ridx hd (by decide)
  have hs4 : s.toNatClampNeg < 4 := ridx hs (by decide)
  have i1 : vp_in d 4 := rin hd (by decide)
  have i2 : vp_in s 4 := rin hs (by decide)
  have i3 : vp_in d 16 := rin hd (by decide)
  have i4 : vp_in s 16 := rin hs (by decide)
  have rd := h.2.1 _ hd4
  have rs := h.2.1 _ hs4
  have vd := h.2.2.2.2.2.2.2.2.1.1 _ hd4
  have vs := h.2.2.2.2.2.2.2.2.1.1 _ hs4
  obtain ⟨xk, xf⟩ := xc_14 e1
  have p := p_ (q := m) (v1 := 14) (v2 := d) (v3 := s) (by decide) i3 i4
  have p29 := p_29 (q := m) (v1 := 14) (v2 := d) (v3 := s) (v4 := gA m 20 d.toNatClampNeg) (v5 := gA m 20 s.toNatClampNeg) (Or.inr (by decide))
  have p66 := p_66 (q := m) (v1 := 14) (v2 := d) (v3 := s) (v4 := gA m 20 d.toNatClampNeg) (v5 := gA m 20 s.toNatClampNeg) (by decide)
  have p92 := p_92 (q := m) (v1 := 14) (v2 := d) (v3 := s) (v4 := gA m 20 d.toNatClampNeg) (v5 := gA m 20 s.toNatClampNeg) (by decide)
  have p108 := p_108 (q := m) (v1 := 14) (v2 := d) (v3 := s) (v4 := gA m 20 d.toNatClampNeg) (v5 := gA m 20 s.toNatClampNeg) (by decide)
  have p130 := p_130 (q := m) (v1 := 14) (v2 := d) (v3 := s) (v4 := gA m 20 d.toNatClampNeg) (v5 := gA m 20 s.toNatClampNeg) (by decide)
  have p148 := p_148 (q := m) (v1 := 14) (v2 := d) (v3 := s) (v4 := gA m 20 d.toNatClampNeg) (v5 := gA m 20 s.toNatClampNeg) (Or.inr (by decide))
  have p204 := p_204 (q := m) (v1 := 14) (v2 := d) (v3 := s) (v4 := gA m 20 d.toNatClampNeg) (v5 := gA m 20 s.toNatClampNeg) (by decide)
  have p244 := p_244 (q := m) (v1 := 14) (v4 := gA m 20 d.toNatClampNeg) (by decide)
  have v9 := h.2.2.2.2.2.2.2.2.1.2.2.2.2.2.2
  have d2 := h.2.2.2.1
  have u := u_293 (q := sA (sA m 20 (upd (gA m 20) 4 (gA m 20 9))) 20 (upd (upd (gA m 20) 4 (gA m 20 9)) 8 1)) (v1 := 14) (v4 := gA m 20 d.toNatClampNeg) (by decide)
  have kk : kX11_defines__266 m 14 (gA m 20 d.toNatClampNeg) := ⟨fun _ => u.1, fun e => absurd rfl e⟩
  have ff : fX11_defines__266 m 14 (gA m 20 d.toNatClampNeg) = sA (sA m 20 (upd (gA m 20) 4 (gA m 20 9))) 20 (upd (upd (gA m 20) 4 (gA m 20 9)) 8 1) := by
    rw [fX11_defines__266, if_pos rfl, cl_4, cl_8, cl_9]
    exact u.2
  refine ⟨xk trivial, p.1 (p29.1 (p66.1 (p92.1 (p108.1 (p130.1 (p148.1 (p204.1 (p244.1 (kk))))))))), ?_⟩
  rw [xf, p.2, p29.2, p66.2, p92.2, p108.2, p130.2, p148.2, p204.2, p244.2, ff, d2]
  exact (RD_I (RD_P h v9) rg_1).toX
theorem coy_15 {c : Int} {y m : SS} (h : RD c y m) {d s : Int32} (hd : rg 0 3 d) (hs : rg 0 3 s) (e1 : gI y 1102 = 15) (e2 : gI y 1103 = d) (e3 : gI y 1104 = s) : kX2_carryOut y ∧ kX11_defines_ m 15 d s ∧ RX c (fX2_carryOut y) (fX11_defines_ m 15 d s) := by
  have ed := and3 hd
  have es := and3 hs
  have hd4 : d.toNatClampNeg < 4 := ridx hd (by decide)
  have hs4 : s.toNatClampNeg < 4 := ridx hs (by decide)
  have i1 : vp_in d 4 := rin hd (by decide)
  have i2 : vp_in s 4 := rin hs (by decide)
  have i3 : vp_in d 16 := rin hd (by decide)
  have i4 : vp_in s 16 := rin hs (by decide)
  have rd := h.2.1 _ hd4
  have rs := h.2.1 _ hs4
  have vd := h.2.2.2.2.2.2.2.2.1.1 _ hd4
  have vs := h.2.2.2.2.2.2.2.2.1.1 _ hs4
  obtain ⟨xk, xf⟩ := xc_15 e1
  have p := p_ (q := m) (v1 := 15) (v2 := d) (v3 := s) (by decide) i3 i4
  have p29 := p_29 (q := m) (v1 := 15) (v2 := d) (v3 := s) (v4 := gA m 20 d.toNatClampNeg) (v5 := gA m 20 s.toNatClampNeg) (Or.inr (by decide))
  have p66 := p_66 (q := m) (v1 := 15) (v2 := d) (v3 := s) (v4 := gA m 20 d.toNatClampNeg) (v5 := gA m 20 s.toNatClampNeg) (by decide)
  have p92 := p_92 (q := m) (v1 := 15) (v2 := d) (v3 := s) (v4 := gA m 20 d.toNatClampNeg) (v5 := gA m 20 s.toNatClampNeg) (by decide)
  have p108 := p_108 (q := m) (v1 := 15) (v2 := d) (v3 := s) (v4 := gA m 20 d.toNatClampNeg) (v5 := gA m 20 s.toNatClampNeg) (by decide)
  have p130 := p_130 (q := m) (v1 := 15) (v2 := d) (v3 := s) (v4 := gA m 20 d.toNatClampNeg) (v5 := gA m 20 s.toNatClampNeg) (by decide)
  have p148 := p_148 (q := m) (v1 := 15) (v2 := d) (v3 := s) (v4 := gA m 20 d.toNatClampNeg) (v5 := gA m 20 s.toNatClampNeg) (Or.inr (by decide))
  have p204 := p_204 (q := m) (v1 := 15) (v2 := d) (v3 := s) (v4 := gA m 20 d.toNatClampNeg) (v5 := gA m 20 s.toNatClampNeg) (by decide)
  have p244 := p_244 (q := m) (v1 := 15) (v4 := gA m 20 d.toNatClampNeg) (by decide)
  have p266 := p_266 (q := m) (v1 := 15) (v4 := gA m 20 d.toNatClampNeg) (by decide)
  have kk : kX11_defines__293 m 15 (gA m 20 d.toNatClampNeg) := ⟨fun _ => trivial, fun e => absurd rfl e⟩
  have ff : fX11_defines__293 m 15 (gA m 20 d.toNatClampNeg) = sA m 20 (upd (gA m 20) 8 (gA m 20 d.toNatClampNeg &&& 1)) := by
    rw [fX11_defines__293, if_pos rfl, cl_8, od1 vd]
    rfl
  rw [e2, ed, rd] at xk xf
  refine ⟨xk ⟨i1, trivial⟩, p.1 (p29.1 (p66.1 (p92.1 (p108.1 (p130.1 (p148.1 (p204.1 (p244.1 (p266.1 (kk)))))))))), ?_⟩
  rw [xf, p.2, p29.2, p66.2, p92.2, p108.2, p130.2, p148.2, p204.2, p244.2, p266.2, ff]
  exact (RD_I h (rga1 _)).toX
theorem w17 {w : Int32} (h : rg (-1) 15 w) : w = -1 ∨ w = 0 ∨ w = 1 ∨ w = 2 ∨ w = 3 ∨ w = 4 ∨ w = 5 ∨ w = 6 ∨ w = 7 ∨ w = 8 ∨ w = 9 ∨ w = 10 ∨ w = 11 ∨ w = 12 ∨ w = 13 ∨ w = 14 ∨ w = 15 := by
  simp only [tI, tl_m1, tl_0, tl_1, tl_2, tl_3, tl_4, tl_5, tl_6, tl_7, tl_8, tl_9, tl_10, tl_11, tl_12, tl_13, tl_14, tl_15, tl_16, tl_20, tl_32, tl_48, tl_60, tl_63, tl_64, tl_79, tl_80, tl_96, tl_100, tl_127, tl_128, tl_200, tl_255, tl_256]
  have h1 := h.1
  have h2 := h.2
  omega
theorem carry_R {c : Int} {y m : SS} (h : RD c y m) {w d s : Int32} (hw : rg (-1) 15 w) (hd : rg 0 3 d) (hs : rg 0 3 s) (e1 : gI y 1102 = w) (e2 : gI y 1103 = d) (e3 : gI y 1104 = s) : kX2_carryOut y ∧ kX11_defines_ m w d s ∧ RX c (fX2_carryOut y) (fX11_defines_ m w d s) := by
  rcases w17 hw with e | e | e | e | e | e | e | e | e | e | e | e | e | e | e | e | e
  · subst e
    exact coy_m1 h hd hs e1 e2 e3
  · subst e
    exact coy_0 h hd hs e1 e2 e3
  · subst e
    exact coy_1 h hd hs e1 e2 e3
  · subst e
    exact coy_2 h hd hs e1 e2 e3
  · subst e
    exact coy_3 h hd hs e1 e2 e3
  · subst e
    exact coy_4 h hd hs e1 e2 e3
  · subst e
    exact coy_5 h hd hs e1 e2 e3
  · subst e
    exact coy_6 h hd hs e1 e2 e3
  · subst e
    exact coy_7 h hd hs e1 e2 e3
  · subst e
    exact coy_8 h hd hs e1 e2 e3
  · subst e
    exact coy_9 h hd hs e1 e2 e3
  · subst e
    exact coy_10 h hd hs e1 e2 e3
  · subst e
    exact coy_11 h hd hs e1 e2 e3
  · subst e
    exact coy_12 h hd hs e1 e2 e3
  · subst e
    exact coy_13 h hd hs e1 e2 e3
  · subst e
    exact coy_14 h hd hs e1 e2 e3
  · subst e
    exact coy_15 h hd hs e1 e2 e3
