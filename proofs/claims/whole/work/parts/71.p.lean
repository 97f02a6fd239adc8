/-! ===== PURE: what a definition leaves ===== -/
theorem g_takes (q : SS) (j : Nat) : gI (fX11_takes q).2 j = gI q j := rfl
theorem g_flags (q : SS) (k t b : Int32) (j : Nat) : gI (fX11_flags q k t b) j = gI q j := by
  unfold fX11_flags fX11_flags_11
  split
  · unfold fX11_flags_19 fX11_flags_32
    rw [gI_sA, c_carry, gI_sA, c_comb]
  · unfold fX11_flags_19 fX11_flags_32
    rw [gI_sA, c_carry, gI_sA, c_comb]
theorem g_293 (q : SS) (a b : Int32) (j : Nat) : gI (fX11_defines__293 q a b) j = gI q j := by
  unfold fX11_defines__293
  split
  · rfl
  · rfl
theorem g_266 (q : SS) (a b : Int32) (j : Nat) : gI (fX11_defines__266 q a b) j = gI q j := by
  unfold fX11_defines__266
  split
  · rw [g_293]
    rfl
  · rw [g_293]
theorem g_244 (q : SS) (a b : Int32) (j : Nat) : gI (fX11_defines__244 q a b) j = gI q j := by
  unfold fX11_defines__244
  split
  · rw [g_266]
    rfl
  · rw [g_266]
theorem g_204 (q : SS) (a b c d e : Int32) (j : Nat) : gI (fX11_defines__204 q a b c d e) j = gI q j := by
  unfold fX11_defines__204
  split
  · rw [g_244]
    rfl
  · rw [g_244]
theorem g_193 (q : SS) (a b c d e f : Int32) (j : Nat) : gI (fX11_defines__193 q a b c d e f) j = gI q j := by
  unfold fX11_defines__193
  rw [g_204]
  rfl
theorem g_188 (q : SS) (a b c d e f g : Int32) (j : Nat) : gI (fX11_defines__188 q a b c d e f g) j = gI q j := by
  unfold fX11_defines__188
  split
  · rw [g_193]
  · rw [g_204]
theorem g_164 (q : SS) (a b c d e f : Int32) (j : Nat) : gI (fX11_defines__164 q a b c d e f) j = gI q j := by
  unfold fX11_defines__164
  split
  · rw [g_193]
  · split
    · rw [g_188]
    · rw [g_188]
theorem g_148 (q : SS) (a b c d e : Int32) (j : Nat) : gI (fX11_defines__148 q a b c d e) j = gI q j := by
  unfold fX11_defines__148
  split
  · rw [g_204]
  · split
    · rw [g_204]
    · rw [g_164, g_takes]
theorem g_130 (q : SS) (a b c d e : Int32) (j : Nat) : gI (fX11_defines__130 q a b c d e) j = gI q j := by
  unfold fX11_defines__130
  split
  · rw [g_148]
    rfl
  · rw [g_148]
theorem g_108 (q : SS) (a b c d e : Int32) (j : Nat) : gI (fX11_defines__108 q a b c d e) j = gI q j := by
  unfold fX11_defines__108
  split
  · rw [g_130]
    rfl
  · rw [g_130]
theorem g_107 (q : SS) (a b c d e f g : Int32) (j : Nat) : gI (fX11_defines__107 q a b c d e f g) j = gI q j := by
  unfold fX11_defines__107
  rw [g_108]
  rfl
theorem g_92 (q : SS) (a b c d e : Int32) (j : Nat) : gI (fX11_defines__92 q a b c d e) j = gI q j := by
  unfold fX11_defines__92
  split
  · rw [g_107, g_takes]
  · rw [g_108]
theorem g_91 (q : SS) (a b c d e f g : Int32) (j : Nat) : gI (fX11_defines__91 q a b c d e f g) j = gI q j := by
  unfold fX11_defines__91
  rw [g_92]
  rfl
theorem g_79 (q : SS) (a b c d e : Int32) (j : Nat) : gI (fX11_defines__79 q a b c d e) j = gI q j := by
  unfold fX11_defines__79
  rw [g_91, c_comb]
theorem g_66 (q : SS) (a b c d e : Int32) (j : Nat) : gI (fX11_defines__66 q a b c d e) j = gI q j := by
  unfold fX11_defines__66
  split
  · rw [g_79, g_flags]
  · rw [g_92]
theorem g_65 (q : SS) (a b c d e f g : Int32) (j : Nat) : gI (fX11_defines__65 q a b c d e f g) j = gI q j := by
  unfold fX11_defines__65
  rw [g_66]
  rfl
theorem g_50 (q : SS) (a b c d e : Int32) (j : Nat) : gI (fX11_defines__50 q a b c d e) j = gI q j := by
  unfold fX11_defines__50
  rw [g_65, c_comb]
theorem g_29 (q : SS) (a b c d e : Int32) (j : Nat) : gI (fX11_defines__29 q a b c d e) j = gI q j := by
  unfold fX11_defines__29
  split
  · rw [g_66]
  · split
    · rw [g_66]
    · rw [g_50, g_flags]
theorem g_d (q : SS) (a b c : Int32) (j : Nat) : gI (fX11_defines_ q a b c) j = gI q j := by
  unfold fX11_defines_
  split
  · rw [g_29]
    rfl
  · rw [g_29]
theorem g_114 (q : SS) (a b c : Int32) {j : Nat} (hj : ¬ j = 27) : gI (fX11_defines_114 q a b c) j = gI q j := by
  have e : gI (sI q 27 c) j = gI q j := by
    rw [gI_sI, if_neg hj]
  have e170 : ∀ (q : SS) (a b d : Int32), gI (fX11_defines_170 q a b d) j = gI q j := by
    intro q a b d
    unfold fX11_defines_170
    split
    · exact g_d _ _ _ _ _
    · exact g_d _ _ _ _ _
  have e153 : ∀ (q : SS) (a b d : Int32), gI (fX11_defines_153 q a b d) j = gI q j := by
    intro q a b d
    unfold fX11_defines_153
    split
    · exact e170 _ _ _ _
    · exact e170 _ _ _ _
  have e137 : ∀ (q : SS) (a b : Int32), gI (fX11_defines_137 q a b) j = gI q j := by
    intro q a b
    unfold fX11_defines_137
    split
    · exact e153 _ _ _ _
    · exact e153 _ _ _ _
  unfold fX11_defines_114
  split
  · exact e
  · split
    · rw [e137, e]
    · rw [e137, e]
theorem g_59 {j : Nat} (hj : ¬ j = 27) : ∀ (n : Nat) (q : SS) (a b : Int32), gI (fX11_defines_59 n q a b) j = gI q j := by
  have e102 : ∀ (q : SS) (a b : Int32), gI (fX11_defines_102 q a b) j = gI q j := by
    intro q a b
    unfold fX11_defines_102
    split
    · exact g_114 _ _ _ _ hj
    · exact g_114 _ _ _ _ hj
  intro n
  induction n with
  | zero =>
    intro q a b
    rfl
  | succ n ih =>
    intro q a b
    rw [fX11_defines_59]
    split
    · split
      · split
        · exact e102 _ _ _
        · split
          · exact ih _ _ _
          · rw [fX11_defines_98, ih, g_takes]
      · exact e102 _ _ _
    · exact e102 _ _ _
theorem g_defines (m : SS) {j : Nat} (hj : ¬ j = 27) : gI (fX11_defines m) j = gI m j := by
  rw [(m_defines m).2, fD, fX11_defines_56, g_59 hj, g_takes]
  rfl
/-! the class's side: whether it is defined -/
theorem h_comb (q : SS) (d k b : Int32) : gI (fX2_combineInto q d k b) 1101 = gI q 1101 := by
  have e10 : ∀ (q : SS) (a b : Int32), gI (fX8_setFlags_after_10 q a b) 1101 = gI q 1101 := by
    intro q a b
    unfold fX8_setFlags_after_10
    split
    · rfl
    · rfl
  have e : ∀ (q : SS) (a b : Int32), gI (fX8_setFlags_after q a b) 1101 = gI q 1101 := by
    intro q a b
    unfold fX8_setFlags_after
    split
    · exact e10 _ _ _
    · exact e10 _ _ _
  have e36 : ∀ (q : SS) (a b c d f g : Int32), gI (fX2_combineInto_36 q a b c d f g) 1101 = gI q 1101 := by
    intro q a b c d f g
    unfold fX2_combineInto_36 fX2_combineInto_43 fX2_combineInto_46
    rw [gI_sA, e, xf_hasCarry]
  unfold fX2_combineInto fX2_combineInto_20
  split
  · rw [e36, xf_resultOf]
  · rw [e36, xf_resultOf]
theorem h_jump (q : SS) (v : Int32) : gI (fX2_jumpIf q v) 1101 = gI q 1101 := by
  unfold fX2_jumpIf fX2_jumpIf_5
  split
  · rfl
  · rfl
theorem h_carry {q : SS} (hw : rg (-1) 15 (gI q 1102)) : gI (fX2_carryOut q) 1101 = gI q 1101 := by
  rcases w17 hw with e | e | e | e | e | e | e | e | e | e | e | e | e | e | e | e | e
  · rw [(xc_16 (Or.inr e)).2]
    rfl
  · rw [(xc_16 (Or.inl e)).2]
    rfl
  · rw [(xc_1 e).2]
    rfl
  · rw [(xc_2 e).2, fX2_carryOut_120, fX2_carryOut_353, h_comb]
  · rw [(xc_3 e).2, fX2_carryOut_133, fX2_carryOut_353, h_comb]
  · rw [(xc_4 e).2, fX2_carryOut_146, fX2_carryOut_353, h_comb]
  · rw [(xc_5 e).2, fX2_carryOut_158, fX2_carryOut_353, h_comb]
  · rw [(xc_6 e).2]
    rfl
  · rw [(xc_7 e).2]
    rfl
  · rw [(xc_8 e).2]
    rfl
  · rw [(xc_9 e).2]
    split
    · rw [fX2_carryOut_225, fX2_carryOut_229, fX2_carryOut_353, h_jump]
    · rw [fX2_carryOut_225, fX2_carryOut_229, fX2_carryOut_353, h_jump]
  · rw [(xc_10 e).2]
    split
    · rw [fX2_carryOut_249, fX2_carryOut_253, fX2_carryOut_353, h_jump]
    · rw [fX2_carryOut_249, fX2_carryOut_253, fX2_carryOut_353, h_jump]
  · rw [(xc_11 e).2, fX2_carryOut_262, fX2_carryOut_353, h_jump]
  · rw [(xc_12 e).2]
    rfl
  · rw [(xc_13 e).2]
    rfl
  · rw [(xc_14 e).2]
    rfl
  · rw [(xc_15 e).2]
    rfl
theorem u71 {c : Int} {y m : SS} (h : R c y m) (b : Int32) : R c (fX2_decode_71 y (nI 64) b 0) (sI m 27 0) ∧ gI (fX2_decode_71 y (nI 64) b 0) 1101 = 0 := by
  have o : ¬ (nI 64 - nI 64 / 2 * 2 : Int32) = 1 := by decide
  unfold fX2_decode_71
  split
  · unfold fX2_decode_102
    rw [if_neg o]
    exact ⟨h, rfl⟩
  · unfold fX2_decode_102
    rw [if_neg o]
    exact ⟨h, rfl⟩
theorem define_R {c : Int} {x m : SS} (h : R c x m) : kX6_define x ∧ kX11_defines m ∧ ((gI (fX6_define x) 1101 = 0 ∧ gI (fX11_defines m) 27 = 0 ∧ R c (fX6_define x) (fX11_defines m)) ∨ (gI (fX6_define x) 1101 = 1 ∧ gI (fX11_defines m) 27 = 1 ∧ RX c (fX6_define x) (fX11_defines m))) := by
  obtain ⟨kx, hd⟩ := dec_R h
  rcases hd with ⟨y, b, e1, km, m', hR, e2⟩ | ⟨p, y, m', b, hp, hRD, hb, e1, km, e2⟩
  · obtain ⟨u1, u2⟩ := u71 hR b
    have ef : fX6_define x = fX2_decode_71 y (nI 64) b 0 := by
      rw [fX6_define, e1, fX6_define_18, if_pos u2, fX6_define_42]
    refine ⟨⟨kx, ?_⟩, km, Or.inl ⟨?_, ?_, ?_⟩⟩
    · rw [e1]
      exact ⟨fun _ => trivial, fun e => absurd u2 e⟩
    · rw [ef]
      exact u2
    · rw [e2]
      rfl
    · rw [ef, e2]
      exact u1
  · obtain ⟨w, d, s, hw, hd, hs, h2, i1, i2, i3, i4, em, kk⟩ := d71 hRD hb (nI p)
    obtain ⟨c1, c2, c3⟩ := carry_R h2 hw hd hs i2 i3 i4
    have n1 : ¬ gI (fX2_decode_71 y (nI p) b 1) 1101 = 0 := by
      rw [i1]
      decide
    have ef : fX6_define x = fX2_carryOut (fX2_decode_71 y (nI p) b 1) := by
      rw [fX6_define, e1, fX6_define_18, if_neg n1, fX6_define_42]
    refine ⟨⟨kx, ?_⟩, km (kk c2), Or.inr ⟨?_, ?_, ?_⟩⟩
    · rw [e1]
      exact ⟨fun e => absurd e n1, fun _ => ⟨c1, trivial⟩⟩
    · rw [ef, h_carry (by rw [i2]; exact hw), i1]
    · rw [e2, em, g_d]
      rfl
    · rw [ef, e2, em]
      exact c3
