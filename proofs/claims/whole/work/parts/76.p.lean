/-! ===== PURE: thrown stays through a micro-step ===== -/
theorem z_defines (m : SS) : gI (fX11_defines m) 0 = gI m 0 := g_defines m (by decide)
theorem z_again (m : SS) : gI (fX11_again m) 0 = gI m 0 := rfl
theorem z_begins (m : SS) : gI (fX11_begins m) 0 = gI m 0 := by
  rw [(m_begins m).2]
  rfl
theorem z_back (m : SS) : gI (fX11_back m) 0 = gI m 0 := by
  rw [(m_back m).2]
  rfl
theorem z_isIn_15 (q : SS) (s0 : Int32) : gI (fX11_isIn_15 q s0).2 0 = gI q 0 := by
  unfold fX11_isIn_15
  first
  | rfl
  | (simp only [gI_sI, gI_sA, gI_sL, gI_sB, Nat.reduceEqDiff, if_false, reduceIte]; done)
  | ((repeat' split) <;> first | rfl | simp only [gI_sI, gI_sA, gI_sL, gI_sB, Nat.reduceEqDiff, if_false, reduceIte])
theorem z_isIn_14 (q : SS) : gI (fX11_isIn_14 q).2 0 = gI q 0 := by
  unfold fX11_isIn_14
  first
  | rfl
  | (simp only [z_isIn_15, gI_sI, gI_sA, gI_sL, gI_sB, Nat.reduceEqDiff, if_false, reduceIte]; done)
  | ((repeat' split) <;> first | rfl | simp only [z_isIn_15, gI_sI, gI_sA, gI_sL, gI_sB, Nat.reduceEqDiff, if_false, reduceIte])
theorem z_isIn (q : SS) (v0 : Int32) (v1 : Int32) (v2 : Int32) : gI (fX11_isIn q v0 v1 v2).2 0 = gI q 0 := by
  unfold fX11_isIn
  first
  | rfl
  | (simp only [z_isIn_14, z_isIn_15, gI_sI, gI_sA, gI_sL, gI_sB, Nat.reduceEqDiff, if_false, reduceIte]; done)
  | ((repeat' split) <;> first | rfl | simp only [z_isIn_14, z_isIn_15, gI_sI, gI_sA, gI_sL, gI_sB, Nat.reduceEqDiff, if_false, reduceIte])
theorem z_ends_29 (q : SS) (s0 : Int32) : gI (fX11_ends_29 q s0).2 0 = gI q 0 := by
  unfold fX11_ends_29
  first
  | rfl
  | (simp only [gI_sI, gI_sA, gI_sL, gI_sB, Nat.reduceEqDiff, if_false, reduceIte]; done)
  | ((repeat' split) <;> first | rfl | simp only [gI_sI, gI_sA, gI_sL, gI_sB, Nat.reduceEqDiff, if_false, reduceIte])
theorem z_ends_24 (q : SS) : gI (fX11_ends_24 q).2 0 = gI q 0 := by
  unfold fX11_ends_24
  first
  | rfl
  | (simp only [z_ends_29, gI_sI, gI_sA, gI_sL, gI_sB, Nat.reduceEqDiff, if_false, reduceIte]; done)
  | ((repeat' split) <;> first | rfl | simp only [z_ends_29, gI_sI, gI_sA, gI_sL, gI_sB, Nat.reduceEqDiff, if_false, reduceIte])
theorem z_ends (q : SS) (v0 : Int32) : gI (fX11_ends q v0).2 0 = gI q 0 := by
  unfold fX11_ends
  first
  | rfl
  | (simp only [z_ends_24, z_ends_29, gI_sI, gI_sA, gI_sL, gI_sB, Nat.reduceEqDiff, if_false, reduceIte]; done)
  | ((repeat' split) <;> first | rfl | simp only [z_ends_24, z_ends_29, gI_sI, gI_sA, gI_sL, gI_sB, Nat.reduceEqDiff, if_false, reduceIte])
theorem z_asks_17 (q : SS) : gI (fX11_asks_17 q) 0 = gI q 0 := by
  unfold fX11_asks_17
  first
  | rfl
  | (simp only [gI_sI, gI_sA, gI_sL, gI_sB, Nat.reduceEqDiff, if_false, reduceIte]; done)
  | ((repeat' split) <;> first | rfl | simp only [gI_sI, gI_sA, gI_sL, gI_sB, Nat.reduceEqDiff, if_false, reduceIte])
theorem z_asks_63 (q : SS) : gI (fX11_asks_63 q) 0 = gI q 0 := by
  unfold fX11_asks_63
  first
  | rfl
  | (simp only [gI_sI, gI_sA, gI_sL, gI_sB, Nat.reduceEqDiff, if_false, reduceIte]; done)
  | ((repeat' split) <;> first | rfl | simp only [gI_sI, gI_sA, gI_sL, gI_sB, Nat.reduceEqDiff, if_false, reduceIte])
theorem z_asks (q : SS) : gI (fX11_asks q) 0 = gI q 0 := by
  unfold fX11_asks
  first
  | rfl
  | (simp only [z_asks_17, z_asks_63, gI_sI, gI_sA, gI_sL, gI_sB, Nat.reduceEqDiff, if_false, reduceIte]; done)
  | ((repeat' split) <;> first | rfl | simp only [z_asks_17, z_asks_63, gI_sI, gI_sA, gI_sL, gI_sB, Nat.reduceEqDiff, if_false, reduceIte])
theorem z_combined_90 (q : SS) (s0 : Int32) : gI (fX11_combined_90 q s0).2 0 = gI q 0 := by
  unfold fX11_combined_90
  first
  | rfl
  | (simp only [gI_sI, gI_sA, gI_sL, gI_sB, Nat.reduceEqDiff, if_false, reduceIte]; done)
  | ((repeat' split) <;> first | rfl | simp only [gI_sI, gI_sA, gI_sL, gI_sB, Nat.reduceEqDiff, if_false, reduceIte])
theorem z_carry_74 (q : SS) (s0 : Int32) : gI (fX11_carry_74 q s0).2 0 = gI q 0 := by
  unfold fX11_carry_74
  first
  | rfl
  | (simp only [gI_sI, gI_sA, gI_sL, gI_sB, Nat.reduceEqDiff, if_false, reduceIte]; done)
  | ((repeat' split) <;> first | rfl | simp only [gI_sI, gI_sA, gI_sL, gI_sB, Nat.reduceEqDiff, if_false, reduceIte])
theorem z_carry_64 (q : SS) (s0 : Int32) : gI (fX11_carry_64 q s0).2 0 = gI q 0 := by
  unfold fX11_carry_64
  first
  | rfl
  | (simp only [z_carry_74, gI_sI, gI_sA, gI_sL, gI_sB, Nat.reduceEqDiff, if_false, reduceIte]; done)
  | ((repeat' split) <;> first | rfl | simp only [z_carry_74, gI_sI, gI_sA, gI_sL, gI_sB, Nat.reduceEqDiff, if_false, reduceIte])
theorem z_carry_63 (q : SS) : gI (fX11_carry_63 q).2 0 = gI q 0 := by
  unfold fX11_carry_63
  first
  | rfl
  | (simp only [z_carry_64, gI_sI, gI_sA, gI_sL, gI_sB, Nat.reduceEqDiff, if_false, reduceIte]; done)
  | ((repeat' split) <;> first | rfl | simp only [z_carry_64, gI_sI, gI_sA, gI_sL, gI_sB, Nat.reduceEqDiff, if_false, reduceIte])
theorem z_carry_59 (q : SS) : gI (fX11_carry_59 q).2 0 = gI q 0 := by
  unfold fX11_carry_59
  first
  | rfl
  | (simp only [z_carry_64, gI_sI, gI_sA, gI_sL, gI_sB, Nat.reduceEqDiff, if_false, reduceIte]; done)
  | ((repeat' split) <;> first | rfl | simp only [z_carry_64, gI_sI, gI_sA, gI_sL, gI_sB, Nat.reduceEqDiff, if_false, reduceIte])
theorem z_carry_46 (q : SS) (v0 : Int32) (v2 : Int32) : gI (fX11_carry_46 q v0 v2).2 0 = gI q 0 := by
  unfold fX11_carry_46
  first
  | rfl
  | (simp only [z_carry_59, z_carry_63, gI_sI, gI_sA, gI_sL, gI_sB, Nat.reduceEqDiff, if_false, reduceIte]; done)
  | ((repeat' split) <;> first | rfl | simp only [z_carry_59, z_carry_63, gI_sI, gI_sA, gI_sL, gI_sB, Nat.reduceEqDiff, if_false, reduceIte])
theorem z_carry_36 (q : SS) (v0 : Int32) (v2 : Int32) : gI (fX11_carry_36 q v0 v2).2 0 = gI q 0 := by
  unfold fX11_carry_36
  first
  | rfl
  | (simp only [z_carry_59, z_carry_46, gI_sI, gI_sA, gI_sL, gI_sB, Nat.reduceEqDiff, if_false, reduceIte]; done)
  | ((repeat' split) <;> first | rfl | simp only [z_carry_59, z_carry_46, gI_sI, gI_sA, gI_sL, gI_sB, Nat.reduceEqDiff, if_false, reduceIte])
theorem z_carry_24 (q : SS) (v0 : Int32) (v2 : Int32) : gI (fX11_carry_24 q v0 v2).2 0 = gI q 0 := by
  unfold fX11_carry_24
  first
  | rfl
  | (simp only [z_carry_59, z_carry_36, gI_sI, gI_sA, gI_sL, gI_sB, Nat.reduceEqDiff, if_false, reduceIte]; done)
  | ((repeat' split) <;> first | rfl | simp only [z_carry_59, z_carry_36, gI_sI, gI_sA, gI_sL, gI_sB, Nat.reduceEqDiff, if_false, reduceIte])
theorem z_carry_14 (q : SS) (v0 : Int32) (v1 : Int32) (v2 : Int32) : gI (fX11_carry_14 q v0 v1 v2).2 0 = gI q 0 := by
  unfold fX11_carry_14
  first
  | rfl
  | (simp only [z_carry_59, z_carry_24, gI_sI, gI_sA, gI_sL, gI_sB, Nat.reduceEqDiff, if_false, reduceIte]; done)
  | ((repeat' split) <;> first | rfl | simp only [z_carry_59, z_carry_24, gI_sI, gI_sA, gI_sL, gI_sB, Nat.reduceEqDiff, if_false, reduceIte])
theorem z_finds_63 (q : SS) (s0 : Int32) (s1 : Int32) : gI (fX11_finds_63 q s0 s1) 0 = gI q 0 := by
  unfold fX11_finds_63
  first
  | rfl
  | (simp only [gI_sI, gI_sA, gI_sL, gI_sB, Nat.reduceEqDiff, if_false, reduceIte]; done)
  | ((repeat' split) <;> first | rfl | simp only [gI_sI, gI_sA, gI_sL, gI_sB, Nat.reduceEqDiff, if_false, reduceIte])
theorem z_finds_41 (q : SS) (s0 : Int32) (s1 : Int32) : gI (fX11_finds_41 q s0 s1) 0 = gI q 0 := by
  unfold fX11_finds_41
  first
  | rfl
  | (simp only [z_finds_63, c_carry, gI_sI, gI_sA, gI_sL, gI_sB, Nat.reduceEqDiff, if_false, reduceIte]; done)
  | ((repeat' split) <;> first | rfl | simp only [z_finds_63, c_carry, gI_sI, gI_sA, gI_sL, gI_sB, Nat.reduceEqDiff, if_false, reduceIte])
theorem z_finds_33 (q : SS) (s0 : Int32) (s1 : Int32) : gI (fX11_finds_33 q s0 s1) 0 = gI q 0 := by
  unfold fX11_finds_33
  first
  | rfl
  | (simp only [z_finds_41, gI_sI, gI_sA, gI_sL, gI_sB, Nat.reduceEqDiff, if_false, reduceIte]; done)
  | ((repeat' split) <;> first | rfl | simp only [z_finds_41, gI_sI, gI_sA, gI_sL, gI_sB, Nat.reduceEqDiff, if_false, reduceIte])
theorem z_finds (q : SS) : gI (fX11_finds q) 0 = gI q 0 := by
  unfold fX11_finds
  first
  | rfl
  | (simp only [z_finds_33, c_comb, gI_sI, gI_sA, gI_sL, gI_sB, Nat.reduceEqDiff, if_false, reduceIte]; done)
  | ((repeat' split) <;> first | rfl | simp only [z_finds_33, c_comb, gI_sI, gI_sA, gI_sL, gI_sB, Nat.reduceEqDiff, if_false, reduceIte])
theorem z_registerOf_60 (q : SS) (s0 : Int32) : gI (fX11_registerOf_60 q s0).2 0 = gI q 0 := by
  unfold fX11_registerOf_60
  first
  | rfl
  | (simp only [gI_sI, gI_sA, gI_sL, gI_sB, Nat.reduceEqDiff, if_false, reduceIte]; done)
  | ((repeat' split) <;> first | rfl | simp only [gI_sI, gI_sA, gI_sL, gI_sB, Nat.reduceEqDiff, if_false, reduceIte])
theorem z_registerOf_32 (q : SS) (s0 : Int32) : gI (fX11_registerOf_32 q s0).2 0 = gI q 0 := by
  unfold fX11_registerOf_32
  first
  | rfl
  | (simp only [z_registerOf_60, gI_sI, gI_sA, gI_sL, gI_sB, Nat.reduceEqDiff, if_false, reduceIte]; done)
  | ((repeat' split) <;> first | rfl | simp only [z_registerOf_60, gI_sI, gI_sA, gI_sL, gI_sB, Nat.reduceEqDiff, if_false, reduceIte])
theorem z_registerOf_24 (q : SS) (s0 : Int32) (s1 : Int32) : gI (fX11_registerOf_24 q s0 s1).2 0 = gI q 0 := by
  unfold fX11_registerOf_24
  first
  | rfl
  | (simp only [z_registerOf_32, gI_sI, gI_sA, gI_sL, gI_sB, Nat.reduceEqDiff, if_false, reduceIte]; done)
  | ((repeat' split) <;> first | rfl | simp only [z_registerOf_32, gI_sI, gI_sA, gI_sL, gI_sB, Nat.reduceEqDiff, if_false, reduceIte])
theorem z_registerOf_9 (q : SS) (s0 : Int32) : gI (fX11_registerOf_9 q s0).2 0 = gI q 0 := by
  unfold fX11_registerOf_9
  first
  | rfl
  | (simp only [z_registerOf_24, gI_sI, gI_sA, gI_sL, gI_sB, Nat.reduceEqDiff, if_false, reduceIte]; done)
  | ((repeat' split) <;> first | rfl | simp only [z_registerOf_24, gI_sI, gI_sA, gI_sL, gI_sB, Nat.reduceEqDiff, if_false, reduceIte])
theorem z_registerOf (q : SS) (v1 : Int32) : gI (fX11_registerOf q v1).2 0 = gI q 0 := by
  unfold fX11_registerOf
  first
  | rfl
  | (simp only [z_registerOf_9, gI_sI, gI_sA, gI_sL, gI_sB, Nat.reduceEqDiff, if_false, reduceIte]; done)
  | ((repeat' split) <;> first | rfl | simp only [z_registerOf_9, gI_sI, gI_sA, gI_sL, gI_sB, Nat.reduceEqDiff, if_false, reduceIte])
theorem z_bits_107 (q : SS) (s0 : Int32) (s1 : Int32) : gI (fX11_bits_107 q s0 s1).2 0 = gI q 0 := by
  unfold fX11_bits_107
  first
  | rfl
  | (simp only [gI_sI, gI_sA, gI_sL, gI_sB, Nat.reduceEqDiff, if_false, reduceIte]; done)
  | ((repeat' split) <;> first | rfl | simp only [gI_sI, gI_sA, gI_sL, gI_sB, Nat.reduceEqDiff, if_false, reduceIte])
theorem z_bits_106 (q : SS) (s0 : Int32) : gI (fX11_bits_106 q s0).2 0 = gI q 0 := by
  unfold fX11_bits_106
  first
  | rfl
  | (simp only [z_bits_107, gI_sI, gI_sA, gI_sL, gI_sB, Nat.reduceEqDiff, if_false, reduceIte]; done)
  | ((repeat' split) <;> first | rfl | simp only [z_bits_107, gI_sI, gI_sA, gI_sL, gI_sB, Nat.reduceEqDiff, if_false, reduceIte])
theorem z_bits_70 (q : SS) (v1 : Int32) (s0 : Int32) (s1 : Int32) : gI (fX11_bits_70 q v1 s0 s1).2 0 = gI q 0 := by
  unfold fX11_bits_70
  first
  | rfl
  | (simp only [z_bits_106, z_bits_107, gI_sI, gI_sA, gI_sL, gI_sB, Nat.reduceEqDiff, if_false, reduceIte]; done)
  | ((repeat' split) <;> first | rfl | simp only [z_bits_106, z_bits_107, gI_sI, gI_sA, gI_sL, gI_sB, Nat.reduceEqDiff, if_false, reduceIte])
theorem z_bits_69 (q : SS) (v1 : Int32) (s0 : Int32) : gI (fX11_bits_69 q v1 s0).2 0 = gI q 0 := by
  unfold fX11_bits_69
  first
  | rfl
  | (simp only [z_bits_70, gI_sI, gI_sA, gI_sL, gI_sB, Nat.reduceEqDiff, if_false, reduceIte]; done)
  | ((repeat' split) <;> first | rfl | simp only [z_bits_70, gI_sI, gI_sA, gI_sL, gI_sB, Nat.reduceEqDiff, if_false, reduceIte])
theorem z_bits_41 (q : SS) (v1 : Int32) (s0 : Int32) : gI (fX11_bits_41 q v1 s0).2 0 = gI q 0 := by
  unfold fX11_bits_41
  first
  | rfl
  | (simp only [z_bits_69, z_bits_70, gI_sI, gI_sA, gI_sL, gI_sB, Nat.reduceEqDiff, if_false, reduceIte]; done)
  | ((repeat' split) <;> first | rfl | simp only [z_bits_69, z_bits_70, gI_sI, gI_sA, gI_sL, gI_sB, Nat.reduceEqDiff, if_false, reduceIte])
theorem z_bits_40 (q : SS) (v1 : Int32) : gI (fX11_bits_40 q v1).2 0 = gI q 0 := by
  unfold fX11_bits_40
  first
  | rfl
  | (simp only [z_bits_41, gI_sI, gI_sA, gI_sL, gI_sB, Nat.reduceEqDiff, if_false, reduceIte]; done)
  | ((repeat' split) <;> first | rfl | simp only [z_bits_41, gI_sI, gI_sA, gI_sL, gI_sB, Nat.reduceEqDiff, if_false, reduceIte])
theorem z_bits_15 (q : SS) (v1 : Int32) : gI (fX11_bits_15 q v1).2 0 = gI q 0 := by
  unfold fX11_bits_15
  first
  | rfl
  | (simp only [z_bits_40, z_bits_41, gI_sI, gI_sA, gI_sL, gI_sB, Nat.reduceEqDiff, if_false, reduceIte]; done)
  | ((repeat' split) <;> first | rfl | simp only [z_bits_40, z_bits_41, gI_sI, gI_sA, gI_sL, gI_sB, Nat.reduceEqDiff, if_false, reduceIte])
theorem z_bits (q : SS) (v1 : Int32) : gI (fX11_bits q v1).2 0 = gI q 0 := by
  unfold fX11_bits
  first
  | rfl
  | (simp only [z_bits_15, z_finds, gI_sI, gI_sA, gI_sL, gI_sB, Nat.reduceEqDiff, if_false, reduceIte]; done)
  | ((repeat' split) <;> first | rfl | simp only [z_bits_15, z_finds, gI_sI, gI_sA, gI_sL, gI_sB, Nat.reduceEqDiff, if_false, reduceIte])
theorem z_leads_131 (q : SS) (v1 : Int32) : gI (fX11_leads_131 q v1).2 0 = gI q 0 := by
  unfold fX11_leads_131
  first
  | rfl
  | (simp only [gI_sI, gI_sA, gI_sL, gI_sB, Nat.reduceEqDiff, if_false, reduceIte]; done)
  | ((repeat' split) <;> first | rfl | simp only [gI_sI, gI_sA, gI_sL, gI_sB, Nat.reduceEqDiff, if_false, reduceIte])
theorem z_leads_101 : ∀ (n : Nat) (q : SS) (v0 v1 : Int32), gI (fX11_leads_101 n q v0 v1).2 0 = gI q 0 := by
  intro n
  induction n with
  | zero =>
    intro q v0 v1
    rfl
  | succ n ih =>
    intro q v0 v1
    simp only [fX11_leads_101]
    (repeat' split) <;> first | rfl | simp only [ih, z_leads_131, gI_sI, gI_sA, gI_sL, gI_sB, Nat.reduceEqDiff, if_false, reduceIte]
theorem z_leads_40 (q : SS) (s0 : Int32) (s1 : Int32) : gI (fX11_leads_40 q s0 s1).2 0 = gI q 0 := by
  unfold fX11_leads_40
  first
  | rfl
  | (simp only [gI_sI, gI_sA, gI_sL, gI_sB, Nat.reduceEqDiff, if_false, reduceIte]; done)
  | ((repeat' split) <;> first | rfl | simp only [gI_sI, gI_sA, gI_sL, gI_sB, Nat.reduceEqDiff, if_false, reduceIte])
theorem z_leads (q : SS) (v1 : Int32) : gI (fX11_leads q v1).2 0 = gI q 0 := by
  unfold fX11_leads
  first
  | rfl
  | (simp only [z_leads_40, z_bits, z_leads_101, z_leads_131, gI_sI, gI_sA, gI_sL, gI_sB, Nat.reduceEqDiff, if_false, reduceIte]; done)
  | ((repeat' split) <;> first | rfl | simp only [z_leads_40, z_bits, z_leads_101, z_leads_131, gI_sI, gI_sA, gI_sL, gI_sB, Nat.reduceEqDiff, if_false, reduceIte])
theorem z_follows_30 (q : SS) (s0 : Int32) : gI (fX11_follows_30 q s0).2 0 = gI q 0 := by
  unfold fX11_follows_30
  first
  | rfl
  | (simp only [gI_sI, gI_sA, gI_sL, gI_sB, Nat.reduceEqDiff, if_false, reduceIte]; done)
  | ((repeat' split) <;> first | rfl | simp only [gI_sI, gI_sA, gI_sL, gI_sB, Nat.reduceEqDiff, if_false, reduceIte])
theorem z_follows_29 (q : SS) (v1 : Int32) : gI (fX11_follows_29 q v1).2 0 = gI q 0 := by
  unfold fX11_follows_29
  first
  | rfl
  | (simp only [z_follows_30, gI_sI, gI_sA, gI_sL, gI_sB, Nat.reduceEqDiff, if_false, reduceIte]; done)
  | ((repeat' split) <;> first | rfl | simp only [z_follows_30, gI_sI, gI_sA, gI_sL, gI_sB, Nat.reduceEqDiff, if_false, reduceIte])
theorem z_follows_7 (q : SS) (v1 : Int32) (s0 : Int32) : gI (fX11_follows_7 q v1 s0).2 0 = gI q 0 := by
  unfold fX11_follows_7
  first
  | rfl
  | (simp only [z_follows_29, z_follows_30, gI_sI, gI_sA, gI_sL, gI_sB, Nat.reduceEqDiff, if_false, reduceIte]; done)
  | ((repeat' split) <;> first | rfl | simp only [z_follows_29, z_follows_30, gI_sI, gI_sA, gI_sL, gI_sB, Nat.reduceEqDiff, if_false, reduceIte])
theorem z_follows (q : SS) (v1 : Int32) : gI (fX11_follows q v1).2 0 = gI q 0 := by
  unfold fX11_follows
  first
  | rfl
  | (simp only [z_follows_7, z_isIn, gI_sI, gI_sA, gI_sL, gI_sB, Nat.reduceEqDiff, if_false, reduceIte]; done)
  | ((repeat' split) <;> first | rfl | simp only [z_follows_7, z_isIn, gI_sI, gI_sA, gI_sL, gI_sB, Nat.reduceEqDiff, if_false, reduceIte])
theorem z_finish_193 (q : SS) : gI (fX11_finish_193 q) 0 = gI q 0 := by
  unfold fX11_finish_193
  first
  | rfl
  | (simp only [z_begins, gI_sI, gI_sA, gI_sL, gI_sB, Nat.reduceEqDiff, if_false, reduceIte]; done)
  | ((repeat' split) <;> first | rfl | simp only [z_begins, gI_sI, gI_sA, gI_sL, gI_sB, Nat.reduceEqDiff, if_false, reduceIte])
theorem z_finish_168 (q : SS) (s0 : Int64) (s1 : Int64) (s2 : Int32) : gI (fX11_finish_168 q s0 s1 s2) 0 = gI q 0 := by
  unfold fX11_finish_168
  first
  | rfl
  | (simp only [z_finish_193, z_asks, gI_sI, gI_sA, gI_sL, gI_sB, Nat.reduceEqDiff, if_false, reduceIte]; done)
  | ((repeat' split) <;> first | rfl | simp only [z_finish_193, z_asks, gI_sI, gI_sA, gI_sL, gI_sB, Nat.reduceEqDiff, if_false, reduceIte])
theorem z_finish_122 (q : SS) (s0 : Int32) (s1 : Int32) : gI (fX11_finish_122 q s0 s1) 0 = gI q 0 := by
  unfold fX11_finish_122
  first
  | rfl
  | (simp only [z_finish_168, gI_sI, gI_sA, gI_sL, gI_sB, Nat.reduceEqDiff, if_false, reduceIte]; done)
  | ((repeat' split) <;> first | rfl | simp only [z_finish_168, gI_sI, gI_sA, gI_sL, gI_sB, Nat.reduceEqDiff, if_false, reduceIte])
theorem z_finish_108 (q : SS) (v1 : Int32) : gI (fX11_finish_108 q v1) 0 = gI q 0 := by
  unfold fX11_finish_108
  first
  | rfl
  | (simp only [z_finish_122, gI_sI, gI_sA, gI_sL, gI_sB, Nat.reduceEqDiff, if_false, reduceIte]; done)
  | ((repeat' split) <;> first | rfl | simp only [z_finish_122, gI_sI, gI_sA, gI_sL, gI_sB, Nat.reduceEqDiff, if_false, reduceIte])
theorem z_finish_52 : ∀ (n : Nat) (q : SS) (v0 v1 : Int32), gI (fX11_finish_52 n q v0 v1) 0 = gI q 0 := by
  intro n
  induction n with
  | zero =>
    intro q v0 v1
    rfl
  | succ n ih =>
    intro q v0 v1
    simp only [fX11_finish_52, fX11_finish_79]
    (repeat' split) <;> first | rfl | simp only [ih, z_finish_108, gI_sI, gI_sA, gI_sL, gI_sB, Nat.reduceEqDiff, if_false, reduceIte]
theorem z_finish_15 : ∀ (n : Nat) (q : SS) (v0 v1 : Int32), gI (fX11_finish_15 n q v0 v1) 0 = gI q 0 := by
  intro n
  induction n with
  | zero =>
    intro q v0 v1
    rfl
  | succ n ih =>
    intro q v0 v1
    simp only [fX11_finish_15, fX11_finish_42]
    (repeat' split) <;> first | rfl | simp only [ih, z_finish_52, gI_sI, gI_sA, gI_sL, gI_sB, Nat.reduceEqDiff, if_false, reduceIte]
theorem z_finish_8 (q : SS) : gI (fX11_finish_8 q) 0 = gI q 0 := by
  unfold fX11_finish_8
  first
  | rfl
  | (simp only [z_finish_15, gI_sI, gI_sA, gI_sL, gI_sB, Nat.reduceEqDiff, if_false, reduceIte]; done)
  | ((repeat' split) <;> first | rfl | simp only [z_finish_15, gI_sI, gI_sA, gI_sL, gI_sB, Nat.reduceEqDiff, if_false, reduceIte])
theorem z_finish_4 (q : SS) : gI (fX11_finish_4 q) 0 = gI q 0 := by
  unfold fX11_finish_4
  first
  | rfl
  | (simp only [z_finish_8, z_defines, gI_sI, gI_sA, gI_sL, gI_sB, Nat.reduceEqDiff, if_false, reduceIte]; done)
  | ((repeat' split) <;> first | rfl | simp only [z_finish_8, z_defines, gI_sI, gI_sA, gI_sL, gI_sB, Nat.reduceEqDiff, if_false, reduceIte])
theorem z_finish (q : SS) : gI (fX11_finish q) 0 = gI q 0 := by
  unfold fX11_finish
  first
  | rfl
  | (simp only [z_finish_4, z_finds, gI_sI, gI_sA, gI_sL, gI_sB, Nat.reduceEqDiff, if_false, reduceIte]; done)
  | ((repeat' split) <;> first | rfl | simp only [z_finish_4, z_finds, gI_sI, gI_sA, gI_sL, gI_sB, Nat.reduceEqDiff, if_false, reduceIte])
theorem z_orders_112 (q : SS) : gI (fX11_orders_112 q) 0 = gI q 0 := by
  unfold fX11_orders_112
  first
  | rfl
  | (simp only [z_finish, gI_sI, gI_sA, gI_sL, gI_sB, Nat.reduceEqDiff, if_false, reduceIte]; done)
  | ((repeat' split) <;> first | rfl | simp only [z_finish, gI_sI, gI_sA, gI_sL, gI_sB, Nat.reduceEqDiff, if_false, reduceIte])
theorem z_orders_96 (q : SS) (v2 : Int32) (v3 : Int32) : gI (fX11_orders_96 q v2 v3) 0 = gI q 0 := by
  unfold fX11_orders_96
  first
  | rfl
  | (simp only [z_orders_112, gI_sI, gI_sA, gI_sL, gI_sB, Nat.reduceEqDiff, if_false, reduceIte]; done)
  | ((repeat' split) <;> first | rfl | simp only [z_orders_112, gI_sI, gI_sA, gI_sL, gI_sB, Nat.reduceEqDiff, if_false, reduceIte])
theorem z_orders_69 (q : SS) (v2 : Int32) (v3 : Int32) : gI (fX11_orders_69 q v2 v3) 0 = gI q 0 := by
  unfold fX11_orders_69
  first
  | rfl
  | (simp only [z_orders_96, gI_sI, gI_sA, gI_sL, gI_sB, Nat.reduceEqDiff, if_false, reduceIte]; done)
  | ((repeat' split) <;> first | rfl | simp only [z_orders_96, gI_sI, gI_sA, gI_sL, gI_sB, Nat.reduceEqDiff, if_false, reduceIte])
theorem z_orders_43 (q : SS) (s0 : Int32) : gI (fX11_orders_43 q s0) 0 = gI q 0 := by
  unfold fX11_orders_43
  first
  | rfl
  | (simp only [gI_sI, gI_sA, gI_sL, gI_sB, Nat.reduceEqDiff, if_false, reduceIte]; done)
  | ((repeat' split) <;> first | rfl | simp only [gI_sI, gI_sA, gI_sL, gI_sB, Nat.reduceEqDiff, if_false, reduceIte])
theorem z_orders_40 (q : SS) (s0 : Int32) : gI (fX11_orders_40 q s0) 0 = gI q 0 := by
  unfold fX11_orders_40
  first
  | rfl
  | (simp only [z_orders_43, z_follows, gI_sI, gI_sA, gI_sL, gI_sB, Nat.reduceEqDiff, if_false, reduceIte]; done)
  | ((repeat' split) <;> first | rfl | simp only [z_orders_43, z_follows, gI_sI, gI_sA, gI_sL, gI_sB, Nat.reduceEqDiff, if_false, reduceIte])
theorem z_orders_30 (q : SS) (v1 : Int32) (v2 : Int32) (v3 : Int32) (s0 : Int32) : gI (fX11_orders_30 q v1 v2 v3 s0) 0 = gI q 0 := by
  unfold fX11_orders_30
  first
  | rfl
  | (simp only [z_orders_40, z_leads, z_orders_69, gI_sI, gI_sA, gI_sL, gI_sB, Nat.reduceEqDiff, if_false, reduceIte]; done)
  | ((repeat' split) <;> first | rfl | simp only [z_orders_40, z_leads, z_orders_69, gI_sI, gI_sA, gI_sL, gI_sB, Nat.reduceEqDiff, if_false, reduceIte])
theorem z_orders_21 (q : SS) : gI (fX11_orders_21 q) 0 = gI q 0 := by
  unfold fX11_orders_21
  first
  | rfl
  | (simp only [z_begins, gI_sI, gI_sA, gI_sL, gI_sB, Nat.reduceEqDiff, if_false, reduceIte]; done)
  | ((repeat' split) <;> first | rfl | simp only [z_begins, gI_sI, gI_sA, gI_sL, gI_sB, Nat.reduceEqDiff, if_false, reduceIte])
theorem z_orders_17 (q : SS) : gI (fX11_orders_17 q) 0 = gI q 0 := by
  unfold fX11_orders_17
  first
  | rfl
  | (simp only [z_orders_21, z_asks, gI_sI, gI_sA, gI_sL, gI_sB, Nat.reduceEqDiff, if_false, reduceIte]; done)
  | ((repeat' split) <;> first | rfl | simp only [z_orders_21, z_asks, gI_sI, gI_sA, gI_sL, gI_sB, Nat.reduceEqDiff, if_false, reduceIte])
theorem z_orders (q : SS) (v1 : Int32) (v2 : Int32) : gI (fX11_orders q v1 v2) 0 = gI q 0 := by
  unfold fX11_orders
  first
  | rfl
  | (simp only [z_orders_17, z_back, z_orders_30, z_ends, gI_sI, gI_sA, gI_sL, gI_sB, Nat.reduceEqDiff, if_false, reduceIte]; done)
  | ((repeat' split) <;> first | rfl | simp only [z_orders_17, z_back, z_orders_30, z_ends, gI_sI, gI_sA, gI_sL, gI_sB, Nat.reduceEqDiff, if_false, reduceIte])
theorem z_drives_166 (q : SS) (s0 : Int32) : gI (fX11_drives_166 q s0).2 0 = gI q 0 := by
  unfold fX11_drives_166
  first
  | rfl
  | (simp only [gI_sI, gI_sA, gI_sL, gI_sB, Nat.reduceEqDiff, if_false, reduceIte]; done)
  | ((repeat' split) <;> first | rfl | simp only [gI_sI, gI_sA, gI_sL, gI_sB, Nat.reduceEqDiff, if_false, reduceIte])
theorem z_drives_153 (q : SS) (v2 : Int32) (v3 : Int32) (s0 : Int32) (s1 : Int32) : gI (fX11_drives_153 q v2 v3 s0 s1).2 0 = gI q 0 := by
  unfold fX11_drives_153
  first
  | rfl
  | (simp only [z_drives_166, gI_sI, gI_sA, gI_sL, gI_sB, Nat.reduceEqDiff, if_false, reduceIte]; done)
  | ((repeat' split) <;> first | rfl | simp only [z_drives_166, gI_sI, gI_sA, gI_sL, gI_sB, Nat.reduceEqDiff, if_false, reduceIte])
theorem z_drives_97 : ∀ (n : Nat) (q : SS) (v0 v1 v2 v3 : Int32), gI (fX11_drives_97 n q v0 v1 v2 v3).2 0 = gI q 0 := by
  intro n
  induction n with
  | zero =>
    intro q v0 v1 v2 v3
    rfl
  | succ n ih =>
    intro q v0 v1 v2 v3
    simp only [fX11_drives_97, fX11_drives_132]
    (repeat' split) <;> first | rfl | simp only [ih, z_drives_153, gI_sI, gI_sA, gI_sL, gI_sB, Nat.reduceEqDiff, if_false, reduceIte]
theorem z_drives_81 (q : SS) (v1 : Int32) (v2 : Int32) (v3 : Int32) (s0 : Int32) (s2 : Int32) : gI (fX11_drives_81 q v1 v2 v3 s0 s2).2 0 = gI q 0 := by
  unfold fX11_drives_81
  first
  | rfl
  | (simp only [z_drives_97, gI_sI, gI_sA, gI_sL, gI_sB, Nat.reduceEqDiff, if_false, reduceIte]; done)
  | ((repeat' split) <;> first | rfl | simp only [z_drives_97, gI_sI, gI_sA, gI_sL, gI_sB, Nat.reduceEqDiff, if_false, reduceIte])
theorem z_drives_67 (q : SS) (v1 : Int32) (v2 : Int32) (v3 : Int32) (s0 : Int32) (s2 : Int32) : gI (fX11_drives_67 q v1 v2 v3 s0 s2).2 0 = gI q 0 := by
  unfold fX11_drives_67
  first
  | rfl
  | (simp only [z_drives_81, z_registerOf, gI_sI, gI_sA, gI_sL, gI_sB, Nat.reduceEqDiff, if_false, reduceIte]; done)
  | ((repeat' split) <;> first | rfl | simp only [z_drives_81, z_registerOf, gI_sI, gI_sA, gI_sL, gI_sB, Nat.reduceEqDiff, if_false, reduceIte])
theorem z_drives_45 (q : SS) (v1 : Int32) (v2 : Int32) (v3 : Int32) : gI (fX11_drives_45 q v1 v2 v3).2 0 = gI q 0 := by
  unfold fX11_drives_45
  first
  | rfl
  | (simp only [z_drives_67, z_registerOf, gI_sI, gI_sA, gI_sL, gI_sB, Nat.reduceEqDiff, if_false, reduceIte]; done)
  | ((repeat' split) <;> first | rfl | simp only [z_drives_67, z_registerOf, gI_sI, gI_sA, gI_sL, gI_sB, Nat.reduceEqDiff, if_false, reduceIte])
theorem z_drives (q : SS) (v1 : Int32) : gI (fX11_drives q v1).2 0 = gI q 0 := by
  unfold fX11_drives
  first
  | rfl
  | (simp only [z_drives_45, gI_sI, gI_sA, gI_sL, gI_sB, Nat.reduceEqDiff, if_false, reduceIte]; done)
  | ((repeat' split) <;> first | rfl | simp only [z_drives_45, gI_sI, gI_sA, gI_sL, gI_sB, Nat.reduceEqDiff, if_false, reduceIte])
theorem z_listens (q : SS) (a v : Int32) (q14 : rg 0 255 (gA q 15 14)) (q15 : rg 0 1 (gA q 15 15)) : gI (fX11_listens q a v) 0 = gI q 0 := by
  obtain ⟨F, e⟩ := li_f q a v q14 q15
  rw [e]
  rfl
theorem z_does_117 (q : SS) (a b c d : Int32) : gI (fX11_does_117 q a b c d) 0 = gI q 0 := by
  have e231 : ∀ (q : SS) (a b : Int32), gI (fX11_does_231 q a b) 0 = gI q 0 := by
    intro q a b
    unfold fX11_does_231 fX11_does_260
    split
    · rw [z_orders]
      rfl
    · rw [z_orders]
  have e202 : ∀ (q : SS) (a b : Int32), gI (fX11_does_202 q a b) 0 = gI q 0 := by
    intro q a b
    unfold fX11_does_202
    split
    · rw [e231]
      rfl
    · rw [e231]
  unfold fX11_does_117
  split
  · rw [e202]
    rfl
  · split
    · rw [e202]
      rfl
    · rw [z_back]
      rfl
theorem z_does_93 (q : SS) (a b : Int32) (q14 : rg 0 255 (gA q 15 14)) (q15 : rg 0 1 (gA q 15 15)) : gI (fX11_does_93 q a b) 0 = gI q 0 := by
  unfold fX11_does_93 fX11_does_99
  split
  · rw [z_does_117, z_listens q a b q14 q15]
  · rw [z_does_117, z_listens q a b q14 q15]
theorem z_does {c : Int} {x m : SS} (h : R c x m) {a : Int32} (ha : rg 0 79 a) (hn : gI m 6 = a) (hw : isW x a.toNatClampNeg) : gI (fX11_does m) 0 = gI m 0 := by
  have hw0 : isW (sI x 511 1) a.toNatClampNeg := hw
  obtain ⟨kd, kx, b, hb, e1, e2, n, e3, hR⟩ := drives_R (begun_R h) ha hw0
  have q14 : rg 0 255 (gA m 15 14) := h.2.2.2.2.1.2.2.2.2.2.1
  have q15 : rg 0 1 (gA m 15 15) := h.2.2.2.2.1.2.2.2.2.2.2
  have e49 : ∀ (q : SS) (a b : Int32), rg 0 255 (gA q 15 14) → rg 0 1 (gA q 15 15) → gI (fX11_does_49 q a b) 0 = gI q 0 := by
    intro q a b h1 h2
    unfold fX11_does_49
    split
    · rw [z_does_93 q a b h1 h2]
    · rw [z_does_93 _ _ _ (by exact h1) (by exact h2)]
      rfl
  rw [fX11_does, hn, e3, fX11_does_16, c_comb, e49 _ _ _ (by exact q14) (by exact q15)]
  rfl
theorem w_at (q : SS) (v : Int32) : kX7_wordAt q v ∧ (rg 0 79 v → ¬ gA q 39 v.toNatClampNeg = 0 → fX7_wordAt q v = (some v.toNatClampNeg, q)) ∧ ((rg 0 79 v → gA q 39 v.toNatClampNeg = 0) → fX7_wordAt q v = (none, q)) := by
  have e80 : (80 : Int32).toInt - 1 = 79 := by decide
  have n1 : ¬ (1 : Int32) = 0 := by decide
  have ex := xf_isOutside q v 80
  rw [e80] at ex
  by_cases h : rg 0 79 v
  · rw [if_pos h] at ex
    refine ⟨⟨(xk_isOutside _ _ _).mpr trivial, ?_⟩, ?_, ?_⟩
    · rw [ex]
      exact ⟨fun _ => ⟨rin h (by decide), fun _ => trivial, fun _ => trivial⟩, fun e => absurd rfl e⟩
    · intro _ hn
      rw [fX7_wordAt, ex, fX7_wordAt_6, if_pos rfl, if_neg hn, fX7_wordAt_19]
    · intro hn
      rw [fX7_wordAt, ex, fX7_wordAt_6, if_pos rfl, if_pos (hn h), fX7_wordAt_19]
  · rw [if_neg h] at ex
    refine ⟨⟨(xk_isOutside _ _ _).mpr trivial, ?_⟩, ?_, ?_⟩
    · rw [ex]
      exact ⟨fun e => absurd e n1, fun _ => trivial⟩
    · intro hn
      exact absurd hn h
    · intro _
      rw [fX7_wordAt, ex, fX7_wordAt_6, if_neg n1, fX7_wordAt_19]
theorem lost_R {c : Int} {x m : SS} (h : R c x m) : R c (sI x 512 108) (sI m 23 108) := by
  obtain ⟨hW, hV, hT, hP, hQ, hK, hM, hR, hN, hF, hC, hS, hE⟩ := h
  obtain ⟨n1, n2, n3, n4, n5, n6, n7, n8, n9, n10, n11, n12, n13, n14, n15⟩ := hN
  exact ⟨hW, hV, hT, hP, hQ, hK, hM, hR, ⟨n1, n2, n3, n4, rfl, ⟨(by decide : (0 : Int) ≤ (108 : Int32).toInt), (by decide : (108 : Int32).toInt ≤ 65535)⟩, fun e => absurd (show (108 : Int32) = 119 from e) (by decide), n8, n9, n10, n11, n12, n13, n14, n15⟩, hF, hC, hS, hE⟩
theorem goes_R {c : Int} {x m : SS} (h : R c x m) (hc : c ≤ 2000000000) : kX6_advance x ∧ kX11_goes m ∧ ∃ (b : Int32) (x' m' : SS), (b = 0 ∨ b = 1) ∧ fX6_advance x = (b, x') ∧ fX11_goes m = (b, m') ∧ gI m' 0 = gI m 0 ∧ R (c + 10) x' m' := by
  have n5 : gI x 512 = gI m 23 := h.2.2.2.2.2.2.2.2.1.2.2.2.2.1
  have n1 : gI x 510 = gI m 6 := h.2.2.2.2.2.2.2.2.1.1
  have e39 : gA x 39 = gA m 10 := h.1.2.2.2.2.2.2.2.2.2.1
  by_cases hr : gI m 23 = 114
  · have hrx := n5.trans hr
    have hi := mf_isIn m (gI m 6) 0 79
    rw [tl_0, tl_79] at hi
    have z1 : ¬ (1 : Int32) = 0 := by decide
    obtain ⟨kw, w1, w2⟩ := w_at x (gI x 510)
    by_cases hin : rg 0 79 (gI m 6)
    · rw [if_pos hin] at hi
      have i80 : vp_in (gI m 6) 80 := rin hin (by decide)
      by_cases hz : gA m 10 (gI m 6).toNatClampNeg = 0
      · have ew := w2 (fun _ => by rw [e39, n1]; exact hz)
        obtain ⟨b1, b2, b3⟩ := back_R h
        refine ⟨⟨fun _ => ⟨kw, ?_⟩, fun e => absurd hrx e⟩, ⟨fun _ => ⟨(mk_isIn _ _ _ _).mpr trivial, ?_⟩, fun e => absurd hr e⟩, 0, sI (fX6_takeBack x) 512 108, sI (fX11_back m) 23 108, Or.inl rfl, ?_, ?_, ?_, (lost_R b3).mono (by omega)⟩
        · rw [ew]
          exact ⟨fun _ => ⟨b2, trivial⟩, fun w e => by cases e⟩
        · rw [hi]
          exact ⟨fun e => absurd e z1, fun _ => ⟨i80, fun _ => ⟨b1, trivial⟩, fun e => absurd hz e⟩⟩
        · rw [fX6_advance, if_pos hrx, ew, oc_none, fX6_advance_31]
        · rw [fX11_goes, if_pos hr, hi, fX11_goes_21, if_neg z1, if_pos hz, fX11_goes_36, fX11_goes_40]
        · rw [gI_sI, if_neg (by decide), z_back]
      · have ew := w1 (by rw [n1]; exact hin) (by rw [e39, n1]; exact hz)
        have hw : isW x (gI m 6).toNatClampNeg := (isW_m h).mpr ⟨ridx hin (by decide), hz⟩
        obtain ⟨d1, d2, d3, d4, d5⟩ := does_R h hc hin rfl hw
        rw [n1] at ew kw
        refine ⟨⟨fun _ => ?_, fun e => absurd hrx e⟩, ⟨fun _ => ⟨(mk_isIn _ _ _ _).mpr trivial, ?_⟩, fun e => absurd hr e⟩, 1, (fX6_advance_49 (fX6_driveBus (sI x 511 1) (gI m 6).toNatClampNeg).2 (gI m 6).toNatClampNeg (fX6_driveBus (sI x 511 1) (gI m 6).toNatClampNeg).1).2, fX11_does m, Or.inr rfl, ?_, ?_, z_does h hin rfl hw, d5⟩
        · rw [n1, ew]
          refine ⟨kw, fun e => (by cases e), fun w e => ?_⟩
          cases e
          exact ⟨d1, d2⟩
        · rw [hi]
          exact ⟨fun e => absurd e z1, fun _ => ⟨i80, fun e => absurd e hz, fun _ => ⟨d3, trivial⟩⟩⟩
        · rw [fX6_advance, if_pos hrx, n1, ew, oc_some]
          exact Prod.ext d4 rfl
        · rw [fX11_goes, if_pos hr, hi, fX11_goes_21, if_neg z1, if_neg hz, fX11_goes_52]
    · rw [if_neg hin] at hi
      have ew := w2 (fun e => absurd (n1 ▸ e) hin)
      obtain ⟨b1, b2, b3⟩ := back_R h
      refine ⟨⟨fun _ => ⟨kw, ?_⟩, fun e => absurd hrx e⟩, ⟨fun _ => ⟨(mk_isIn _ _ _ _).mpr trivial, ?_⟩, fun e => absurd hr e⟩, 0, sI (fX6_takeBack x) 512 108, sI (fX11_back m) 23 108, Or.inl rfl, ?_, ?_, ?_, (lost_R b3).mono (by omega)⟩
      · rw [ew]
        exact ⟨fun _ => ⟨b2, trivial⟩, fun w e => by cases e⟩
      · rw [hi]
        exact ⟨fun _ => ⟨b1, trivial⟩, fun e => absurd rfl e⟩
      · rw [fX6_advance, if_pos hrx, ew, oc_none, fX6_advance_31]
      · rw [fX11_goes, if_pos hr, hi, fX11_goes_21, if_pos rfl, fX11_goes_36, fX11_goes_40]
      · rw [gI_sI, if_neg (by decide), z_back]
  · have hrx : ¬ gI x 512 = 114 := fun e => hr (n5.symm.trans e)
    refine ⟨⟨fun e => absurd e hrx, fun _ => trivial⟩, ⟨fun e => absurd e hr, fun _ => trivial⟩, 0, x, m, Or.inl rfl, ?_, ?_, rfl, h.mono (by omega)⟩
    · rw [fX6_advance, if_neg hrx]
    · rw [fX11_goes, if_neg hr]
