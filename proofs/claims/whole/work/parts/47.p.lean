/-! ===== PURE: which text holds a char ===== -/
def q00 : SS := (fun _ => 0, fun _ => 0, fun _ _ => 0, fun _ _ => 0)
abbrev isEnd (v : Int32) : Prop := v = 101 ∨ v = 115 ∨ v = 107 ∨ v = 103
abbrev isPart (v : Int32) : Prop := v = 80 ∨ v = 90 ∨ v = 67 ∨ v = 83 ∨ v = 73 ∨ v = 75 ∨ v = 84 ∨ v = 85 ∨ v = 65 ∨ v = 68 ∨ v = 88 ∨ v = 69
abbrev isDef (v : Int32) : Prop := v = 80 ∨ v = 90 ∨ v = 67 ∨ v = 83 ∨ v = 73 ∨ v = 75 ∨ v = 48 ∨ v = 49 ∨ v = 50 ∨ v = 51
theorem io0_7 : ∀ (n : Nat) (q : SS) (a b d : Int32), fJ1_indexOfChar_4cfef_t0_7 n q a b d = ((fJ1_indexOfChar_4cfef_t0_7 n q00 a b d).1, q) := by
  intro n
  induction n with
  | zero =>
    intro q a b d
    rfl
  | succ n ih =>
    intro q a b d
    rw [fJ1_indexOfChar_4cfef_t0_7, fJ1_indexOfChar_4cfef_t0_7]
    by_cases h1 : a ≤ d
    · rw [if_pos h1, if_pos h1]
    · rw [if_neg h1, if_neg h1]
      by_cases h2 : bytf 0 d.toNatClampNeg = b
      · rw [if_pos h2, if_pos h2]
      · rw [if_neg h2, if_neg h2]
        exact ih q a b (d + 1)
theorem io0_k : ∀ (d n i : Nat) (q : SS) (b : Int32), i + d = 11 → d < n → kJ1_indexOfChar_4cfef_t0_7 n q 11 b (nI i) := by
  intro d
  induction d with
  | zero =>
    intro n i q b h hn
    obtain ⟨j, rfl⟩ := fuel hn
    have hi : i = 11 := by omega
    subst hi
    exact ⟨fun _ => trivial, fun e => absurd (by decide : (11 : Int32) ≤ nI 11) e⟩
  | succ d ih =>
    intro n i q b h hn
    obtain ⟨j, rfl⟩ := fuel hn
    have c : ¬ (11 : Int32) ≤ nI i := nle (n := 11) (by omega) (by decide) rfl
    refine ⟨fun e => absurd e c, fun _ => ⟨vp_in_nI (by omega) (by decide), fun _ => trivial, fun _ => ?_⟩⟩
    rw [nI_1]
    exact ih j (i + 1) q b (by omega) (by omega)
theorem io0_v : ∀ n, n < 256 → (decide (0 ≤ (fJ1_indexOfChar_4cfef_t0_7 20 q00 11 ((nI n).toInt8.toInt32) 0).1) = decide (isOrd (nI n))) := by decide +kernel
theorem ix0 (q : SS) {v : Int32} (hv : rg 0 65535 v) : kJ0_indexOf_0f7a4_t0 q v ∧ ∃ i : Int32, fJ0_indexOf_0f7a4_t0 q v = (i, q) ∧ (0 ≤ i ↔ isOrd v) := by
  have e0 : ((11 : Int32) >>> (0 &&& 31)) = 11 := by decide
  have g1 := hv.1
  have n0 : ¬ v < 0 := by
    rw [Int32.lt_iff_toInt_lt, tl_0]
    omega
  by_cases h1 : 255 < v
  · have hP : ¬ isOrd v := by
      intro h
      have h2 : v.toInt ≤ 255 := by
        rcases h with rfl | rfl | rfl | rfl | rfl | rfl | rfl | rfl | rfl | rfl | rfl <;> decide
      rw [Int32.lt_iff_toInt_lt, tl_255] at h1
      omega
    refine ⟨?_, -1, ?_, ?_⟩
    · simp +decide only [fJ0_indexOf_0f7a4_t0, kJ0_indexOf_0f7a4_t0, fJ0_indexOf_7cf53_t0, kJ0_indexOf_7cf53_t0, fJ0_length_8abf5_t0, kJ0_length_8abf5_t0, fJ1_indexOf_4cfef_t0, kJ1_indexOf_4cfef_t0, fJ1_canEncode_9a6ad_t0_16, kJ1_canEncode_9a6ad_t0_16, fJ1_canEncode_9a6ad_t0_15, kJ1_canEncode_9a6ad_t0_15, fJ1_canEncode_9a6ad_t0, kJ1_canEncode_9a6ad_t0, fJ0_isLatin1_aae02_t0, kJ0_isLatin1_aae02_t0, fJ0_coder_7d493_t0, kJ0_coder_7d493_t0, eq_self, Classical.not_not, Sum.inr.injEq, Sum.inl.injEq, forall_eq', forall_eq, reduceCtorEq, implies_true, forall_const, true_and, and_true, and_self, false_implies, true_implies, not_true_eq_false, not_false_eq_true, if_true, if_false, e0, n0, h1, nb_0, nb_1]
    · simp +decide only [fJ0_indexOf_0f7a4_t0, kJ0_indexOf_0f7a4_t0, fJ0_indexOf_7cf53_t0, kJ0_indexOf_7cf53_t0, fJ0_length_8abf5_t0, kJ0_length_8abf5_t0, fJ1_indexOf_4cfef_t0, kJ1_indexOf_4cfef_t0, fJ1_canEncode_9a6ad_t0_16, kJ1_canEncode_9a6ad_t0_16, fJ1_canEncode_9a6ad_t0_15, kJ1_canEncode_9a6ad_t0_15, fJ1_canEncode_9a6ad_t0, kJ1_canEncode_9a6ad_t0, fJ0_isLatin1_aae02_t0, kJ0_isLatin1_aae02_t0, fJ0_coder_7d493_t0, kJ0_coder_7d493_t0, eq_self, Classical.not_not, Sum.inr.injEq, Sum.inl.injEq, forall_eq', forall_eq, reduceCtorEq, implies_true, forall_const, true_and, and_true, and_self, false_implies, true_implies, not_true_eq_false, not_false_eq_true, if_true, if_false, e0, n0, h1, nb_0, nb_1]
    · exact ⟨fun e => absurd e (by decide), fun e => absurd e hP⟩
  · have h1' := h1
    rw [Int32.lt_iff_toInt_lt, tl_255] at h1'
    obtain ⟨n, hn, rfl⟩ := tof (n := 256) g1 (by omega) (by decide)
    refine ⟨?_, (fJ1_indexOfChar_4cfef_t0_7 20 q00 11 ((nI n).toInt8.toInt32) 0).1, ?_, ?_⟩
    · have hk : kJ1_indexOfChar_4cfef_t0_7 20 q 11 ((nI n).toInt8.toInt32) 0 := io0_k 11 20 0 q _ rfl (by decide)
      simp +decide only [fJ0_indexOf_0f7a4_t0, kJ0_indexOf_0f7a4_t0, fJ0_indexOf_7cf53_t0, kJ0_indexOf_7cf53_t0, fJ0_length_8abf5_t0, kJ0_length_8abf5_t0, fJ1_indexOf_4cfef_t0, kJ1_indexOf_4cfef_t0, fJ1_canEncode_9a6ad_t0_16, kJ1_canEncode_9a6ad_t0_16, fJ1_canEncode_9a6ad_t0_15, kJ1_canEncode_9a6ad_t0_15, fJ1_canEncode_9a6ad_t0, kJ1_canEncode_9a6ad_t0, fJ0_isLatin1_aae02_t0, kJ0_isLatin1_aae02_t0, fJ0_coder_7d493_t0, kJ0_coder_7d493_t0, fJ1_indexOfChar_4cfef_t0, kJ1_indexOfChar_4cfef_t0, eq_self, Classical.not_not, Sum.inr.injEq, Sum.inl.injEq, forall_eq', forall_eq, reduceCtorEq, implies_true, forall_const, true_and, and_true, and_self, false_implies, true_implies, not_true_eq_false, not_false_eq_true, if_true, if_false, e0, n0, h1, nb_0, nb_1, eq_true hk]
    · simp +decide only [fJ0_indexOf_0f7a4_t0, kJ0_indexOf_0f7a4_t0, fJ0_indexOf_7cf53_t0, kJ0_indexOf_7cf53_t0, fJ0_length_8abf5_t0, kJ0_length_8abf5_t0, fJ1_indexOf_4cfef_t0, kJ1_indexOf_4cfef_t0, fJ1_canEncode_9a6ad_t0_16, kJ1_canEncode_9a6ad_t0_16, fJ1_canEncode_9a6ad_t0_15, kJ1_canEncode_9a6ad_t0_15, fJ1_canEncode_9a6ad_t0, kJ1_canEncode_9a6ad_t0, fJ0_isLatin1_aae02_t0, kJ0_isLatin1_aae02_t0, fJ0_coder_7d493_t0, kJ0_coder_7d493_t0, fJ1_indexOfChar_4cfef_t0, kJ1_indexOfChar_4cfef_t0, eq_self, Classical.not_not, Sum.inr.injEq, Sum.inl.injEq, forall_eq', forall_eq, reduceCtorEq, implies_true, forall_const, true_and, and_true, and_self, false_implies, true_implies, not_true_eq_false, not_false_eq_true, if_true, if_false, e0, n0, h1, nb_0, nb_1]
      rw [io0_7]
    · have h2 := io0_v n hn
      exact decide_eq_decide.mp h2
theorem io1_7 : ∀ (n : Nat) (q : SS) (a b d : Int32), fJ1_indexOfChar_4cfef_t1_7 n q a b d = ((fJ1_indexOfChar_4cfef_t1_7 n q00 a b d).1, q) := by
  intro n
  induction n with
  | zero =>
    intro q a b d
    rfl
  | succ n ih =>
    intro q a b d
    rw [fJ1_indexOfChar_4cfef_t1_7, fJ1_indexOfChar_4cfef_t1_7]
    by_cases h1 : a ≤ d
    · rw [if_pos h1, if_pos h1]
    · rw [if_neg h1, if_neg h1]
      by_cases h2 : bytf 1 d.toNatClampNeg = b
      · rw [if_pos h2, if_pos h2]
      · rw [if_neg h2, if_neg h2]
        exact ih q a b (d + 1)
theorem io1_k : ∀ (d n i : Nat) (q : SS) (b : Int32), i + d = 4 → d < n → kJ1_indexOfChar_4cfef_t1_7 n q 4 b (nI i) := by
  intro d
  induction d with
  | zero =>
    intro n i q b h hn
    obtain ⟨j, rfl⟩ := fuel hn
    have hi : i = 4 := by omega
    subst hi
    exact ⟨fun _ => trivial, fun e => absurd (by decide : (4 : Int32) ≤ nI 4) e⟩
  | succ d ih =>
    intro n i q b h hn
    obtain ⟨j, rfl⟩ := fuel hn
    have c : ¬ (4 : Int32) ≤ nI i := nle (n := 4) (by omega) (by decide) rfl
    refine ⟨fun e => absurd e c, fun _ => ⟨vp_in_nI (by omega) (by decide), fun _ => trivial, fun _ => ?_⟩⟩
    rw [nI_1]
    exact ih j (i + 1) q b (by omega) (by omega)
theorem io1_v : ∀ n, n < 256 → (decide (0 ≤ (fJ1_indexOfChar_4cfef_t1_7 20 q00 4 ((nI n).toInt8.toInt32) 0).1) = decide (isEnd (nI n))) := by decide +kernel
theorem ix1 (q : SS) {v : Int32} (hv : rg 0 65535 v) : kJ0_indexOf_0f7a4_t1 q v ∧ ∃ i : Int32, fJ0_indexOf_0f7a4_t1 q v = (i, q) ∧ (0 ≤ i ↔ isEnd v) := by
  have e0 : ((4 : Int32) >>> (0 &&& 31)) = 4 := by decide
  have g1 := hv.1
  have n0 : ¬ v < 0 := by
    rw [Int32.lt_iff_toInt_lt, tl_0]
    omega
  by_cases h1 : 255 < v
  · have hP : ¬ isEnd v := by
      intro h
      have h2 : v.toInt ≤ 255 := by
        rcases h with rfl | rfl | rfl | rfl <;> decide
      rw [Int32.lt_iff_toInt_lt, tl_255] at h1
      omega
    refine ⟨?_, -1, ?_, ?_⟩
    · simp +decide only [fJ0_indexOf_0f7a4_t1, kJ0_indexOf_0f7a4_t1, fJ0_indexOf_7cf53_t1, kJ0_indexOf_7cf53_t1, fJ0_length_8abf5_t1, kJ0_length_8abf5_t1, fJ1_indexOf_4cfef_t1, kJ1_indexOf_4cfef_t1, fJ1_canEncode_9a6ad_t1_16, kJ1_canEncode_9a6ad_t1_16, fJ1_canEncode_9a6ad_t1_15, kJ1_canEncode_9a6ad_t1_15, fJ1_canEncode_9a6ad_t1, kJ1_canEncode_9a6ad_t1, fJ0_isLatin1_aae02_t1, kJ0_isLatin1_aae02_t1, fJ0_coder_7d493_t1, kJ0_coder_7d493_t1, eq_self, Classical.not_not, Sum.inr.injEq, Sum.inl.injEq, forall_eq', forall_eq, reduceCtorEq, implies_true, forall_const, true_and, and_true, and_self, false_implies, true_implies, not_true_eq_false, not_false_eq_true, if_true, if_false, e0, n0, h1, nb_0, nb_1]
    · simp +decide only [fJ0_indexOf_0f7a4_t1, kJ0_indexOf_0f7a4_t1, fJ0_indexOf_7cf53_t1, kJ0_indexOf_7cf53_t1, fJ0_length_8abf5_t1, kJ0_length_8abf5_t1, fJ1_indexOf_4cfef_t1, kJ1_indexOf_4cfef_t1, fJ1_canEncode_9a6ad_t1_16, kJ1_canEncode_9a6ad_t1_16, fJ1_canEncode_9a6ad_t1_15, kJ1_canEncode_9a6ad_t1_15, fJ1_canEncode_9a6ad_t1, kJ1_canEncode_9a6ad_t1, fJ0_isLatin1_aae02_t1, kJ0_isLatin1_aae02_t1, fJ0_coder_7d493_t1, kJ0_coder_7d493_t1, eq_self, Classical.not_not, Sum.inr.injEq, Sum.inl.injEq, forall_eq', forall_eq, reduceCtorEq, implies_true, forall_const, true_and, and_true, and_self, false_implies, true_implies, not_true_eq_false, not_false_eq_true, if_true, if_false, e0, n0, h1, nb_0, nb_1]
    · exact ⟨fun e => absurd e (by decide), fun e => absurd e hP⟩
  · have h1' := h1
    rw [Int32.lt_iff_toInt_lt, tl_255] at h1'
    obtain ⟨n, hn, rfl⟩ := tof (n := 256) g1 (by omega) (by decide)
    refine ⟨?_, (fJ1_indexOfChar_4cfef_t1_7 20 q00 4 ((nI n).toInt8.toInt32) 0).1, ?_, ?_⟩
    · have hk : kJ1_indexOfChar_4cfef_t1_7 20 q 4 ((nI n).toInt8.toInt32) 0 := io1_k 4 20 0 q _ rfl (by decide)
      simp +decide only [fJ0_indexOf_0f7a4_t1, kJ0_indexOf_0f7a4_t1, fJ0_indexOf_7cf53_t1, kJ0_indexOf_7cf53_t1, fJ0_length_8abf5_t1, kJ0_length_8abf5_t1, fJ1_indexOf_4cfef_t1, kJ1_indexOf_4cfef_t1, fJ1_canEncode_9a6ad_t1_16, kJ1_canEncode_9a6ad_t1_16, fJ1_canEncode_9a6ad_t1_15, kJ1_canEncode_9a6ad_t1_15, fJ1_canEncode_9a6ad_t1, kJ1_canEncode_9a6ad_t1, fJ0_isLatin1_aae02_t1, kJ0_isLatin1_aae02_t1, fJ0_coder_7d493_t1, kJ0_coder_7d493_t1, fJ1_indexOfChar_4cfef_t1, kJ1_indexOfChar_4cfef_t1, eq_self, Classical.not_not, Sum.inr.injEq, Sum.inl.injEq, forall_eq', forall_eq, reduceCtorEq, implies_true, forall_const, true_and, and_true, and_self, false_implies, true_implies, not_true_eq_false, not_false_eq_true, if_true, if_false, e0, n0, h1, nb_0, nb_1, eq_true hk]
    · simp +decide only [fJ0_indexOf_0f7a4_t1, kJ0_indexOf_0f7a4_t1, fJ0_indexOf_7cf53_t1, kJ0_indexOf_7cf53_t1, fJ0_length_8abf5_t1, kJ0_length_8abf5_t1, fJ1_indexOf_4cfef_t1, kJ1_indexOf_4cfef_t1, fJ1_canEncode_9a6ad_t1_16, kJ1_canEncode_9a6ad_t1_16, fJ1_canEncode_9a6ad_t1_15, kJ1_canEncode_9a6ad_t1_15, fJ1_canEncode_9a6ad_t1, kJ1_canEncode_9a6ad_t1, fJ0_isLatin1_aae02_t1, kJ0_isLatin1_aae02_t1, fJ0_coder_7d493_t1, kJ0_coder_7d493_t1, fJ1_indexOfChar_4cfef_t1, kJ1_indexOfChar_4cfef_t1, eq_self, Classical.not_not, Sum.inr.injEq, Sum.inl.injEq, forall_eq', forall_eq, reduceCtorEq, implies_true, forall_const, true_and, and_true, and_self, false_implies, true_implies, not_true_eq_false, not_false_eq_true, if_true, if_false, e0, n0, h1, nb_0, nb_1]
      rw [io1_7]
    · have h2 := io1_v n hn
      exact decide_eq_decide.mp h2
theorem io2_7 : ∀ (n : Nat) (q : SS) (a b d : Int32), fJ1_indexOfChar_4cfef_t2_7 n q a b d = ((fJ1_indexOfChar_4cfef_t2_7 n q00 a b d).1, q) := by
  intro n
  induction n with
  | zero =>
    intro q a b d
    rfl
  | succ n ih =>
    intro q a b d
    rw [fJ1_indexOfChar_4cfef_t2_7, fJ1_indexOfChar_4cfef_t2_7]
    by_cases h1 : a ≤ d
    · rw [if_pos h1, if_pos h1]
    · rw [if_neg h1, if_neg h1]
      by_cases h2 : bytf 2 d.toNatClampNeg = b
      · rw [if_pos h2, if_pos h2]
      · rw [if_neg h2, if_neg h2]
        exact ih q a b (d + 1)
theorem io2_k : ∀ (d n i : Nat) (q : SS) (b : Int32), i + d = 12 → d < n → kJ1_indexOfChar_4cfef_t2_7 n q 12 b (nI i) := by
  intro d
  induction d with
  | zero =>
    intro n i q b h hn
    obtain ⟨j, rfl⟩ := fuel hn
    have hi : i = 12 := by omega
    subst hi
    exact ⟨fun _ => trivial, fun e => absurd (by decide : (12 : Int32) ≤ nI 12) e⟩
  | succ d ih =>
    intro n i q b h hn
    obtain ⟨j, rfl⟩ := fuel hn
    have c : ¬ (12 : Int32) ≤ nI i := nle (n := 12) (by omega) (by decide) rfl
    refine ⟨fun e => absurd e c, fun _ => ⟨vp_in_nI (by omega) (by decide), fun _ => trivial, fun _ => ?_⟩⟩
    rw [nI_1]
    exact ih j (i + 1) q b (by omega) (by omega)
theorem io2_v : ∀ n, n < 256 → (decide (0 ≤ (fJ1_indexOfChar_4cfef_t2_7 20 q00 12 ((nI n).toInt8.toInt32) 0).1) = decide (isPart (nI n))) := by decide +kernel
theorem ix2 (q : SS) {v : Int32} (hv : rg 0 65535 v) : kJ0_indexOf_0f7a4_t2 q v ∧ ∃ i : Int32, fJ0_indexOf_0f7a4_t2 q v = (i, q) ∧ (0 ≤ i ↔ isPart v) := by
  have e0 : ((12 : Int32) >>> (0 &&& 31)) = 12 := by decide
  have g1 := hv.1
  have n0 : ¬ v < 0 := by
    rw [Int32.lt_iff_toInt_lt, tl_0]
    omega
  by_cases h1 : 255 < v
  · have hP : ¬ isPart v := by
      intro h
      have h2 : v.toInt ≤ 255 := by
        rcases h with rfl | rfl | rfl | rfl | rfl | rfl | rfl | rfl | rfl | rfl | rfl | rfl <;> decide
      rw [Int32.lt_iff_toInt_lt, tl_255] at h1
      omega
    refine ⟨?_, -1, ?_, ?_⟩
    · simp +decide only [fJ0_indexOf_0f7a4_t2, kJ0_indexOf_0f7a4_t2, fJ0_indexOf_7cf53_t2, kJ0_indexOf_7cf53_t2, fJ0_length_8abf5_t2, kJ0_length_8abf5_t2, fJ1_indexOf_4cfef_t2, kJ1_indexOf_4cfef_t2, fJ1_canEncode_9a6ad_t2_16, kJ1_canEncode_9a6ad_t2_16, fJ1_canEncode_9a6ad_t2_15, kJ1_canEncode_9a6ad_t2_15, fJ1_canEncode_9a6ad_t2, kJ1_canEncode_9a6ad_t2, fJ0_isLatin1_aae02_t2, kJ0_isLatin1_aae02_t2, fJ0_coder_7d493_t2, kJ0_coder_7d493_t2, eq_self, Classical.not_not, Sum.inr.injEq, Sum.inl.injEq, forall_eq', forall_eq, reduceCtorEq, implies_true, forall_const, true_and, and_true, and_self, false_implies, true_implies, not_true_eq_false, not_false_eq_true, if_true, if_false, e0, n0, h1, nb_0, nb_1]
    · simp +decide only [fJ0_indexOf_0f7a4_t2, kJ0_indexOf_0f7a4_t2, fJ0_indexOf_7cf53_t2, kJ0_indexOf_7cf53_t2, fJ0_length_8abf5_t2, kJ0_length_8abf5_t2, fJ1_indexOf_4cfef_t2, kJ1_indexOf_4cfef_t2, fJ1_canEncode_9a6ad_t2_16, kJ1_canEncode_9a6ad_t2_16, fJ1_canEncode_9a6ad_t2_15, kJ1_canEncode_9a6ad_t2_15, fJ1_canEncode_9a6ad_t2, kJ1_canEncode_9a6ad_t2, fJ0_isLatin1_aae02_t2, kJ0_isLatin1_aae02_t2, fJ0_coder_7d493_t2, kJ0_coder_7d493_t2, eq_self, Classical.not_not, Sum.inr.injEq, Sum.inl.injEq, forall_eq', forall_eq, reduceCtorEq, implies_true, forall_const, true_and, and_true, and_self, false_implies, true_implies, not_true_eq_false, not_false_eq_true, if_true, if_false, e0, n0, h1, nb_0, nb_1]
    · exact ⟨fun e => absurd e (by decide), fun e => absurd e hP⟩
  · have h1' := h1
    rw [Int32.lt_iff_toInt_lt, tl_255] at h1'
    obtain ⟨n, hn, rfl⟩ := tof (n := 256) g1 (by omega) (by decide)
    refine ⟨?_, (fJ1_indexOfChar_4cfef_t2_7 20 q00 12 ((nI n).toInt8.toInt32) 0).1, ?_, ?_⟩
    · have hk : kJ1_indexOfChar_4cfef_t2_7 20 q 12 ((nI n).toInt8.toInt32) 0 := io2_k 12 20 0 q _ rfl (by decide)
      simp +decide only [fJ0_indexOf_0f7a4_t2, kJ0_indexOf_0f7a4_t2, fJ0_indexOf_7cf53_t2, kJ0_indexOf_7cf53_t2, fJ0_length_8abf5_t2, kJ0_length_8abf5_t2, fJ1_indexOf_4cfef_t2, kJ1_indexOf_4cfef_t2, fJ1_canEncode_9a6ad_t2_16, kJ1_canEncode_9a6ad_t2_16, fJ1_canEncode_9a6ad_t2_15, kJ1_canEncode_9a6ad_t2_15, fJ1_canEncode_9a6ad_t2, kJ1_canEncode_9a6ad_t2, fJ0_isLatin1_aae02_t2, kJ0_isLatin1_aae02_t2, fJ0_coder_7d493_t2, kJ0_coder_7d493_t2, fJ1_indexOfChar_4cfef_t2, kJ1_indexOfChar_4cfef_t2, eq_self, Classical.not_not, Sum.inr.injEq, Sum.inl.injEq, forall_eq', forall_eq, reduceCtorEq, implies_true, forall_const, true_and, and_true, and_self, false_implies, true_implies, not_true_eq_false, not_false_eq_true, if_true, if_false, e0, n0, h1, nb_0, nb_1, eq_true hk]
    · simp +decide only [fJ0_indexOf_0f7a4_t2, kJ0_indexOf_0f7a4_t2, fJ0_indexOf_7cf53_t2, kJ0_indexOf_7cf53_t2, fJ0_length_8abf5_t2, kJ0_length_8abf5_t2, fJ1_indexOf_4cfef_t2, kJ1_indexOf_4cfef_t2, fJ1_canEncode_9a6ad_t2_16, kJ1_canEncode_9a6ad_t2_16, fJ1_canEncode_9a6ad_t2_15, kJ1_canEncode_9a6ad_t2_15, fJ1_canEncode_9a6ad_t2, kJ1_canEncode_9a6ad_t2, fJ0_isLatin1_aae02_t2, kJ0_isLatin1_aae02_t2, fJ0_coder_7d493_t2, kJ0_coder_7d493_t2, fJ1_indexOfChar_4cfef_t2, kJ1_indexOfChar_4cfef_t2, eq_self, Classical.not_not, Sum.inr.injEq, Sum.inl.injEq, forall_eq', forall_eq, reduceCtorEq, implies_true, forall_const, true_and, and_true, and_self, false_implies, true_implies, not_true_eq_false, not_false_eq_true, if_true, if_false, e0, n0, h1, nb_0, nb_1]
      rw [io2_7]
    · have h2 := io2_v n hn
      exact decide_eq_decide.mp h2
theorem io3_7 : ∀ (n : Nat) (q : SS) (a b d : Int32), fJ1_indexOfChar_4cfef_t3_7 n q a b d = ((fJ1_indexOfChar_4cfef_t3_7 n q00 a b d).1, q) := by
  intro n
  induction n with
  | zero =>
    intro q a b d
    rfl
  | succ n ih =>
    intro q a b d
    rw [fJ1_indexOfChar_4cfef_t3_7, fJ1_indexOfChar_4cfef_t3_7]
    by_cases h1 : a ≤ d
    · rw [if_pos h1, if_pos h1]
    · rw [if_neg h1, if_neg h1]
      by_cases h2 : bytf 3 d.toNatClampNeg = b
      · rw [if_pos h2, if_pos h2]
      · rw [if_neg h2, if_neg h2]
        exact ih q a b (d + 1)
theorem io3_k : ∀ (d n i : Nat) (q : SS) (b : Int32), i + d = 10 → d < n → kJ1_indexOfChar_4cfef_t3_7 n q 10 b (nI i) := by
  intro d
  induction d with
  | zero =>
    intro n i q b h hn
    obtain ⟨j, rfl⟩ := fuel hn
    have hi : i = 10 := by omega
    subst hi
    exact ⟨fun _ => trivial, fun e => absurd (by decide : (10 : Int32) ≤ nI 10) e⟩
  | succ d ih =>
    intro n i q b h hn
    obtain ⟨j, rfl⟩ := fuel hn
    have c : ¬ (10 : Int32) ≤ nI i := nle (n := 10) (by omega) (by decide) rfl
    refine ⟨fun e => absurd e c, fun _ => ⟨vp_in_nI (by omega) (by decide), fun _ => trivial, fun _ => ?_⟩⟩
    rw [nI_1]
    exact ih j (i + 1) q b (by omega) (by omega)
theorem io3_v : ∀ n, n < 256 → (decide (0 ≤ (fJ1_indexOfChar_4cfef_t3_7 20 q00 10 ((nI n).toInt8.toInt32) 0).1) = decide (isDef (nI n))) := by decide +kernel
theorem ix3 (q : SS) {v : Int32} (hv : rg 0 65535 v) : kJ0_indexOf_0f7a4_t3 q v ∧ ∃ i : Int32, fJ0_indexOf_0f7a4_t3 q v = (i, q) ∧ (0 ≤ i ↔ isDef v) := by
  have e0 : ((10 : Int32) >>> (0 &&& 31)) = 10 := by decide
  have g1 := hv.1
  have n0 : ¬ v < 0 := by
    rw [Int32.lt_iff_toInt_lt, tl_0]
    omega
  by_cases h1 : 255 < v
  · have hP : ¬ isDef v := by
      intro h
      have h2 : v.toInt ≤ 255 := by
        rcases h with rfl | rfl | rfl | rfl | rfl | rfl | rfl | rfl | rfl | rfl <;> decide
      rw [Int32.lt_iff_toInt_lt, tl_255] at h1
      omega
    refine ⟨?_, -1, ?_, ?_⟩
    · simp +decide only [fJ0_indexOf_0f7a4_t3, kJ0_indexOf_0f7a4_t3, fJ0_indexOf_7cf53_t3, kJ0_indexOf_7cf53_t3, fJ0_length_8abf5_t3, kJ0_length_8abf5_t3, fJ1_indexOf_4cfef_t3, kJ1_indexOf_4cfef_t3, fJ1_canEncode_9a6ad_t3_16, kJ1_canEncode_9a6ad_t3_16, fJ1_canEncode_9a6ad_t3_15, kJ1_canEncode_9a6ad_t3_15, fJ1_canEncode_9a6ad_t3, kJ1_canEncode_9a6ad_t3, fJ0_isLatin1_aae02_t3, kJ0_isLatin1_aae02_t3, fJ0_coder_7d493_t3, kJ0_coder_7d493_t3, eq_self, Classical.not_not, Sum.inr.injEq, Sum.inl.injEq, forall_eq', forall_eq, reduceCtorEq, implies_true, forall_const, true_and, and_true, and_self, false_implies, true_implies, not_true_eq_false, not_false_eq_true, if_true, if_false, e0, n0, h1, nb_0, nb_1]
    · simp +decide only [fJ0_indexOf_0f7a4_t3, kJ0_indexOf_0f7a4_t3, fJ0_indexOf_7cf53_t3, kJ0_indexOf_7cf53_t3, fJ0_length_8abf5_t3, kJ0_length_8abf5_t3, fJ1_indexOf_4cfef_t3, kJ1_indexOf_4cfef_t3, fJ1_canEncode_9a6ad_t3_16, kJ1_canEncode_9a6ad_t3_16, fJ1_canEncode_9a6ad_t3_15, kJ1_canEncode_9a6ad_t3_15, fJ1_canEncode_9a6ad_t3, kJ1_canEncode_9a6ad_t3, fJ0_isLatin1_aae02_t3, kJ0_isLatin1_aae02_t3, fJ0_coder_7d493_t3, kJ0_coder_7d493_t3, eq_self, Classical.not_not, Sum.inr.injEq, Sum.inl.injEq, forall_eq', forall_eq, reduceCtorEq, implies_true, forall_const, true_and, and_true, and_self, false_implies, true_implies, not_true_eq_false, not_false_eq_true, if_true, if_false, e0, n0, h1, nb_0, nb_1]
    · exact ⟨fun e => absurd e (by decide), fun e => absurd e hP⟩
  · have h1' := h1
    rw [Int32.lt_iff_toInt_lt, tl_255] at h1'
    obtain ⟨n, hn, rfl⟩ := tof (n := 256) g1 (by omega) (by decide)
    refine ⟨?_, (fJ1_indexOfChar_4cfef_t3_7 20 q00 10 ((nI n).toInt8.toInt32) 0).1, ?_, ?_⟩
    · have hk : kJ1_indexOfChar_4cfef_t3_7 20 q 10 ((nI n).toInt8.toInt32) 0 := io3_k 10 20 0 q _ rfl (by decide)
      simp +decide only [fJ0_indexOf_0f7a4_t3, kJ0_indexOf_0f7a4_t3, fJ0_indexOf_7cf53_t3, kJ0_indexOf_7cf53_t3, fJ0_length_8abf5_t3, kJ0_length_8abf5_t3, fJ1_indexOf_4cfef_t3, kJ1_indexOf_4cfef_t3, fJ1_canEncode_9a6ad_t3_16, kJ1_canEncode_9a6ad_t3_16, fJ1_canEncode_9a6ad_t3_15, kJ1_canEncode_9a6ad_t3_15, fJ1_canEncode_9a6ad_t3, kJ1_canEncode_9a6ad_t3, fJ0_isLatin1_aae02_t3, kJ0_isLatin1_aae02_t3, fJ0_coder_7d493_t3, kJ0_coder_7d493_t3, fJ1_indexOfChar_4cfef_t3, kJ1_indexOfChar_4cfef_t3, eq_self, Classical.not_not, Sum.inr.injEq, Sum.inl.injEq, forall_eq', forall_eq, reduceCtorEq, implies_true, forall_const, true_and, and_true, and_self, false_implies, true_implies, not_true_eq_false, not_false_eq_true, if_true, if_false, e0, n0, h1, nb_0, nb_1, eq_true hk]
    · simp +decide only [fJ0_indexOf_0f7a4_t3, kJ0_indexOf_0f7a4_t3, fJ0_indexOf_7cf53_t3, kJ0_indexOf_7cf53_t3, fJ0_length_8abf5_t3, kJ0_length_8abf5_t3, fJ1_indexOf_4cfef_t3, kJ1_indexOf_4cfef_t3, fJ1_canEncode_9a6ad_t3_16, kJ1_canEncode_9a6ad_t3_16, fJ1_canEncode_9a6ad_t3_15, kJ1_canEncode_9a6ad_t3_15, fJ1_canEncode_9a6ad_t3, kJ1_canEncode_9a6ad_t3, fJ0_isLatin1_aae02_t3, kJ0_isLatin1_aae02_t3, fJ0_coder_7d493_t3, kJ0_coder_7d493_t3, fJ1_indexOfChar_4cfef_t3, kJ1_indexOfChar_4cfef_t3, eq_self, Classical.not_not, Sum.inr.injEq, Sum.inl.injEq, forall_eq', forall_eq, reduceCtorEq, implies_true, forall_const, true_and, and_true, and_self, false_implies, true_implies, not_true_eq_false, not_false_eq_true, if_true, if_false, e0, n0, h1, nb_0, nb_1]
      rw [io3_7]
    · have h2 := io3_v n hn
      exact decide_eq_decide.mp h2
