/-! ===== PURE: reads behind writes, and numbers ===== -/
theorem gI_sI (q : SS) (k : Nat) (v : Int32) (j : Nat) : gI (sI q k v) j = if j = k then v else gI q j := rfl
theorem gI_sL (q : SS) (k : Nat) (v : Int64) (j : Nat) : gI (sL q k v) j = gI q j := rfl
theorem gI_sA (q : SS) (k : Nat) (v : Nat → Int32) (j : Nat) : gI (sA q k v) j = gI q j := rfl
theorem gI_sB (q : SS) (k : Nat) (v : Nat → Int64) (j : Nat) : gI (sB q k v) j = gI q j := rfl
theorem gL_sI (q : SS) (k : Nat) (v : Int32) (j : Nat) : gL (sI q k v) j = gL q j := rfl
theorem gL_sL (q : SS) (k : Nat) (v : Int64) (j : Nat) : gL (sL q k v) j = if j = k then v else gL q j := rfl
theorem gL_sA (q : SS) (k : Nat) (v : Nat → Int32) (j : Nat) : gL (sA q k v) j = gL q j := rfl
theorem gL_sB (q : SS) (k : Nat) (v : Nat → Int64) (j : Nat) : gL (sB q k v) j = gL q j := rfl
theorem gA_sI (q : SS) (k : Nat) (v : Int32) (j : Nat) : gA (sI q k v) j = gA q j := rfl
theorem gA_sL (q : SS) (k : Nat) (v : Int64) (j : Nat) : gA (sL q k v) j = gA q j := rfl
theorem gA_sA (q : SS) (k : Nat) (v : Nat → Int32) (j : Nat) : gA (sA q k v) j = if j = k then v else gA q j := rfl
theorem gA_sB (q : SS) (k : Nat) (v : Nat → Int64) (j : Nat) : gA (sB q k v) j = gA q j := rfl
theorem gB_sI (q : SS) (k : Nat) (v : Int32) (j : Nat) : gB (sI q k v) j = gB q j := rfl
theorem gB_sL (q : SS) (k : Nat) (v : Int64) (j : Nat) : gB (sL q k v) j = gB q j := rfl
theorem gB_sA (q : SS) (k : Nat) (v : Nat → Int32) (j : Nat) : gB (sA q k v) j = gB q j := rfl
theorem gB_sB (q : SS) (k : Nat) (v : Nat → Int64) (j : Nat) : gB (sB q k v) j = if j = k then v else gB q j := rfl
theorem upd_at (f : Nat → Int32) (k : Nat) (x : Int32) (j : Nat) : upd f k x j = if j = k then x else f j := rfl
theorem upd_upd (f : Nat → Int32) (k : Nat) (x y : Int32) : upd (upd f k x) k y = upd f k y := by
  funext j
  simp only [upd_at]
  split <;> rfl
theorem tl_m1 : (-1 : Int32).toInt = -1 := by decide
theorem tl_0 : (0 : Int32).toInt = 0 := by decide
theorem tl_1 : (1 : Int32).toInt = 1 := by decide
theorem tl_2 : (2 : Int32).toInt = 2 := by decide
theorem tl_3 : (3 : Int32).toInt = 3 := by decide
theorem tl_4 : (4 : Int32).toInt = 4 := by decide
theorem tl_5 : (5 : Int32).toInt = 5 := by decide
theorem tl_6 : (6 : Int32).toInt = 6 := by decide
theorem tl_7 : (7 : Int32).toInt = 7 := by decide
theorem tl_8 : (8 : Int32).toInt = 8 := by decide
theorem tl_9 : (9 : Int32).toInt = 9 := by decide
theorem tl_10 : (10 : Int32).toInt = 10 := by decide
theorem tl_11 : (11 : Int32).toInt = 11 := by decide
theorem tl_12 : (12 : Int32).toInt = 12 := by decide
theorem tl_13 : (13 : Int32).toInt = 13 := by decide
theorem tl_14 : (14 : Int32).toInt = 14 := by decide
theorem tl_15 : (15 : Int32).toInt = 15 := by decide
theorem tl_16 : (16 : Int32).toInt = 16 := by decide
theorem tl_20 : (20 : Int32).toInt = 20 := by decide
theorem tl_32 : (32 : Int32).toInt = 32 := by decide
theorem tl_48 : (48 : Int32).toInt = 48 := by decide
theorem tl_60 : (60 : Int32).toInt = 60 := by decide
theorem tl_63 : (63 : Int32).toInt = 63 := by decide
theorem tl_64 : (64 : Int32).toInt = 64 := by decide
theorem tl_79 : (79 : Int32).toInt = 79 := by decide
theorem tl_80 : (80 : Int32).toInt = 80 := by decide
theorem tl_96 : (96 : Int32).toInt = 96 := by decide
theorem tl_100 : (100 : Int32).toInt = 100 := by decide
theorem tl_127 : (127 : Int32).toInt = 127 := by decide
theorem tl_128 : (128 : Int32).toInt = 128 := by decide
theorem tl_200 : (200 : Int32).toInt = 200 := by decide
theorem tl_255 : (255 : Int32).toInt = 255 := by decide
theorem tl_256 : (256 : Int32).toInt = 256 := by decide
theorem tI {x y : Int32} : x = y ↔ x.toInt = y.toInt := Int32.toInt_inj.symm
theorem tcl (x : Int32) : x.toNatClampNeg = x.toInt.toNat := rfl
theorem tbm {x : Int} (h1 : -2147483648 ≤ x) (h2 : x < 2147483648) : x.bmod (2 ^ 32) = x := Int.bmod_eq_of_le (by omega) (by omega)
theorem tadd {a b : Int32} (h1 : -2147483648 ≤ a.toInt + b.toInt) (h2 : a.toInt + b.toInt < 2147483648) : (a + b).toInt = a.toInt + b.toInt := by
  rw [Int32.toInt_add]
  exact tbm h1 h2
theorem tsub {a b : Int32} (h1 : -2147483648 ≤ a.toInt - b.toInt) (h2 : a.toInt - b.toInt < 2147483648) : (a - b).toInt = a.toInt - b.toInt := by
  rw [Int32.toInt_sub]
  exact tbm h1 h2
theorem tmul {a b : Int32} (h1 : -2147483648 ≤ a.toInt * b.toInt) (h2 : a.toInt * b.toInt < 2147483648) : (a * b).toInt = a.toInt * b.toInt := by
  rw [Int32.toInt_mul]
  exact tbm h1 h2
theorem tdiv {a b : Int32} {n : Int} (hb : b.toInt = n) (hn : 0 < n) (h0 : 0 ≤ a.toInt) : (a / b).toInt = a.toInt / n := by
  have hne : b ≠ -1 := by
    intro h
    rw [h] at hb
    have h1 : (-1 : Int32).toInt = -1 := tl_m1
    omega
  rw [Int32.toInt_div_of_ne_right _ _ hne, hb, Int.tdiv_eq_ediv_of_nonneg h0]
theorem tmod {a b : Int32} {n : Int} (hb : b.toInt = n) (hn : 0 < n) (hn2 : n < 2147483648) (h0 : 0 ≤ a.toInt) : (a - a / b * b).toInt = a.toInt % n := by
  have h1 := tdiv hb hn h0
  have h2 := Int32.toInt_lt a
  have h3 : a.toInt / n * n ≤ a.toInt := Int.ediv_mul_le _ (by omega)
  have h4 : 0 ≤ a.toInt / n := Int.ediv_nonneg h0 (by omega)
  have h5 : 0 ≤ a.toInt / n * n := Int.mul_nonneg h4 (by omega)
  have h6 : (a / b * b).toInt = a.toInt / n * n := by
    rw [tmul (by rw [h1, hb]; omega) (by rw [h1, hb]; omega), h1, hb]
  rw [tsub (by omega) (by omega), h6]
  have h7 := Int.emod_add_mul_ediv a.toInt n
  rw [Int.mul_comm] at h7
  omega
theorem tand (x : Int32) {m : Int32} (k : Nat) (hm : m.toBitVec.toNat = 2 ^ k - 1) (hk : k ≤ 30) : (x &&& m).toInt = x.toInt % 2 ^ k := by
  rw [pk_and x k hm]
  have h1 : (2 : Nat) ^ k ≤ 2 ^ 30 := Nat.pow_le_pow_right (by decide) hk
  have h2 : x.toBitVec.toNat % 2 ^ k < 2 ^ k := Nat.mod_lt _ (Nat.two_pow_pos k)
  rw [nI_toInt (by omega)]
  show _ = x.toBitVec.toInt % 2 ^ k
  rw [BitVec.toInt_eq_toNat_bmod, Int.bmod_def]
  have h3 : ((2 : Nat) ^ 32 : Int) = 2 ^ k * 2 ^ (32 - k) := by
    rw [← Int.pow_add]
    congr 1
    omega
  have h4 : ((x.toBitVec.toNat : Int) % ((2 ^ 32 : Nat) : Int)) = (x.toBitVec.toNat : Int) := Int.emod_eq_of_lt (by omega) (by have := x.toBitVec.isLt; omega)
  rw [h4]
  split
  · simp
  · have h5 : ((2 ^ 32 : Nat) : Int) = 2 ^ k * 2 ^ (32 - k) := by
      rw [← h3]
      rfl
    rw [h5, Int.sub_mul_emod_self_left]
    simp
theorem tin {i : Int32} {n : Nat} (h0 : 0 ≤ i.toInt) (h1 : i.toInt < n) : vp_in i n := vp_in_iff.mpr ⟨h0, h1⟩
theorem tof {x : Int32} {n : Nat} (h0 : 0 ≤ x.toInt) (h1 : x.toInt < n) (hn : n < 2 ^ 31) : ∃ j : Nat, j < n ∧ x = nI j := vp_in_of (tin h0 h1) hn
theorem tb1 {c : Prop} [Decidable c] : ((if c then (1 : Int32) else 0) = 0) = ¬ c := by
  by_cases h : c
  · rw [if_pos h]
    simp [h]
  · rw [if_neg h]
    simp [h]
theorem tb0 {c : Prop} [Decidable c] : ((if c then (0 : Int32) else 1) = 0) = c := by
  by_cases h : c
  · rw [if_pos h]
    simp [h]
  · rw [if_neg h]
    simp [h]
theorem tnb (c : Prop) [Decidable c] : narrow .boolean (.int (if c then 1 else 0)) = .int (if c then 1 else 0) := by
  split <;> rfl
theorem tvb1 : vp_nar .boolean 1 = 1 := by decide
theorem tvb0 : vp_nar .boolean 0 = 0 := by decide
theorem tvc {x : Int32} (h0 : 0 ≤ x.toInt) (h1 : x.toInt < 65536) : vp_nar .char x = x := by
  obtain ⟨j, hj, rfl⟩ := tof (n := 65536) h0 h1 (by decide)
  exact Value.int.inj (pk_charN hj).1
theorem tnc {x : Int32} (h0 : 0 ≤ x.toInt) (h1 : x.toInt < 65536) : narrow .char (.int x) = .int x := by
  obtain ⟨j, hj, rfl⟩ := tof (n := 65536) h0 h1 (by decide)
  exact (pk_charN hj).1
theorem tfc {x : Int32} (h0 : 0 ≤ x.toInt) (h1 : x.toInt < 65536) : fits .char (.int x) = true := by
  obtain ⟨j, hj, rfl⟩ := tof (n := 65536) h0 h1 (by decide)
  exact (pk_charN hj).2
/-! the reference's smallest helpers -/
theorem m_isIn (q : SS) (a b c : Int32) : kX11_isIn q a b c ∧ fX11_isIn q a b c = (if b ≤ a ∧ a ≤ c then 1 else 0, q) := by
  have n0 : narrow .boolean (.int 0) = .int 0 := rfl
  have n1 : narrow .boolean (.int 1) = .int 1 := rfl
  refine ⟨⟨fun _ => ⟨n0, trivial⟩, fun _ => ⟨fun _ => ⟨n0, trivial⟩, fun _ => ⟨n1, trivial⟩⟩⟩, ?_⟩
  simp only [fX11_isIn, fX11_isIn_14, fX11_isIn_15, Int32.lt_iff_toInt_lt, Int32.le_iff_toInt_le, tl_m1, tl_0, tl_1, tl_2, tl_3, tl_4, tl_5, tl_6, tl_7, tl_8, tl_9, tl_10, tl_11, tl_12, tl_13, tl_14, tl_15, tl_16, tl_20, tl_32, tl_48, tl_60, tl_63, tl_64, tl_79, tl_80, tl_96, tl_100, tl_127, tl_128, tl_200, tl_255, tl_256]
  by_cases h1 : a.toInt < b.toInt
  · rw [if_pos h1, if_neg (by omega)]
  · rw [if_neg h1]
    by_cases h2 : c.toInt < a.toInt
    · rw [if_pos h2, if_neg (by omega)]
    · rw [if_neg h2, if_pos (by omega)]
theorem m_out (q : SS) (v n : Int32) : kX11_out q v n ∧ fX11_out q v n = if 0 ≤ v ∧ v ≤ n - 1 then (0, sI q 0 0) else (1, sI q 0 1) := by
  have n0 : narrow .boolean (.int 0) = .int 0 := rfl
  have n1 : narrow .boolean (.int 1) = .int 1 := rfl
  have h := m_isIn q v 0 (n - 1)
  by_cases hc : 0 ≤ v ∧ v ≤ n - 1
  · rw [if_pos hc] at h ⊢
    refine ⟨⟨h.1, ?_⟩, ?_⟩
    · rw [h.2]
      exact ⟨fun e => absurd (show (1 : Int32) = 0 from e) (by decide), fun _ => ⟨fun _ => ⟨n0, trivial⟩, fun e => absurd rfl e⟩⟩
    · simp only [fX11_out, h.2]
      rfl
  · rw [if_neg hc] at h ⊢
    refine ⟨⟨h.1, ?_⟩, ?_⟩
    · rw [h.2]
      exact ⟨fun _ => ⟨fun e => absurd (show (1 : Int32) = 0 from e) (by decide), fun _ => ⟨n1, trivial⟩⟩, fun e => absurd rfl e⟩
    · simp only [fX11_out, h.2]
      rfl
