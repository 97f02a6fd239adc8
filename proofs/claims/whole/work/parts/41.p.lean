/-! ===== PURE: loops that copy ===== -/
theorem sA_sA (q : SS) (k : Nat) (f g : Nat → Int32) : sA (sA q k f) k g = sA q k g := by
  obtain ⟨a, b, c, d⟩ := q
  simp only [sA]
  congr 3
  funext j
  simp only [va_up]
  split <;> rfl
theorem sI_sI (q : SS) (k : Nat) (v w : Int32) : sI (sI q k v) k w = sI q k w := by
  obtain ⟨a, b⟩ := q
  simp only [sI, upd_upd]
theorem sA_self (q : SS) (k : Nat) : sA q k (gA q k) = q := by
  obtain ⟨a, b, c, d⟩ := q
  simp only [sA, gA]
  congr 3
  funext j
  simp only [va_up]
  split
  · rename_i h
    rw [h]
  · rfl
theorem sI_self (q : SS) (k : Nat) : sI q k (gI q k) = q := by
  obtain ⟨a, b⟩ := q
  simp only [sI, gI]
  congr 1
  funext j
  simp only [upd_at]
  split
  · rename_i h
    rw [h]
  · rfl
theorem sA_com (q : SS) {k j : Nat} (h : k ≠ j) (f g : Nat → Int32) : sA (sA q k f) j g = sA (sA q j g) k f := by
  obtain ⟨a, b, c, d⟩ := q
  simp only [sA]
  congr 3
  funext i
  simp only [va_up]
  split
  · rename_i e
    rw [if_neg (by omega)]
  · rfl
/-- f from i to n, else g -/
def cpf (i n : Nat) (f g : Nat → Int32) : Nat → Int32 := fun j => if i ≤ j ∧ j < n then f j else g j
theorem cpf_nil (n : Nat) (f g : Nat → Int32) : cpf n n f g = g := by
  funext j
  simp only [cpf]
  rw [if_neg (by omega)]
theorem cpf_step {i n : Nat} (h : i < n) (f g : Nat → Int32) : cpf (i + 1) n f (upd g i (f i)) = cpf i n f g := by
  funext j
  simp only [cpf, upd_at]
  by_cases hj : j = i
  · subst hj
    rw [if_neg (by omega), if_pos rfl, if_pos (by omega)]
  · rw [if_neg hj]
    by_cases h1 : i + 1 ≤ j ∧ j < n
    · rw [if_pos h1, if_pos (by omega)]
    · rw [if_neg h1, if_neg (by omega)]
theorem cpf_at (n : Nat) (f g : Nat → Int32) {j : Nat} (h : j < n) : cpf 0 n f g j = f j := by
  simp only [cpf]
  rw [if_pos (by omega)]
theorem cpf_out (n : Nat) (f g : Nat → Int32) {j : Nat} (h : ¬ j < n) : cpf 0 n f g j = g j := by
  simp only [cpf]
  rw [if_neg (by omega)]
theorem fuel {d n : Nat} (h : d < n) : ∃ k, n = k + 1 := ⟨n - 1, by omega⟩
theorem nle {i n : Nat} (h : i < n) (hn : n < 2147483648) {N : Int32} (hN : N = nI n) : ¬ N ≤ nI i := by
  rw [hN, nI_leI (by omega) (by omega)]
  omega
theorem nlt {i n : Nat} (h : i < n) (hn : n < 2147483648) {N : Int32} (hN : N = nI n) : nI i < N := by
  rw [hN, nI_ltI (by omega) (by omega)]
  omega
theorem m_begins_28 : ∀ (d n i : Nat) (q : SS), i + d = 64 → d < n → kX11_begins_28 n q (nI i) ∧ fX11_begins_28 n q (nI i) = fX11_again (sA q 18 (cpf i 64 (gA q 17) (gA q 18))) := by
  intro d
  induction d with
  | zero =>
    intro n i q h hn
    obtain ⟨k, rfl⟩ := fuel hn
    have hi : i = 64 := by omega
    subst hi
    have c : (64 : Int32) ≤ nI 64 := by decide
    refine ⟨⟨fun _ => ⟨trivial, trivial⟩, fun e => absurd c e⟩, ?_⟩
    rw [fX11_begins_28, if_pos c, cpf_nil, sA_self]
  | succ d ih =>
    intro n i q h hn
    obtain ⟨k, rfl⟩ := fuel hn
    have c : ¬ (64 : Int32) ≤ nI i := nle (n := 64) (by omega) (by decide) rfl
    have hin : vp_in (nI i) 64 := vp_in_nI (by omega) (by decide)
    have hc : (nI i).toNatClampNeg = i := nI_clamp (by omega)
    have hs := ih k (i + 1) (sA q 18 (upd (gA q 18) i (gA q 17 i))) (by omega) (by omega)
    rw [fX11_begins_28, if_neg c, hc, nI_1]
    refine ⟨⟨fun e => absurd e c, fun _ => ⟨hin, hin, ?_⟩⟩, ?_⟩
    · rw [hc, nI_1]
      exact hs.1
    · rw [hs.2, sA_sA]
      simp only [gI_sI, gI_sL, gI_sA, gI_sB, gL_sI, gL_sL, gL_sA, gL_sB, gA_sI, gA_sL, gA_sA, gA_sB, gB_sI, gB_sL, gB_sA, gB_sB, upd_at, Nat.reduceEqDiff, if_true, if_false, reduceIte]
      rw [cpf_step (by omega)]
theorem m_begins_2 : ∀ (d n i : Nat) (q : SS), i + d = 10 → d < n → kX11_begins_2 n q (nI i) ∧ fX11_begins_2 n q (nI i) = fX11_begins_28 130 (sA q 16 (cpf i 10 (gA q 15) (gA q 16))) 0 := by
  intro d
  induction d with
  | zero =>
    intro n i q h hn
    obtain ⟨k, rfl⟩ := fuel hn
    have hi : i = 10 := by omega
    subst hi
    have c : (10 : Int32) ≤ nI 10 := by decide
    refine ⟨⟨fun _ => (m_begins_28 64 130 0 _ rfl (by decide)).1, fun e => absurd c e⟩, ?_⟩
    rw [fX11_begins_2, if_pos c, cpf_nil, sA_self]
  | succ d ih =>
    intro n i q h hn
    obtain ⟨k, rfl⟩ := fuel hn
    have c : ¬ (10 : Int32) ≤ nI i := nle (n := 10) (by omega) (by decide) rfl
    have hin : vp_in (nI i) 16 := vp_in_nI (by omega) (by decide)
    have hc : (nI i).toNatClampNeg = i := nI_clamp (by omega)
    have hs := ih k (i + 1) (sA q 16 (upd (gA q 16) i (gA q 15 i))) (by omega) (by omega)
    rw [fX11_begins_2, if_neg c, hc, nI_1]
    refine ⟨⟨fun e => absurd e c, fun _ => ⟨hin, hin, ?_⟩⟩, ?_⟩
    · rw [hc, nI_1]
      exact hs.1
    · rw [hs.2, sA_sA]
      simp only [gI_sI, gI_sL, gI_sA, gI_sB, gL_sI, gL_sL, gL_sA, gL_sB, gA_sI, gA_sL, gA_sA, gA_sB, gB_sI, gB_sL, gB_sA, gB_sB, upd_at, Nat.reduceEqDiff, if_true, if_false, reduceIte]
      rw [cpf_step (by omega)]
theorem m_begins (q : SS) : kX11_begins q ∧ fX11_begins q = fX11_again (sA (sA q 16 (cpf 0 10 (gA q 15) (gA q 16))) 18 (cpf 0 64 (gA q 17) (gA q 18))) := by
  have h := m_begins_2 10 130 0 q rfl (by decide)
  refine ⟨h.1, ?_⟩
  have h2 := m_begins_28 64 130 0 (sA q 16 (cpf 0 10 (gA q 15) (gA q 16))) rfl (by decide)
  rw [show fX11_begins q = fX11_begins_2 130 q (nI 0) from rfl, h.2]
  refine Eq.trans h2.2 ?_
  simp only [gI_sI, gI_sL, gI_sA, gI_sB, gL_sI, gL_sL, gL_sA, gL_sB, gA_sI, gA_sL, gA_sA, gA_sB, gB_sI, gB_sL, gB_sA, gB_sB, upd_at, Nat.reduceEqDiff, if_true, if_false, reduceIte]
theorem m_back_28 : ∀ (d n i : Nat) (q : SS), i + d = 64 → d < n → kX11_back_28 n q (nI i) ∧ fX11_back_28 n q (nI i) = fX11_again (sI (sA q 17 (cpf i 64 (gA q 18) (gA q 17))) 26 0) := by
  intro d
  induction d with
  | zero =>
    intro n i q h hn
    obtain ⟨k, rfl⟩ := fuel hn
    have hi : i = 64 := by omega
    subst hi
    have c : (64 : Int32) ≤ nI 64 := by decide
    refine ⟨⟨fun _ => ⟨trivial, trivial⟩, fun e => absurd c e⟩, ?_⟩
    rw [fX11_back_28, if_pos c, cpf_nil, sA_self]
  | succ d ih =>
    intro n i q h hn
    obtain ⟨k, rfl⟩ := fuel hn
    have c : ¬ (64 : Int32) ≤ nI i := nle (n := 64) (by omega) (by decide) rfl
    have hin : vp_in (nI i) 64 := vp_in_nI (by omega) (by decide)
    have hc : (nI i).toNatClampNeg = i := nI_clamp (by omega)
    have hs := ih k (i + 1) (sA q 17 (upd (gA q 17) i (gA q 18 i))) (by omega) (by omega)
    rw [fX11_back_28, if_neg c, hc, nI_1]
    refine ⟨⟨fun e => absurd e c, fun _ => ⟨hin, hin, ?_⟩⟩, ?_⟩
    · rw [hc, nI_1]
      exact hs.1
    · rw [hs.2, sA_sA]
      simp only [gI_sI, gI_sL, gI_sA, gI_sB, gL_sI, gL_sL, gL_sA, gL_sB, gA_sI, gA_sL, gA_sA, gA_sB, gB_sI, gB_sL, gB_sA, gB_sB, upd_at, Nat.reduceEqDiff, if_true, if_false, reduceIte]
      rw [cpf_step (by omega)]
theorem m_back_2 : ∀ (d n i : Nat) (q : SS), i + d = 10 → d < n → kX11_back_2 n q (nI i) ∧ fX11_back_2 n q (nI i) = fX11_back_28 130 (sA q 15 (cpf i 10 (gA q 16) (gA q 15))) 0 := by
  intro d
  induction d with
  | zero =>
    intro n i q h hn
    obtain ⟨k, rfl⟩ := fuel hn
    have hi : i = 10 := by omega
    subst hi
    have c : (10 : Int32) ≤ nI 10 := by decide
    refine ⟨⟨fun _ => (m_back_28 64 130 0 _ rfl (by decide)).1, fun e => absurd c e⟩, ?_⟩
    rw [fX11_back_2, if_pos c, cpf_nil, sA_self]
  | succ d ih =>
    intro n i q h hn
    obtain ⟨k, rfl⟩ := fuel hn
    have c : ¬ (10 : Int32) ≤ nI i := nle (n := 10) (by omega) (by decide) rfl
    have hin : vp_in (nI i) 16 := vp_in_nI (by omega) (by decide)
    have hc : (nI i).toNatClampNeg = i := nI_clamp (by omega)
    have hs := ih k (i + 1) (sA q 15 (upd (gA q 15) i (gA q 16 i))) (by omega) (by omega)
    rw [fX11_back_2, if_neg c, hc, nI_1]
    refine ⟨⟨fun e => absurd e c, fun _ => ⟨hin, hin, ?_⟩⟩, ?_⟩
    · rw [hc, nI_1]
      exact hs.1
    · rw [hs.2, sA_sA]
      simp only [gI_sI, gI_sL, gI_sA, gI_sB, gL_sI, gL_sL, gL_sA, gL_sB, gA_sI, gA_sL, gA_sA, gA_sB, gB_sI, gB_sL, gB_sA, gB_sB, upd_at, Nat.reduceEqDiff, if_true, if_false, reduceIte]
      rw [cpf_step (by omega)]
theorem m_back (q : SS) : kX11_back q ∧ fX11_back q = fX11_again (sI (sA (sA q 15 (cpf 0 10 (gA q 16) (gA q 15))) 17 (cpf 0 64 (gA q 18) (gA q 17))) 26 0) := by
  have h := m_back_2 10 130 0 q rfl (by decide)
  refine ⟨h.1, ?_⟩
  have h2 := m_back_28 64 130 0 (sA q 15 (cpf 0 10 (gA q 16) (gA q 15))) rfl (by decide)
  rw [show fX11_back q = fX11_back_2 130 q (nI 0) from rfl, h.2]
  refine Eq.trans h2.2 ?_
  simp only [gI_sI, gI_sL, gI_sA, gI_sB, gL_sI, gL_sL, gL_sA, gL_sB, gA_sI, gA_sL, gA_sA, gA_sB, gB_sI, gB_sL, gB_sA, gB_sB, upd_at, Nat.reduceEqDiff, if_true, if_false, reduceIte]
theorem x_copy_now_keptv_2 : ∀ (d n i : Nat) (q : SS), i + d = 4 → d < n → kX8_copyFrom_now_keptv_2 n q (nI i) ∧ fX8_copyFrom_now_keptv_2 n q (nI i) = sI (sI (sI (sI (sI (sI (sA q 25 (cpf i 4 (gA q 26) (gA q 25))) 701 (gI q 801)) 702 (gI q 802)) 703 (gI q 803)) 704 (gI q 804)) 705 (gI q 805)) 706 (gI q 806) := by
  intro d
  induction d with
  | zero =>
    intro n i q h hn
    obtain ⟨k, rfl⟩ := fuel hn
    have hi : i = 4 := by omega
    subst hi
    have c : (4 : Int32) ≤ nI 4 := by decide
    refine ⟨⟨fun _ => trivial, fun e => absurd c e⟩, ?_⟩
    rw [fX8_copyFrom_now_keptv_2, if_pos c, cpf_nil, sA_self]
  | succ d ih =>
    intro n i q h hn
    obtain ⟨k, rfl⟩ := fuel hn
    have c : ¬ (4 : Int32) ≤ nI i := nle (n := 4) (by omega) (by decide) rfl
    have hin : vp_in (nI i) 4 := vp_in_nI (by omega) (by decide)
    have hc : (nI i).toNatClampNeg = i := nI_clamp (by omega)
    have hs := ih k (i + 1) (sA q 25 (upd (gA q 25) i (gA q 26 i))) (by omega) (by omega)
    rw [fX8_copyFrom_now_keptv_2, if_neg c, hc, nI_1]
    refine ⟨⟨fun e => absurd e c, fun _ => ⟨hin, hin, ?_⟩⟩, ?_⟩
    · rw [hc, nI_1]
      exact hs.1
    · rw [hs.2, sA_sA]
      simp only [gI_sI, gI_sL, gI_sA, gI_sB, gL_sI, gL_sL, gL_sA, gL_sB, gA_sI, gA_sL, gA_sA, gA_sB, gB_sI, gB_sL, gB_sA, gB_sB, upd_at, Nat.reduceEqDiff, if_true, if_false, reduceIte]
      rw [cpf_step (by omega)]
theorem x_copy_now_keptv (q : SS) : kX8_copyFrom_now_keptv q ∧ fX8_copyFrom_now_keptv q = sI (sI (sI (sI (sI (sI (sA q 25 (cpf 0 4 (gA q 26) (gA q 25))) 701 (gI q 801)) 702 (gI q 802)) 703 (gI q 803)) 704 (gI q 804)) 705 (gI q 805)) 706 (gI q 806) :=
  x_copy_now_keptv_2 4 10 0 q rfl (by decide)
theorem x_copy_keptv_now_2 : ∀ (d n i : Nat) (q : SS), i + d = 4 → d < n → kX8_copyFrom_keptv_now_2 n q (nI i) ∧ fX8_copyFrom_keptv_now_2 n q (nI i) = sI (sI (sI (sI (sI (sI (sA q 26 (cpf i 4 (gA q 25) (gA q 26))) 801 (gI q 701)) 802 (gI q 702)) 803 (gI q 703)) 804 (gI q 704)) 805 (gI q 705)) 806 (gI q 706) := by
  intro d
  induction d with
  | zero =>
    intro n i q h hn
    obtain ⟨k, rfl⟩ := fuel hn
    have hi : i = 4 := by omega
    subst hi
    have c : (4 : Int32) ≤ nI 4 := by decide
    refine ⟨⟨fun _ => trivial, fun e => absurd c e⟩, ?_⟩
    rw [fX8_copyFrom_keptv_now_2, if_pos c, cpf_nil, sA_self]
  | succ d ih =>
    intro n i q h hn
    obtain ⟨k, rfl⟩ := fuel hn
    have c : ¬ (4 : Int32) ≤ nI i := nle (n := 4) (by omega) (by decide) rfl
    have hin : vp_in (nI i) 4 := vp_in_nI (by omega) (by decide)
    have hc : (nI i).toNatClampNeg = i := nI_clamp (by omega)
    have hs := ih k (i + 1) (sA q 26 (upd (gA q 26) i (gA q 25 i))) (by omega) (by omega)
    rw [fX8_copyFrom_keptv_now_2, if_neg c, hc, nI_1]
    refine ⟨⟨fun e => absurd e c, fun _ => ⟨hin, hin, ?_⟩⟩, ?_⟩
    · rw [hc, nI_1]
      exact hs.1
    · rw [hs.2, sA_sA]
      simp only [gI_sI, gI_sL, gI_sA, gI_sB, gL_sI, gL_sL, gL_sA, gL_sB, gA_sI, gA_sL, gA_sA, gA_sB, gB_sI, gB_sL, gB_sA, gB_sB, upd_at, Nat.reduceEqDiff, if_true, if_false, reduceIte]
      rw [cpf_step (by omega)]
theorem x_copy_keptv_now (q : SS) : kX8_copyFrom_keptv_now q ∧ fX8_copyFrom_keptv_now q = sI (sI (sI (sI (sI (sI (sA q 26 (cpf 0 4 (gA q 25) (gA q 26))) 801 (gI q 701)) 802 (gI q 702)) 803 (gI q 703)) 804 (gI q 704)) 805 (gI q 705)) 806 (gI q 706) :=
  x_copy_keptv_now_2 4 10 0 q rfl (by decide)
theorem x_copy_after_keptv_2 : ∀ (d n i : Nat) (q : SS), i + d = 4 → d < n → kX8_copyFrom_after_keptv_2 n q (nI i) ∧ fX8_copyFrom_after_keptv_2 n q (nI i) = sI (sI (sI (sI (sI (sI (sA q 27 (cpf i 4 (gA q 26) (gA q 27))) 1201 (gI q 801)) 1202 (gI q 802)) 1203 (gI q 803)) 1204 (gI q 804)) 1205 (gI q 805)) 1206 (gI q 806) := by
  intro d
  induction d with
  | zero =>
    intro n i q h hn
    obtain ⟨k, rfl⟩ := fuel hn
    have hi : i = 4 := by omega
    subst hi
    have c : (4 : Int32) ≤ nI 4 := by decide
    refine ⟨⟨fun _ => trivial, fun e => absurd c e⟩, ?_⟩
    rw [fX8_copyFrom_after_keptv_2, if_pos c, cpf_nil, sA_self]
  | succ d ih =>
    intro n i q h hn
    obtain ⟨k, rfl⟩ := fuel hn
    have c : ¬ (4 : Int32) ≤ nI i := nle (n := 4) (by omega) (by decide) rfl
    have hin : vp_in (nI i) 4 := vp_in_nI (by omega) (by decide)
    have hc : (nI i).toNatClampNeg = i := nI_clamp (by omega)
    have hs := ih k (i + 1) (sA q 27 (upd (gA q 27) i (gA q 26 i))) (by omega) (by omega)
    rw [fX8_copyFrom_after_keptv_2, if_neg c, hc, nI_1]
    refine ⟨⟨fun e => absurd e c, fun _ => ⟨hin, hin, ?_⟩⟩, ?_⟩
    · rw [hc, nI_1]
      exact hs.1
    · rw [hs.2, sA_sA]
      simp only [gI_sI, gI_sL, gI_sA, gI_sB, gL_sI, gL_sL, gL_sA, gL_sB, gA_sI, gA_sL, gA_sA, gA_sB, gB_sI, gB_sL, gB_sA, gB_sB, upd_at, Nat.reduceEqDiff, if_true, if_false, reduceIte]
      rw [cpf_step (by omega)]
theorem x_copy_after_keptv (q : SS) : kX8_copyFrom_after_keptv q ∧ fX8_copyFrom_after_keptv q = sI (sI (sI (sI (sI (sI (sA q 27 (cpf 0 4 (gA q 26) (gA q 27))) 1201 (gI q 801)) 1202 (gI q 802)) 1203 (gI q 803)) 1204 (gI q 804)) 1205 (gI q 805)) 1206 (gI q 806) :=
  x_copy_after_keptv_2 4 10 0 q rfl (by decide)
