/-! ===== PURE: definitions, the reference's copies ===== -/
def D1 (m : SS) (i j : Nat) : SS := sA (sA m 20 (cpf i 10 (gA m 16) (gA m 20))) 21 (cpf j 64 (gA m 18) (gA m 21))
def kD (q : SS) : Prop := kX11_takes q ∧ kX11_defines_56 (fX11_takes q).2 (fX11_takes q).1
def fD (q : SS) : SS := fX11_defines_56 (fX11_takes q).2 (fX11_takes q).1
theorem m_defines_28 : ∀ (d n i : Nat) (q : SS), i + d = 64 → d < n → (kD (sA q 21 (cpf i 64 (gA q 18) (gA q 21))) → kX11_defines_28 n q (nI i)) ∧ fX11_defines_28 n q (nI i) = fD (sA q 21 (cpf i 64 (gA q 18) (gA q 21))) := by
  intro d
  induction d with
  | zero =>
    intro n i q h hn
    obtain ⟨k, rfl⟩ := fuel hn
    have hi : i = 64 := by omega
    subst hi
    have c : (64 : Int32) ≤ nI 64 := by decide
    rw [cpf_nil, sA_self]
    refine ⟨fun h => ⟨fun _ => h, fun e => absurd c e⟩, ?_⟩
    rw [fX11_defines_28, if_pos c, fD]
  | succ d ih =>
    intro n i q h hn
    obtain ⟨k, rfl⟩ := fuel hn
    have c : ¬ (64 : Int32) ≤ nI i := nle (n := 64) (by omega) (by decide) rfl
    have hin : vp_in (nI i) 64 := vp_in_nI (by omega) (by decide)
    have hc : (nI i).toNatClampNeg = i := nI_clamp (by omega)
    have hs := ih k (i + 1) (sA q 21 (upd (gA q 21) i (gA q 18 i))) (by omega) (by omega)
    rw [sA_sA] at hs
    simp only [gI_sI, gI_sL, gI_sA, gI_sB, gL_sI, gL_sL, gL_sA, gL_sB, gA_sI, gA_sL, gA_sA, gA_sB, gB_sI, gB_sL, gB_sA, gB_sB, upd_at, Nat.reduceEqDiff, if_true, if_false, reduceIte] at hs
    rw [cpf_step (by omega)] at hs
    refine ⟨fun h => ⟨fun e => absurd e c, fun _ => ⟨hin, hin, ?_⟩⟩, ?_⟩
    · rw [hc, nI_1]
      exact hs.1 h
    · rw [fX11_defines_28, if_neg c, hc, nI_1]
      exact hs.2
theorem m_defines_2 : ∀ (d n i : Nat) (q : SS), i + d = 10 → d < n → (kD (D1 q i 0) → kX11_defines_2 n q (nI i)) ∧ fX11_defines_2 n q (nI i) = fD (D1 q i 0) := by
  intro d
  induction d with
  | zero =>
    intro n i q h hn
    obtain ⟨k, rfl⟩ := fuel hn
    have hi : i = 10 := by omega
    subst hi
    have c : (10 : Int32) ≤ nI 10 := by decide
    have e : D1 q 10 0 = sA q 21 (cpf 0 64 (gA q 18) (gA q 21)) := by
      rw [D1, cpf_nil, sA_self]
    have h2 := m_defines_28 64 130 0 q rfl (by decide)
    rw [e]
    refine ⟨fun h => ⟨fun _ => h2.1 h, fun e => absurd c e⟩, ?_⟩
    rw [fX11_defines_2, if_pos c]
    exact h2.2
  | succ d ih =>
    intro n i q h hn
    obtain ⟨k, rfl⟩ := fuel hn
    have c : ¬ (10 : Int32) ≤ nI i := nle (n := 10) (by omega) (by decide) rfl
    have hin : vp_in (nI i) 16 := vp_in_nI (by omega) (by decide)
    have hc : (nI i).toNatClampNeg = i := nI_clamp (by omega)
    have hs := ih k (i + 1) (sA q 20 (upd (gA q 20) i (gA q 16 i))) (by omega) (by omega)
    have e : D1 (sA q 20 (upd (gA q 20) i (gA q 16 i))) (i + 1) 0 = D1 q i 0 := by
      rw [D1, D1, sA_sA]
      simp only [gI_sI, gI_sL, gI_sA, gI_sB, gL_sI, gL_sL, gL_sA, gL_sB, gA_sI, gA_sL, gA_sA, gA_sB, gB_sI, gB_sL, gB_sA, gB_sB, upd_at, Nat.reduceEqDiff, if_true, if_false, reduceIte]
      rw [cpf_step (by omega)]
    rw [e] at hs
    refine ⟨fun h => ⟨fun e => absurd e c, fun _ => ⟨hin, hin, ?_⟩⟩, ?_⟩
    · rw [hc, nI_1]
      exact hs.1 h
    · rw [fX11_defines_2, if_neg c, hc, nI_1]
      exact hs.2
theorem m_defines (q : SS) : (kD (D1 q 0 0) → kX11_defines q) ∧ fX11_defines q = fD (D1 q 0 0) := m_defines_2 10 130 0 q rfl (by decide)
/-- what is told so far, class against reference: what lies behind 27, 1201.. and 20; the cells are the kept ones -/
def eD (y m : SS) : Prop := (∀ r, r < 4 → gA y 27 r = gA m 20 r) ∧ gI y 1201 = gA m 20 4 ∧ gI y 1202 = gA m 20 9 ∧ gI y 1203 = gA m 20 5 ∧ gI y 1204 = gA m 20 6 ∧ gI y 1205 = gA m 20 7 ∧ gI y 1206 = gA m 20 8 ∧ vis (gA m 20) ∧ (∀ c, c < 64 → gA y 17 c = gA m 21 c) ∧ (∀ c, c < 64 → rg 0 255 (gA m 21 c)) ∧ gI y 1105 = -1
theorem copy_D {c : Int} {x m : SS} (h : R c x m) : eD (sI (fX8_copyFrom_after_keptv x) 1105 (-1)) (D1 m 0 0) := by
  rw [(x_copy_after_keptv x).2]
  obtain ⟨hW, hV, hT, hP, hQ, hK, hM, hR, hN, hF, hC, hS, hE⟩ := h
  obtain ⟨k0, k1, k2, k3, k4, k5, k6, w0, w4, w5, w6, w7, w8, w9⟩ := hK
  obtain ⟨mI, m1, m2, m3, m4⟩ := hM
  refine ⟨?_, ?_, ?_, ?_, ?_, ?_, ?_, ⟨?_, w4, w5, w6, w7, w8, w9⟩, ?_, ?_, rfl⟩
  · intro r hr
    show cpf 0 4 (gA x 26) (gA x 27) r = cpf 0 10 (gA m 16) (gA m 20) r
    rw [cpf_at 4 _ _ hr, cpf_at 10 _ _ (by omega)]
    exact k0 r hr
  · exact k1
  · exact k2
  · exact k3
  · exact k4
  · exact k5
  · exact k6
  · intro r hr
    show rg 0 255 (cpf 0 10 (gA m 16) (gA m 20) r)
    rw [cpf_at 10 _ _ (by omega)]
    exact w0 r hr
  · intro k hk
    show gA x 17 k = cpf 0 64 (gA m 18) (gA m 21) k
    rw [cpf_at 64 _ _ hk]
    exact m2 k hk
  · intro k hk
    show rg 0 255 (cpf 0 64 (gA m 18) (gA m 21) k)
    rw [cpf_at 64 _ _ hk]
    exact m4 k hk
