/-! ===== PURE: shares, means, soundness ===== -/
theorem n32_of {x : UInt32} (h : FP.Core.fIsNaN x = false) : vf_n32 x := by
  have h2 : ¬ 2139095040 < x.toNat % 2 ^ 31 := fun z => by
    rw [(FP.Core.isNaN_bits32 x).mpr z] at h
    cases h
  show x &&& 0x7fffffff ≤ 0x7f800000
  rw [UInt32.le_iff_toNat_le, UInt32.toNat_and]
  have e : (0x7fffffff : UInt32).toNat = 2 ^ 31 - 1 := by decide
  have e2 : (0x7f800000 : UInt32).toNat = 2139095040 := by decide
  rw [e, e2, Nat.and_two_pow_sub_one_eq_mod]
  omega
theorem n64_of {x : UInt64} (h : FP.Core.dIsNaN x = false) : vf_n64 x := by
  have h2 : ¬ 9218868437227405312 < x.toNat % 2 ^ 63 := fun z => by
    rw [(FP.Core.isNaN_bits x).mpr z] at h
    cases h
  show x &&& 0x7fffffffffffffff ≤ 0x7ff0000000000000
  rw [UInt64.le_iff_toNat_le, UInt64.toNat_and]
  have e : (0x7fffffffffffffff : UInt64).toNat = 2 ^ 63 - 1 := by decide
  have e2 : (0x7ff0000000000000 : UInt64).toNat = 9218868437227405312 := by decide
  rw [e, e2, Nat.and_two_pow_sub_one_eq_mod]
  omega
theorem fin_n32 {x : UInt32} (h : FP.Core.FFin x) : FP.Core.fIsNaN x = false := by
  refine Bool.eq_false_iff.mpr (fun z => ?_)
  have h1 := (FP.Core.isNaN_bits32 _).mp z
  have h2 := (FP.Core.fin_bits32 _).mp h
  omega
theorem fin_n64 {x : UInt64} (h : FP.Core.DFin x) : FP.Core.dIsNaN x = false := by
  refine Bool.eq_false_iff.mpr (fun z => ?_)
  have h1 := (FP.Core.isNaN_bits _).mp z
  have h2 := (FP.Core.fin_bits _).mp h
  omega
theorem share_n (a : Int64) {b : Int64} (hb : ¬ b = 0) : vf_n32 (FP.fdiv (FP.l2f a) (FP.l2f b)) := by
  refine n32_of (FP.Core.fdiv_out (fin_n32 (FP.Core.l2f_fin a)) (FP.Core.l2f_fin b) ?_)
  intro z
  exact FP.Core.l2f_ne_zero hb ((FP.Core.zero_bits232 _).mp z)
theorem mean_n (a : Int64) {b : Int32} (hb : ¬ b = 0) : vf_n64 (FP.ddiv (FP.l2d a) (FP.i2d b)) := by
  refine n64_of (FP.Core.ddiv_out (fin_n64 (FP.Core.l2d_fin a)) (FP.Core.i2d_fin b) ?_)
  intro z
  exact FP.Core.i2d_ne_zero hb ((FP.Core.zero_bits2 _).mp z)
def okG {α : Type} (c : Int) (tab : List Nat) (F : (Nat × SS) ⊕ (α × SS)) (b : α) (m : SS) : Prop := match F with
  | .inl u => (∃ i : Nat, tab[i]? = some u.1 ∧ gI m 0 = nI (i + 1)) ∧ R c u.2 m
  | .inr u => gI m 0 = 0 ∧ u.1 = b ∧ R c u.2 m
theorem op_usedShare {c : Int} {x m : SS} (h : R c x m) : kX11_usedShare m ∧ kX10_usedShare x ∧ okG c [5] (fX10_usedShare x) (fX11_usedShare m).1 (fX11_usedShare m).2 := by
  have s1 : gL x 408 = gL m 21 := h.2.2.2.2.2.2.2.2.2.2.2.1.1
  have s2 : gL x 409 = gL m 22 := h.2.2.2.2.2.2.2.2.2.2.2.1.2.1
  have z1 : ¬ (1 : Int32) = 0 := by decide
  by_cases h0 : lg_cmp (gL m 21) 0 = 0
  · have h0x : lg_cmp (gL x 408) 0 = 0 := by
      rw [s1]
      exact h0
    refine ⟨⟨fun _ => ⟨fun e => absurd e z1, fun _ => trivial⟩, fun e => absurd h0 e⟩, ⟨fun _ => trivial, fun e => absurd h0x e⟩, ?_⟩
    rw [fX10_usedShare, if_pos h0x, fX11_usedShare, if_pos h0, fX11_usedShare_15, if_neg z1]
    exact ⟨⟨0, rfl, rfl⟩, R_m0 h 1⟩
  · have h0x : ¬ lg_cmp (gL x 408) 0 = 0 := by
      rw [s1]
      exact h0
    have hb : ¬ gL m 21 = 0 := fun e => h0 (by rw [e]; exact (lg_cmp_eq _ _).mpr rfl)
    have hn := share_n (gL m 22) hb
    refine ⟨⟨fun e => absurd e h0, fun _ => ⟨fun _ => ⟨hn, trivial⟩, fun e => absurd rfl e⟩⟩, ⟨fun e => absurd e h0x, fun _ => ⟨?_, trivial⟩⟩, ?_⟩
    · rw [s1, s2]
      exact hn
    · rw [fX10_usedShare, if_neg h0x, fX11_usedShare, if_neg h0, fX11_usedShare_15, if_pos rfl, s1, s2]
      exact ⟨rfl, rfl, R_m0 h 0⟩
theorem op_meanCycles {c : Int} {x m : SS} (h : R c x m) : kX11_meanCycles m ∧ kX10_meanCycles x ∧ okG c [5] (fX10_meanCycles x) (fX11_meanCycles m).1 (fX11_meanCycles m).2 := by
  have c1 : gI x 401 = gI m 10 := h.2.2.2.2.2.2.2.2.2.2.1.1
  have s2 : gL x 409 = gL m 22 := h.2.2.2.2.2.2.2.2.2.2.2.1.2.1
  have z1 : ¬ (1 : Int32) = 0 := by decide
  by_cases h0 : gI m 10 = 0
  · have h0x := c1.trans h0
    refine ⟨⟨fun _ => ⟨fun e => absurd e z1, fun _ => trivial⟩, fun e => absurd h0 e⟩, ⟨fun _ => trivial, fun e => absurd h0x e⟩, ?_⟩
    rw [fX10_meanCycles, if_pos h0x, fX11_meanCycles, if_pos h0, fX11_meanCycles_13, if_neg z1]
    exact ⟨⟨0, rfl, rfl⟩, R_m0 h 1⟩
  · have h0x : ¬ gI x 401 = 0 := fun e => h0 (c1.symm.trans e)
    have hn := mean_n (gL m 22) h0
    refine ⟨⟨fun e => absurd e h0, fun _ => ⟨fun _ => ⟨hn, trivial⟩, fun e => absurd rfl e⟩⟩, ⟨fun e => absurd e h0x, fun _ => ⟨?_, trivial⟩⟩, ?_⟩
    · rw [c1, s2]
      exact hn
    · rw [fX10_meanCycles, if_neg h0x, fX11_meanCycles, if_neg h0, fX11_meanCycles_13, if_pos rfl, c1, s2]
      exact ⟨rfl, rfl, R_m0 h 0⟩
theorem io_in (q : SS) {v b : Int32} {n : Int} (hb : b.toInt = n) (h : rg 0 (n - 1) v) : fX10_isOutside q v b = (0, q) := by
  rw [xf_isOutside, hb, if_pos h]
theorem sp_2 {x : SS} (hr : ∀ r, r < 4 → rg 0 255 (gA x 25 r)) (h45 : kX6_hasSoundParts_45 x 0 ∧ fX6_hasSoundParts_45 x 0 = (1, x)) (hp : rg 0 63 (gI x 701)) : ∀ (d n i : Nat), i + d = 4 → d < n → kX6_hasSoundParts_2 n x (nI i) ∧ fX6_hasSoundParts_2 n x (nI i) = (1, x) := by
  have e64 : fX10_isOutside x (gI x 701) 64 = (0, x) := io_in x (n := 64) tl_64 hp
  intro d
  induction d with
  | zero =>
    intro n i h hn
    obtain ⟨k, rfl⟩ := fuel hn
    have hi : i = 4 := by omega
    subst hi
    have c : (4 : Int32) ≤ nI 4 := by decide
    refine ⟨⟨fun _ => ⟨(xk_isOutside _ _ _).mpr trivial, ?_⟩, fun e => absurd c e⟩, ?_⟩
    · rw [e64]
      exact h45.1
    · rw [fX6_hasSoundParts_2, if_pos c, e64]
      exact h45.2
  | succ d ih =>
    intro n i h hn
    obtain ⟨k, rfl⟩ := fuel hn
    have c : ¬ (4 : Int32) ≤ nI i := nle (n := 4) (by omega) (by decide) rfl
    have hin : vp_in (nI i) 4 := vp_in_nI (by omega) (by decide)
    have hc : (nI i).toNatClampNeg = i := nI_clamp (by omega)
    have er : fX10_isOutside x (gA x 25 i) 256 = (0, x) := io_in x (n := 256) tl_256 (hr i (by omega))
    obtain ⟨j1, j2⟩ := ih k (i + 1) (by omega) (by omega)
    refine ⟨⟨fun e => absurd e c, fun _ => ⟨hin, (xk_isOutside _ _ _).mpr trivial, ?_⟩⟩, ?_⟩
    · rw [hc, er]
      refine ⟨fun _ => ?_, fun e => absurd rfl e⟩
      rw [nI_1]
      exact j1
    · rw [fX6_hasSoundParts_2, if_neg c, hc, er, fX6_hasSoundParts_22, if_pos rfl, nI_1]
      exact j2
theorem sp_R {c : Int} {x m : SS} (h : R c x m) : kX6_hasSoundParts x ∧ fX6_hasSoundParts x = (1, x) := by
  have hP := h.2.2.2.1
  have hQ := h.2.2.2.2.1
  obtain ⟨p0, p1, p2, p3, p4, p5, p6, p7, p8, p9, p10, p11, p12⟩ := hP
  obtain ⟨⟨v0, v4, v5, v6, v7, v8, v9⟩, q10, q11, q12, q13, q14, q15⟩ := hQ
  have z1 : ¬ (1 : Int32) = 0 := by decide
  have a1 : fX10_isOutside x (gI x 902) 64 = (0, x) := io_in x (n := 64) tl_64 (by rw [p9]; exact q12)
  have a2 : fX10_isOutside x (gI x 702) 64 = (0, x) := io_in x (n := 64) tl_64 (by rw [p2]; exact v9)
  have a3 : fX10_isOutside x (gI x 900) 256 = (0, x) := io_in x (n := 256) tl_256 (by rw [p7]; exact q10)
  have a4 : fX10_isOutside x (gI x 901) 256 = (0, x) := io_in x (n := 256) tl_256 (by rw [p8]; exact q11)
  have a5 : fX10_isOutside x (gI x 903) 256 = (0, x) := io_in x (n := 256) tl_256 (by rw [p10]; exact q13)
  have a6 : fX10_isOutside x (gI x 904) 256 = (0, x) := io_in x (n := 256) tl_256 (by rw [p11]; exact q14)
  have h45 : kX6_hasSoundParts_45 x 0 ∧ fX6_hasSoundParts_45 x 0 = (1, x) := by
    simp +decide only [fX6_hasSoundParts_167, kX6_hasSoundParts_167, fX6_hasSoundParts_166, kX6_hasSoundParts_166, fX6_hasSoundParts_153, kX6_hasSoundParts_153, fX6_hasSoundParts_152, kX6_hasSoundParts_152, fX6_hasSoundParts_145, kX6_hasSoundParts_145, fX6_hasSoundParts_129, kX6_hasSoundParts_129, fX6_hasSoundParts_113, kX6_hasSoundParts_113, fX6_hasSoundParts_97, kX6_hasSoundParts_97, fX6_hasSoundParts_83, kX6_hasSoundParts_83, fX6_hasSoundParts_82, kX6_hasSoundParts_82, fX6_hasSoundParts_75, kX6_hasSoundParts_75, fX6_hasSoundParts_60, kX6_hasSoundParts_60, fX6_hasSoundParts_45, kX6_hasSoundParts_45, fX6_hasSoundParts_22, kX6_hasSoundParts_22, fX6_hasSoundParts, kX6_hasSoundParts, eq_self, Classical.not_not, Sum.inr.injEq, Sum.inl.injEq, forall_eq', forall_eq, reduceCtorEq, implies_true, forall_const, true_and, and_true, and_self, false_implies, true_implies, not_true_eq_false, not_false_eq_true, if_true, if_false, xk_isOutside, a1, a2, a3, a4, a5, a6, nb_1, nb_0]
  exact sp_2 (fun r hr => by rw [p0 r hr]; exact v0 r hr) h45 (by rw [p1]; exact v4) 4 10 0 rfl (by decide)
theorem op_isSound {c : Int} {x m : SS} (h : R c x m) : kX11_isSound m ∧ kX10_isSound x ∧ (fX10_isSound x).1 = (fX11_isSound m).1 ∧ R c (fX10_isSound x).2 (fX11_isSound m).2 := by
  obtain ⟨s1, s2⟩ := sp_R h
  have z1 : ¬ (1 : Int32) = 0 := by decide
  have r3 : gI x 509 = gI m 7 := h.2.2.2.2.2.2.2.1.2.2.1
  have r4 : rg 0 4 (gI m 7) := h.2.2.2.2.2.2.2.1.2.2.2
  have l4 : ¬ 4 < gI x 509 := by
    rw [r3, Int32.lt_iff_toInt_lt, tl_4]
    have := r4.2
    omega
  have hS := h.2.2.2.2.2.2.2.2.2.2.2.1
  have hE := h.2.2.2.2.2.2.2.2.2.2.2.2
  have hlg : ¬ 0 < lg_cmp (gL x 409) (gL x 408) := by
    intro z
    have z2 := (lg_cmp_gt _ _).mp z
    rw [hS.1, hS.2.1, Int64.lt_iff_toInt_lt] at z2
    have := hS.2.2.2.2.1
    omega
  have hk : kX6_isKeptIfNotBegun x ∧ fX6_isKeptIfNotBegun x = (1, x) := by
    have n3 : gI x 511 = gI m 25 := h.2.2.2.2.2.2.2.2.1.2.2.1
    have k26 : kX6_isKeptIfNotBegun_26 x 1 := ⟨nb_1, trivial⟩
    by_cases h25 : gI m 25 = 0
    · have h25x := n3.trans h25
      obtain ⟨ka, w, w1, w2, w3⟩ := x_isAs_keptv x
      have hP := h.2.2.2.1
      have hK := h.2.2.2.2.2.1
      obtain ⟨p0, p1, p2, p3, p4, p5, p6, p7, p8, p9, p10, p11, p12⟩ := hP
      obtain ⟨k0, k1, k2, k3, k4, k5, k6, w0, w4, w5, w6, w7, w8, w9⟩ := hK
      have e := (hE h25).2
      have hw : w = 1 := by
        refine w3.mpr ⟨fun r hr => ?_, ?_, ?_, ?_, ?_, ?_, ?_⟩
        · rw [p0 r hr, k0 r hr, e r (by omega)]
        · rw [p1, k1, e 4 (by decide)]
        · rw [p2, k2, e 9 (by decide)]
        · rw [p3, k3, e 5 (by decide)]
        · rw [p4, k4, e 6 (by decide)]
        · rw [p5, k5, e 7 (by decide)]
        · rw [p6, k6, e 8 (by decide)]
      subst hw
      refine ⟨⟨fun _ => ⟨ka, ?_⟩, fun e => absurd h25x e⟩, ?_⟩
      · rw [w1]
        exact ⟨fun e => absurd e z1, fun _ => k26⟩
      · rw [fX6_isKeptIfNotBegun, if_pos h25x, w1, fX6_isKeptIfNotBegun_18, if_neg z1]
        rfl
    · have h25x : ¬ gI x 511 = 0 := fun e => h25 (n3.symm.trans e)
      refine ⟨⟨fun e => absurd e h25x, fun _ => k26⟩, ?_⟩
      rw [fX6_isKeptIfNotBegun, if_neg h25x]
      rfl
  have k54 : kX10_isSound_54 x 1 := ⟨nb_1, trivial⟩
  have ef : fX10_isSound x = (1, x) := by
    rw [fX10_isSound, s2, fX10_isSound_7, if_neg z1, if_neg l4, if_neg hlg, hk.2, fX10_isSound_46, if_neg z1, fX10_isSound_54]
  refine ⟨trivial, ⟨s1, ?_⟩, ?_, ?_⟩
  · rw [s2]
    refine ⟨fun e => absurd e z1, fun _ => ⟨fun e => absurd e l4, fun _ => ⟨fun e => absurd e hlg, fun _ => ⟨hk.1, ?_⟩⟩⟩⟩
    rw [hk.2]
    exact ⟨fun e => absurd e z1, fun _ => k54⟩
  · rw [ef]
    rfl
  · rw [ef]
    exact h
