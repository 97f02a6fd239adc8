/-! ===== PURE: what was written, kept and taken back ===== -/
def cnt : Nat → (Nat → Int32) → Nat
  | 0, _ => 0
  | n + 1, f => cnt n f + (if f n = 0 then 0 else 1)
theorem cnt_le (n : Nat) (f : Nat → Int32) : cnt n f ≤ n := by
  induction n with
  | zero => exact Nat.le_refl 0
  | succ n ih =>
    simp only [cnt]
    split <;> omega
theorem cnt_lt {n c : Nat} {f : Nat → Int32} (h : c < n) (h0 : f c = 0) : cnt n f < n := by
  induction n with
  | zero => omega
  | succ n ih =>
    have h1 := cnt_le n f
    simp only [cnt]
    by_cases hc : c = n
    · subst hc
      rw [if_pos h0]
      omega
    · have h2 := ih (by omega)
      split <;> omega
theorem cnt_congr {n : Nat} {f g : Nat → Int32} (h : ∀ c, c < n → (f c = 0 ↔ g c = 0)) : cnt n f = cnt n g := by
  induction n with
  | zero => rfl
  | succ n ih =>
    simp only [cnt]
    rw [ih (fun c hc => h c (by omega))]
    have h1 := h n (by omega)
    by_cases h2 : f n = 0
    · rw [if_pos h2, if_pos (h1.mp h2)]
    · rw [if_neg h2, if_neg (fun z => h2 (h1.mpr z))]
theorem cnt_zero {n : Nat} {f : Nat → Int32} (h : ∀ c, c < n → f c = 0) : cnt n f = 0 := by
  induction n with
  | zero => rfl
  | succ n ih =>
    simp only [cnt]
    rw [ih (fun c hc => h c (by omega)), if_pos (h n (by omega))]
theorem cnt_upd {n c : Nat} {f : Nat → Int32} {v : Int32} (h : c < n) (h0 : f c = 0) (hv : ¬ v = 0) : cnt n (upd f c v) = cnt n f + 1 := by
  induction n with
  | zero => omega
  | succ n ih =>
    simp only [cnt]
    by_cases hc : c = n
    · subst hc
      rw [cnt_congr (g := f) (fun j hj => by rw [upd_at, if_neg (by omega)]), upd_at, if_pos rfl, if_neg hv, if_pos h0]
    · have e : upd f c v n = f n := by
        rw [upd_at, if_neg (fun z => hc z.symm)]
      rw [ih (by omega), e]
      omega
def MI (x : SS) : Prop := ∃ w, w ≤ 64 ∧ gI x 305 = nI w ∧ w = cnt 64 (gA x 20) ∧ (∀ i, i < w → ∃ c, c < 64 ∧ gA x 19 i = nI c) ∧ (∀ c, c < 64 → (gA x 20 c = 0 ∧ gA x 16 c = gA x 17 c) ∨ (gA x 20 c = 1 ∧ ∃ i, i < w ∧ gA x 19 i = nI c))
theorem MI.congr {x y : SS} (h : MI x) (e1 : gI y 305 = gI x 305) (e2 : gA y 16 = gA x 16) (e3 : gA y 17 = gA x 17) (e4 : gA y 19 = gA x 19) (e5 : gA y 20 = gA x 20) : MI y := by
  unfold MI
  rw [e1, e2, e3, e4, e5]
  exact h
theorem x_takeBack_2 : ∀ (d n i : Nat) (q : SS) (w : Nat), gI q 305 = nI w → w ≤ 64 → i + d = w → d < n → (∀ j, j < w → ∃ c, c < 64 ∧ gA q 19 j = nI c) → kX5_takeBack_2 n q (nI i) ∧ ∃ F G : Nat → Int32, fX5_takeBack_2 n q (nI i) = sI (sA (sA q 16 F) 20 G) 305 0 ∧ (∀ c, (F c = gA q 16 c ∧ G c = gA q 20 c) ∨ (F c = gA q 17 c ∧ G c = 0 ∧ c < 64)) ∧ (∀ j, i ≤ j → j < w → ∀ c, gA q 19 j = nI c → c < 64 → F c = gA q 17 c ∧ G c = 0) := by
  intro d
  induction d with
  | zero =>
    intro n i q w hw h64 h hn hl
    obtain ⟨k, rfl⟩ := fuel hn
    have hi : i = w := by omega
    subst hi
    have c : gI q 305 ≤ nI i := by
      rw [hw, nI_leI (by omega) (by omega)]
      omega
    refine ⟨⟨fun _ => trivial, fun e => absurd c e⟩, gA q 16, gA q 20, ?_, ?_, ?_⟩
    · rw [fX5_takeBack_2, if_pos c, sA_self, sA_self]
    · intro c
      exact Or.inl ⟨rfl, rfl⟩
    · intro j h1 h2
      omega
  | succ d ih =>
    intro n i q w hw h64 h hn hl
    obtain ⟨k, rfl⟩ := fuel hn
    have c : ¬ gI q 305 ≤ nI i := nle (n := w) (by omega) (by omega) hw
    obtain ⟨c0, hc0, e0⟩ := hl i (by omega)
    have hin : vp_in (nI i) 64 := vp_in_nI (by omega) (by decide)
    have hc : (nI i).toNatClampNeg = i := nI_clamp (by omega)
    have ha : nI c0 &&& 63 = nI c0 := by
      rw [pk_andN (by omega) 6 (by decide), Nat.mod_eq_of_lt (by omega)]
    have hin0 : vp_in (nI c0) 64 := vp_in_nI (by omega) (by decide)
    have hcc : (nI c0).toNatClampNeg = c0 := nI_clamp (by omega)
    have hs := ih k (i + 1) (sA (sA q 16 (upd (gA q 16) c0 (gA q 17 c0))) 20 (upd (gA q 20) c0 0)) w hw h64 (by omega) (by omega) hl
    obtain ⟨hk, F, G, hf, h1, h2⟩ := hs
    have hst : sA (sA q 16 (upd (gA q 16) ((gA q 19 (nI i).toNatClampNeg) &&& 63).toNatClampNeg (gA q 17 ((gA q 19 (nI i).toNatClampNeg) &&& 63).toNatClampNeg))) 20 (upd (gA q 20) ((gA q 19 (nI i).toNatClampNeg) &&& 63).toNatClampNeg (vp_nar .boolean 0)) = sA (sA q 16 (upd (gA q 16) c0 (gA q 17 c0))) 20 (upd (gA q 20) c0 0) := by
      rw [hc, e0, ha, hcc, tvb0]
    refine ⟨⟨fun e => absurd e c, fun _ => ⟨hin, ?_, ?_, ?_, ?_⟩⟩, F, G, ?_, ?_, ?_⟩
    · rw [hc, e0, ha]
      exact hin0
    · rw [hc, e0, ha]
      exact hin0
    · rw [hc, e0, ha]
      exact hin0
    · rw [hst, nI_1]
      exact hk
    · rw [fX5_takeBack_2, if_neg c, hst, nI_1, hf]
      rw [sA_com (sA q 16 (upd (gA q 16) c0 (gA q 17 c0))) (k := 20) (j := 16) (by decide), sA_sA, sA_sA]
    · intro c
      rcases h1 c with ⟨a, b⟩ | ⟨a, b, b2⟩
      · simp only [gI_sI, gI_sL, gI_sA, gI_sB, gL_sI, gL_sL, gL_sA, gL_sB, gA_sI, gA_sL, gA_sA, gA_sB, gB_sI, gB_sL, gB_sA, gB_sB, upd_at, Nat.reduceEqDiff, if_true, if_false, reduceIte] at a b
        by_cases hcq : c = c0
        · rw [if_pos hcq] at a b
          exact Or.inr ⟨by rw [a, hcq], b, by omega⟩
        · rw [if_neg hcq] at a b
          exact Or.inl ⟨a, b⟩
      · exact Or.inr ⟨a, b, b2⟩
    · intro j h3 h4 c h5 h6
      by_cases hj : i + 1 ≤ j
      · exact h2 j hj h4 c h5 h6
      · have hji : j = i := by omega
        have hcc0 : c = c0 := by
          rw [hji, e0] at h5
          exact ((nI_eq (by omega) (by omega)).mp h5).symm
        rcases h1 c with ⟨a, b⟩ | ⟨a, b, b2⟩
        · simp only [gI_sI, gI_sL, gI_sA, gI_sB, gL_sI, gL_sL, gL_sA, gL_sB, gA_sI, gA_sL, gA_sA, gA_sB, gB_sI, gB_sL, gB_sA, gB_sB, upd_at, Nat.reduceEqDiff, if_true, if_false, reduceIte] at a b
          rw [if_pos hcc0] at a b
          exact ⟨by rw [a, hcc0], b⟩
        · exact ⟨a, b⟩
theorem x_takeBack {q : SS} (h : MI q) : kX5_takeBack q ∧ fX5_takeBack q = sI (sA (sA q 16 (cpf 0 64 (gA q 17) (gA q 16))) 20 (cpf 0 64 (fun _ => 0) (gA q 20))) 305 0 := by
  obtain ⟨w, h1, h2, h3, h4, h5⟩ := h
  obtain ⟨hk, F, G, hf, g1, g2⟩ := x_takeBack_2 w 70 0 q w h2 h1 (by omega) (by omega) h4
  refine ⟨hk, ?_⟩
  have hF : F = cpf 0 64 (gA q 17) (gA q 16) ∧ G = cpf 0 64 (fun _ => 0) (gA q 20) := by
    constructor
    · funext c
      by_cases hc : c < 64
      · rw [cpf_at 64 _ _ hc]
        rcases h5 c hc with ⟨a, b⟩ | ⟨a, i, hi, b⟩
        · rcases g1 c with ⟨a1, _⟩ | ⟨a1, _⟩
          · rw [a1]
            exact b
          · exact a1
        · exact (g2 i (by omega) hi c b hc).1
      · rw [cpf_out 64 _ _ hc]
        rcases g1 c with ⟨a1, _⟩ | ⟨a1, _, h9⟩
        · exact a1
        · exact absurd h9 hc
    · funext c
      by_cases hc : c < 64
      · rw [cpf_at 64 _ _ hc]
        rcases h5 c hc with ⟨a, b⟩ | ⟨a, i, hi, b⟩
        · rcases g1 c with ⟨_, a1⟩ | ⟨_, a1, _⟩
          · rw [a1]
            exact a
          · exact a1
        · exact (g2 i (by omega) hi c b hc).2
      · rw [cpf_out 64 _ _ hc]
        rcases g1 c with ⟨_, a1⟩ | ⟨_, _, h9⟩
        · exact a1
        · exact absurd h9 hc
  rw [show fX5_takeBack q = fX5_takeBack_2 70 q (nI 0) from rfl, hf, hF.1, hF.2]
theorem MI_takeBack (q : SS) : MI (sI (sA (sA q 16 (cpf 0 64 (gA q 17) (gA q 16))) 20 (cpf 0 64 (fun _ => 0) (gA q 20))) 305 0) := by
  refine ⟨0, by decide, rfl, ?_, ?_, ?_⟩
  · simp only [gI_sI, gI_sL, gI_sA, gI_sB, gL_sI, gL_sL, gL_sA, gL_sB, gA_sI, gA_sL, gA_sA, gA_sB, gB_sI, gB_sL, gB_sA, gB_sB, upd_at, Nat.reduceEqDiff, if_true, if_false, reduceIte]
    exact (cnt_zero (fun c hc => cpf_at 64 _ _ hc)).symm
  · intro i hi
    omega
  · intro c hc
    simp only [gI_sI, gI_sL, gI_sA, gI_sB, gL_sI, gL_sL, gL_sA, gL_sB, gA_sI, gA_sL, gA_sA, gA_sB, gB_sI, gB_sL, gB_sA, gB_sB, upd_at, Nat.reduceEqDiff, if_true, if_false, reduceIte]
    refine Or.inl ⟨cpf_at 64 _ _ hc, ?_⟩
    rw [cpf_at 64 _ _ hc]
theorem x_keep_2 : ∀ (d n i : Nat) (q : SS) (w : Nat), gI q 305 = nI w → w ≤ 64 → i + d = w → d < n → (∀ j, j < w → ∃ c, c < 64 ∧ gA q 19 j = nI c) → kX5_keep_2 n q (nI i) ∧ ∃ F G : Nat → Int32, fX5_keep_2 n q (nI i) = sI (sA (sA q 17 F) 20 G) 305 0 ∧ (∀ c, (F c = gA q 17 c ∧ G c = gA q 20 c) ∨ (F c = gA q 16 c ∧ G c = 0 ∧ c < 64)) ∧ (∀ j, i ≤ j → j < w → ∀ c, gA q 19 j = nI c → c < 64 → F c = gA q 16 c ∧ G c = 0) := by
  intro d
  induction d with
  | zero =>
    intro n i q w hw h64 h hn hl
    obtain ⟨k, rfl⟩ := fuel hn
    have hi : i = w := by omega
    subst hi
    have c : gI q 305 ≤ nI i := by
      rw [hw, nI_leI (by omega) (by omega)]
      omega
    refine ⟨⟨fun _ => trivial, fun e => absurd c e⟩, gA q 17, gA q 20, ?_, ?_, ?_⟩
    · rw [fX5_keep_2, if_pos c, sA_self, sA_self]
    · intro c
      exact Or.inl ⟨rfl, rfl⟩
    · intro j h1 h2
      omega
  | succ d ih =>
    intro n i q w hw h64 h hn hl
    obtain ⟨k, rfl⟩ := fuel hn
    have c : ¬ gI q 305 ≤ nI i := nle (n := w) (by omega) (by omega) hw
    obtain ⟨c0, hc0, e0⟩ := hl i (by omega)
    have hin : vp_in (nI i) 64 := vp_in_nI (by omega) (by decide)
    have hc : (nI i).toNatClampNeg = i := nI_clamp (by omega)
    have ha : nI c0 &&& 63 = nI c0 := by
      rw [pk_andN (by omega) 6 (by decide), Nat.mod_eq_of_lt (by omega)]
    have hin0 : vp_in (nI c0) 64 := vp_in_nI (by omega) (by decide)
    have hcc : (nI c0).toNatClampNeg = c0 := nI_clamp (by omega)
    have hs := ih k (i + 1) (sA (sA q 17 (upd (gA q 17) c0 (gA q 16 c0))) 20 (upd (gA q 20) c0 0)) w hw h64 (by omega) (by omega) hl
    obtain ⟨hk, F, G, hf, h1, h2⟩ := hs
    have hst : sA (sA q 17 (upd (gA q 17) ((gA q 19 (nI i).toNatClampNeg) &&& 63).toNatClampNeg (gA q 16 ((gA q 19 (nI i).toNatClampNeg) &&& 63).toNatClampNeg))) 20 (upd (gA q 20) ((gA q 19 (nI i).toNatClampNeg) &&& 63).toNatClampNeg (vp_nar .boolean 0)) = sA (sA q 17 (upd (gA q 17) c0 (gA q 16 c0))) 20 (upd (gA q 20) c0 0) := by
      rw [hc, e0, ha, hcc, tvb0]
    refine ⟨⟨fun e => absurd e c, fun _ => ⟨hin, ?_, ?_, ?_, ?_⟩⟩, F, G, ?_, ?_, ?_⟩
    · rw [hc, e0, ha]
      exact hin0
    · rw [hc, e0, ha]
      exact hin0
    · rw [hc, e0, ha]
      exact hin0
    · rw [hst, nI_1]
      exact hk
    · rw [fX5_keep_2, if_neg c, hst, nI_1, hf]
      rw [sA_com (sA q 17 (upd (gA q 17) c0 (gA q 16 c0))) (k := 20) (j := 17) (by decide), sA_sA, sA_sA]
    · intro c
      rcases h1 c with ⟨a, b⟩ | ⟨a, b, b2⟩
      · simp only [gI_sI, gI_sL, gI_sA, gI_sB, gL_sI, gL_sL, gL_sA, gL_sB, gA_sI, gA_sL, gA_sA, gA_sB, gB_sI, gB_sL, gB_sA, gB_sB, upd_at, Nat.reduceEqDiff, if_true, if_false, reduceIte] at a b
        by_cases hcq : c = c0
        · rw [if_pos hcq] at a b
          exact Or.inr ⟨by rw [a, hcq], b, by omega⟩
        · rw [if_neg hcq] at a b
          exact Or.inl ⟨a, b⟩
      · exact Or.inr ⟨a, b, b2⟩
    · intro j h3 h4 c h5 h6
      by_cases hj : i + 1 ≤ j
      · exact h2 j hj h4 c h5 h6
      · have hji : j = i := by omega
        have hcc0 : c = c0 := by
          rw [hji, e0] at h5
          exact ((nI_eq (by omega) (by omega)).mp h5).symm
        rcases h1 c with ⟨a, b⟩ | ⟨a, b, b2⟩
        · simp only [gI_sI, gI_sL, gI_sA, gI_sB, gL_sI, gL_sL, gL_sA, gL_sB, gA_sI, gA_sL, gA_sA, gA_sB, gB_sI, gB_sL, gB_sA, gB_sB, upd_at, Nat.reduceEqDiff, if_true, if_false, reduceIte] at a b
          rw [if_pos hcc0] at a b
          exact ⟨by rw [a, hcc0], b⟩
        · exact ⟨a, b⟩
theorem x_keep {q : SS} (h : MI q) : kX5_keep q ∧ fX5_keep q = sI (sA (sA q 17 (cpf 0 64 (gA q 16) (gA q 17))) 20 (cpf 0 64 (fun _ => 0) (gA q 20))) 305 0 := by
  obtain ⟨w, h1, h2, h3, h4, h5⟩ := h
  obtain ⟨hk, F, G, hf, g1, g2⟩ := x_keep_2 w 70 0 q w h2 h1 (by omega) (by omega) h4
  refine ⟨hk, ?_⟩
  have hF : F = cpf 0 64 (gA q 16) (gA q 17) ∧ G = cpf 0 64 (fun _ => 0) (gA q 20) := by
    constructor
    · funext c
      by_cases hc : c < 64
      · rw [cpf_at 64 _ _ hc]
        rcases h5 c hc with ⟨a, b⟩ | ⟨a, i, hi, b⟩
        · rcases g1 c with ⟨a1, _⟩ | ⟨a1, _⟩
          · rw [a1]
            exact b.symm
          · exact a1
        · exact (g2 i (by omega) hi c b hc).1
      · rw [cpf_out 64 _ _ hc]
        rcases g1 c with ⟨a1, _⟩ | ⟨a1, _, h9⟩
        · exact a1
        · exact absurd h9 hc
    · funext c
      by_cases hc : c < 64
      · rw [cpf_at 64 _ _ hc]
        rcases h5 c hc with ⟨a, b⟩ | ⟨a, i, hi, b⟩
        · rcases g1 c with ⟨_, a1⟩ | ⟨_, a1, _⟩
          · rw [a1]
            exact a
          · exact a1
        · exact (g2 i (by omega) hi c b hc).2
      · rw [cpf_out 64 _ _ hc]
        rcases g1 c with ⟨_, a1⟩ | ⟨_, _, h9⟩
        · exact a1
        · exact absurd h9 hc
  rw [show fX5_keep q = fX5_keep_2 70 q (nI 0) from rfl, hf, hF.1, hF.2]
theorem MI_keep (q : SS) : MI (sI (sA (sA q 17 (cpf 0 64 (gA q 16) (gA q 17))) 20 (cpf 0 64 (fun _ => 0) (gA q 20))) 305 0) := by
  refine ⟨0, by decide, rfl, ?_, ?_, ?_⟩
  · simp only [gI_sI, gI_sL, gI_sA, gI_sB, gL_sI, gL_sL, gL_sA, gL_sB, gA_sI, gA_sL, gA_sA, gA_sB, gB_sI, gB_sL, gB_sA, gB_sB, upd_at, Nat.reduceEqDiff, if_true, if_false, reduceIte]
    exact (cnt_zero (fun c hc => cpf_at 64 _ _ hc)).symm
  · intro i hi
    omega
  · intro c hc
    simp only [gI_sI, gI_sL, gI_sA, gI_sB, gL_sI, gL_sL, gL_sA, gL_sB, gA_sI, gA_sL, gA_sA, gA_sB, gB_sI, gB_sL, gB_sA, gB_sB, upd_at, Nat.reduceEqDiff, if_true, if_false, reduceIte]
    refine Or.inl ⟨cpf_at 64 _ _ hc, ?_⟩
    rw [cpf_at 64 _ _ hc]
