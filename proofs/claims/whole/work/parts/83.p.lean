/-! ===== PURE: the reference's walk over all ways ===== -/
def TB (m : SS) (F G : Nat → Int32) : SS := sA (sA m 51 F) 52 G
abbrev wrd (m : SS) (a : Nat) : Prop := a < 80 ∧ ¬ gA m 10 a = 0
def Rch (m : SS) (f p : Nat) : Prop := ∀ S : Nat → Prop, S (16 * f) → (∀ a s k t : Nat, S (16 * a + s) → s < 16 → wrd m a → k ≤ 8 → t ≤ 80 → wy m a k = nI t → S (16 * t + (s ||| stn m a))) → S p
theorem Rch.base (m : SS) (f : Nat) : Rch m f (16 * f) := fun _ h _ => h
theorem Rch.step {m : SS} {f a s k t : Nat} (h : Rch m f (16 * a + s)) (hs : s < 16) (hw : wrd m a) (hk : k ≤ 8) (ht : t ≤ 80) (e : wy m a k = nI t) : Rch m f (16 * t + (s ||| stn m a)) := fun S h0 h1 => h1 a s k t (h S h0 h1) hs hw hk ht e
def Dn (m : SS) (G : Nat → Int32) (r a s : Nat) : Prop := wrd m a → (∀ k t : Nat, k ≤ 8 → t ≤ 80 → wy m a k = nI t → G (16 * t + (s ||| stn m a)) = 1) ∧ (∀ k, k < 4 → (rdn m a).testBit k = true → s.testBit k = false → r.testBit k = true)
theorem Dn.mono {m : SS} {G G2 : Nat → Int32} {r r2 a s : Nat} (hG : ∀ p, G p = 1 → G2 p = 1) (hr : ∀ k, k < 4 → r.testBit k = true → r2.testBit k = true) (h : Dn m G r a s) : Dn m G2 r2 a s := by
  intro hw
  obtain ⟨h1, h2⟩ := h hw
  exact ⟨fun k t a1 a2 a3 => hG _ (h1 k t a1 a2 a3), fun k a1 a2 a3 => hr k a1 (h2 k a1 a2 a3)⟩
def DI (m : SS) (f : Nat) (F G : Nat → Int32) (z r P : Nat) : Prop :=
  (∀ p, G p = 0 ∨ G p = 1) ∧ (∀ p, G p = 1 → p < 1296 ∧ Rch m f p) ∧ G (16 * f) = 1 ∧ (∀ i, i < z → ∃ p, p < 1296 ∧ F i = nI p ∧ G p = 1) ∧ (r < 16 ∧ ∀ k, k < 4 → r.testBit k = true → ∃ a s : Nat, s < 16 ∧ wrd m a ∧ Rch m f (16 * a + s) ∧ (rdn m a).testBit k = true ∧ s.testBit k = false) ∧ z + P = cnt 1296 G
def CL (m : SS) (F G : Nat → Int32) (z r : Nat) (X : Nat → Prop) : Prop := ∀ p, G p = 1 → (∃ i, i < z ∧ F i = nI p) ∨ Dn m G r (p / 16) (p % 16) ∨ X p
theorem ixn {t u : Nat} (ht : t ≤ 80) (hu : u < 16) : 16 * nI t + nI u = nI (16 * t + u) := by
  have e1 : (nI t).toInt = t := nI_toInt (by omega)
  have e2 : (nI u).toInt = u := nI_toInt (by omega)
  have e3 : (16 * nI t).toInt = 16 * (t : Int) := by
    rw [tmul (by rw [tl_16, e1]; omega) (by rw [tl_16, e1]; omega), tl_16, e1]
  rw [tI, tadd (by rw [e3, e2]; omega) (by rw [e3, e2]; omega), e3, e2, nI_toInt (by omega)]
  omega
theorem dec1 (n : Nat) : nI (n + 1) + (-1) = nI n := by
  rw [← nI_1, Int32.add_assoc, show (1 + -1 : Int32) = 0 by decide, Int32.add_zero]
theorem div16 {p : Nat} (h : p < 1296) : nI p / 16 = nI (p / 16) := by
  rw [tI, tdiv tl_16 (by decide) (by rw [nI_toInt (by omega)]; omega), nI_toInt (by omega), nI_toInt (by omega)]
  omega
theorem mod16 {p : Nat} (h : p < 1296) : nI p - nI p / 16 * 16 = nI (p % 16) := by
  rw [tI, tmod tl_16 (by decide) (by decide) (by rw [nI_toInt (by omega)]; omega), nI_toInt (by omega), nI_toInt (by omega)]
  omega
theorem wy_cases {c : Int} {x m : SS} (h : R c x m) {a k : Nat} (ha : a < 80) (hk : k ≤ 8) : wy m a k = -1 ∨ ∃ t, t ≤ 80 ∧ wy m a k = nI t := by
  have hr := wy_rg h ha hk
  have h1 := hr.1
  have h2 := hr.2
  by_cases e : (wy m a k).toInt = -1
  · left
    rw [tI, e, tl_m1]
  · right
    obtain ⟨t, ht, et⟩ := tof (x := wy m a k) (n := 81) (by omega) (by omega) (by decide)
    exact ⟨t, by omega, et⟩
theorem nI80 {t : Nat} (ht : t ≤ 80) : ¬ nI t = -1 := by
  intro e
  have e2 := tI.mp e
  rw [nI_toInt (by omega), tl_m1] at e2
  omega
theorem w135 {m : SS} (K : SS → Int32 → Int32 → Int32 → Int32 → Int32 × SS) (KK : SS → Int32 → Int32 → Int32 → Int32 → Prop) (F G : Nat → Int32) {a k : Nat} (ha : a < 80) (hk : k ≤ 8) (n : Nat) (v2 v5 v6 v7 v9 : Int32) : (kX11_walks_184 KK (kX11_walks_135 KK n) (TB m F G) v2 v5 v6 v7 (nI a) v9 (nI k) (wy m a k) → kX11_walks_135 KK (n + 1) (TB m F G) v2 v5 v6 v7 (nI a) v9 (nI k)) ∧ fX11_walks_135 K (n + 1) (TB m F G) v2 v5 v6 v7 (nI a) v9 (nI k) = fX11_walks_184 K (fX11_walks_135 K n) (TB m F G) v2 v5 v6 v7 (nI a) v9 (nI k) (wy m a k) := by
  have c9 : ¬ (9 : Int32) ≤ nI k := nle (n := 9) (by omega) (by decide) rfl
  have hin : vp_in (nI a) 80 := vp_in_nI (by omega) (by decide)
  have hc : (nI a).toNatClampNeg = a := nI_clamp (by omega)
  by_cases h8 : k = 8
  · subst h8
    have c8 : nI 8 = (8 : Int32) := rfl
    have g9 : gA (TB m F G) 9 a = gA m 9 a := rfl
    by_cases ho : gA m 9 a = 99
    · have ew : wy m a 8 = flw m (nI (a + 1)) := by
        rw [wy, if_pos rfl, if_pos ho]
      have ef : fX11_follows (TB m F G) (nI a + 1) = (flw m (nI (a + 1)), TB m F G) := by
        rw [mf_follows, nI_1]
        rfl
      have kf : kX11_follows (TB m F G) (nI a + 1) := (mk_follows _ _).mpr trivial
      rw [ew]
      constructor
      · intro hk
        refine ⟨fun e => absurd e c9, fun _ => ⟨fun _ => ⟨hin, ?_⟩, fun e => absurd c8 e⟩⟩
        rw [hc, g9]
        refine ⟨fun _ => ⟨kf, ?_⟩, fun e => absurd ho e⟩
        rw [ef]
        exact ⟨rfl, rfl, hk⟩
      · rw [fX11_walks_135, if_neg c9, if_pos c8, hc, g9, if_pos ho, ef, fX11_walks_169]
    · have ew : wy m a 8 = -1 := by
        rw [wy, if_pos rfl, if_neg ho]
      rw [ew]
      constructor
      · intro hk
        refine ⟨fun e => absurd e c9, fun _ => ⟨fun _ => ⟨hin, ?_⟩, fun e => absurd c8 e⟩⟩
        rw [hc, g9]
        exact ⟨fun e => absurd e ho, fun _ => hk⟩
      · rw [fX11_walks_135, if_neg c9, if_pos c8, hc, g9, if_neg ho]
  · have c8 : ¬ nI k = (8 : Int32) := by
      intro e
      exact h8 ((nI_eq (a := k) (b := 8) (by omega) (by omega)).mp e)
    obtain ⟨kw, fw⟩ := m_way (TB m F G) (a := a) (k := k) ha (by omega)
    have ew : wy (TB m F G) a k = wy m a k := rfl
    rw [ew] at fw
    constructor
    · intro hk
      refine ⟨fun e => absurd e c9, fun _ => ⟨fun e => absurd e c8, fun _ => ⟨kw, ?_⟩⟩⟩
      rw [fw]
      exact ⟨rfl, rfl, hk⟩
    · rw [fX11_walks_135, if_neg c9, if_neg c8, fw]
theorem m_135 {c : Int} {x m : SS} (h : R c x m) (K : SS → Int32 → Int32 → Int32 → Int32 → Int32 × SS) (KK : SS → Int32 → Int32 → Int32 → Int32 → Prop) {f a s : Nat} (hw : wrd m a) (hs : s < 16) (v2 v7 : Int32) {r P : Nat} : ∀ (d n k : Nat) (F G : Nat → Int32) (z : Nat), k + d = 9 → d < n → DI m f F G z r P → CL m F G z r (fun p => p = 16 * a + s) → (∀ k2 t : Nat, k2 < k → t ≤ 80 → wy m a k2 = nI t → G (16 * t + (s ||| stn m a)) = 1) → G (16 * a + s) = 1 →
    ∃ (F2 G2 : Nat → Int32) (z2 : Nat), DI m f F2 G2 z2 r P ∧ CL m F2 G2 z2 r (fun p => p = 16 * a + s) ∧ (∀ k2 t : Nat, k2 ≤ 8 → t ≤ 80 → wy m a k2 = nI t → G2 (16 * t + (s ||| stn m a)) = 1) ∧ (KK (TB m F2 G2) v2 (nI z2) (nI r) v7 → kX11_walks_135 KK n (TB m F G) v2 (nI z) (nI r) v7 (nI a) (nI (s ||| stn m a)) (nI k)) ∧ fX11_walks_135 K n (TB m F G) v2 (nI z) (nI r) v7 (nI a) (nI (s ||| stn m a)) (nI k) = K (TB m F2 G2) v2 (nI z2) (nI r) v7 := by
  intro d
  have hu : (s ||| stn m a) < 16 := bo_or16 s hs _ (stn_lt m a)
  generalize hU : (s ||| stn m a) = u at *
  induction d with
  | zero =>
    intro n k F G z hk hn hD hC hp h0
    obtain ⟨n, rfl⟩ := fuel hn
    have e9 : k = 9 := by omega
    subst e9
    have c9 : (9 : Int32) ≤ nI 9 := by decide
    refine ⟨F, G, z, hD, hC, fun k2 t h1 h2 h3 => hp k2 t (by omega) h2 h3, fun hk => ⟨fun _ => hk, fun e => absurd c9 e⟩, ?_⟩
    rw [fX11_walks_135, if_pos c9]
  | succ d ih =>
    intro n k F G z hk hn hD hC hp h0
    obtain ⟨n, rfl⟩ := fuel hn
    obtain ⟨q1, q2⟩ := w135 K KK F G hw.1 (k := k) (by omega) n v2 (nI z) (nI r) v7 (nI u)
    rcases wy_cases h hw.1 (k := k) (by omega) with e | ⟨t, ht, e⟩
    · -- no way
      have lt0 : (-1 : Int32) < 0 := by decide
      obtain ⟨F2, G2, z2, g1, g2, g3, g4, g5⟩ := ih n (k + 1) F G z (by omega) (by omega) hD hC (fun k2 t h1 h2 h3 => by
        by_cases hk2 : k2 = k
        · rw [hk2, e] at h3
          exact absurd h3.symm (nI80 h2)
        · exact hp k2 t (by omega) h2 h3) h0
      refine ⟨F2, G2, z2, g1, g2, g3, fun hk => q1 ?_, ?_⟩
      · rw [e]
        refine ⟨fun _ => ?_, fun z => absurd lt0 z⟩
        unfold kX11_walks_235
        rw [nI_1]
        exact g4 hk
      · rw [q2, e, fX11_walks_184, if_pos lt0, fX11_walks_235, nI_1, g5]
    · have lt0 : ¬ nI t < 0 := nI_pos (by omega)
      have ei := ixn ht hu
      have hin : vp_in (nI (16 * t + u)) 1296 := vp_in_nI (by omega) (by decide)
      have hcl : (nI (16 * t + u)).toNatClampNeg = 16 * t + u := nI_clamp (by omega)
      have g52 : gA (TB m F G) 52 = G := rfl
      have g51 : gA (TB m F G) 51 = F := rfl
      obtain ⟨D1, D2, D3, D4, D5, D6⟩ := hD
      have hz : z ≤ 1296 := by
        have := cnt_le 1296 G
        omega
      rcases D1 (16 * t + u) with eG | eG
      · -- a push
        have nG : ∀ p, G p = 1 → upd G (16 * t + u) 1 p = 1 := by
          intro p hp
          rw [upd_at]
          split
          · rfl
          · exact hp
        have hR : Rch m f (16 * t + u) := by
          rw [← hU]
          exact ((D2 _ h0).2).step hs hw (by omega) ht e
        have hD2 : DI m f (upd F z (nI (16 * t + u))) (upd G (16 * t + u) 1) (z + 1) r P := by
          refine ⟨?_, ?_, nG _ D3, ?_, D5, ?_⟩
          · intro p
            rw [upd_at]
            split
            · exact Or.inr rfl
            · exact D1 p
          · intro p hp
            rw [upd_at] at hp
            by_cases ep : p = 16 * t + u
            · rw [ep]
              exact ⟨by omega, hR⟩
            · rw [if_neg ep] at hp
              exact D2 p hp
          · intro i hi
            by_cases ez : i = z
            · refine ⟨16 * t + u, by omega, ?_, ?_⟩
              · rw [upd_at, if_pos ez]
              · rw [upd_at, if_pos rfl]
            · obtain ⟨p, b1, b2, b3⟩ := D4 i (by omega)
              refine ⟨p, b1, ?_, nG p b3⟩
              rw [upd_at, if_neg ez]
              exact b2
          · rw [cnt_upd (by omega) eG (by decide)]
            omega
        have hC2 : CL m (upd F z (nI (16 * t + u))) (upd G (16 * t + u) 1) (z + 1) r (fun p => p = 16 * a + s) := by
          intro p hp
          rw [upd_at] at hp
          by_cases ep : p = 16 * t + u
          · exact Or.inl ⟨z, by omega, by rw [upd_at, if_pos rfl, ep]⟩
          · rw [if_neg ep] at hp
            rcases hC p hp with ⟨i, b1, b2⟩ | b | b
            · exact Or.inl ⟨i, by omega, by rw [upd_at, if_neg (by omega)]; exact b2⟩
            · exact Or.inr (Or.inl (b.mono nG (fun _ _ z => z)))
            · exact Or.inr (Or.inr b)
        obtain ⟨F2, G2, z2, g1, g2, g3, g4, g5⟩ := ih n (k + 1) (upd F z (nI (16 * t + u))) (upd G (16 * t + u) 1) (z + 1) (by omega) (by omega) hD2 hC2 (fun k2 t2 h1 h2 h3 => by
          by_cases hk2 : k2 = k
          · rw [hk2, e] at h3
            have et := (nI_eq (by omega) (by omega)).mp h3
            rw [upd_at, if_pos (by rw [et])]
          · exact nG _ (hp k2 t2 (by omega) h2 h3)) (nG _ h0)
        have eT : sA (sA (TB m F G) 52 (upd G (16 * t + u) 1)) 51 (upd F z (nI (16 * t + u))) = TB m (upd F z (nI (16 * t + u))) (upd G (16 * t + u) 1) := by
          unfold TB
          rw [sA_sA, sA_com _ (show (52 : Nat) ≠ 51 by decide), sA_sA]
        have hcz : (nI z).toNatClampNeg = z := nI_clamp (by omega)
        have hinz : vp_in (nI z) 1300 := vp_in_nI (by omega) (by decide)
        refine ⟨F2, G2, z2, g1, g2, g3, fun hk => q1 ?_, ?_⟩
        · rw [e]
          refine ⟨fun z => absurd z lt0, fun _ => ?_⟩
          rw [ei, hcl, g52]
          refine ⟨hin, fun _ => ⟨hin, hinz, ?_⟩, fun z => absurd eG z⟩
          rw [hcz, g51, tvb1, eT]
          unfold kX11_walks_235
          rw [nI_1, nI_1]
          exact g4 hk
        · rw [q2, e, fX11_walks_184, if_neg lt0, ei, hcl, g52, if_pos eG, hcz, g51, tvb1, eT, fX11_walks_235, nI_1, nI_1, g5]
      · have nG0 : ¬ G (16 * t + u) = 0 := by
          rw [eG]
          decide
        obtain ⟨F2, G2, z2, g1, g2, g3, g4, g5⟩ := ih n (k + 1) F G z (by omega) (by omega) ⟨D1, D2, D3, D4, D5, D6⟩ hC (fun k2 t2 h1 h2 h3 => by
          by_cases hk2 : k2 = k
          · rw [hk2, e] at h3
            have et := (nI_eq (by omega) (by omega)).mp h3
            rw [← et]
            exact eG
          · exact hp k2 t2 (by omega) h2 h3) h0
        refine ⟨F2, G2, z2, g1, g2, g3, fun hk => q1 ?_, ?_⟩
        · rw [e]
          refine ⟨fun z => absurd z lt0, fun _ => ?_⟩
          rw [ei, hcl, g52]
          refine ⟨hin, fun z => absurd z nG0, fun _ => ?_⟩
          unfold kX11_walks_235
          rw [nI_1]
          exact g4 hk
        · rw [q2, e, fX11_walks_184, if_neg lt0, ei, hcl, g52, if_neg nG0, fX11_walks_235, nI_1, g5]
theorem born {a b c : Bool} (h : (a || (b && !c)) = true) (ha : ¬ a = true) : b = true ∧ c = false := by
  revert h ha
  cases a <;> cases b <;> cases c <;> decide
theorem m_37 {c : Int} {x m : SS} (h : R c x m) {f : Nat} (v2 : Int32) : ∀ (d n : Nat) (F G : Nat → Int32) (z r P : Nat), P + d = 1296 → d < n → DI m f F G z r P → CL m F G z r (fun _ => False) →
    ∃ (F2 G2 : Nat → Int32) (r2 P2 : Nat), DI m f F2 G2 0 r2 P2 ∧ CL m F2 G2 0 r2 (fun _ => False) ∧ (kX11_walks_247 1300 (TB m F2 G2) v2 (nI r2) 0 0 → kX11_walks_37 n (TB m F G) v2 (nI z) (nI r) 0) ∧ fX11_walks_37 n (TB m F G) v2 (nI z) (nI r) 0 = fX11_walks_247 1300 (TB m F2 G2) v2 (nI r2) 0 0 := by
  intro d
  induction d with
  | zero =>
    intro n F G z r P hP hn hD hC
    obtain ⟨n, rfl⟩ := fuel hn
    have hz : z = 0 := by
      have h1 := hD.2.2.2.2.2
      have h2 := cnt_le 1296 G
      omega
    subst hz
    have c0 : nI 0 ≤ 0 := by decide
    exact ⟨F, G, r, P, hD, hC, fun hk => ⟨fun _ => hk, fun e => absurd c0 e⟩, by rw [fX11_walks_37, if_pos c0]⟩
  | succ d ih =>
    intro n F G z r P hP hn hD hC
    obtain ⟨n, rfl⟩ := fuel hn
    by_cases hz : z = 0
    · subst hz
      have c0 : nI 0 ≤ 0 := by decide
      exact ⟨F, G, r, P, hD, hC, fun hk => ⟨fun _ => hk, fun e => absurd c0 e⟩, by rw [fX11_walks_37, if_pos c0]⟩
    · obtain ⟨z, rfl⟩ : ∃ y, z = y + 1 := ⟨z - 1, by omega⟩
      obtain ⟨D1, D2, D3, D4, D5, D6⟩ := hD
      have hz2 : z + 1 ≤ 1296 := by
        have := cnt_le 1296 G
        omega
      have c0 : ¬ nI (z + 1) ≤ 0 := nI_nle (by omega) (by omega)
      have hinz : vp_in (nI z) 1300 := vp_in_nI (by omega) (by decide)
      have hcz : (nI z).toNatClampNeg = z := nI_clamp (by omega)
      obtain ⟨p, p1, p2, p3⟩ := D4 z (by omega)
      have g51 : gA (TB m F G) 51 z = nI p := p2
      have ed := div16 p1
      have em := mod16 p1
      have hs : p % 16 < 16 := Nat.mod_lt _ (by decide)
      have hpp : 16 * (p / 16) + p % 16 = p := by omega
      have st : ∀ p2, G p2 = 1 → (∃ i, i < z ∧ F i = nI p2) ∨ Dn m G r (p2 / 16) (p2 % 16) ∨ p2 = p := by
        intro q hq
        rcases hC q hq with ⟨i, b1, b2⟩ | b | b
        · by_cases ez : i = z
          · rw [ez, p2] at b2
            have := (nI_eq (by omega) (by have := (D2 q hq).1; omega)).mp b2
            exact Or.inr (Or.inr this.symm)
          · exact Or.inl ⟨i, by omega, b2⟩
        · exact Or.inr (Or.inl b)
        · exact absurd b id
      have hD2 : DI m f F G z r (P + 1) := ⟨D1, D2, D3, fun i hi => D4 i (by omega), D5, by omega⟩
      have skip : ¬ wrd m (p / 16) → CL m F G z r (fun _ => False) := by
        intro nw q hq
        rcases st q hq with b | b | b
        · exact Or.inl b
        · exact Or.inr (Or.inl b)
        · refine Or.inr (Or.inl ?_)
          rw [b]
          exact fun w => absurd w nw
      by_cases h80 : 80 ≤ p / 16
      · have c80 : (80 : Int32) ≤ nI (p / 16) := nI_le (a := 80) h80 (by omega)
        obtain ⟨F2, G2, r2, P2, g1, g2, g3, g4⟩ := ih n F G z r (P + 1) (by omega) (by omega) hD2 (skip (fun w => by have := w.1; omega))
        refine ⟨F2, G2, r2, P2, g1, g2, fun hk => ⟨fun e => absurd e c0, fun _ => ?_⟩, ?_⟩
        · rw [dec1, hcz, g51, ed]
          exact ⟨hinz, hinz, fun _ => g3 hk, fun e => absurd c80 e⟩
        · rw [fX11_walks_37, if_neg c0, dec1, hcz, g51, ed, if_pos c80, g4]
      · have c80 : ¬ (80 : Int32) ≤ nI (p / 16) := nle (n := 80) (by omega) (by decide) rfl
        have ha : p / 16 < 80 := by omega
        have hina : vp_in (nI (p / 16)) 80 := vp_in_nI (by omega) (by decide)
        have hca : (nI (p / 16)).toNatClampNeg = p / 16 := nI_clamp (by omega)
        have g10 : gA (TB m F G) 10 (p / 16) = gA m 10 (p / 16) := rfl
        by_cases hw0 : gA m 10 (p / 16) = 0
        · obtain ⟨F2, G2, r2, P2, g1, g2, g3, g4⟩ := ih n F G z r (P + 1) (by omega) (by omega) hD2 (skip (fun w => w.2 hw0))
          refine ⟨F2, G2, r2, P2, g1, g2, fun hk => ⟨fun e => absurd e c0, fun _ => ?_⟩, ?_⟩
          · rw [dec1, hcz, g51, ed, hca, g10]
            exact ⟨hinz, hinz, fun e => absurd e c80, fun _ => ⟨hina, fun _ => g3 hk, fun e => absurd hw0 e⟩⟩
          · rw [fX11_walks_37, if_neg c0, dec1, hcz, g51, ed, if_neg c80, hca, g10, if_pos hw0, g4]
        · have hw : wrd m (p / 16) := ⟨ha, hw0⟩
          obtain ⟨er, kr, hr16⟩ := rd_m h F G ha
          have er' : fX11_reads (TB m F G) (nI (p / 16)) = (nI (rdn m (p / 16)), TB m F G) := er
          have kr' : kX11_reads (TB m F G) (nI (p / 16)) := kr
          -- the new reads
          have b1 := bo_not (rdn m (p / 16)) (by omega) (p % 16) (by omega)
          have b2 := bo_not16 (rdn m (p / 16)) hr16 (p % 16) (by omega)
          have b3 := bo_or r (by have := D5.1; omega) (rdn m (p / 16) &&& (31 ^^^ (p % 16))) (by omega)
          have b4 := bo_or16 r D5.1 (rdn m (p / 16) &&& (31 ^^^ (p % 16))) b2
          have bt : ∀ k, k < 4 → (r ||| (rdn m (p / 16) &&& (31 ^^^ (p % 16)))).testBit k = (r.testBit k || ((rdn m (p / 16)).testBit k && !(p % 16).testBit k)) := by
            intro k hk
            rw [Nat.testBit_or, bb_not _ (by omega) _ (by omega) k (by omega)]
          have e6 : nI r ||| (nI (rdn m (p / 16)) &&& (nI (p % 16) ^^^ (-1))) = nI (r ||| (rdn m (p / 16) &&& (31 ^^^ (p % 16)))) := by
            rw [b1.1, b3.1]
          have hst := stn_lt m (p / 16)
          have e9 : nI (p % 16) ||| stv m (p / 16) = nI (p % 16 ||| stn m (p / 16)) := by
            rw [stn_v, (bo_or (p % 16) (by omega) (stn m (p / 16)) (by omega)).1]
          generalize hR1 : (r ||| (rdn m (p / 16) &&& (31 ^^^ (p % 16)))) = r1 at *
          have mono : ∀ k, k < 4 → r.testBit k = true → r1.testBit k = true := by
            intro k hk hb
            rw [bt k hk, hb]
            rfl
          have hRp : Rch m f (16 * (p / 16) + p % 16) := by
            rw [hpp]
            exact (D2 p p3).2
          have hD3 : DI m f F G z r1 (P + 1) := by
            refine ⟨D1, D2, D3, fun i hi => D4 i (by omega), ⟨b4, ?_⟩, by omega⟩
            intro k hk hb
            rw [bt k hk] at hb
            by_cases hbr : r.testBit k = true
            · exact D5.2 k hk hbr
            · refine ⟨p / 16, p % 16, hs, hw, hRp, ?_, ?_⟩
              · exact (born hb hbr).1
              · exact (born hb hbr).2
          have hC3 : CL m F G z r1 (fun q => q = 16 * (p / 16) + p % 16) := by
            intro q hq
            rcases st q hq with b | b | b
            · exact Or.inl b
            · exact Or.inr (Or.inl (b.mono (fun _ z => z) mono))
            · exact Or.inr (Or.inr (by rw [hpp]; exact b))
          obtain ⟨F3, G3, z3, i1, i2, i3, i4, i5⟩ := m_135 h (fX11_walks_37 n) (kX11_walks_37 n) hw hs v2 0 9 1300 0 F G z (by omega) (by omega) hD3 hC3 (fun k2 t h1 => absurd h1 (by omega)) (by rw [hpp]; exact p3)
          have hC4 : CL m F3 G3 z3 r1 (fun _ => False) := by
            intro q hq
            rcases i2 q hq with b | b | b
            · exact Or.inl b
            · exact Or.inr (Or.inl b)
            · refine Or.inr (Or.inl ?_)
              have b' : q = p := by omega
              rw [b']
              intro _
              refine ⟨i3, fun k hk h1 h2 => ?_⟩
              rw [bt k hk, h1, h2]
              simp
          obtain ⟨F2, G2, r2, P2, g1, g2, g3, g4⟩ := ih n F3 G3 z3 r1 (P + 1) (by omega) (by omega) i1 hC4
          have g3a : gA (TB m F G) 3 (p / 16) = gA m 3 (p / 16) := rfl
          have g4a : gA (TB m F G) 4 (p / 16) = gA m 4 (p / 16) := rfl
          have f91 : fX11_walks_91 (fX11_walks_37 n) (TB m F G) v2 (nI z) 0 (nI (p / 16)) (nI (p % 16)) (nI (rdn m (p / 16))) (nI r) = fX11_walks_135 (fX11_walks_37 n) 1300 (TB m F G) v2 (nI z) (nI r1) 0 (nI (p / 16)) (nI (p % 16 ||| stn m (p / 16))) 0 := by
            rw [fX11_walks_91, hca, g3a, g4a, e6, ← e9, stv]
            split
            · rw [fX11_walks_128]
            · rw [fX11_walks_128]
          have k91 : kX11_walks_135 (kX11_walks_37 n) 1300 (TB m F G) v2 (nI z) (nI r1) 0 (nI (p / 16)) (nI (p % 16 ||| stn m (p / 16))) 0 → kX11_walks_91 (kX11_walks_37 n) (TB m F G) v2 (nI z) 0 (nI (p / 16)) (nI (p % 16)) (nI (rdn m (p / 16))) (nI r) := by
            intro hk
            unfold kX11_walks_91 kX11_walks_128
            rw [hca, g3a, g4a, e6]
            refine ⟨hina, hina, fun h1 => ?_, fun h1 => ?_⟩
            · rw [← e9, stv, if_pos h1] at hk
              exact hk
            · rw [← e9, stv, if_neg h1] at hk
              exact hk
          refine ⟨F2, G2, r2, P2, g1, g2, fun hk => ⟨fun e => absurd e c0, fun _ => ?_⟩, ?_⟩
          · rw [dec1, hcz, g51, ed, hca, g10]
            refine ⟨hinz, hinz, fun e => absurd e c80, fun _ => ⟨hina, fun e => absurd e hw0, fun _ => ⟨kr', ?_⟩⟩⟩
            rw [er', ← ed, em, ed]
            exact ⟨rfl, rfl, k91 (i4 (g3 hk))⟩
          · rw [fX11_walks_37, if_neg c0, dec1, hcz, g51, em, ed, if_neg c80, hca, g10, if_neg hw0, er']
            rw [f91]
            exact i5.trans g4
