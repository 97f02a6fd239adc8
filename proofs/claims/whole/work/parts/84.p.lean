/-! ===== PURE: the reference's walk, whole ===== -/
noncomputable def hC (P : Nat → Prop) : Nat → Int32 := fun j => @ite Int32 (P j) (Classical.propDecidable (P j)) 1 0
theorem hC_1 {P : Nat → Prop} {j : Nat} (h : P j) : hC P j = 1 := by
  unfold hC
  exact if_pos h
theorem hC_0 {P : Nat → Prop} {j : Nat} (h : ¬ P j) : hC P j = 0 := by
  unfold hC
  exact if_neg h
theorem hC_iff {P : Nat → Prop} {j : Nat} : hC P j = 0 ↔ ¬ P j := by
  constructor
  · intro h hp
    rw [hC_1 hp] at h
    exact absurd h (by decide)
  · exact hC_0
theorem orI {v g : Int32} (hv : v = 0 ∨ v = 1) (hg : g = 0 ∨ g = 1) : (v ||| g = 0 ∨ v ||| g = 1) ∧ (v ||| g = 1 ↔ v = 1 ∨ g = 1) := by
  rcases hv with e | e
  · rcases hg with d | d
    · rw [e, d]
      decide
    · rw [e, d]
      decide
  · rcases hg with d | d
    · rw [e, d]
      decide
    · rw [e, d]
      decide
theorem m_260 {m : SS} (K : SS → Int32 → Int32 → Int32 → Int32 → Int32 × SS) (KK : SS → Int32 → Int32 → Int32 → Int32 → Prop) {F G : Nat → Int32} (hG : ∀ p, G p = 0 ∨ G p = 1) {a : Nat} (ha : a < 80) (v2 v6 v7 : Int32) : ∀ (d n k : Nat) (v9 : Int32), k + d = 16 → d < n → (v9 = 0 ∨ v9 = 1) → (v9 = 1 ↔ ∃ s, s < k ∧ G (16 * a + s) = 1) → (KK (TB m F G) v2 v6 (v7 + hC (fun j => wrd m j ∧ ∃ s, s < 16 ∧ G (16 * j + s) = 1) a) (nI (a + 1)) → kX11_walks_260 KK n (TB m F G) v2 v6 v7 (nI a) v9 (nI k)) ∧ fX11_walks_260 K n (TB m F G) v2 v6 v7 (nI a) v9 (nI k) = K (TB m F G) v2 v6 (v7 + hC (fun j => wrd m j ∧ ∃ s, s < 16 ∧ G (16 * j + s) = 1) a) (nI (a + 1)) := by
  have hin : vp_in (nI a) 80 := vp_in_nI (by omega) (by decide)
  have hc : (nI a).toNatClampNeg = a := nI_clamp (by omega)
  have g10 : gA (TB m F G) 10 a = gA m 10 a := rfl
  have g52 : gA (TB m F G) 52 = G := rfl
  intro d
  induction d with
  | zero =>
    intro n k v9 hk hn hv hi
    obtain ⟨n, rfl⟩ := fuel hn
    have ek : k = 16 := by omega
    subst ek
    have c16 : (16 : Int32) ≤ nI 16 := by decide
    by_cases h9 : v9 = 0
    · have hn : ¬ (wrd m a ∧ ∃ s, s < 16 ∧ G (16 * a + s) = 1) := by
        intro z
        have := hi.mpr z.2
        rw [h9] at this
        exact absurd this (by decide)
      rw [hC_0 (P := fun j => wrd m j ∧ ∃ s, s < 16 ∧ G (16 * j + s) = 1) hn, ← nI_1]
      exact ⟨fun hk => ⟨fun _ => ⟨fun _ => hk, fun e => absurd h9 e⟩, fun e => absurd c16 e⟩, by rw [fX11_walks_260, if_pos c16, if_pos h9, fX11_walks_310, fX11_walks_311]⟩
    · have e9 := hv.resolve_left h9
      by_cases h10 : gA m 10 a = 0
      · have hn : ¬ (wrd m a ∧ ∃ s, s < 16 ∧ G (16 * a + s) = 1) := fun z => z.1.2 h10
        rw [hC_0 (P := fun j => wrd m j ∧ ∃ s, s < 16 ∧ G (16 * j + s) = 1) hn, ← nI_1]
        refine ⟨fun hk => ⟨fun _ => ⟨fun e => absurd e h9, fun _ => ⟨hin, ?_⟩⟩, fun e => absurd c16 e⟩, ?_⟩
        · rw [hc, g10]
          exact ⟨fun _ => hk, fun e => absurd h10 e⟩
        · rw [fX11_walks_260, if_pos c16, if_neg h9, hc, g10, if_pos h10, fX11_walks_310, fX11_walks_311]
      · have hn : wrd m a ∧ ∃ s, s < 16 ∧ G (16 * a + s) = 1 := ⟨⟨ha, h10⟩, hi.mp e9⟩
        rw [hC_1 (P := fun j => wrd m j ∧ ∃ s, s < 16 ∧ G (16 * j + s) = 1) hn, ← nI_1]
        refine ⟨fun hk => ⟨fun _ => ⟨fun e => absurd e h9, fun _ => ⟨hin, ?_⟩⟩, fun e => absurd c16 e⟩, ?_⟩
        · rw [hc, g10]
          exact ⟨fun e => absurd e h10, fun _ => hk⟩
        · rw [fX11_walks_260, if_pos c16, if_neg h9, hc, g10, if_neg h10, fX11_walks_311]
  | succ d ih =>
    intro n k v9 hk hn hv hi
    obtain ⟨n, rfl⟩ := fuel hn
    have c16 : ¬ (16 : Int32) ≤ nI k := nle (n := 16) (by omega) (by decide) rfl
    have ei := ixn (t := a) (u := k) (by omega) (by omega)
    have hin2 : vp_in (nI (16 * a + k)) 1296 := vp_in_nI (by omega) (by decide)
    have hcl : (nI (16 * a + k)).toNatClampNeg = 16 * a + k := nI_clamp (by omega)
    obtain ⟨o1, o2⟩ := orI hv (hG (16 * a + k))
    obtain ⟨j1, j2⟩ := ih n (k + 1) (v9 ||| G (16 * a + k)) (by omega) (by omega) o1 (by
      rw [o2, hi]
      constructor
      · intro z
        rcases z with ⟨s, z1, z2⟩ | z
        · exact ⟨s, by omega, z2⟩
        · exact ⟨k, by omega, z⟩
      · intro ⟨s, z1, z2⟩
        by_cases es : s = k
        · rw [es] at z2
          exact Or.inr z2
        · exact Or.inl ⟨s, by omega, z2⟩)
    refine ⟨fun hk => ⟨fun e => absurd e c16, fun _ => ?_⟩, ?_⟩
    · rw [ei, hcl, g52, nI_1]
      exact ⟨hin2, j1 hk⟩
    · rw [fX11_walks_260, if_neg c16, ei, hcl, g52, nI_1, j2]
theorem hC_nI {P : Nat → Prop} (c j : Nat) : nI c + hC P j = nI (c + if hC P j = 0 then 0 else 1) := by
  by_cases h : P j
  · rw [hC_1 h, nI_1, if_neg (by decide)]
  · rw [hC_0 h, if_pos rfl, Int32.add_zero]
    rfl
theorem m_247 {m : SS} {F G : Nat → Int32} (hG : ∀ p, G p = 0 ∨ G p = 1) (v2 v6 : Int32) : ∀ (d n a : Nat), a + d = 80 → d < n → kX11_walks_247 n (TB m F G) v2 v6 (nI (cnt a (hC (fun j => wrd m j ∧ ∃ s, s < 16 ∧ G (16 * j + s) = 1)))) (nI a) ∧ fX11_walks_247 n (TB m F G) v2 v6 (nI (cnt a (hC (fun j => wrd m j ∧ ∃ s, s < 16 ∧ G (16 * j + s) = 1)))) (nI a) = (if v2 = 0 then nI (cnt 80 (hC (fun j => wrd m j ∧ ∃ s, s < 16 ∧ G (16 * j + s) = 1))) else v6, TB m F G) := by
  intro d
  induction d with
  | zero =>
    intro n a h hn
    obtain ⟨n, rfl⟩ := fuel hn
    have ea : a = 80 := by omega
    subst ea
    have c80 : (80 : Int32) ≤ nI 80 := by decide
    refine ⟨⟨fun _ => ⟨fun _ => trivial, fun _ => trivial⟩, fun e => absurd c80 e⟩, ?_⟩
    rw [fX11_walks_247, if_pos c80, fX11_walks_331, fX11_walks_331]
    split
    · rfl
    · rfl
  | succ d ih =>
    intro n a h hn
    obtain ⟨n, rfl⟩ := fuel hn
    have c80 : ¬ (80 : Int32) ≤ nI a := nle (n := 80) (by omega) (by decide) rfl
    obtain ⟨j1, j2⟩ := ih n (a + 1) (by omega) (by omega)
    obtain ⟨q1, q2⟩ := m_260 (m := m) (F := F) (fX11_walks_247 n) (kX11_walks_247 n) hG (a := a) (by omega) v2 v6 (nI (cnt a (hC (fun j => wrd m j ∧ ∃ s, s < 16 ∧ G (16 * j + s) = 1)))) 16 1300 0 0 (by omega) (by omega) (Or.inl rfl) ⟨fun e => absurd e (by decide), fun ⟨s, z, _⟩ => by omega⟩
    rw [hC_nI] at q1 q2
    exact ⟨⟨fun e => absurd e c80, fun _ => q1 j1⟩, by
      rw [fX11_walks_247, if_neg c80]
      exact q2.trans j2⟩
theorem walks_M {c : Int} {x m : SS} (h : R c x m) {f : Nat} (hf : f < 80) (v2 : Int32) : kX11_walks m (nI f) v2 ∧ ∃ (F G : Nat → Int32) (r : Nat), r < 16 ∧ (∀ k, k < 4 → (r.testBit k = true ↔ ∃ a s : Nat, s < 16 ∧ wrd m a ∧ Rch m f (16 * a + s) ∧ (rdn m a).testBit k = true ∧ s.testBit k = false)) ∧ fX11_walks m (nI f) v2 = (if v2 = 0 then nI (cnt 80 (hC (fun j => wrd m j ∧ ∃ s, s < 16 ∧ Rch m f (16 * j + s)))) else nI r, TB m F G) := by
  have ef : 16 * nI f = nI (16 * f) := by
    have e := ixn (t := f) (u := 0) (by omega) (by decide)
    rw [show nI 0 = (0 : Int32) from rfl, Int32.add_zero, Nat.add_zero] at e
    exact e
  have hin : vp_in (nI (16 * f)) 1296 := vp_in_nI (by omega) (by decide)
  have hcl : (nI (16 * f)).toNatClampNeg = 16 * f := nI_clamp (by omega)
  have eT : sA (sA (sA (sA m 51 (fun _ => 0)) 52 (fun _ => 0)) 51 (upd (fun _ => 0) 0 (nI (16 * f)))) 52 (upd (fun _ => 0) (16 * f) 1) = TB m (upd (fun _ => 0) 0 (nI (16 * f))) (upd (fun _ => 0) (16 * f) 1) := by
    unfold TB
    rw [sA_com (sA m 51 (fun _ => 0)) (show (52 : Nat) ≠ 51 by decide), sA_sA, sA_sA]
  have hG0 : ∀ p, upd (fun _ => (0 : Int32)) (16 * f) 1 p = 1 → p = 16 * f := by
    intro p hp
    rw [upd_at] at hp
    by_cases e : p = 16 * f
    · exact e
    · rw [if_neg e] at hp
      exact absurd hp (by decide)
  have hD : DI m f (upd (fun _ => 0) 0 (nI (16 * f))) (upd (fun _ => 0) (16 * f) 1) 1 0 0 := by
    refine ⟨?_, ?_, ?_, ?_, ⟨by decide, ?_⟩, ?_⟩
    · intro p
      rw [upd_at]
      split
      · exact Or.inr rfl
      · exact Or.inl rfl
    · intro p hp
      rw [hG0 p hp]
      exact ⟨by omega, Rch.base m f⟩
    · rw [upd_at, if_pos rfl]
    · intro i hi
      have e0 : i = 0 := by omega
      refine ⟨16 * f, by omega, ?_, ?_⟩
      · rw [e0, upd_at, if_pos rfl]
      · rw [upd_at, if_pos rfl]
    · intro k _ hb
      rw [Nat.zero_testBit] at hb
      exact absurd hb (by decide)
    · rw [cnt_upd (by omega) rfl (by decide), cnt_zero (fun c hc => rfl)]
  have hCl : CL m (upd (fun _ => 0) 0 (nI (16 * f))) (upd (fun _ => 0) (16 * f) 1) 1 0 (fun _ => False) := by
    intro p hp
    rw [hG0 p hp]
    exact Or.inl ⟨0, by decide, by rw [upd_at, if_pos rfl]⟩
  obtain ⟨F, G, r, P, g1, g2, g3, g4⟩ := m_37 h v2 1296 1300 _ _ 1 0 0 (by omega) (by omega) hD hCl
  obtain ⟨D1, D2, D3, D4, D5, D6⟩ := g1
  obtain ⟨q1, q2⟩ := m_247 (m := m) (F := F) D1 v2 (nI r) 80 1300 0 (by omega) (by omega)
  have done : ∀ p, G p = 1 → Dn m G r (p / 16) (p % 16) := by
    intro p hp
    rcases g2 p hp with ⟨i, z, _⟩ | b | b
    · omega
    · exact b
    · exact absurd b id
  have full : ∀ p, Rch m f p → G p = 1 := by
    intro p hp
    refine hp (fun p => G p = 1) D3 ?_
    intro a s k t h1 h2 h3 h4 h5 h6
    have hd := done _ h1
    have e1 : (16 * a + s) / 16 = a := by omega
    have e2 : (16 * a + s) % 16 = s := by omega
    rw [e1, e2] at hd
    exact (hd h3).1 k t h4 h5 h6
  have hcnt : cnt 80 (hC (fun j => wrd m j ∧ ∃ s, s < 16 ∧ G (16 * j + s) = 1)) = cnt 80 (hC (fun j => wrd m j ∧ ∃ s, s < 16 ∧ Rch m f (16 * j + s))) := by
    refine cnt_congr (fun j _ => ?_)
    rw [hC_iff, hC_iff]
    constructor
    · intro z ⟨z1, s, z2, z3⟩
      exact z ⟨z1, s, z2, full _ z3⟩
    · intro z ⟨z1, s, z2, z3⟩
      exact z ⟨z1, s, z2, (D2 _ z3).2⟩
  have q0 : fX11_walks m (nI f) v2 = fX11_walks_37 1300 (TB m (upd (fun _ => 0) 0 (nI (16 * f))) (upd (fun _ => 0) (16 * f) 1)) v2 (nI 1) (nI 0) 0 := by
    rw [fX11_walks, ef, hcl, cl_0, tvb1, eT]
    rfl
  refine ⟨⟨by rw [ef]; exact hin, ?_⟩, F, G, r, D5.1, ?_, ?_⟩
  · rw [ef, hcl, cl_0, tvb1, eT]
    exact g3 q1
  · intro k hk
    constructor
    · exact D5.2 k hk
    · intro ⟨a, s, z1, z2, z3, z4, z5⟩
      have hd := done _ (full _ z3)
      have e1 : (16 * a + s) / 16 = a := by omega
      have e2 : (16 * a + s) % 16 = s := by omega
      rw [e1, e2] at hd
      exact (hd z2).2 k hk z4 z5
  · rw [q0, g4]
    have q3 := q2
    rw [hcnt] at q3
    exact q3
