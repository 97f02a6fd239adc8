/-! ===== PURE: whether it is right ===== -/
theorem x_isAs_after_2 : ∀ (d n i : Nat) (q : SS), i + d = 4 → d < n → kX8_isAs_now_after_2 n q (nI i) ∧ ∃ w : Int32, fX8_isAs_now_after_2 n q (nI i) = (w, q) ∧ (w = 0 ∨ w = 1) ∧ (w = 1 ↔ (∀ r, i ≤ r → r < 4 → gA q 25 r = gA q 27 r) ∧ gI q 701 = gI q 1201 ∧ gI q 702 = gI q 1202 ∧ gI q 703 = gI q 1203 ∧ gI q 704 = gI q 1204 ∧ gI q 705 = gI q 1205 ∧ gI q 706 = gI q 1206) := by
  intro d
  induction d with
  | zero =>
    intro n i q h hn
    obtain ⟨k, rfl⟩ := fuel hn
    have hi : i = 4 := by omega
    subst hi
    have c : (4 : Int32) ≤ nI 4 := by decide
    have k1 : kX8_isAs_now_after_101 q 1 := ⟨nb_1, trivial⟩
    have k0 : kX8_isAs_now_after_100 q := ⟨nb_0, trivial⟩
    refine ⟨⟨fun _ => ⟨fun _ => ⟨fun _ => ⟨fun _ => ⟨fun _ => ⟨fun _ => ⟨fun _ => k1, fun _ => k0⟩, fun _ => k0⟩, fun _ => k0⟩, fun _ => k0⟩, fun _ => k0⟩, fun _ => k0⟩, fun e => absurd c e⟩, ?_⟩
    by_cases g : gI q 701 = gI q 1201 ∧ gI q 702 = gI q 1202 ∧ gI q 703 = gI q 1203 ∧ gI q 704 = gI q 1204 ∧ gI q 705 = gI q 1205 ∧ gI q 706 = gI q 1206
    · refine ⟨1, ?_, Or.inr rfl, fun _ => ⟨fun r h1 h2 => by omega, g⟩, fun _ => rfl⟩
      obtain ⟨g1, g2, g3, g4, g5, g6⟩ := g
      rw [fX8_isAs_now_after_2, if_pos c, if_pos g1, if_pos g2, if_pos g3, if_pos g4, if_pos g5, if_pos g6, fX8_isAs_now_after_101]
    · refine ⟨0, ?_, Or.inl rfl, fun e => absurd e (by decide), fun e => absurd e.2 g⟩
      rw [fX8_isAs_now_after_2, if_pos c]
      by_cases g1 : gI q 701 = gI q 1201
      · rw [if_pos g1]
        by_cases g2 : gI q 702 = gI q 1202
        · rw [if_pos g2]
          by_cases g3 : gI q 703 = gI q 1203
          · rw [if_pos g3]
            by_cases g4 : gI q 704 = gI q 1204
            · rw [if_pos g4]
              by_cases g5 : gI q 705 = gI q 1205
              · rw [if_pos g5]
                by_cases g6 : gI q 706 = gI q 1206
                · exact absurd ⟨g1, g2, g3, g4, g5, g6⟩ g
                · rw [if_neg g6]
                  rfl
              · rw [if_neg g5]
                rfl
            · rw [if_neg g4]
              rfl
          · rw [if_neg g3]
            rfl
        · rw [if_neg g2]
          rfl
      · rw [if_neg g1]
        rfl
  | succ d ih =>
    intro n i q h hn
    obtain ⟨k, rfl⟩ := fuel hn
    have c : ¬ (4 : Int32) ≤ nI i := nle (n := 4) (by omega) (by decide) rfl
    have hin : vp_in (nI i) 4 := vp_in_nI (by omega) (by decide)
    have hc : (nI i).toNatClampNeg = i := nI_clamp (by omega)
    obtain ⟨hk, w, e1, e2, e3⟩ := ih k (i + 1) q (by omega) (by omega)
    by_cases g : gA q 25 i = gA q 27 i
    · refine ⟨⟨fun e => absurd e c, fun _ => ⟨hin, hin, ?_⟩⟩, w, ?_, e2, ?_⟩
      · rw [hc, nI_1]
        exact ⟨fun _ => hk, fun e => absurd g e⟩
      · rw [fX8_isAs_now_after_2, if_neg c, hc, if_pos g, nI_1, e1]
      · rw [e3]
        constructor
        · intro ⟨a, b⟩
          refine ⟨fun r h1 h2 => ?_, b⟩
          by_cases hr : r = i
          · rw [hr]
            exact g
          · exact a r (by omega) h2
        · intro ⟨a, b⟩
          exact ⟨fun r h1 h2 => a r (by omega) h2, b⟩
    · refine ⟨⟨fun e => absurd e c, fun _ => ⟨hin, hin, ?_⟩⟩, 0, ?_, Or.inl rfl, fun e => absurd e (by decide), fun e => absurd (e.1 i (by omega) (by omega)) g⟩
      · rw [hc]
        exact ⟨fun e => absurd e g, fun _ => trivial⟩
      · rw [fX8_isAs_now_after_2, if_neg c, hc, if_neg g]
theorem x_isAs_after (q : SS) : kX8_isAs_now_after q ∧ ∃ w : Int32, fX8_isAs_now_after q = (w, q) ∧ (w = 0 ∨ w = 1) ∧ (w = 1 ↔ (∀ r, r < 4 → gA q 25 r = gA q 27 r) ∧ gI q 701 = gI q 1201 ∧ gI q 702 = gI q 1202 ∧ gI q 703 = gI q 1203 ∧ gI q 704 = gI q 1204 ∧ gI q 705 = gI q 1205 ∧ gI q 706 = gI q 1206) := by
  obtain ⟨hk, w, e1, e2, e3⟩ := x_isAs_after_2 4 10 0 q rfl (by decide)
  refine ⟨hk, w, e1, e2, ?_⟩
  rw [e3]
  exact ⟨fun ⟨a, b⟩ => ⟨fun r hr => a r (by omega) hr, b⟩, fun ⟨a, b⟩ => ⟨fun r _ hr => a r hr, b⟩⟩
theorem x_isAs_keptv_2 : ∀ (d n i : Nat) (q : SS), i + d = 4 → d < n → kX8_isAs_now_keptv_2 n q (nI i) ∧ ∃ w : Int32, fX8_isAs_now_keptv_2 n q (nI i) = (w, q) ∧ (w = 0 ∨ w = 1) ∧ (w = 1 ↔ (∀ r, i ≤ r → r < 4 → gA q 25 r = gA q 26 r) ∧ gI q 701 = gI q 801 ∧ gI q 702 = gI q 802 ∧ gI q 703 = gI q 803 ∧ gI q 704 = gI q 804 ∧ gI q 705 = gI q 805 ∧ gI q 706 = gI q 806) := by
  intro d
  induction d with
  | zero =>
    intro n i q h hn
    obtain ⟨k, rfl⟩ := fuel hn
    have hi : i = 4 := by omega
    subst hi
    have c : (4 : Int32) ≤ nI 4 := by decide
    have k1 : kX8_isAs_now_keptv_101 q 1 := ⟨nb_1, trivial⟩
    have k0 : kX8_isAs_now_keptv_100 q := ⟨nb_0, trivial⟩
    refine ⟨⟨fun _ => ⟨fun _ => ⟨fun _ => ⟨fun _ => ⟨fun _ => ⟨fun _ => ⟨fun _ => k1, fun _ => k0⟩, fun _ => k0⟩, fun _ => k0⟩, fun _ => k0⟩, fun _ => k0⟩, fun _ => k0⟩, fun e => absurd c e⟩, ?_⟩
    by_cases g : gI q 701 = gI q 801 ∧ gI q 702 = gI q 802 ∧ gI q 703 = gI q 803 ∧ gI q 704 = gI q 804 ∧ gI q 705 = gI q 805 ∧ gI q 706 = gI q 806
    · refine ⟨1, ?_, Or.inr rfl, fun _ => ⟨fun r h1 h2 => by omega, g⟩, fun _ => rfl⟩
      obtain ⟨g1, g2, g3, g4, g5, g6⟩ := g
      rw [fX8_isAs_now_keptv_2, if_pos c, if_pos g1, if_pos g2, if_pos g3, if_pos g4, if_pos g5, if_pos g6, fX8_isAs_now_keptv_101]
    · refine ⟨0, ?_, Or.inl rfl, fun e => absurd e (by decide), fun e => absurd e.2 g⟩
      rw [fX8_isAs_now_keptv_2, if_pos c]
      by_cases g1 : gI q 701 = gI q 801
      · rw [if_pos g1]
        by_cases g2 : gI q 702 = gI q 802
        · rw [if_pos g2]
          by_cases g3 : gI q 703 = gI q 803
          · rw [if_pos g3]
            by_cases g4 : gI q 704 = gI q 804
            · rw [if_pos g4]
              by_cases g5 : gI q 705 = gI q 805
              · rw [if_pos g5]
                by_cases g6 : gI q 706 = gI q 806
                · exact absurd ⟨g1, g2, g3, g4, g5, g6⟩ g
                · rw [if_neg g6]
                  rfl
              · rw [if_neg g5]
                rfl
            · rw [if_neg g4]
              rfl
          · rw [if_neg g3]
            rfl
        · rw [if_neg g2]
          rfl
      · rw [if_neg g1]
        rfl
  | succ d ih =>
    intro n i q h hn
    obtain ⟨k, rfl⟩ := fuel hn
    have c : ¬ (4 : Int32) ≤ nI i := nle (n := 4) (by omega) (by decide) rfl
    have hin : vp_in (nI i) 4 := vp_in_nI (by omega) (by decide)
    have hc : (nI i).toNatClampNeg = i := nI_clamp (by omega)
    obtain ⟨hk, w, e1, e2, e3⟩ := ih k (i + 1) q (by omega) (by omega)
    by_cases g : gA q 25 i = gA q 26 i
    · refine ⟨⟨fun e => absurd e c, fun _ => ⟨hin, hin, ?_⟩⟩, w, ?_, e2, ?_⟩
      · rw [hc, nI_1]
        exact ⟨fun _ => hk, fun e => absurd g e⟩
      · rw [fX8_isAs_now_keptv_2, if_neg c, hc, if_pos g, nI_1, e1]
      · rw [e3]
        constructor
        · intro ⟨a, b⟩
          refine ⟨fun r h1 h2 => ?_, b⟩
          by_cases hr : r = i
          · rw [hr]
            exact g
          · exact a r (by omega) h2
        · intro ⟨a, b⟩
          exact ⟨fun r h1 h2 => a r (by omega) h2, b⟩
    · refine ⟨⟨fun e => absurd e c, fun _ => ⟨hin, hin, ?_⟩⟩, 0, ?_, Or.inl rfl, fun e => absurd e (by decide), fun e => absurd (e.1 i (by omega) (by omega)) g⟩
      · rw [hc]
        exact ⟨fun e => absurd e g, fun _ => trivial⟩
      · rw [fX8_isAs_now_keptv_2, if_neg c, hc, if_neg g]
theorem x_isAs_keptv (q : SS) : kX8_isAs_now_keptv q ∧ ∃ w : Int32, fX8_isAs_now_keptv q = (w, q) ∧ (w = 0 ∨ w = 1) ∧ (w = 1 ↔ (∀ r, r < 4 → gA q 25 r = gA q 26 r) ∧ gI q 701 = gI q 801 ∧ gI q 702 = gI q 802 ∧ gI q 703 = gI q 803 ∧ gI q 704 = gI q 804 ∧ gI q 705 = gI q 805 ∧ gI q 706 = gI q 806) := by
  obtain ⟨hk, w, e1, e2, e3⟩ := x_isAs_keptv_2 4 10 0 q rfl (by decide)
  refine ⟨hk, w, e1, e2, ?_⟩
  rw [e3]
  exact ⟨fun ⟨a, b⟩ => ⟨fun r hr => a r (by omega) hr, b⟩, fun ⟨a, b⟩ => ⟨fun r _ hr => a r hr, b⟩⟩
theorem x_kept_18 : ∀ (d n i : Nat) (q : SS) (w : Nat) (v : Int32), gI q 305 = nI w → w ≤ 64 → i + d = w → d < n → (∀ j, j < w → ∃ c, c < 64 ∧ gA q 19 j = nI c) → kX5_isKeptBut_18 n q v (nI i) ∧ ∃ r : Int32, fX5_isKeptBut_18 n q v (nI i) = (r, q) ∧ (r = 0 ∨ r = 1) ∧ (r = 1 ↔ ∀ j, i ≤ j → j < w → ∀ c, c < 64 → gA q 19 j = nI c → ¬ nI c = v → gA q 16 c = gA q 17 c) := by
  intro d
  induction d with
  | zero =>
    intro n i q w v hw h64 h hn hl
    obtain ⟨k, rfl⟩ := fuel hn
    have hi : i = w := by omega
    subst hi
    have c : gI q 305 ≤ nI i := by
      rw [hw, nI_leI (by omega) (by omega)]
      omega
    exact ⟨⟨fun _ => trivial, fun e => absurd c e⟩, 1, by rw [fX5_isKeptBut_18, if_pos c], Or.inr rfl, fun _ j h1 h2 => by omega, fun _ => rfl⟩
  | succ d ih =>
    intro n i q w v hw h64 h hn hl
    obtain ⟨k, rfl⟩ := fuel hn
    have c : ¬ gI q 305 ≤ nI i := nle (n := w) (by omega) (by omega) hw
    obtain ⟨c0, hc0, e0⟩ := hl i (by omega)
    have hin : vp_in (nI i) 64 := vp_in_nI (by omega) (by decide)
    have hc : (nI i).toNatClampNeg = i := nI_clamp (by omega)
    have ha : nI c0 &&& 63 = nI c0 := by
      rw [pk_andN (by omega) 6 (by decide), Nat.mod_eq_of_lt (by omega)]
    have hin0 : vp_in (nI c0) 64 := vp_in_nI (by omega) (by decide)
    have hcc : (nI c0).toNatClampNeg = c0 := nI_clamp (by omega)
    obtain ⟨hk, r, e1, e2, e3⟩ := ih k (i + 1) q w v hw h64 (by omega) (by omega) hl
    have hk62 : kX5_isKeptBut_62 (kX5_isKeptBut_18 k) q v (nI i) := by
      unfold kX5_isKeptBut_62
      rw [nI_1]
      exact hk
    have hf62 : fX5_isKeptBut_62 (fX5_isKeptBut_18 k) q v (nI i) = (r, q) := by
      unfold fX5_isKeptBut_62
      rw [nI_1]
      exact e1
    have hs : ∀ (P : Nat → Prop), P i → ((∀ j, i + 1 ≤ j → j < w → P j) ↔ (∀ j, i ≤ j → j < w → P j)) := by
      intro P hp
      constructor
      · intro a j h1 h2
        by_cases hj : j = i
        · rw [hj]
          exact hp
        · exact a j (by omega) h2
      · intro a j h1 h2
        exact a j (by omega) h2
    by_cases g : nI c0 = v
    · refine ⟨⟨fun e => absurd e c, fun _ => ⟨hin, ?_⟩⟩, r, ?_, e2, ?_⟩
      · rw [hc, e0, ha]
        exact ⟨fun _ => hk62, fun e => absurd g e⟩
      · rw [fX5_isKeptBut_18, if_neg c, hc, e0, ha, if_pos g]
        exact hf62
      · rw [e3]
        refine hs (fun j => ∀ c, c < 64 → gA q 19 j = nI c → ¬ nI c = v → gA q 16 c = gA q 17 c) ?_
        intro c1 h1 h2 h3
        rw [e0] at h2
        exact absurd (h2.symm.trans g) h3
    · by_cases g2 : gA q 16 c0 = gA q 17 c0
      · refine ⟨⟨fun e => absurd e c, fun _ => ⟨hin, ?_⟩⟩, r, ?_, e2, ?_⟩
        · rw [hc, e0, ha, hcc]
          exact ⟨fun e => absurd e g, fun _ => ⟨hin0, hin0, fun _ => hk62, fun e => absurd g2 e⟩⟩
        · rw [fX5_isKeptBut_18, if_neg c, hc, e0, ha, if_neg g, hcc, if_pos g2]
          exact hf62
        · rw [e3]
          refine hs (fun j => ∀ c, c < 64 → gA q 19 j = nI c → ¬ nI c = v → gA q 16 c = gA q 17 c) ?_
          intro c1 h1 h2 h3
          rw [e0] at h2
          have h4 := (nI_eq (by omega) (by omega)).mp h2
          rw [← h4]
          exact g2
      · refine ⟨⟨fun e => absurd e c, fun _ => ⟨hin, ?_⟩⟩, 0, ?_, Or.inl rfl, fun e => absurd e (by decide), fun e => absurd (e i (by omega) (by omega) c0 hc0 e0 g) g2⟩
        · rw [hc, e0, ha, hcc]
          exact ⟨fun e => absurd e g, fun _ => ⟨hin0, hin0, fun e => absurd e g2, fun _ => trivial⟩⟩
        · rw [fX5_isKeptBut_18, if_neg c, hc, e0, ha, if_neg g, hcc, if_neg g2]
theorem x_kept_16 {q : SS} (h : MI q) (v : Int32) : kX5_isKeptBut_16 q v ∧ ∃ r : Int32, fX5_isKeptBut_16 q v = (r, q) ∧ (r = 0 ∨ r = 1) ∧ (r = 1 ↔ ∀ c, c < 64 → ¬ nI c = v → gA q 16 c = gA q 17 c) := by
  obtain ⟨w, h1, h2, h3, h4, h5⟩ := h
  obtain ⟨hk, r, e1, e2, e3⟩ := x_kept_18 w 70 0 q w v h2 h1 (by omega) (by omega) h4
  refine ⟨hk, r, e1, e2, ?_⟩
  rw [e3]
  constructor
  · intro a c hc hv
    rcases h5 c hc with ⟨_, b⟩ | ⟨_, i, hi, b⟩
    · exact b
    · exact a i (by omega) hi c hc b hv
  · intro a j _ _ c hc _ hv
    exact a c hc hv
theorem x_kept {q : SS} (h : MI q) {v b : Int32} (hv : v = -1 ∨ rg 0 63 v) : kX5_isKeptBut q v b ∧ ∃ r : Int32, fX5_isKeptBut q v b = (r, q) ∧ (r = 0 ∨ r = 1) ∧ (r = 1 ↔ (v = -1 ∨ gA q 16 v.toNatClampNeg = b) ∧ ∀ c, c < 64 → ¬ nI c = v → gA q 16 c = gA q 17 c) := by
  obtain ⟨hk, r, e1, e2, e3⟩ := x_kept_16 h v
  by_cases g : v = -1
  · refine ⟨⟨fun _ => hk, fun e => absurd g e⟩, r, ?_, e2, ?_⟩
    · rw [fX5_isKeptBut, if_pos g]
      exact e1
    · rw [e3]
      exact ⟨fun a => ⟨Or.inl g, a⟩, fun a => a.2⟩
  · have hr := hv.resolve_left g
    have e63 : v &&& 63 = v := tand2 6 (by decide) (by decide) hr.1 (by have := hr.2; omega)
    have hin : vp_in v 64 := rin hr (by decide)
    have ka : kX5_at q v := by
      unfold kX5_at
      rw [e63]
      exact ⟨hin, trivial⟩
    have fa : fX5_at q v = (gA q 16 v.toNatClampNeg, q) := by
      unfold fX5_at
      rw [e63]
    by_cases g2 : gA q 16 v.toNatClampNeg = b
    · refine ⟨⟨fun e => absurd e g, fun _ => ⟨ka, ?_⟩⟩, r, ?_, e2, ?_⟩
      · rw [fa]
        exact ⟨fun _ => hk, fun e => absurd g2 e⟩
      · rw [fX5_isKeptBut, if_neg g, fa, fX5_isKeptBut_10, if_pos g2]
        exact e1
      · rw [e3]
        exact ⟨fun a => ⟨Or.inr g2, a⟩, fun a => a.2⟩
    · refine ⟨⟨fun e => absurd e g, fun _ => ⟨ka, ?_⟩⟩, 0, ?_, Or.inl rfl, fun e => absurd e (by decide), fun e => ?_⟩
      · rw [fa]
        exact ⟨fun e => absurd e g2, fun _ => trivial⟩
      · rw [fX5_isKeptBut, if_neg g, fa, fX5_isKeptBut_10, if_neg g2]
      · rcases e.1 with a | a
        · exact absurd a g
        · exact absurd a g2
def fE (q : SS) (v1 : Int32) : SS := if v1 = 0 then (if (gI q 11) = 0 then fX11_finish_108 (sI q 12 ((gA q 16) (4 : Int32).toNatClampNeg)) v1 else fX11_finish_108 q v1) else fX11_finish_108 q v1
def kE (q : SS) (v1 : Int32) : Prop := (v1 = 0 → (((gI q 11) = 0 → kX11_finish_108 (sI q 12 ((gA q 16) (4 : Int32).toNatClampNeg)) v1) ∧ (¬ (gI q 11) = 0 → kX11_finish_108 q v1))) ∧ (¬ v1 = 0 → kX11_finish_108 q v1)
theorem m_fin_52 : ∀ (d n i : Nat) (q : SS) (v : Int32), i + d = 64 → d < n → (v = 0 ∨ v = 1) → ∃ w : Int32, (w = 0 ∨ w = 1) ∧ (w = 1 ↔ v = 1 ∧ ∀ k, i ≤ k → k < 64 → gA q 21 k = gA q 17 k) ∧ (kE q w → kX11_finish_52 n q v (nI i)) ∧ fX11_finish_52 n q v (nI i) = fE q w := by
  intro d
  induction d with
  | zero =>
    intro n i q v h hn hv
    obtain ⟨k, rfl⟩ := fuel hn
    have hi : i = 64 := by omega
    subst hi
    have c : (64 : Int32) ≤ nI 64 := by decide
    refine ⟨v, hv, ⟨fun e => ⟨e, fun k h1 h2 => by omega⟩, fun e => e.1⟩, fun hk => ⟨fun _ => hk, fun e => absurd c e⟩, ?_⟩
    rw [fX11_finish_52, if_pos c]
    rfl
  | succ d ih =>
    intro n i q v h hn hv
    obtain ⟨k, rfl⟩ := fuel hn
    have c : ¬ (64 : Int32) ≤ nI i := nle (n := 64) (by omega) (by decide) rfl
    have hin : vp_in (nI i) 64 := vp_in_nI (by omega) (by decide)
    have hc : (nI i).toNatClampNeg = i := nI_clamp (by omega)
    by_cases g : gA q 21 i = gA q 17 i
    · have hv1 : v &&& 1 = v := by
        rcases hv with e | e
        · rw [e]
          rfl
        · rw [e]
          rfl
      obtain ⟨w, e1, e2, e3, e4⟩ := ih k (i + 1) q v (by omega) (by omega) hv
      refine ⟨w, e1, ?_, fun hk => ⟨fun e => absurd e c, fun _ => ⟨hin, hin, ?_⟩⟩, ?_⟩
      · rw [e2]
        constructor
        · intro ⟨a, b⟩
          refine ⟨a, fun r h1 h2 => ?_⟩
          by_cases hr : r = i
          · rw [hr]
            exact g
          · exact b r (by omega) h2
        · intro ⟨a, b⟩
          exact ⟨a, fun r h1 h2 => b r (by omega) h2⟩
      · rw [hc]
        refine ⟨fun _ => ?_, fun e => absurd g e⟩
        unfold kX11_finish_79
        rw [hv1, nI_1]
        exact e3 hk
      · rw [fX11_finish_52, if_neg c, hc, if_pos g, fX11_finish_79, hv1, nI_1, e4]
    · have hv0 : v &&& 0 = 0 := by
        rcases hv with e | e
        · rw [e]
          rfl
        · rw [e]
          rfl
      obtain ⟨w, e1, e2, e3, e4⟩ := ih k (i + 1) q 0 (by omega) (by omega) (Or.inl rfl)
      refine ⟨w, e1, ?_, fun hk => ⟨fun e => absurd e c, fun _ => ⟨hin, hin, ?_⟩⟩, ?_⟩
      · constructor
        · intro e
          exact absurd (e2.mp e).1 (by decide)
        · intro ⟨_, b⟩
          exact absurd (b i (by omega) (by omega)) g
      · rw [hc]
        refine ⟨fun e => absurd e g, fun _ => ?_⟩
        unfold kX11_finish_79
        rw [hv0, nI_1]
        exact e3 hk
      · rw [fX11_finish_52, if_neg c, hc, if_neg g, fX11_finish_79, hv0, nI_1, e4]
theorem m_fin_15 : ∀ (d n i : Nat) (q : SS) (v : Int32), i + d = 10 → d < n → (v = 0 ∨ v = 1) → ∃ w : Int32, (w = 0 ∨ w = 1) ∧ (w = 1 ↔ v = 1 ∧ ∀ k, i ≤ k → k < 10 → gA q 20 k = gA q 15 k) ∧ (kX11_finish_52 130 q w 0 → kX11_finish_15 n q v (nI i)) ∧ fX11_finish_15 n q v (nI i) = fX11_finish_52 130 q w 0 := by
  intro d
  induction d with
  | zero =>
    intro n i q v h hn hv
    obtain ⟨k, rfl⟩ := fuel hn
    have hi : i = 10 := by omega
    subst hi
    have c : (10 : Int32) ≤ nI 10 := by decide
    refine ⟨v, hv, ⟨fun e => ⟨e, fun k h1 h2 => by omega⟩, fun e => e.1⟩, fun hk => ⟨fun _ => hk, fun e => absurd c e⟩, ?_⟩
    rw [fX11_finish_15, if_pos c]
  | succ d ih =>
    intro n i q v h hn hv
    obtain ⟨k, rfl⟩ := fuel hn
    have c : ¬ (10 : Int32) ≤ nI i := nle (n := 10) (by omega) (by decide) rfl
    have hin : vp_in (nI i) 16 := vp_in_nI (by omega) (by decide)
    have hc : (nI i).toNatClampNeg = i := nI_clamp (by omega)
    by_cases g : gA q 20 i = gA q 15 i
    · have hv1 : v &&& 1 = v := by
        rcases hv with e | e
        · rw [e]
          rfl
        · rw [e]
          rfl
      obtain ⟨w, e1, e2, e3, e4⟩ := ih k (i + 1) q v (by omega) (by omega) hv
      refine ⟨w, e1, ?_, fun hk => ⟨fun e => absurd e c, fun _ => ⟨hin, hin, ?_⟩⟩, ?_⟩
      · rw [e2]
        constructor
        · intro ⟨a, b⟩
          refine ⟨a, fun r h1 h2 => ?_⟩
          by_cases hr : r = i
          · rw [hr]
            exact g
          · exact b r (by omega) h2
        · intro ⟨a, b⟩
          exact ⟨a, fun r h1 h2 => b r (by omega) h2⟩
      · rw [hc]
        refine ⟨fun _ => ?_, fun e => absurd g e⟩
        unfold kX11_finish_42
        rw [hv1, nI_1]
        exact e3 hk
      · rw [fX11_finish_15, if_neg c, hc, if_pos g, fX11_finish_42, hv1, nI_1, e4]
    · have hv0 : v &&& 0 = 0 := by
        rcases hv with e | e
        · rw [e]
          rfl
        · rw [e]
          rfl
      obtain ⟨w, e1, e2, e3, e4⟩ := ih k (i + 1) q 0 (by omega) (by omega) (Or.inl rfl)
      refine ⟨w, e1, ?_, fun hk => ⟨fun e => absurd e c, fun _ => ⟨hin, hin, ?_⟩⟩, ?_⟩
      · constructor
        · intro e
          exact absurd (e2.mp e).1 (by decide)
        · intro ⟨_, b⟩
          exact absurd (b i (by omega) (by omega)) g
      · rw [hc]
        refine ⟨fun e => absurd e g, fun _ => ?_⟩
        unfold kX11_finish_42
        rw [hv0, nI_1]
        exact e3 hk
      · rw [fX11_finish_15, if_neg c, hc, if_neg g, fX11_finish_42, hv0, nI_1, e4]
theorem m_fin (q : SS) {v : Int32} (hv : v = 0 ∨ v = 1) : ∃ w : Int32, (w = 0 ∨ w = 1) ∧ (w = 1 ↔ v = 1 ∧ (∀ k, k < 10 → gA q 20 k = gA q 15 k) ∧ ∀ k, k < 64 → gA q 21 k = gA q 17 k) ∧ (kE q w → kX11_finish_15 130 q v 0) ∧ fX11_finish_15 130 q v 0 = fE q w := by
  obtain ⟨w1, a1, a2, a3, a4⟩ := m_fin_15 10 130 0 q v rfl (by decide) hv
  obtain ⟨w2, b1, b2, b3, b4⟩ := m_fin_52 64 130 0 q w1 rfl (by decide) a1
  refine ⟨w2, b1, ?_, fun k => a3 (b3 k), a4.trans b4⟩
  rw [b2, a2]
  constructor
  · intro ⟨⟨a, b⟩, d⟩
    exact ⟨a, fun k hk => b k (by omega) hk, fun k hk => d k (by omega) hk⟩
  · intro ⟨a, b, d⟩
    exact ⟨⟨a, fun k _ hk => b k hk⟩, fun k _ hk => d k hk⟩
