/-! ===== PURE: the byte that is told, prefixes ===== -/
def RD (c : Int) (y m : SS) : Prop := R c y m ∧ eD y m
theorem copy_RD {c : Int} {x m : SS} (h : R c x m) : RD c (sI (fX8_copyFrom_after_keptv x) 1105 (-1)) (D1 m 0 0) := by
  refine ⟨?_, copy_D h⟩
  rw [(x_copy_after_keptv x).2]
  exact h
theorem take_RD {c : Int} {y m : SS} (h : RD c y m) : kX2_takeByte y ∧ kX11_takes m ∧ ∃ b : Int32, rg 0 255 b ∧ (fX2_takeByte y).1 = b ∧ (fX11_takes m).1 = b ∧ RD c (fX2_takeByte y).2 (fX11_takes m).2 := by
  obtain ⟨hR, d0, d1, d2, d3, d4, d5, d6, ⟨v0, v4, v5, v6, v7, v8, v9⟩, d8, d9, d10⟩ := h
  have e63 : gA m 20 4 &&& 63 = gA m 20 4 := tand2 6 (by decide) (by decide) v4.1 (by have := v4.2; omega)
  have hin : vp_in (gA m 20 4) 64 := rin v4 (by decide)
  have hi : (gA m 20 4).toNatClampNeg < 64 := ridx v4 (by decide)
  have g1 := v4.1
  have g2 := v4.2
  have e1 : (gA m 20 4 + 1).toInt = (gA m 20 4).toInt + 1 := by
    rw [tadd (by rw [tl_1]; omega) (by rw [tl_1]; omega), tl_1]
  have en : (gA m 20 4 + 1) - (gA m 20 4 + 1) / 64 * 64 = (gA m 20 4 + 1) &&& 63 := by
    rw [tI, tmod tl_64 (by decide) (by decide) (by omega), tand _ 6 (by decide) (by decide)]
    rfl
  have kx : kX2_takeByte y := by
    refine ⟨?_, trivial⟩
    rw [d1, e63]
    exact hin
  have km : kX11_takes m := by
    refine ⟨?_, trivial⟩
    rw [cl_4]
    exact hin
  refine ⟨kx, km, gA m 21 (gA m 20 4).toNatClampNeg, d9 _ hi, ?_, ?_, ?_⟩
  · rw [fX2_takeByte, d1, e63]
    exact d8 _ hi
  · rw [fX11_takes, cl_4]
  · rw [fX2_takeByte, fX11_takes, cl_4, en, d1]
    refine ⟨hR, ?_, rfl, d2, d3, d4, d5, d6, ⟨?_, rg63 _, v5, v6, v7, v8, v9⟩, d8, d9, d10⟩
    · intro r hr
      show gA y 27 r = upd (gA m 20) 4 ((gA m 20 4 + 1) &&& 63) r
      rw [upd_ne (by omega)]
      exact d0 r hr
    · intro r hr
      show rg 0 255 (upd (gA m 20) 4 ((gA m 20 4 + 1) &&& 63) r)
      rw [upd_ne (by omega)]
      exact v0 r hr
theorem k_143 (q : SS) (a b d e : Int32) : kX2_decode_143 q a b d e := ⟨fun _ => trivial, fun _ => trivial⟩
theorem k_114 (q : SS) (a b : Int32) : kX2_decode_114 q a b := ⟨fun _ => k_143 _ _ _ _ _, fun _ => k_143 _ _ _ _ _⟩
theorem k_102 (q : SS) (a b : Int32) : kX2_decode_102 q a b := ⟨fun _ => k_114 _ _ _, fun _ => k_114 _ _ _⟩
theorem k_71 (q : SS) (a b : Int32) {s : Int32} (hs : nf .boolean s) : kX2_decode_71 q a b s := ⟨hs, fun _ => k_102 _ _ _, fun _ => k_102 _ _ _⟩
theorem k_59 (q : SS) (a b : Int32) : kX2_decode_59 q a b := ⟨fun _ => k_71 _ _ _ ⟨rfl, by decide⟩, fun _ => k_71 _ _ _ ⟨rfl, by decide⟩⟩
theorem x_59_1 (q : SS) {p : Nat} (hp : p < 64) (b : Int32) : fX2_decode_59 q (nI p) b = fX2_decode_71 q (nI p) b 1 := by
  have c : ¬ (64 : Int32) ≤ nI p := nle (n := 64) hp (by decide) rfl
  rw [fX2_decode_59, if_neg c]
theorem x_59_0 (q : SS) (b : Int32) : fX2_decode_59 q (nI 64) b = fX2_decode_71 q (nI 64) b 0 := by
  rw [fX2_decode_59, if_pos (by decide)]
theorem m_102_1 (q : SS) {p : Nat} (hp : p < 64) (b : Int32) : fX11_defines_102 q b (nI p) = fX11_defines_114 q b (nI p) 1 ∧ (kX11_defines_114 q b (nI p) 1 → kX11_defines_102 q b (nI p)) := by
  have c : ¬ (64 : Int32) ≤ nI p := nle (n := 64) hp (by decide) rfl
  refine ⟨?_, fun h => ⟨fun e => absurd e c, fun _ => h⟩⟩
  rw [fX11_defines_102, if_neg c]
/-- 64 prefixes: undefined; fewer: the byte behind them -/
def outU (c : Int) (m : SS) (X M : SS) : Prop := ∃ (y' : SS) (b' : Int32), X = fX2_decode_71 y' (nI 64) b' 0 ∧ ∃ m' : SS, R c y' m' ∧ M = sI m' 27 0
def outD (c : Int) (X M : SS) (K : Prop) : Prop := ∃ (p' : Nat) (y' m' : SS) (b' : Int32), p' < 64 ∧ RD c y' m' ∧ rg 0 255 b' ∧ X = fX2_decode_71 y' (nI p') b' 1 ∧ (kX11_defines_114 m' b' (nI p') 1 → K) ∧ M = fX11_defines_114 m' b' (nI p') 1
theorem pre_RD {c : Int} : ∀ (d p n1 n2 : Nat) (y m : SS) (b : Int32), p + d = 63 → d + 1 < n1 → d + 1 < n2 → RD c y m → rg 0 255 b →
    kX2_decode_22 n1 y (nI p) b ∧ ((outU c m (fX2_decode_22 n1 y (nI p) b) (fX11_defines_59 n2 m b (nI p)) ∧ kX11_defines_59 n2 m b (nI p)) ∨ outD c (fX2_decode_22 n1 y (nI p) b) (fX11_defines_59 n2 m b (nI p)) (kX11_defines_59 n2 m b (nI p))) := by
  intro d
  induction d with
  | zero =>
    intro p n1 n2 y m b h h1 h2 hR hb
    obtain ⟨k1, rfl⟩ := fuel h1
    obtain ⟨k2, rfl⟩ := fuel h2
    obtain ⟨j1, rfl⟩ := fuel (d := 0) (n := k1) (by omega)
    obtain ⟨j2, rfl⟩ := fuel (d := 0) (n := k2) (by omega)
    have hp : p = 63 := by omega
    subst hp
    have eS : gI y 805 = gA m 16 (7 : Int32).toNatClampNeg := by
      rw [cl_7]
      exact hR.1.2.2.2.2.2.1.2.2.2.2.2.1
    have cp : ¬ (64 : Int32) ≤ nI 63 := by decide
    have cq : (64 : Int32) ≤ nI 63 + 1 := by decide
    have c64 : (64 : Int32) ≤ nI 64 := by decide
    have eq64 : nI 63 + 1 = nI 64 := nI_1 63
    obtain ⟨t1, t2, b1, t3, t4, t5, t6⟩ := take_RD hR
    by_cases hS : gA m 16 (7 : Int32).toNatClampNeg = 1
    · by_cases h15 : b / 16 = 15
      · have k64 : ∀ (n : Nat) (q : SS) (z : Int32), kX2_decode_22 (n + 1) q (nI 64) z := by
          intro n q z
          exact ⟨fun _ => ⟨fun _ => ⟨fun _ => k_59 _ _ _, fun e => absurd c64 e⟩, fun _ => k_59 _ _ _⟩, fun _ => k_59 _ _ _⟩
        have f64 : ∀ (n : Nat) (q : SS) (z : Int32), fX2_decode_22 (n + 1) q (nI 64) z = fX2_decode_71 q (nI 64) z 0 := by
          intro n q z
          rw [fX2_decode_22, if_pos c64, ← x_59_0]
          split
          · split
            · rfl
            · rfl
          · rfl
        have m64 : fX11_defines_59 (j2 + 1) m b (nI 64) = sI m 27 0 := by
          rw [fX11_defines_59, if_pos hS, if_pos h15, if_pos c64, fX11_defines_102, if_pos c64, fX11_defines_114, if_pos rfl]
        have km : kX11_defines_59 (j2 + 1) m b (nI 64) := by
          refine ⟨fun _ => ⟨fun _ => ⟨fun _ => ?_, fun e => absurd c64 e⟩, fun e => absurd h15 e⟩, fun e => absurd hS e⟩
          exact ⟨fun _ => ⟨⟨rfl, by decide⟩, fun _ => trivial, fun e => absurd rfl e⟩, fun e => absurd c64 e⟩
        have ex : fX2_decode_22 (j1 + 1 + 1) y (nI 63) b = fX2_decode_71 (fX2_takeByte y).2 (nI 64) b1 0 := by
          rw [fX2_decode_22, if_pos (eS.trans hS), if_pos h15, if_neg cp, fX2_decode_51, t4, eq64, f64]
        have em : fX11_defines_59 (j2 + 1 + 1) m b (nI 63) = sI m 27 0 := by
          rw [fX11_defines_59, if_pos hS, if_pos h15, if_neg cp, if_pos cq, eq64, m64]
        refine ⟨⟨fun _ => ⟨fun _ => ⟨fun e => absurd e cp, fun _ => ⟨t1, ?_⟩⟩, fun _ => k_59 _ _ _⟩, fun _ => k_59 _ _ _⟩, Or.inl ⟨⟨(fX2_takeByte y).2, b1, ex, m, t6.1, em⟩, ?_⟩⟩
        · show kX2_decode_22 (j1 + 1) _ (nI 63 + 1) _
          rw [eq64]
          exact k64 _ _ _
        · refine ⟨fun _ => ⟨fun _ => ⟨fun e => absurd e cp, fun _ => ⟨fun _ => ?_, fun e => absurd cq e⟩⟩, fun e => absurd h15 e⟩, fun e => absurd hS e⟩
          rw [eq64]
          exact km
      · refine ⟨⟨fun _ => ⟨fun e => absurd e h15, fun _ => k_59 _ _ _⟩, fun _ => k_59 _ _ _⟩, Or.inr ⟨63, y, m, b, by omega, hR, hb, ?_, ?_, ?_⟩⟩
        · rw [fX2_decode_22, if_pos (eS.trans hS), if_neg h15, x_59_1 _ (by omega)]
        · intro hk
          exact ⟨fun _ => ⟨fun e => absurd e h15, fun _ => (m_102_1 m (by omega) b).2 hk⟩, fun e => absurd hS e⟩
        · rw [fX11_defines_59, if_pos hS, if_neg h15, (m_102_1 m (by omega) b).1]
    · have hS' : ¬ gI y 805 = 1 := fun z => hS (eS.symm.trans z)
      refine ⟨⟨fun e => absurd e hS', fun _ => k_59 _ _ _⟩, Or.inr ⟨63, y, m, b, by omega, hR, hb, ?_, ?_, ?_⟩⟩
      · rw [fX2_decode_22, if_neg hS', x_59_1 _ (by omega)]
      · intro hk
        exact ⟨fun e => absurd e hS, fun _ => (m_102_1 m (by omega) b).2 hk⟩
      · rw [fX11_defines_59, if_neg hS, (m_102_1 m (by omega) b).1]
  | succ d ih =>
    intro p n1 n2 y m b h h1 h2 hR hb
    obtain ⟨k1, rfl⟩ := fuel h1
    obtain ⟨k2, rfl⟩ := fuel h2
    have eS : gI y 805 = gA m 16 (7 : Int32).toNatClampNeg := by
      rw [cl_7]
      exact hR.1.2.2.2.2.2.1.2.2.2.2.2.1
    have cp : ¬ (64 : Int32) ≤ nI p := nle (n := 64) (by omega) (by decide) rfl
    have cq : ¬ (64 : Int32) ≤ nI p + 1 := by
      rw [nI_1]
      exact nle (n := 64) (by omega) (by decide) rfl
    obtain ⟨t1, t2, b1, t3, t4, t5, t6⟩ := take_RD hR
    by_cases hS : gA m 16 (7 : Int32).toNatClampNeg = 1
    · by_cases h15 : b / 16 = 15
      · obtain ⟨i1, i2⟩ := ih (p + 1) k1 k2 (fX2_takeByte y).2 (fX11_takes m).2 b1 (by omega) (by omega) (by omega) t6 t3
        have ex : fX2_decode_22 (k1 + 1) y (nI p) b = fX2_decode_22 k1 (fX2_takeByte y).2 (nI (p + 1)) b1 := by
          rw [fX2_decode_22, if_pos (eS.trans hS), if_pos h15, if_neg cp, fX2_decode_51, t4, nI_1]
        have em : fX11_defines_59 (k2 + 1) m b (nI p) = fX11_defines_59 k2 (fX11_takes m).2 b1 (nI (p + 1)) := by
          rw [fX11_defines_59, if_pos hS, if_pos h15, if_neg cp, if_neg cq, fX11_defines_98, t5, nI_1]
        have kx : kX2_decode_22 (k1 + 1) y (nI p) b := by
          refine ⟨fun _ => ⟨fun _ => ⟨fun e => absurd e cp, fun _ => ⟨t1, ?_⟩⟩, fun _ => k_59 _ _ _⟩, fun _ => k_59 _ _ _⟩
          rw [t4]
          show kX2_decode_22 k1 (fX2_takeByte y).2 (nI p + 1) b1
          rw [nI_1]
          exact i1
        have km : kX11_defines_59 k2 (fX11_takes m).2 b1 (nI (p + 1)) → kX11_defines_59 (k2 + 1) m b (nI p) := by
          intro hk
          refine ⟨fun _ => ⟨fun _ => ⟨fun e => absurd e cp, fun _ => ⟨fun e => absurd e cq, fun _ => ⟨t2, ?_⟩⟩⟩, fun e => absurd h15 e⟩, fun e => absurd hS e⟩
          rw [t5]
          show kX11_defines_59 k2 (fX11_takes m).2 b1 (nI p + 1)
          rw [nI_1]
          exact hk
        rw [ex, em]
        refine ⟨kx, ?_⟩
        rcases i2 with ⟨u1, u2⟩ | ⟨p', y', m', b', w1, w2, w3, w4, w5, w6⟩
        · exact Or.inl ⟨u1, km u2⟩
        · exact Or.inr ⟨p', y', m', b', w1, w2, w3, w4, fun z => km (w5 z), w6⟩
      · refine ⟨⟨fun _ => ⟨fun e => absurd e h15, fun _ => k_59 _ _ _⟩, fun _ => k_59 _ _ _⟩, Or.inr ⟨p, y, m, b, by omega, hR, hb, ?_, ?_, ?_⟩⟩
        · rw [fX2_decode_22, if_pos (eS.trans hS), if_neg h15, x_59_1 _ (by omega)]
        · intro hk
          exact ⟨fun _ => ⟨fun e => absurd e h15, fun _ => (m_102_1 m (by omega) b).2 hk⟩, fun e => absurd hS e⟩
        · rw [fX11_defines_59, if_pos hS, if_neg h15, (m_102_1 m (by omega) b).1]
    · have hS' : ¬ gI y 805 = 1 := fun z => hS (eS.symm.trans z)
      refine ⟨⟨fun e => absurd e hS', fun _ => k_59 _ _ _⟩, Or.inr ⟨p, y, m, b, by omega, hR, hb, ?_, ?_, ?_⟩⟩
      · rw [fX2_decode_22, if_neg hS', x_59_1 _ (by omega)]
      · intro hk
        exact ⟨fun e => absurd e hS, fun _ => (m_102_1 m (by omega) b).2 hk⟩
      · rw [fX11_defines_59, if_neg hS, (m_102_1 m (by omega) b).1]
