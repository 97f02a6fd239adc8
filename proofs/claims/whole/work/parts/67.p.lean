/-! ===== PURE: decoding ===== -/
theorem dec_R {c : Int} {x m : SS} (h : R c x m) : kX2_decode x ∧
    ((∃ (y : SS) (b : Int32), fX2_decode x = fX2_decode_71 y (nI 64) b 0 ∧ kX11_defines m ∧ ∃ m' : SS, R c y m' ∧ fX11_defines m = sI m' 27 0) ∨
     (∃ (p : Nat) (y m' : SS) (b : Int32), p < 64 ∧ RD c y m' ∧ rg 0 255 b ∧ fX2_decode x = fX2_decode_71 y (nI p) b 1 ∧ (kX11_defines_114 m' b (nI p) 1 → kX11_defines m) ∧ fX11_defines m = fX11_defines_114 m' b (nI p) 1)) := by
  have h0 := copy_RD h
  have kc := (x_copy_after_keptv x).1
  have hd := m_defines m
  have ex : fX2_decode x = fX2_decode_22 70 (fX2_takeByte (sI (fX8_copyFrom_after_keptv x) 1105 (-1))).2 0 (fX2_takeByte (sI (fX8_copyFrom_after_keptv x) 1105 (-1))).1 := rfl
  have kx : kX2_takeByte (sI (fX8_copyFrom_after_keptv x) 1105 (-1)) → kX2_decode_22 70 (fX2_takeByte (sI (fX8_copyFrom_after_keptv x) 1105 (-1))).2 0 (fX2_takeByte (sI (fX8_copyFrom_after_keptv x) 1105 (-1))).1 → kX2_decode x := fun a b => ⟨kc, a, b⟩
  generalize sI (fX8_copyFrom_after_keptv x) 1105 (-1) = Y at *
  obtain ⟨t1, t2, b, t3, t4, t5, t6⟩ := take_RD h0
  obtain ⟨i1, i2⟩ := pre_RD 63 0 70 130 _ _ b rfl (by decide) (by decide) t6 t3
  have em : fX11_defines m = fX11_defines_59 130 (fX11_takes (D1 m 0 0)).2 b (nI 0) := by
    rw [hd.2, fD, t5]
    rfl
  have km : kX11_defines_59 130 (fX11_takes (D1 m 0 0)).2 b (nI 0) → kX11_defines m := by
    intro hk
    refine hd.1 ⟨t2, ?_⟩
    rw [t5]
    exact hk
  rw [t4] at ex kx
  refine ⟨kx t1 i1, ?_⟩
  have ex' : fX2_decode x = fX2_decode_22 70 (fX2_takeByte Y).2 (nI 0) b := ex
  rw [ex', em]
  rcases i2 with ⟨⟨y', b', u1, m', u2, u3⟩, u4⟩ | ⟨p', y', m', b', w1, w2, w3, w4, w5, w6⟩
  · exact Or.inl ⟨y', b', u1, km u4, m', u2, u3⟩
  · exact Or.inr ⟨p', y', m', b', w1, w2, w3, w4, fun z => km (w5 z), w6⟩
