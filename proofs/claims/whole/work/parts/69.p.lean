/-! ===== PURE: updates of what is told ===== -/
theorem RD_P {c : Int} {y m : SS} (h : RD c y m) {v : Int32} (hv : rg 0 63 v) : RD c (sI y 1201 v) (sA m 20 (upd (gA m 20) 4 v)) := by
  obtain ⟨hR, d0, d1, d2, d3, d4, d5, d6, ⟨v0, v4, v5, v6, v7, v8, v9⟩, d8, d9, d10⟩ := h
  refine ⟨hR, ?_, rfl, d2, d3, d4, d5, d6, ⟨?_, hv, v5, v6, v7, v8, v9⟩, d8, d9, d10⟩
  · intro r hr
    show gA y 27 r = upd (gA m 20) 4 v r
    rw [upd_ne (by omega)]
    exact d0 r hr
  · intro r hr
    show rg 0 255 (upd (gA m 20) 4 v r)
    rw [upd_ne (by omega)]
    exact v0 r hr
theorem RD_K {c : Int} {y m : SS} (h : RD c y m) {v : Int32} (hv : rg 0 63 v) : RD c (sI y 1202 v) (sA m 20 (upd (gA m 20) 9 v)) := by
  obtain ⟨hR, d0, d1, d2, d3, d4, d5, d6, ⟨v0, v4, v5, v6, v7, v8, v9⟩, d8, d9, d10⟩ := h
  refine ⟨hR, ?_, d1, rfl, d3, d4, d5, d6, ⟨?_, v4, v5, v6, v7, v8, hv⟩, d8, d9, d10⟩
  · intro r hr
    show gA y 27 r = upd (gA m 20) 9 v r
    rw [upd_ne (by omega)]
    exact d0 r hr
  · intro r hr
    show rg 0 255 (upd (gA m 20) 9 v r)
    rw [upd_ne (by omega)]
    exact v0 r hr
theorem RD_Z {c : Int} {y m : SS} (h : RD c y m) {v : Int32} (hv : rg 0 1 v) : RD c (sI y 1203 v) (sA m 20 (upd (gA m 20) 5 v)) := by
  obtain ⟨hR, d0, d1, d2, d3, d4, d5, d6, ⟨v0, v4, v5, v6, v7, v8, v9⟩, d8, d9, d10⟩ := h
  refine ⟨hR, ?_, d1, d2, rfl, d4, d5, d6, ⟨?_, v4, hv, v6, v7, v8, v9⟩, d8, d9, d10⟩
  · intro r hr
    show gA y 27 r = upd (gA m 20) 5 v r
    rw [upd_ne (by omega)]
    exact d0 r hr
  · intro r hr
    show rg 0 255 (upd (gA m 20) 5 v r)
    rw [upd_ne (by omega)]
    exact v0 r hr
theorem RD_C {c : Int} {y m : SS} (h : RD c y m) {v : Int32} (hv : rg 0 1 v) : RD c (sI y 1204 v) (sA m 20 (upd (gA m 20) 6 v)) := by
  obtain ⟨hR, d0, d1, d2, d3, d4, d5, d6, ⟨v0, v4, v5, v6, v7, v8, v9⟩, d8, d9, d10⟩ := h
  refine ⟨hR, ?_, d1, d2, d3, rfl, d5, d6, ⟨?_, v4, v5, hv, v7, v8, v9⟩, d8, d9, d10⟩
  · intro r hr
    show gA y 27 r = upd (gA m 20) 6 v r
    rw [upd_ne (by omega)]
    exact d0 r hr
  · intro r hr
    show rg 0 255 (upd (gA m 20) 6 v r)
    rw [upd_ne (by omega)]
    exact v0 r hr
theorem RD_S {c : Int} {y m : SS} (h : RD c y m) {v : Int32} (hv : rg 0 1 v) : RD c (sI y 1205 v) (sA m 20 (upd (gA m 20) 7 v)) := by
  obtain ⟨hR, d0, d1, d2, d3, d4, d5, d6, ⟨v0, v4, v5, v6, v7, v8, v9⟩, d8, d9, d10⟩ := h
  refine ⟨hR, ?_, d1, d2, d3, d4, rfl, d6, ⟨?_, v4, v5, v6, hv, v8, v9⟩, d8, d9, d10⟩
  · intro r hr
    show gA y 27 r = upd (gA m 20) 7 v r
    rw [upd_ne (by omega)]
    exact d0 r hr
  · intro r hr
    show rg 0 255 (upd (gA m 20) 7 v r)
    rw [upd_ne (by omega)]
    exact v0 r hr
theorem RD_I {c : Int} {y m : SS} (h : RD c y m) {v : Int32} (hv : rg 0 1 v) : RD c (sI y 1206 v) (sA m 20 (upd (gA m 20) 8 v)) := by
  obtain ⟨hR, d0, d1, d2, d3, d4, d5, d6, ⟨v0, v4, v5, v6, v7, v8, v9⟩, d8, d9, d10⟩ := h
  refine ⟨hR, ?_, d1, d2, d3, d4, d5, rfl, ⟨?_, v4, v5, v6, v7, hv, v9⟩, d8, d9, d10⟩
  · intro r hr
    show gA y 27 r = upd (gA m 20) 8 v r
    rw [upd_ne (by omega)]
    exact d0 r hr
  · intro r hr
    show rg 0 255 (upd (gA m 20) 8 v r)
    rw [upd_ne (by omega)]
    exact v0 r hr
theorem RD_reg {c : Int} {y m : SS} (h : RD c y m) {v : Int32} (hv : rg 0 255 v) {i : Nat} (hi : i < 4) : RD c (sA y 27 (upd (gA y 27) i v)) (sA m 20 (upd (gA m 20) i v)) := by
  obtain ⟨hR, d0, d1, d2, d3, d4, d5, d6, ⟨v0, v4, v5, v6, v7, v8, v9⟩, d8, d9, d10⟩ := h
  have hu : ∀ k : Nat, 4 ≤ k → upd (gA m 20) i v k = gA m 20 k := fun k hk => upd_ne (by omega)
  refine ⟨hR, ?_, ?_⟩
  · intro r hr
    show upd (gA y 27) i v r = upd (gA m 20) i v r
    rw [upd_at, upd_at, d0 r hr]
  · show gI y 1201 = upd (gA m 20) i v 4 ∧ gI y 1202 = upd (gA m 20) i v 9 ∧ gI y 1203 = upd (gA m 20) i v 5 ∧ gI y 1204 = upd (gA m 20) i v 6 ∧ gI y 1205 = upd (gA m 20) i v 7 ∧ gI y 1206 = upd (gA m 20) i v 8 ∧ ((∀ r, r < 4 → rg 0 255 (upd (gA m 20) i v r)) ∧ rg 0 63 (upd (gA m 20) i v 4) ∧ rg 0 1 (upd (gA m 20) i v 5) ∧ rg 0 1 (upd (gA m 20) i v 6) ∧ rg 0 1 (upd (gA m 20) i v 7) ∧ rg 0 1 (upd (gA m 20) i v 8) ∧ rg 0 63 (upd (gA m 20) i v 9)) ∧ (∀ c, c < 64 → gA y 17 c = gA m 21 c) ∧ (∀ c, c < 64 → rg 0 255 (gA m 21 c)) ∧ gI y 1105 = -1
    rw [hu 4 (by decide), hu 9 (by decide), hu 5 (by decide), hu 6 (by decide), hu 7 (by decide), hu 8 (by decide)]
    refine ⟨d1, d2, d3, d4, d5, d6, ⟨?_, v4, v5, v6, v7, v8, v9⟩, d8, d9, d10⟩
    intro r hr
    rw [upd_at]
    split
    · exact hv
    · exact v0 r hr
