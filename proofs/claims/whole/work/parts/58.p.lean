/-! ===== PURE: telling flags, cycles, memory ===== -/
theorem tell_R {c : Int} {x m : SS} (h : R1 c x m) {k t b : Int32} (hk : rg 0 7 k) (ht : rg 0 255 t) (hb : rg 0 255 b) : R1 c (fX4_tell x k t b) (sI (sI (sI (sI m 26 1) 18 k) 19 t) 20 b) := by
  obtain ⟨h, hg⟩ := h
  refine ⟨?_, hg⟩
  obtain ⟨hW, hV, hT, hP, hQ, hK, hM, hR, hN, hF, hC, hS, hE⟩ := h
  exact ⟨hW, hV, hT, hP, hQ, hK, hM, hR, hN, ⟨rfl, rg_1, fun _ => ⟨rfl, rfl, rfl, hk, ht, hb⟩⟩, hC, hS, fun e => absurd e hg⟩
theorem t64 (v : Int32) : v.toInt64.toInt = v.toInt := Int32.toInt_toInt64 v
theorem tadd64 {a b : Int64} (h1 : -9223372036854775808 ≤ a.toInt + b.toInt) (h2 : a.toInt + b.toInt < 9223372036854775808) : (a + b).toInt = a.toInt + b.toInt := by
  rw [Int64.toInt_add]
  exact Int.bmod_eq_of_le (by omega) (by omega)
theorem tsub64 {a b : Int64} (h1 : -9223372036854775808 ≤ a.toInt - b.toInt) (h2 : a.toInt - b.toInt < 9223372036854775808) : (a - b).toInt = a.toInt - b.toInt := by
  rw [Int64.toInt_sub]
  exact Int.bmod_eq_of_le (by omega) (by omega)
theorem cyc_R {c : Int} {x m : SS} (h : R1 c x m) (hc : c ≤ 2000000000) {s : Int32} (hs : rg 1 10 s) : R1 (c + 10) (sL x 408 (gL x 408 + s.toInt64)) (sI (sL m 21 (gL m 21 + s.toInt64)) 17 (gI m 17 + s)) := by
  obtain ⟨h, hg⟩ := h
  refine ⟨?_, hg⟩
  have h := h.mono (c2 := c + 10) (by omega)
  obtain ⟨hW, hV, hT, hP, hQ, hK, hM, hR, hN, hF, hC, hS, hE⟩ := h
  obtain ⟨s1, s2, s3, s4, s5, s6, s7⟩ := hS
  have g1 := hs.1
  have g2 := hs.2
  have e1 : (gL m 21 + s.toInt64).toInt = (gL m 21).toInt + s.toInt := by
    rw [tadd64 (by rw [t64]; omega) (by rw [t64]; omega), t64]
  have e2 : (gI m 17 + s).toInt = (gI m 17).toInt + s.toInt := tadd (by omega) (by omega)
  sorry
