/-! ===== PURE: the checker, its small pieces ===== -/
theorem bo_or : ∀ a, a < 32 → ∀ b, b < 32 → nI a ||| nI b = nI (a ||| b) ∧ (a ||| b) < 32 := by decide +kernel
theorem bo_or16 : ∀ a, a < 16 → ∀ b, b < 16 → (a ||| b) < 16 := by decide +kernel
theorem bo_and : ∀ a, a < 32 → ∀ b, b < 32 → nI a &&& nI b = nI (a &&& b) ∧ (a &&& b) < 32 := by decide +kernel
theorem bo_and16 : ∀ a, a < 32 → ∀ b, b < 16 → (a &&& b) < 16 := by decide +kernel
theorem bo_not : ∀ a, a < 32 → ∀ b, b < 32 → nI a &&& (nI b ^^^ (-1)) = nI (a &&& (31 ^^^ b)) ∧ (a &&& (31 ^^^ b)) < 32 := by decide +kernel
theorem bo_not16 : ∀ a, a < 16 → ∀ b, b < 32 → (a &&& (31 ^^^ b)) < 16 := by decide +kernel
theorem bb_not : ∀ a, a < 32 → ∀ b, b < 32 → ∀ k, k < 5 → (a &&& (31 ^^^ b)).testBit k = (a.testBit k && !b.testBit k) := by decide +kernel
theorem bb_ext0 : ∀ a, a < 16 → ∀ b, b < 16 → (a.testBit 0 == b.testBit 0 && a.testBit 1 == b.testBit 1 && a.testBit 2 == b.testBit 2 && a.testBit 3 == b.testBit 3) = true → a = b := by decide +kernel
theorem bb_ext {a b : Nat} (ha : a < 16) (hb : b < 16) (h : ∀ k, k < 4 → a.testBit k = b.testBit k) : a = b := by
  refine bb_ext0 a ha b hb ?_
  rw [h 0 (by decide), h 1 (by decide), h 2 (by decide), h 3 (by decide)]
  simp
theorem bb_none : ∀ a, a < 32 → (∀ k, k < 5 → a.testBit k = false) → a = 0 := by decide +kernel
theorem bb_4 : ∀ a, a < 16 → a.testBit 4 = false := by decide +kernel
theorem bb_all : ∀ k, k < 5 → Nat.testBit 31 k = true := by decide +kernel
def pc (v : Nat) : Nat := v % 2 + v / 2 % 2 + v / 4 % 2 + v / 8 % 2 + v / 16 % 2
theorem pc_le : ∀ a, a < 32 → pc a ≤ 5 := by decide +kernel
theorem pc_up : ∀ b, b < 32 → ∀ p, p < 32 → ¬ (p &&& (31 ^^^ b)) = 0 → pc b + 1 ≤ pc (b ||| p) := by decide +kernel
theorem no_new : ∀ b, b < 32 → ∀ p, p < 32 → (p &&& (31 ^^^ b)) = 0 → ∀ k, k < 5 → p.testBit k = true → b.testBit k = true := by decide +kernel
def sm : Nat → (Nat → Nat) → Nat
  | 0, _ => 0
  | n + 1, g => sm n g + g n
theorem sm_le {n b : Nat} {g : Nat → Nat} (h : ∀ a, a < n → g a ≤ b) : sm n g ≤ b * n := by
  induction n with
  | zero => exact Nat.zero_le _
  | succ n ih =>
    have h1 := ih (fun a ha => h a (by omega))
    have h2 := h n (by omega)
    simp only [sm]
    rw [Nat.mul_succ]
    omega
theorem sm_congr {n : Nat} {g f : Nat → Nat} (h : ∀ a, a < n → g a = f a) : sm n g = sm n f := by
  induction n with
  | zero => rfl
  | succ n ih =>
    simp only [sm]
    rw [ih (fun a ha => h a (by omega)), h n (by omega)]
theorem sm_up {n a v : Nat} {g f : Nat → Nat} (ha : a < n) (hv : f a = v) (h : ∀ j, ¬ j = a → f j = g j) : sm n f + g a = sm n g + v := by
  induction n with
  | zero => omega
  | succ n ih =>
    simp only [sm]
    by_cases e : a = n
    · subst e
      rw [sm_congr (g := f) (f := g) (fun j hj => h j (by omega)), hv]
      omega
    · have h1 := ih (by omega)
      have h2 := h n (by omega)
      rw [h2]
      omega
/-! ways, sets, reads -/
def wy (m : SS) (a k : Nat) : Int32 := if k = 8 then (if gA m 9 a = 99 then flw m (nI (a + 1)) else -1) else if gA m 9 a = 110 ∨ gA m 9 a = 99 then (if k = 0 then flw m (gA m 5 a) else -1) else if gA m 9 a = 111 then (if nI k &&& (gA m 6 a ^^^ (-1)) = 0 then flw m (gA m 5 a ||| nI k) else -1) else -1
theorem m_way (q : SS) {a k : Nat} (ha : a < 80) (hk : k < 8) : kX11_way q (nI a) (nI k) ∧ fX11_way q (nI a) (nI k) = (wy q a k, q) := by
  have hin : vp_in (nI a) 80 := vp_in_nI (by omega) (by decide)
  have hc : (nI a).toNatClampNeg = a := nI_clamp (by omega)
  have k8 : ¬ k = 8 := by omega
  have hk0 : (nI k = 0) = (k = 0) := by
    have e := nI_eq (a := k) (b := 0) (by omega) (by omega)
    exact propext e
  unfold wy
  rw [if_neg k8]
  by_cases h1 : gA q 9 a = 110
  · by_cases h0 : k = 0
    · simp +decide only [fX11_way_40, kX11_way_40, fX11_way_36, kX11_way_36, fX11_way_22, kX11_way_22, fX11_way_81, kX11_way_81, fX11_way_80, kX11_way_80, fX11_way_77, kX11_way_77, fX11_way, kX11_way, eq_self, Classical.not_not, Sum.inr.injEq, Sum.inl.injEq, forall_eq', forall_eq, reduceCtorEq, implies_true, forall_const, true_and, and_true, and_self, false_implies, true_implies, not_true_eq_false, not_false_eq_true, if_true, if_false, hc, h1, eq_true hin, hk0, h0, mk_follows, mf_follows, true_or]
    · simp +decide only [fX11_way_40, kX11_way_40, fX11_way_36, kX11_way_36, fX11_way_22, kX11_way_22, fX11_way_81, kX11_way_81, fX11_way_80, kX11_way_80, fX11_way_77, kX11_way_77, fX11_way, kX11_way, eq_self, Classical.not_not, Sum.inr.injEq, Sum.inl.injEq, forall_eq', forall_eq, reduceCtorEq, implies_true, forall_const, true_and, and_true, and_self, false_implies, true_implies, not_true_eq_false, not_false_eq_true, if_true, if_false, hc, h1, eq_true hin, hk0, h0, mk_follows, mf_follows, true_or]
  · by_cases h2 : gA q 9 a = 99
    · by_cases h0 : k = 0
      · simp +decide only [fX11_way_40, kX11_way_40, fX11_way_36, kX11_way_36, fX11_way_22, kX11_way_22, fX11_way_81, kX11_way_81, fX11_way_80, kX11_way_80, fX11_way_77, kX11_way_77, fX11_way, kX11_way, eq_self, Classical.not_not, Sum.inr.injEq, Sum.inl.injEq, forall_eq', forall_eq, reduceCtorEq, implies_true, forall_const, true_and, and_true, and_self, false_implies, true_implies, not_true_eq_false, not_false_eq_true, if_true, if_false, hc, h1, h2, eq_true hin, hk0, h0, mk_follows, mf_follows, or_true]
      · simp +decide only [fX11_way_40, kX11_way_40, fX11_way_36, kX11_way_36, fX11_way_22, kX11_way_22, fX11_way_81, kX11_way_81, fX11_way_80, kX11_way_80, fX11_way_77, kX11_way_77, fX11_way, kX11_way, eq_self, Classical.not_not, Sum.inr.injEq, Sum.inl.injEq, forall_eq', forall_eq, reduceCtorEq, implies_true, forall_const, true_and, and_true, and_self, false_implies, true_implies, not_true_eq_false, not_false_eq_true, if_true, if_false, hc, h1, h2, eq_true hin, hk0, h0, mk_follows, mf_follows, or_true]
    · by_cases h3 : gA q 9 a = 111
      · by_cases h4 : nI k &&& (gA q 6 a ^^^ (-1)) = 0
        · simp +decide only [fX11_way_40, kX11_way_40, fX11_way_36, kX11_way_36, fX11_way_22, kX11_way_22, fX11_way_81, kX11_way_81, fX11_way_80, kX11_way_80, fX11_way_77, kX11_way_77, fX11_way, kX11_way, eq_self, Classical.not_not, Sum.inr.injEq, Sum.inl.injEq, forall_eq', forall_eq, reduceCtorEq, implies_true, forall_const, true_and, and_true, and_self, false_implies, true_implies, not_true_eq_false, not_false_eq_true, if_true, if_false, hc, h1, h2, h3, h4, eq_true hin, mk_follows, mf_follows, or_self]
        · simp +decide only [fX11_way_40, kX11_way_40, fX11_way_36, kX11_way_36, fX11_way_22, kX11_way_22, fX11_way_81, kX11_way_81, fX11_way_80, kX11_way_80, fX11_way_77, kX11_way_77, fX11_way, kX11_way, eq_self, Classical.not_not, Sum.inr.injEq, Sum.inl.injEq, forall_eq', forall_eq, reduceCtorEq, implies_true, forall_const, true_and, and_true, and_self, false_implies, true_implies, not_true_eq_false, not_false_eq_true, if_true, if_false, hc, h1, h2, h3, h4, eq_true hin, mk_follows, mf_follows, or_self]
      · simp +decide only [fX11_way_40, kX11_way_40, fX11_way_36, kX11_way_36, fX11_way_22, kX11_way_22, fX11_way_81, kX11_way_81, fX11_way_80, kX11_way_80, fX11_way_77, kX11_way_77, fX11_way, kX11_way, eq_self, Classical.not_not, Sum.inr.injEq, Sum.inl.injEq, forall_eq', forall_eq, reduceCtorEq, implies_true, forall_const, true_and, and_true, and_self, false_implies, true_implies, not_true_eq_false, not_false_eq_true, if_true, if_false, hc, h1, h2, h3, eq_true hin, mk_follows, mf_follows, or_self]
theorem or8 : ∀ n, n < 80 → ∀ b, b < 8 → rg (-1) 80 (nI n ||| nI b) := or79
theorem wy_rg {c : Int} {x m : SS} (h : R c x m) {a k : Nat} (ha : a < 80) (hk : k ≤ 8) : rg (-1) 80 (wy m a k) := by
  have m1 : rg (-1) 80 (-1 : Int32) := ⟨by decide, by decide⟩
  have b5 := h.2.1.2.2.2.2.1
  unfold wy
  split
  · split
    · refine flw_rg h ?_
      rw [rg, nI_toInt (by omega)]
      omega
    · exact m1
  · split
    · split
      · exact flw_rg h ((b5 a).mono (by decide) (by decide))
      · exact m1
    · split
      · split
        · rename_i k8 _ _ _
          refine flw_rg h ?_
          obtain ⟨i, hi, ei⟩ := tof (n := 80) (b5 a).1 (by have := (b5 a).2; omega) (by decide)
          rw [ei]
          exact or79 i hi k (by omega)
        · exact m1
      · exact m1
def stv (m : SS) (a : Nat) : Int32 := (gA m 3 a &&& 15) ||| (if gA m 4 a = 1 then 8 else 0)
theorem st_n {m : SS} (a : Nat) : ∃ n, n < 16 ∧ stv m a = nI n := by
  obtain ⟨i, hi, ei⟩ := tof (n := 16) (x := gA m 3 a &&& 15) (rg_and (gA m 3 a) 4 (hi := 15) (by decide) (by decide) (by decide)).1 (by have := (rg_and (gA m 3 a) 4 (hi := 15) (m := 15) (by decide) (by decide) (by decide)).2; omega) (by decide)
  unfold stv
  rw [ei]
  split
  · exact ⟨i ||| 8, bo_or16 i hi 8 (by decide), (bo_or i (by omega) 8 (by decide)).1⟩
  · exact ⟨i ||| 0, bo_or16 i hi 0 (by decide), (bo_or i (by omega) 0 (by decide)).1⟩
def stn (m : SS) (a : Nat) : Nat := (stv m a).toNatClampNeg
theorem stn_lt (m : SS) (a : Nat) : stn m a < 16 := by
  obtain ⟨n, hn, e⟩ := st_n (m := m) a
  rw [stn, e, nI_clamp (by omega)]
  exact hn
theorem stn_v (m : SS) (a : Nat) : stv m a = nI (stn m a) := by
  obtain ⟨n, hn, e⟩ := st_n (m := m) a
  rw [stn, e, nI_clamp (by omega)]
def rdM (d : Int32) (b1 b2 b3 : Bool) : Int32 := let v := ((((d &&& 1) ||| (d &&& 2)) ||| ((d &&& 4) * 2)) ||| (if b1 then 1 else 0)); let u := if b2 then v ||| 4 else v; if b3 then u ||| 8 else u
def rdX (d : Int32) (b1 b2 b3 : Bool) : Int32 := let v : Int32 := if d &&& 1 = 0 then (if b1 then 0 ||| 1 else 0) else 0 ||| 1; let u := if d &&& 2 = 0 then v else v ||| 2; let w := if b2 then u ||| 4 else u; if d &&& 4 = 0 then (if b3 then w ||| 8 else w) else w ||| 8
theorem rd_eq : ∀ d, d < 128 → ∀ b1 b2 b3 : Bool, rdM (nI d) b1 b2 b3 = rdX (nI d) b1 b2 b3 ∧ 0 ≤ (rdM (nI d) b1 b2 b3).toInt ∧ (rdM (nI d) b1 b2 b3).toInt < 16 := by decide +kernel
def c1 (m : SS) (a : Nat) : Prop := rg 1 4 (gA m 2 a)
def c2 (m : SS) (a : Nat) : Prop := ¬ gA m 4 a = 0 ∧ (gA m 3 a &&& 4) = 0
def c3 (m : SS) (a : Nat) : Prop := gA m 4 a = 2 ∧ (gA m 3 a &&& 8) = 0
theorem m_reads (q : SS) {a : Nat} (ha : a < 80) : kX11_reads q (nI a) ∧ ∃ b1 b2 b3 : Bool, (b1 = true ↔ c1 q a) ∧ (b2 = true ↔ c2 q a) ∧ (b3 = true ↔ c3 q a) ∧ fX11_reads q (nI a) = (rdM (gA q 1 a) b1 b2 b3, q) := by
  have hin : vp_in (nI a) 80 := vp_in_nI (by omega) (by decide)
  have hc : (nI a).toNatClampNeg = a := nI_clamp (by omega)
  have hi := mf_isIn q (gA q 2 a) 1 4
  rw [tl_1, tl_4] at hi
  constructor
  · simp +decide only [fX11_reads_103, kX11_reads_103, fX11_reads_102, kX11_reads_102, fX11_reads_73, kX11_reads_73, fX11_reads_47, kX11_reads_47, fX11_reads_39, kX11_reads_39, fX11_reads_36, kX11_reads_36, fX11_reads, kX11_reads, eq_self, Classical.not_not, Sum.inr.injEq, Sum.inl.injEq, forall_eq', forall_eq, reduceCtorEq, implies_true, forall_const, true_and, and_true, and_self, false_implies, true_implies, not_true_eq_false, not_false_eq_true, if_true, if_false, hc, eq_true hin, mk_isIn]
  · by_cases g1 : c1 q a
    · have g1' : rg 1 4 (gA q 2 a) := g1
      rw [if_pos g1'] at hi
      by_cases h0 : gA q 4 a = 0
      · have n2 : ¬ gA q 4 a = 2 := by
          rw [h0]
          decide
        refine ⟨true, false, false, by simp [g1], by simp [c2, h0], by simp [c3, n2], ?_⟩
        simp +decide only [fX11_reads_103, kX11_reads_103, fX11_reads_102, kX11_reads_102, fX11_reads_73, kX11_reads_73, fX11_reads_47, kX11_reads_47, fX11_reads_39, kX11_reads_39, fX11_reads_36, kX11_reads_36, fX11_reads, kX11_reads, eq_self, Classical.not_not, Sum.inr.injEq, Sum.inl.injEq, forall_eq', forall_eq, reduceCtorEq, implies_true, forall_const, true_and, and_true, and_self, false_implies, true_implies, not_true_eq_false, not_false_eq_true, if_true, if_false, hc, hi, h0, n2, rdM]
      · by_cases h4 : (gA q 3 a &&& 4) = 0
        · by_cases h2 : gA q 4 a = 2
          · by_cases h8 : (gA q 3 a &&& 8) = 0
            · refine ⟨true, true, true, by simp [g1], by simp [c2, h0, h4], by simp [c3, h2, h8], ?_⟩
              simp +decide only [fX11_reads_103, kX11_reads_103, fX11_reads_102, kX11_reads_102, fX11_reads_73, kX11_reads_73, fX11_reads_47, kX11_reads_47, fX11_reads_39, kX11_reads_39, fX11_reads_36, kX11_reads_36, fX11_reads, kX11_reads, eq_self, Classical.not_not, Sum.inr.injEq, Sum.inl.injEq, forall_eq', forall_eq, reduceCtorEq, implies_true, forall_const, true_and, and_true, and_self, false_implies, true_implies, not_true_eq_false, not_false_eq_true, if_true, if_false, hc, hi, h0, h2, h4, h8, rdM]
            · refine ⟨true, true, false, by simp [g1], by simp [c2, h0, h4], by simp [c3, h2, h8], ?_⟩
              simp +decide only [fX11_reads_103, kX11_reads_103, fX11_reads_102, kX11_reads_102, fX11_reads_73, kX11_reads_73, fX11_reads_47, kX11_reads_47, fX11_reads_39, kX11_reads_39, fX11_reads_36, kX11_reads_36, fX11_reads, kX11_reads, eq_self, Classical.not_not, Sum.inr.injEq, Sum.inl.injEq, forall_eq', forall_eq, reduceCtorEq, implies_true, forall_const, true_and, and_true, and_self, false_implies, true_implies, not_true_eq_false, not_false_eq_true, if_true, if_false, hc, hi, h0, h2, h4, h8, rdM]
          · refine ⟨true, true, false, by simp [g1], by simp [c2, h0, h4], by simp [c3, h2], ?_⟩
            simp +decide only [fX11_reads_103, kX11_reads_103, fX11_reads_102, kX11_reads_102, fX11_reads_73, kX11_reads_73, fX11_reads_47, kX11_reads_47, fX11_reads_39, kX11_reads_39, fX11_reads_36, kX11_reads_36, fX11_reads, kX11_reads, eq_self, Classical.not_not, Sum.inr.injEq, Sum.inl.injEq, forall_eq', forall_eq, reduceCtorEq, implies_true, forall_const, true_and, and_true, and_self, false_implies, true_implies, not_true_eq_false, not_false_eq_true, if_true, if_false, hc, hi, h0, h2, h4, rdM]
        · by_cases h2 : gA q 4 a = 2
          · by_cases h8 : (gA q 3 a &&& 8) = 0
            · refine ⟨true, false, true, by simp [g1], by simp [c2, h0, h4], by simp [c3, h2, h8], ?_⟩
              simp +decide only [fX11_reads_103, kX11_reads_103, fX11_reads_102, kX11_reads_102, fX11_reads_73, kX11_reads_73, fX11_reads_47, kX11_reads_47, fX11_reads_39, kX11_reads_39, fX11_reads_36, kX11_reads_36, fX11_reads, kX11_reads, eq_self, Classical.not_not, Sum.inr.injEq, Sum.inl.injEq, forall_eq', forall_eq, reduceCtorEq, implies_true, forall_const, true_and, and_true, and_self, false_implies, true_implies, not_true_eq_false, not_false_eq_true, if_true, if_false, hc, hi, h0, h2, h4, h8, rdM]
            · refine ⟨true, false, false, by simp [g1], by simp [c2, h0, h4], by simp [c3, h2, h8], ?_⟩
              simp +decide only [fX11_reads_103, kX11_reads_103, fX11_reads_102, kX11_reads_102, fX11_reads_73, kX11_reads_73, fX11_reads_47, kX11_reads_47, fX11_reads_39, kX11_reads_39, fX11_reads_36, kX11_reads_36, fX11_reads, kX11_reads, eq_self, Classical.not_not, Sum.inr.injEq, Sum.inl.injEq, forall_eq', forall_eq, reduceCtorEq, implies_true, forall_const, true_and, and_true, and_self, false_implies, true_implies, not_true_eq_false, not_false_eq_true, if_true, if_false, hc, hi, h0, h2, h4, h8, rdM]
          · refine ⟨true, false, false, by simp [g1], by simp [c2, h0, h4], by simp [c3, h2], ?_⟩
            simp +decide only [fX11_reads_103, kX11_reads_103, fX11_reads_102, kX11_reads_102, fX11_reads_73, kX11_reads_73, fX11_reads_47, kX11_reads_47, fX11_reads_39, kX11_reads_39, fX11_reads_36, kX11_reads_36, fX11_reads, kX11_reads, eq_self, Classical.not_not, Sum.inr.injEq, Sum.inl.injEq, forall_eq', forall_eq, reduceCtorEq, implies_true, forall_const, true_and, and_true, and_self, false_implies, true_implies, not_true_eq_false, not_false_eq_true, if_true, if_false, hc, hi, h0, h2, h4, rdM]
    · have g1' : ¬ rg 1 4 (gA q 2 a) := g1
      rw [if_neg g1'] at hi
      by_cases h0 : gA q 4 a = 0
      · have n2 : ¬ gA q 4 a = 2 := by
          rw [h0]
          decide
        refine ⟨false, false, false, by simp [g1], by simp [c2, h0], by simp [c3, n2], ?_⟩
        simp +decide only [fX11_reads_103, kX11_reads_103, fX11_reads_102, kX11_reads_102, fX11_reads_73, kX11_reads_73, fX11_reads_47, kX11_reads_47, fX11_reads_39, kX11_reads_39, fX11_reads_36, kX11_reads_36, fX11_reads, kX11_reads, eq_self, Classical.not_not, Sum.inr.injEq, Sum.inl.injEq, forall_eq', forall_eq, reduceCtorEq, implies_true, forall_const, true_and, and_true, and_self, false_implies, true_implies, not_true_eq_false, not_false_eq_true, if_true, if_false, hc, hi, h0, n2, rdM]
      · by_cases h4 : (gA q 3 a &&& 4) = 0
        · by_cases h2 : gA q 4 a = 2
          · by_cases h8 : (gA q 3 a &&& 8) = 0
            · refine ⟨false, true, true, by simp [g1], by simp [c2, h0, h4], by simp [c3, h2, h8], ?_⟩
              simp +decide only [fX11_reads_103, kX11_reads_103, fX11_reads_102, kX11_reads_102, fX11_reads_73, kX11_reads_73, fX11_reads_47, kX11_reads_47, fX11_reads_39, kX11_reads_39, fX11_reads_36, kX11_reads_36, fX11_reads, kX11_reads, eq_self, Classical.not_not, Sum.inr.injEq, Sum.inl.injEq, forall_eq', forall_eq, reduceCtorEq, implies_true, forall_const, true_and, and_true, and_self, false_implies, true_implies, not_true_eq_false, not_false_eq_true, if_true, if_false, hc, hi, h0, h2, h4, h8, rdM]
            · refine ⟨false, true, false, by simp [g1], by simp [c2, h0, h4], by simp [c3, h2, h8], ?_⟩
              simp +decide only [fX11_reads_103, kX11_reads_103, fX11_reads_102, kX11_reads_102, fX11_reads_73, kX11_reads_73, fX11_reads_47, kX11_reads_47, fX11_reads_39, kX11_reads_39, fX11_reads_36, kX11_reads_36, fX11_reads, kX11_reads, eq_self, Classical.not_not, Sum.inr.injEq, Sum.inl.injEq, forall_eq', forall_eq, reduceCtorEq, implies_true, forall_const, true_and, and_true, and_self, false_implies, true_implies, not_true_eq_false, not_false_eq_true, if_true, if_false, hc, hi, h0, h2, h4, h8, rdM]
          · refine ⟨false, true, false, by simp [g1], by simp [c2, h0, h4], by simp [c3, h2], ?_⟩
            simp +decide only [fX11_reads_103, kX11_reads_103, fX11_reads_102, kX11_reads_102, fX11_reads_73, kX11_reads_73, fX11_reads_47, kX11_reads_47, fX11_reads_39, kX11_reads_39, fX11_reads_36, kX11_reads_36, fX11_reads, kX11_reads, eq_self, Classical.not_not, Sum.inr.injEq, Sum.inl.injEq, forall_eq', forall_eq, reduceCtorEq, implies_true, forall_const, true_and, and_true, and_self, false_implies, true_implies, not_true_eq_false, not_false_eq_true, if_true, if_false, hc, hi, h0, h2, h4, rdM]
        · by_cases h2 : gA q 4 a = 2
          · by_cases h8 : (gA q 3 a &&& 8) = 0
            · refine ⟨false, false, true, by simp [g1], by simp [c2, h0, h4], by simp [c3, h2, h8], ?_⟩
              simp +decide only [fX11_reads_103, kX11_reads_103, fX11_reads_102, kX11_reads_102, fX11_reads_73, kX11_reads_73, fX11_reads_47, kX11_reads_47, fX11_reads_39, kX11_reads_39, fX11_reads_36, kX11_reads_36, fX11_reads, kX11_reads, eq_self, Classical.not_not, Sum.inr.injEq, Sum.inl.injEq, forall_eq', forall_eq, reduceCtorEq, implies_true, forall_const, true_and, and_true, and_self, false_implies, true_implies, not_true_eq_false, not_false_eq_true, if_true, if_false, hc, hi, h0, h2, h4, h8, rdM]
            · refine ⟨false, false, false, by simp [g1], by simp [c2, h0, h4], by simp [c3, h2, h8], ?_⟩
              simp +decide only [fX11_reads_103, kX11_reads_103, fX11_reads_102, kX11_reads_102, fX11_reads_73, kX11_reads_73, fX11_reads_47, kX11_reads_47, fX11_reads_39, kX11_reads_39, fX11_reads_36, kX11_reads_36, fX11_reads, kX11_reads, eq_self, Classical.not_not, Sum.inr.injEq, Sum.inl.injEq, forall_eq', forall_eq, reduceCtorEq, implies_true, forall_const, true_and, and_true, and_self, false_implies, true_implies, not_true_eq_false, not_false_eq_true, if_true, if_false, hc, hi, h0, h2, h4, h8, rdM]
          · refine ⟨false, false, false, by simp [g1], by simp [c2, h0, h4], by simp [c3, h2], ?_⟩
            simp +decide only [fX11_reads_103, kX11_reads_103, fX11_reads_102, kX11_reads_102, fX11_reads_73, kX11_reads_73, fX11_reads_47, kX11_reads_47, fX11_reads_39, kX11_reads_39, fX11_reads_36, kX11_reads_36, fX11_reads, kX11_reads, eq_self, Classical.not_not, Sum.inr.injEq, Sum.inl.injEq, forall_eq', forall_eq, reduceCtorEq, implies_true, forall_const, true_and, and_true, and_self, false_implies, true_implies, not_true_eq_false, not_false_eq_true, if_true, if_false, hc, hi, h0, h2, h4, rdM]
def rdv (m : SS) (a : Nat) : Int32 := (fX11_reads m (nI a)).1
def rdn (m : SS) (a : Nat) : Nat := (rdv m a).toNatClampNeg
theorem rd_m {c : Int} {x m : SS} (h : R c x m) (F G : Nat → Int32) {a : Nat} (ha : a < 80) : fX11_reads (sA (sA m 51 F) 52 G) (nI a) = (nI (rdn m a), sA (sA m 51 F) 52 G) ∧ kX11_reads (sA (sA m 51 F) 52 G) (nI a) ∧ rdn m a < 16 := by
  obtain ⟨k1, b1, b2, b3, e1, e2, e3, e4⟩ := m_reads m ha
  obtain ⟨k2, d1, d2, d3, g1, g2, g3, g4⟩ := m_reads (sA (sA m 51 F) 52 G) ha
  have f1 : d1 = b1 := Bool.eq_iff_iff.mpr (g1.trans e1.symm)
  have f2 : d2 = b2 := Bool.eq_iff_iff.mpr (g2.trans e2.symm)
  have f3 : d3 = b3 := Bool.eq_iff_iff.mpr (g3.trans e3.symm)
  obtain ⟨i, hi, ei⟩ := tof (n := 128) (h.2.1.1 a).1 (by have := (h.2.1.1 a).2; omega) (by decide)
  have t := rd_eq i hi b1 b2 b3
  rw [← ei] at t
  obtain ⟨j, hj, ej⟩ := tof (n := 16) t.2.1 t.2.2 (by decide)
  have er : rdn m a = j := by
    rw [rdn, rdv, e4]
    show (rdM (gA m 1 a) b1 b2 b3).toNatClampNeg = j
    rw [ej, nI_clamp (by omega)]
  refine ⟨?_, k2, by rw [er]; exact hj⟩
  rw [g4, f1, f2, f3, er, ← ej]
  rfl
theorem rd_x {c : Int} {x m : SS} (h : R c x m) {a : Nat} (hw : isW x a) : kX9_partsRead x a ∧ fX9_partsRead x a = (nI (rdn m a), x) := by
  have ha := hw.1
  obtain ⟨k1, b1, b2, b3, e1, e2, e3, e4⟩ := m_reads m ha
  obtain ⟨i, hi, ei⟩ := tof (n := 128) (h.2.1.1 a).1 (by have := (h.2.1.1 a).2; omega) (by decide)
  have t := rd_eq i hi b1 b2 b3
  rw [← ei] at t
  obtain ⟨j, hj, ej⟩ := tof (n := 16) t.2.1 t.2.2 (by decide)
  have er : nI (rdn m a) = rdX (gA m 1 a) b1 b2 b3 := by
    rw [rdn, rdv, e4]
    show nI (rdM (gA m 1 a) b1 b2 b3).toNatClampNeg = _
    rw [← t.1, ej, nI_clamp (by omega)]
  have hW := h.1
  obtain ⟨a1, a2, a3, a4, a5, a6, a7, a8, a9, a10, a11⟩ := hW
  have r30 : gA x 30 a = gA m 1 a := congrFun a1 a
  have r31 : gA x 31 a = gA m 2 a := congrFun a2 a
  have r32 : gA x 32 a = gA m 3 a := congrFun a3 a
  have r33 : gA x 33 a = gA m 4 a := congrFun a4 a
  have l1 : (gA m 2 a < 1) = ¬ (1 ≤ (gA m 2 a).toInt) := by
    rw [Int32.lt_iff_toInt_lt, tl_1, Int.not_le]
  have l4 : (4 < gA m 2 a) = ¬ ((gA m 2 a).toInt ≤ 4) := by
    rw [Int32.lt_iff_toInt_lt, tl_4, Int.not_le]
  constructor
  · simp +decide only [fX9_partsRead_96, kX9_partsRead_96, fX9_partsRead_91, kX9_partsRead_91, fX9_partsRead_64, kX9_partsRead_64, fX9_partsRead_44, kX9_partsRead_44, fX9_partsRead_31, kX9_partsRead_31, fX9_partsRead_27, kX9_partsRead_27, fX9_partsRead, kX9_partsRead, eq_self, Classical.not_not, Sum.inr.injEq, Sum.inl.injEq, forall_eq', forall_eq, reduceCtorEq, implies_true, forall_const, true_and, and_true, and_self, false_implies, true_implies, not_true_eq_false, not_false_eq_true, if_true, if_false, eq_true hw]
  · rw [er]
    have f1 : (b1 = true) = (1 ≤ (gA m 2 a).toInt ∧ (gA m 2 a).toInt ≤ 4) := propext e1
    have f2 : (b2 = true) = (¬ gA m 4 a = 0 ∧ (gA m 3 a &&& 4) = 0) := propext e2
    have f3 : (b3 = true) = (gA m 4 a = 2 ∧ (gA m 3 a &&& 8) = 0) := propext e3
    simp only [rdX, f1, f2, f3]
    clear e1 e2 e3 e4 t ej er ei k1 f1 f2 f3
    have key : fX9_partsRead x a = fX9_partsRead_31 x a (if gA m 1 a &&& 1 = 0 then (if 1 ≤ (gA m 2 a).toInt ∧ (gA m 2 a).toInt ≤ 4 then 0 ||| 1 else 0) else 0 ||| 1) := by
      unfold fX9_partsRead fX9_partsRead_27
      rw [r30, r31]
      by_cases p1 : gA m 1 a &&& 1 = 0
      · rw [if_pos p1, if_pos p1]
        by_cases p2 : 1 ≤ (gA m 2 a).toInt
        · have q2 : ¬ gA m 2 a < 1 := by
            rw [l1]
            exact not_not_intro p2
          rw [if_neg q2]
          by_cases p3 : (gA m 2 a).toInt ≤ 4
          · have q3 : ¬ 4 < gA m 2 a := by
              rw [l4]
              exact not_not_intro p3
            rw [if_neg q3, if_pos ⟨p2, p3⟩]
          · have q3 : 4 < gA m 2 a := by
              rw [l4]
              exact p3
            rw [if_pos q3, if_neg (fun z => p3 z.2)]
        · have q2 : gA m 2 a < 1 := by
            rw [l1]
            exact p2
          rw [if_pos q2, if_neg (fun z => p2 z.1)]
      · rw [if_neg p1, if_neg p1]
    rw [key]
    generalize (if gA m 1 a &&& 1 = 0 then (if 1 ≤ (gA m 2 a).toInt ∧ (gA m 2 a).toInt ≤ 4 then 0 ||| 1 else 0) else 0 ||| 1 : Int32) = V
    unfold fX9_partsRead_31 fX9_partsRead_44 fX9_partsRead_64 fX9_partsRead_91 fX9_partsRead_96
    rw [r30, r32, r33]
    by_cases p1 : gA m 1 a &&& 2 = 0
    · by_cases p2 : gA m 4 a = 0
      · have p3 : ¬ gA m 4 a = 2 := by
          rw [p2]
          decide
        by_cases p4 : gA m 1 a &&& 4 = 0
        · simp +decide only [p1, p2, p4, if_true, if_false, not_true_eq_false, false_and]
        · simp +decide only [p1, p2, p4, if_true, if_false, not_true_eq_false, false_and]
      · by_cases p5 : gA m 3 a &&& 4 = 0
        · by_cases p4 : gA m 1 a &&& 4 = 0
          · by_cases p3 : gA m 4 a = 2
            · by_cases p6 : gA m 3 a &&& 8 = 0
              · simp +decide only [p1, p3, p4, p5, p6, if_true, if_false, not_true_eq_false, not_false_eq_true, and_self]
              · simp +decide only [p1, p3, p4, p5, p6, if_true, if_false, not_true_eq_false, not_false_eq_true, and_self, and_false]
            · simp +decide only [p1, p2, p3, p4, p5, if_true, if_false, not_true_eq_false, not_false_eq_true, and_self, false_and]
          · simp +decide only [p1, p2, p4, p5, if_true, if_false, not_true_eq_false, not_false_eq_true, and_self]
        · by_cases p4 : gA m 1 a &&& 4 = 0
          · by_cases p3 : gA m 4 a = 2
            · by_cases p6 : gA m 3 a &&& 8 = 0
              · simp +decide only [p1, p3, p4, p5, p6, if_true, if_false, not_true_eq_false, not_false_eq_true, and_self, and_false]
              · simp +decide only [p1, p3, p4, p5, p6, if_true, if_false, not_true_eq_false, not_false_eq_true, and_self, and_false]
            · simp +decide only [p1, p2, p3, p4, p5, if_true, if_false, not_true_eq_false, not_false_eq_true, and_self, false_and, and_false]
          · simp +decide only [p1, p2, p4, p5, if_true, if_false, not_true_eq_false, not_false_eq_true, and_self, and_false]
    · by_cases p2 : gA m 4 a = 0
      · have p3 : ¬ gA m 4 a = 2 := by
          rw [p2]
          decide
        by_cases p4 : gA m 1 a &&& 4 = 0
        · simp +decide only [p1, p2, p4, if_true, if_false, not_true_eq_false, false_and]
        · simp +decide only [p1, p2, p4, if_true, if_false, not_true_eq_false, false_and]
      · by_cases p5 : gA m 3 a &&& 4 = 0
        · by_cases p4 : gA m 1 a &&& 4 = 0
          · by_cases p3 : gA m 4 a = 2
            · by_cases p6 : gA m 3 a &&& 8 = 0
              · simp +decide only [p1, p3, p4, p5, p6, if_true, if_false, not_true_eq_false, not_false_eq_true, and_self]
              · simp +decide only [p1, p3, p4, p5, p6, if_true, if_false, not_true_eq_false, not_false_eq_true, and_self, and_false]
            · simp +decide only [p1, p2, p3, p4, p5, if_true, if_false, not_true_eq_false, not_false_eq_true, and_self, false_and]
          · simp +decide only [p1, p2, p4, p5, if_true, if_false, not_true_eq_false, not_false_eq_true, and_self]
        · by_cases p4 : gA m 1 a &&& 4 = 0
          · by_cases p3 : gA m 4 a = 2
            · by_cases p6 : gA m 3 a &&& 8 = 0
              · simp +decide only [p1, p3, p4, p5, p6, if_true, if_false, not_true_eq_false, not_false_eq_true, and_self, and_false]
              · simp +decide only [p1, p3, p4, p5, p6, if_true, if_false, not_true_eq_false, not_false_eq_true, and_self, and_false]
            · simp +decide only [p1, p2, p3, p4, p5, if_true, if_false, not_true_eq_false, not_false_eq_true, and_self, false_and, and_false]
          · simp +decide only [p1, p2, p4, p5, if_true, if_false, not_true_eq_false, not_false_eq_true, and_self, and_false]
theorem st_x {c : Int} {x m : SS} (h : R c x m) {a : Nat} (hw : isW x a) : kX9_partsSet x a ∧ fX9_partsSet x a = (nI (stn m a), x) := by
  have hW := h.1
  obtain ⟨a1, a2, a3, a4, a5, a6, a7, a8, a9, a10, a11⟩ := hW
  have r32 : gA x 32 a = gA m 3 a := congrFun a3 a
  have r33 : gA x 33 a = gA m 4 a := congrFun a4 a
  refine ⟨⟨hw, hw, fun _ => trivial, fun _ => trivial⟩, ?_⟩
  rw [← stn_v, fX9_partsSet, r32, r33, stv]
  by_cases p : gA m 4 a = 1
  · rw [if_pos p, if_pos p, fX9_partsSet_24]
  · rw [if_neg p, if_neg p, fX9_partsSet_24]
    obtain ⟨i, hi, ei⟩ := tof (n := 16) (x := gA m 3 a &&& 15) (rg_and (gA m 3 a) 4 (hi := 15) (by decide) (by decide) (by decide)).1 (by have := (rg_and (gA m 3 a) 4 (hi := 15) (m := 15) (by decide) (by decide) (by decide)).2; omega) (by decide)
    rw [ei]
    have e0 : nI i ||| 0 = nI i := by
      have := (bo_or i (by omega) 0 (by decide)).1
      rw [Nat.or_zero] at this
      exact this
    rw [e0]
