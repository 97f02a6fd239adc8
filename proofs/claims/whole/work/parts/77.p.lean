/-! ===== PURE: step and run ===== -/
theorem step_R {w : Nat} (hw : w ≤ 100) : ∀ (d i n1 n2 : Nat) (c : Int) (x m : SS), R c x m → c + 10 * d ≤ 2000000000 → i + d = w → d < n1 → d < n2 → kX10_step_9 n1 x (nI w) (nI i) ∧ kX11_step_23 n2 m (nI w) (nI i) ∧ ∃ (r : Int32) (x' m' : SS), fX10_step_9 n1 x (nI w) (nI i) = .inr (r, x') ∧ fX11_step_23 n2 m (nI w) (nI i) = (r, m') ∧ gI m' 0 = gI m 0 ∧ R (c + 10 * d) x' m' := by
  intro d
  induction d with
  | zero =>
    intro i n1 n2 c x m h hc hi h1 h2
    obtain ⟨k1, rfl⟩ := fuel h1
    obtain ⟨k2, rfl⟩ := fuel h2
    have hi2 : i = w := by omega
    subst hi2
    have g : nI i ≤ nI i := by
      rw [nI_leI (by omega) (by omega)]
      omega
    refine ⟨⟨fun _ => trivial, fun e => absurd g e⟩, ⟨fun _ => trivial, fun e => absurd g e⟩, nI i, x, m, ?_, ?_, rfl, h.mono (by omega)⟩
    · rw [fX10_step_9, if_pos g]
    · rw [fX11_step_23, if_pos g, fX11_step_41]
  | succ d ih =>
    intro i n1 n2 c x m h hc hi h1 h2
    obtain ⟨k1, rfl⟩ := fuel h1
    obtain ⟨k2, rfl⟩ := fuel h2
    have g : ¬ nI w ≤ nI i := nle (n := w) (by omega) (by omega) rfl
    obtain ⟨kx, km, b, x', m', hb, ex, em, e0, hR⟩ := goes_R h (by omega)
    rcases hb with rfl | rfl
    · refine ⟨⟨fun e => absurd e g, fun _ => ⟨kx, ?_⟩⟩, ⟨fun e => absurd e g, fun _ => ⟨km, ?_⟩⟩, nI i, x', m', ?_, ?_, e0, hR.mono (by omega)⟩
      · rw [ex]
        exact ⟨fun _ => trivial, fun e => absurd rfl e⟩
      · rw [em]
        exact ⟨fun _ => trivial, fun e => absurd rfl e⟩
      · rw [fX10_step_9, if_neg g, ex, fX10_step_21, if_pos rfl]
      · rw [fX11_step_23, if_neg g, em, fX11_step_32, if_pos rfl, fX11_step_41]
    · have z1 : ¬ (1 : Int32) = 0 := by decide
      obtain ⟨j1, j2, r, x2, m2, e1, e2, e3, hR2⟩ := ih (i + 1) k1 k2 (c + 10) x' m' hR (by omega) (by omega) (by omega) (by omega)
      refine ⟨⟨fun e => absurd e g, fun _ => ⟨kx, ?_⟩⟩, ⟨fun e => absurd e g, fun _ => ⟨km, ?_⟩⟩, r, x2, m2, ?_, ?_, e3.trans e0, hR2.mono (by omega)⟩
      · rw [ex]
        refine ⟨fun e => absurd e z1, fun _ => ?_⟩
        rw [nI_1]
        exact j1
      · rw [em]
        refine ⟨fun e => absurd e z1, fun _ => ?_⟩
        rw [nI_1]
        exact j2
      · rw [fX10_step_9, if_neg g, ex, fX10_step_21, if_neg z1, nI_1, e1]
      · rw [fX11_step_23, if_neg g, em, fX11_step_32, if_neg z1, nI_1, e2]
theorem op_step {c : Int} {x m : SS} (h : R c x m) (hc : c ≤ 1999990000) (v : Int32) : kX11_step m v ∧ kX10_step x v ∧ okI (c + 2000) [1] (fX10_step x v) (fX11_step m v).1 (fX11_step m v).2 := by
  have z1 : ¬ (1 : Int32) = 0 := by decide
  have hi := mf_isIn m v 1 100
  rw [tl_1, tl_100] at hi
  have hx := xf_requireNumber x v 1 100
  rw [tl_1, tl_100] at hx
  have kx := (xk_requireNumber x v 1 100).mpr trivial
  have km := (mk_isIn m v 1 100).mpr trivial
  by_cases h1 : rg 1 100 v
  · rw [if_pos h1] at hi hx
    obtain ⟨w, hw, rfl⟩ := tof (x := v) (n := 101) (by have := h1.1; omega) (by have := h1.2; omega) (by decide)
    obtain ⟨j1, j2, r, x', m', e1, e2, e3, hR⟩ := step_R (w := w) (by omega) w 0 110 130 c x (sI m 0 0) h (by omega) (by omega) (by omega) (by omega)
    refine ⟨⟨km, ?_⟩, ⟨kx, fun u e => ?_⟩, ?_⟩
    · rw [hi]
      exact ⟨fun e => absurd e z1, fun _ => j2⟩
    · rw [hx] at e
      cases e
      exact j1
    · have f1 : fX10_step x (nI w) = .inr (r, x') := by
        rw [fX10_step, hx, xb_inr]
        exact e1
      have f2 : fX11_step m (nI w) = (r, m') := by
        rw [fX11_step, hi, fX11_step_7, if_neg z1]
        exact e2
      rw [f1, f2]
      exact okI_r e3 rfl (hR.mono (by omega))
  · rw [if_neg h1] at hi hx
    refine ⟨⟨km, ?_⟩, ⟨kx, fun u e => ?_⟩, ?_⟩
    · rw [hi]
      exact ⟨fun _ => ⟨(mk_refuse _ _).mpr trivial, trivial⟩, fun e => absurd rfl e⟩
    · rw [hx] at e
      cases e
    · have f1 : fX10_step x v = .inl (1, x) := by
        rw [fX10_step, hx, xb_inl]
      have f2 : fX11_step m v = (0, sI m 0 1) := by
        rw [fX11_step, hi, fX11_step_7, if_pos rfl, mf_refuse]
      rw [f1, f2]
      exact okI_l 0 rfl rfl (R_m0 (h.mono (by omega)) _)
theorem run2_R {v b : Int32} : ∀ (d i n1 n2 : Nat) (c : Int) (x m : SS), R c x m → c + 10 * d ≤ 2000000000 → i + d = 200 → d < n1 → d < n2 → kX10_run_17 n1 x v b (nI i) ∧ kX11_run_28 n2 m v b (nI i) ∧ ∃ (r : Int32) (x' m' : SS), fX10_run_17 n1 x v b (nI i) = .inr (r, x') ∧ fX11_run_28 n2 m v b (nI i) = (r, m') ∧ gI m' 0 = gI m 0 ∧ R (c + 10 * d) x' m' := by
  intro d
  induction d with
  | zero =>
    intro i n1 n2 c x m h hc hi h1 h2
    obtain ⟨k1, rfl⟩ := fuel h1
    obtain ⟨k2, rfl⟩ := fuel h2
    have hi2 : i = 200 := by omega
    subst hi2
    have g : (200 : Int32) ≤ nI 200 := by decide
    have c1 : gI x 401 = gI m 10 := h.2.2.2.2.2.2.2.2.2.2.1.1
    refine ⟨⟨fun _ => trivial, fun e => absurd g e⟩, ⟨fun _ => trivial, fun _ => ⟨fun _ => trivial, fun e => absurd g e⟩⟩, gI m 10 - b, x, m, ?_, ?_, rfl, h.mono (by omega)⟩
    · rw [fX10_run_17, if_pos g, fX10_run_56, c1]
    · rw [fX11_run_28]
      by_cases g2 : v ≤ gI m 10 - b
      · rw [if_pos g2, fX11_run_58]
      · rw [if_neg g2, if_pos g, fX11_run_58]
  | succ d ih =>
    intro i n1 n2 c x m h hc hi h1 h2
    obtain ⟨k1, rfl⟩ := fuel h1
    obtain ⟨k2, rfl⟩ := fuel h2
    have g : ¬ (200 : Int32) ≤ nI i := nle (n := 200) (by omega) (by omega) rfl
    have c1 : gI x 401 = gI m 10 := h.2.2.2.2.2.2.2.2.2.2.1.1
    by_cases g2 : v ≤ gI m 10 - b
    · have g2x : v ≤ gI x 401 - b := by
        rw [c1]
        exact g2
      refine ⟨⟨fun e => absurd e g, fun _ => ⟨fun _ => trivial, fun e => absurd g2x e⟩⟩, ⟨fun _ => trivial, fun e => absurd g2 e⟩, gI m 10 - b, x, m, ?_, ?_, rfl, h.mono (by omega)⟩
      · rw [fX10_run_17, if_neg g, if_pos g2x, fX10_run_56, c1]
      · rw [fX11_run_28, if_pos g2, fX11_run_58]
    · have g2x : ¬ v ≤ gI x 401 - b := by
        rw [c1]
        exact g2
      obtain ⟨kx, km, bb, x', m', hb, ex, em, e0, hR⟩ := goes_R h (by omega)
      have c2 : gI x' 401 = gI m' 10 := hR.2.2.2.2.2.2.2.2.2.2.1.1
      rcases hb with rfl | rfl
      · refine ⟨⟨fun e => absurd e g, fun _ => ⟨fun e => absurd e g2x, fun _ => ⟨kx, ?_⟩⟩⟩, ⟨fun e => absurd e g2, fun _ => ⟨fun e => absurd e g, fun _ => ⟨km, ?_⟩⟩⟩, gI m' 10 - b, x', m', ?_, ?_, e0, hR.mono (by omega)⟩
        · rw [ex]
          exact ⟨fun _ => trivial, fun e => absurd rfl e⟩
        · rw [em]
          exact ⟨fun _ => trivial, fun e => absurd rfl e⟩
        · rw [fX10_run_17, if_neg g, if_neg g2x, ex, fX10_run_44, if_pos rfl, fX10_run_56]
          show Sum.inr (gI x' 401 - b, x') = _
          rw [c2]
        · rw [fX11_run_28, if_neg g2, if_neg g, em, fX11_run_49, if_pos rfl, fX11_run_58]
      · have z1 : ¬ (1 : Int32) = 0 := by decide
        obtain ⟨j1, j2, r, x2, m2, e1, e2, e3, hR2⟩ := ih (i + 1) k1 k2 (c + 10) x' m' hR (by omega) (by omega) (by omega) (by omega)
        refine ⟨⟨fun e => absurd e g, fun _ => ⟨fun e => absurd e g2x, fun _ => ⟨kx, ?_⟩⟩⟩, ⟨fun e => absurd e g2, fun _ => ⟨fun e => absurd e g, fun _ => ⟨km, ?_⟩⟩⟩, r, x2, m2, ?_, ?_, e3.trans e0, hR2.mono (by omega)⟩
        · rw [ex]
          refine ⟨fun e => absurd e z1, fun _ => ?_⟩
          rw [nI_1]
          exact j1
        · rw [em]
          refine ⟨fun e => absurd e z1, fun _ => ?_⟩
          rw [nI_1]
          exact j2
        · rw [fX10_run_17, if_neg g, if_neg g2x, ex, fX10_run_44, if_neg z1, nI_1, e1]
        · rw [fX11_run_28, if_neg g2, if_neg g, em, fX11_run_49, if_neg z1, nI_1, e2]
theorem op_run {c : Int} {x m : SS} (h : R c x m) (hc : c ≤ 1999990000) (v : Int32) : kX11_run m v ∧ kX10_run x v ∧ okI (c + 2000) [1] (fX10_run x v) (fX11_run m v).1 (fX11_run m v).2 := by
  have z1 : ¬ (1 : Int32) = 0 := by decide
  have hi := mf_isIn m v 1 20
  rw [tl_1, tl_20] at hi
  have hx := xf_requireNumber x v 1 20
  rw [tl_1, tl_20] at hx
  have kx := (xk_requireNumber x v 1 20).mpr trivial
  have km := (mk_isIn m v 1 20).mpr trivial
  have c1 : gI x 401 = gI m 10 := h.2.2.2.2.2.2.2.2.2.2.1.1
  by_cases h1 : rg 1 20 v
  · rw [if_pos h1] at hi hx
    obtain ⟨j1, j2, r, x', m', e1, e2, e3, hR⟩ := run2_R (v := v) (b := gI m 10) 200 0 210 262 c x (sI m 0 0) h (by omega) (by omega) (by omega) (by omega)
    refine ⟨⟨km, ?_⟩, ⟨kx, fun u e => ?_⟩, ?_⟩
    · rw [hi]
      exact ⟨fun e => absurd e z1, fun _ => j2⟩
    · rw [hx] at e
      cases e
      rw [c1]
      exact j1
    · have f1 : fX10_run x v = .inr (r, x') := by
        rw [fX10_run, hx, xb_inr, c1]
        exact e1
      have f2 : fX11_run m v = (r, m') := by
        rw [fX11_run, hi, fX11_run_7, if_neg z1]
        exact e2
      rw [f1, f2]
      exact okI_r e3 rfl (hR.mono (by omega))
  · rw [if_neg h1] at hi hx
    refine ⟨⟨km, ?_⟩, ⟨kx, fun u e => ?_⟩, ?_⟩
    · rw [hi]
      exact ⟨fun _ => ⟨(mk_refuse _ _).mpr trivial, trivial⟩, fun e => absurd rfl e⟩
    · rw [hx] at e
      cases e
    · have f1 : fX10_run x v = .inl (1, x) := by
        rw [fX10_run, hx, xb_inl]
      have f2 : fX11_run m v = (0, sI m 0 1) := by
        rw [fX11_run, hi, fX11_run_7, if_pos rfl, mf_refuse]
      rw [f1, f2]
      exact okI_l 0 rfl rfl (R_m0 (h.mono (by omega)) _)
