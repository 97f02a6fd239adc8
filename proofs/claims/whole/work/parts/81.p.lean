/-! ===== PURE: reserve ===== -/
def fre (m : SS) (k : Nat) : Prop := gA m 10 k = 0 ∧ gA m 12 k = 0
theorem rgn {k : Nat} (hk : k < 64) : rg 0 63 (nI k) := by
  rw [rg, nI_toInt (by omega)]
  omega
theorem x_fb {x m : SS} (a10 : gA x 39 = gA m 10) (t1 : gA x 13 = gA m 12) {i s : Nat} (his : i + s ≤ 64) : ∀ (d n j : Nat), j + d = i + s → d < n → kX7_isFreeBlock_2 n x (nI i) (nI s) (nI j) ∧ ∃ w : Int32, fX7_isFreeBlock_2 n x (nI i) (nI s) (nI j) = (w, x) ∧ (w = 0 ∨ w = 1) ∧ (w = 1 ↔ ∀ k, j ≤ k → k < i + s → fre m k) := by
  intro d
  induction d with
  | zero =>
    intro n j h hn
    obtain ⟨k, rfl⟩ := fuel hn
    have hj : j = i + s := by omega
    subst hj
    have c : nI i + nI s ≤ nI (i + s) := by
      rw [nI_add, nI_leI (by omega) (by omega)]
      omega
    refine ⟨⟨fun _ => trivial, fun e => absurd c e⟩, 1, ?_, Or.inr rfl, fun _ k h1 h2 => by omega, fun _ => rfl⟩
    rw [fX7_isFreeBlock_2, if_pos c]
  | succ d ih =>
    intro n j h hn
    obtain ⟨k, rfl⟩ := fuel hn
    have c : ¬ nI i + nI s ≤ nI j := by
      rw [nI_add, nI_leI (by omega) (by omega)]
      omega
    have z1 : ¬ (1 : Int32) = 0 := by decide
    have hx := x_isFree x (rgn (k := j) (by omega))
    rw [a10, t1, nI_clamp (by omega)] at hx
    by_cases hc : gA m 10 j = 0 ∧ gA m 12 j = 0
    · rw [if_pos hc] at hx
      obtain ⟨j1, w, e1, e2, e3⟩ := ih k (j + 1) (by omega) (by omega)
      refine ⟨⟨fun e => absurd e c, fun _ => ⟨hx.1, ?_⟩⟩, w, ?_, e2, ?_⟩
      · rw [hx.2]
        refine ⟨fun e => absurd e z1, fun _ => ?_⟩
        rw [nI_1]
        exact j1
      · rw [fX7_isFreeBlock_2, if_neg c, hx.2, fX7_isFreeBlock_14, if_neg z1, nI_1, e1]
      · rw [e3]
        constructor
        · intro a r h1 h2
          by_cases hr : r = j
          · rw [hr]
            exact hc
          · exact a r (by omega) h2
        · intro a r h1 h2
          exact a r (by omega) h2
    · rw [if_neg hc] at hx
      refine ⟨⟨fun e => absurd e c, fun _ => ⟨hx.1, ?_⟩⟩, 0, ?_, Or.inl rfl, fun e => absurd e (by decide), fun a => absurd (a j (by omega) (by omega)) hc⟩
      · rw [hx.2]
        exact ⟨fun _ => trivial, fun e => absurd rfl e⟩
      · rw [fX7_isFreeBlock_2, if_neg c, hx.2, fX7_isFreeBlock_14, if_pos rfl]
theorem m_40 {m : SS} {i s : Nat} (his : i + s ≤ 64) (K : SS → Int32 → Int32 → Int32 × SS) (KK : SS → Int32 → Int32 → Prop) : ∀ (d n j : Nat) (v : Int32), j + d = s → d < n → (v = 0 ∨ v = 1) → ∃ w : Int32, (w = 0 ∨ w = 1) ∧ (w = 1 ↔ v = 1 ∧ ∀ k, i + j ≤ k → k < i + s → fre m k) ∧ (((w = 0 → KK m (nI s) (nI i + nI s)) ∧ (¬ w = 0 → kX11_reserve_73 130 m (nI s) (nI i) 0)) → kX11_reserve_40 KK n m (nI s) (nI i) v (nI j)) ∧ fX11_reserve_40 K n m (nI s) (nI i) v (nI j) = if w = 0 then K m (nI s) (nI i + nI s) else fX11_reserve_73 130 m (nI s) (nI i) 0 := by
  intro d
  induction d with
  | zero =>
    intro n j v h hn hv
    obtain ⟨k, rfl⟩ := fuel hn
    have hj : j = s := by omega
    subst hj
    have c : nI j ≤ nI j := by
      rw [nI_leI (by omega) (by omega)]
      omega
    refine ⟨v, hv, ⟨fun e => ⟨e, fun k h1 h2 => by omega⟩, fun e => e.1⟩, fun hk => ⟨fun _ => hk, fun e => absurd c e⟩, ?_⟩
    rw [fX11_reserve_40, if_pos c]
  | succ d ih =>
    intro n j v h hn hv
    obtain ⟨k, rfl⟩ := fuel hn
    have c : ¬ nI s ≤ nI j := by
      rw [nI_leI (by omega) (by omega)]
      omega
    have hm := m_isFree m (rgn (k := i + j) (by omega))
    rw [nI_clamp (by omega)] at hm
    by_cases hc : gA m 10 (i + j) = 0 ∧ gA m 12 (i + j) = 0
    · rw [if_pos hc] at hm
      have hv1 : v &&& 1 = v := by
        rcases hv with e | e
        · rw [e]
          rfl
        · rw [e]
          rfl
      obtain ⟨w, e1, e2, e3, e4⟩ := ih k (j + 1) v (by omega) (by omega) hv
      refine ⟨w, e1, ?_, fun hk => ⟨fun e => absurd e c, fun _ => ?_⟩, ?_⟩
      · rw [e2]
        constructor
        · intro ⟨a, b⟩
          refine ⟨a, fun r h1 h2 => ?_⟩
          by_cases hr : r = i + j
          · rw [hr]
            exact hc
          · exact b r (by omega) h2
        · intro ⟨a, b⟩
          exact ⟨a, fun r h1 h2 => b r (by omega) h2⟩
      · rw [nI_add]
        refine ⟨hm.1, ?_⟩
        rw [hm.2]
        unfold kX11_reserve_55
        rw [hv1, nI_1]
        exact e3 hk
      · rw [fX11_reserve_40, if_neg c, nI_add i j, hm.2, fX11_reserve_55, hv1, nI_1, e4]
    · rw [if_neg hc] at hm
      have hv0 : v &&& 0 = 0 := by
        rcases hv with e | e
        · rw [e]
          rfl
        · rw [e]
          rfl
      obtain ⟨w, e1, e2, e3, e4⟩ := ih k (j + 1) 0 (by omega) (by omega) (Or.inl rfl)
      refine ⟨w, e1, ?_, fun hk => ⟨fun e => absurd e c, fun _ => ?_⟩, ?_⟩
      · constructor
        · intro e
          exact absurd (e2.mp e).1 (by decide)
        · intro ⟨_, b⟩
          exact absurd (b (i + j) (by omega) (by omega)) hc
      · rw [nI_add]
        refine ⟨hm.1, ?_⟩
        rw [hm.2]
        unfold kX11_reserve_55
        rw [hv0, nI_1]
        exact e3 hk
      · rw [fX11_reserve_40, if_neg c, nI_add i j, hm.2, fX11_reserve_55, hv0, nI_1, e4]
theorem x_21 {i s : Nat} (his : i + s ≤ 64) : ∀ (d n j : Nat) (q : SS), j + d = i + s → d < n → kX7_reserveBlock_21 n q (nI s) (nI i) (nI j) ∧ fX7_reserveBlock_21 n q (nI s) (nI i) (nI j) = (nI i, sA q 13 (cpf j (i + s) (fun _ => 1) (gA q 13))) := by
  intro d
  induction d with
  | zero =>
    intro n j q h hn
    obtain ⟨k, rfl⟩ := fuel hn
    have hj : j = i + s := by omega
    subst hj
    have c : nI i + nI s ≤ nI (i + s) := by
      rw [nI_add, nI_leI (by omega) (by omega)]
      omega
    refine ⟨⟨fun _ => trivial, fun e => absurd c e⟩, ?_⟩
    rw [fX7_reserveBlock_21, if_pos c, cpf_nil, sA_self]
  | succ d ih =>
    intro n j q h hn
    obtain ⟨k, rfl⟩ := fuel hn
    have c : ¬ nI i + nI s ≤ nI j := by
      rw [nI_add, nI_leI (by omega) (by omega)]
      omega
    have hin : vp_in (nI j) 64 := vp_in_nI (by omega) (by decide)
    have hc : (nI j).toNatClampNeg = j := nI_clamp (by omega)
    obtain ⟨j1, j2⟩ := ih k (j + 1) (sA q 13 (upd (gA q 13) j 1)) (by omega) (by omega)
    refine ⟨⟨fun e => absurd e c, fun _ => ⟨hin, ?_⟩⟩, ?_⟩
    · rw [hc, tvb1, nI_1]
      exact j1
    · rw [fX7_reserveBlock_21, if_neg c, hc, tvb1, nI_1, j2, sA_sA]
      have e := cpf_step (i := j) (n := i + s) (by omega) (fun _ => 1) (gA q 13)
      show (nI i, sA q 13 (cpf (j + 1) (i + s) (fun _ => 1) (upd (gA q 13) j 1))) = _
      rw [e]
theorem m_73 {i s : Nat} (his : i + s ≤ 64) : ∀ (d n j : Nat) (q : SS), j + d = s → d < n → kX11_reserve_73 n q (nI s) (nI i) (nI j) ∧ fX11_reserve_73 n q (nI s) (nI i) (nI j) = (nI i, sI (sA q 12 (cpf (i + j) (i + s) (fun _ => 1) (gA q 12))) 0 0) := by
  intro d
  induction d with
  | zero =>
    intro n j q h hn
    obtain ⟨k, rfl⟩ := fuel hn
    have hj : j = s := by omega
    subst hj
    have c : nI j ≤ nI j := by
      rw [nI_leI (by omega) (by omega)]
      omega
    refine ⟨⟨fun _ => trivial, fun e => absurd c e⟩, ?_⟩
    rw [fX11_reserve_73, if_pos c, cpf_nil, sA_self]
  | succ d ih =>
    intro n j q h hn
    obtain ⟨k, rfl⟩ := fuel hn
    have c : ¬ nI s ≤ nI j := by
      rw [nI_leI (by omega) (by omega)]
      omega
    have hin : vp_in (nI (i + j)) 80 := vp_in_nI (by omega) (by decide)
    have hc : (nI (i + j)).toNatClampNeg = i + j := nI_clamp (by omega)
    obtain ⟨j1, j2⟩ := ih k (j + 1) (sA q 12 (upd (gA q 12) (i + j) 1)) (by omega) (by omega)
    refine ⟨⟨fun e => absurd e c, fun _ => ?_⟩, ?_⟩
    · rw [nI_add, hc, tvb1, nI_1]
      exact ⟨hin, j1⟩
    · rw [fX11_reserve_73, if_neg c, nI_add i j, hc, tvb1, nI_1, j2, sA_sA]
      have e := cpf_step (i := i + j) (n := i + s) (by omega) (fun _ => 1) (gA q 12)
      show (nI i, sI (sA q 12 (cpf (i + (j + 1)) (i + s) (fun _ => 1) (upd (gA q 12) (i + j) 1))) 0 0) = _
      rw [show i + (j + 1) = i + j + 1 by omega, e]
theorem res_L {x m : SS} (a10 : gA x 39 = gA m 10) (t1 : gA x 13 = gA m 12) {s : Nat} (hs : 0 < s) (hs8 : s ≤ 8) : ∀ (d n1 n2 i : Nat), i + d * s = 64 → d < n1 → d < n2 → kX7_reserveBlock_2 n1 x (nI s) (nI i) ∧ kX11_reserve_29 n2 m (nI s) (nI i) ∧ ((fX7_reserveBlock_2 n1 x (nI s) (nI i) = (-1, x) ∧ fX11_reserve_29 n2 m (nI s) (nI i) = (0, sI m 0 2)) ∨ (∃ (r : Nat) (G : Nat → Int32), r < 64 ∧ fX7_reserveBlock_2 n1 x (nI s) (nI i) = (nI r, sA x 13 G) ∧ fX11_reserve_29 n2 m (nI s) (nI i) = (nI r, sI (sA m 12 G) 0 0))) := by
  intro d
  induction d with
  | zero =>
    intro n1 n2 i h h1 h2
    obtain ⟨k1, rfl⟩ := fuel h1
    obtain ⟨k2, rfl⟩ := fuel h2
    have hi : i = 64 := by omega
    subst hi
    have c1 : 64 < nI 64 + nI s := by
      rw [nI_add]
      show nI 64 < _
      rw [nI_ltI (by omega) (by omega)]
      omega
    have c2 : (64 : Int32) ≤ nI 64 := by decide
    refine ⟨⟨fun _ => trivial, fun e => absurd c1 e⟩, ⟨fun _ => ⟨(mk_refuse _ _).mpr trivial, trivial⟩, fun e => absurd c2 e⟩, Or.inl ⟨?_, ?_⟩⟩
    · rw [fX7_reserveBlock_2, if_pos c1]
    · rw [fX11_reserve_29, if_pos c2, mf_refuse]
  | succ d ih =>
    intro n1 n2 i h h1 h2
    obtain ⟨k1, rfl⟩ := fuel h1
    obtain ⟨k2, rfl⟩ := fuel h2
    have hd : i + s + d * s = 64 := by
      rw [Nat.succ_mul] at h
      omega
    have his : i + s ≤ 64 := by omega
    have c1 : ¬ 64 < nI i + nI s := by
      rw [nI_add]
      show ¬ nI 64 < _
      rw [nI_ltI (by omega) (by omega)]
      omega
    have c2 : ¬ (64 : Int32) ≤ nI i := nle (n := 64) (by omega) (by omega) rfl
    have z1 : ¬ (1 : Int32) = 0 := by decide
    obtain ⟨j1, j2, j3⟩ := ih k1 k2 (i + s) hd (by omega) (by omega)
    obtain ⟨fk, w, e1, e2, e3⟩ := x_fb a10 t1 his s 70 i rfl (by omega)
    obtain ⟨u, g1, g2, g3, g4⟩ := m_40 (m := m) his (fX11_reserve_29 k2) (kX11_reserve_29 k2) s 130 0 1 (by omega) (by omega) (Or.inr rfl)
    have huw : u = 1 ↔ w = 1 := by
      rw [g2, e3]
      exact ⟨fun a k b d => a.2 k (by omega) d, fun a => ⟨rfl, fun k b d => a k (by omega) d⟩⟩
    have e1' : fX7_isFreeBlock x (nI i) (nI s) = (w, x) := e1
    have ex : fX7_reserveBlock_2 (k1 + 1) x (nI s) (nI i) = if w = 0 then fX7_reserveBlock_2 k1 x (nI s) (nI (i + s)) else fX7_reserveBlock_21 70 x (nI s) (nI i) (nI i) := by
      rw [fX7_reserveBlock_2, if_neg c1, e1', fX7_reserveBlock_16, nI_add]
    have em : fX11_reserve_29 (k2 + 1) m (nI s) (nI i) = if u = 0 then fX11_reserve_29 k2 m (nI s) (nI (i + s)) else fX11_reserve_73 130 m (nI s) (nI i) 0 := by
      rw [fX11_reserve_29, if_neg c2, ← nI_add]
      exact g4
    rw [ex, em]
    rcases e2 with ew | ew
    · have eu : u = 0 := by
        rcases g1 with e | e
        · exact e
        · have := huw.mp e
          rw [ew] at this
          exact absurd this (by decide)
      rw [if_pos ew, if_pos eu]
      refine ⟨⟨fun e => absurd e c1, fun _ => ⟨fk, ?_⟩⟩, ⟨fun e => absurd e c2, fun _ => ?_⟩, j3⟩
      · rw [e1', ew]
        refine ⟨fun _ => ?_, fun e => absurd rfl e⟩
        rw [nI_add]
        exact j1
      · refine g3 ⟨fun _ => ?_, fun e => absurd eu e⟩
        rw [nI_add]
        exact j2
    · have eu : u = 1 := huw.mpr ew
      have nw : ¬ w = 0 := by
        rw [ew]
        exact z1
      have nu : ¬ u = 0 := by
        rw [eu]
        exact z1
      obtain ⟨y1, y2⟩ := x_21 his s 70 i x rfl (by omega)
      obtain ⟨z2, z3⟩ := m_73 his s 130 0 m (by omega) (by omega)
      rw [if_neg nw, if_neg nu]
      refine ⟨⟨fun e => absurd e c1, fun _ => ⟨fk, ?_⟩⟩, ⟨fun e => absurd e c2, fun _ => ?_⟩, Or.inr ⟨i, cpf i (i + s) (fun _ => 1) (gA m 12), by omega, ?_, ?_⟩⟩
      · rw [e1', ew]
        exact ⟨fun e => absurd e z1, fun _ => y1⟩
      · exact g3 ⟨fun e => absurd e nu, fun _ => z2⟩
      · rw [y2, t1]
      · exact z3
theorem op_reserve {c : Int} {x m : SS} (h : R c x m) (v : Int32) : kX11_reserve m v ∧ kX10_reserve x v ∧ okI c [1, 4] (fX10_reserve x v) (fX11_reserve m v).1 (fX11_reserve m v).2 := by
  have a10 : gA x 39 = gA m 10 := h.1.2.2.2.2.2.2.2.2.2.1
  have t1 : gA x 13 = gA m 12 := h.2.2.1.1
  have key : ∀ (s d : Nat), 0 < s → s ≤ 8 → d * s = 64 → d ≤ 64 → kX11_reserve_27 m (nI s) ∧ kX10_reserve_31 x (nI s) ∧ okI c [1, 4] (fX10_reserve_31 x (nI s)) (fX11_reserve_27 m (nI s)).1 (fX11_reserve_27 m (nI s)).2 := by
    intro s d h1 h2 h3 h4
    obtain ⟨k1, k2, k3⟩ := res_L a10 t1 h1 h2 d 70 130 0 (by omega) (by omega) (by omega)
    have k1' : kX7_reserveBlock x (nI s) := k1
    refine ⟨k2, ⟨k1', ?_⟩, ?_⟩
    · exact ⟨fun _ => trivial, fun _ => trivial⟩
    · rcases k3 with ⟨e1, e2⟩ | ⟨r, G, hr, e1, e2⟩
      · have e1' : fX7_reserveBlock x (nI s) = (-1, x) := e1
        have e2' : fX11_reserve_27 m (nI s) = (0, sI m 0 2) := e2
        rw [fX10_reserve_31, e1', e2', fX10_reserve_39, if_pos rfl]
        exact okI_l 1 rfl rfl (R_m0 h 2)
      · have e1' : fX7_reserveBlock x (nI s) = (nI r, sA x 13 G) := e1
        have e2' : fX11_reserve_27 m (nI s) = (nI r, sI (sA m 12 G) 0 0) := e2
        rw [fX10_reserve_31, e1', e2', fX10_reserve_39, if_neg (nIm1 hr)]
        refine okI_r rfl rfl ?_
        obtain ⟨hW, hV, hT, hP, hQ, hK, hM, hR, hN, hF, hC, hS, hE⟩ := h
        obtain ⟨t1, t2, t3, t4, t5, t6, t7, t8, t9⟩ := hT
        exact ⟨hW, hV, ⟨rfl, t2, t3, t4, t5, t6, t7, t8, t9⟩, hP, hQ, hK, hM, hR, hN, hF, hC, hS, hE⟩
  by_cases h1 : v = 1
  · subst h1
    obtain ⟨j1, j2, j3⟩ := key 1 64 (by decide) (by decide) (by decide) (by decide)
    have j1' : kX11_reserve_27 m 1 := j1
    have j2' : kX10_reserve_31 x 1 := j2
    rw [fX10_reserve, if_pos rfl, fX11_reserve, if_pos rfl]
    exact ⟨⟨fun _ => j1', fun e => absurd rfl e⟩, ⟨fun _ => j2', fun e => absurd rfl e⟩, j3⟩
  · by_cases h2 : v = 2
    · subst h2
      obtain ⟨j1, j2, j3⟩ := key 2 32 (by decide) (by decide) (by decide) (by decide)
      have j1' : kX11_reserve_27 m 2 := j1
      have j2' : kX10_reserve_31 x 2 := j2
      rw [fX10_reserve, if_neg h1, if_pos rfl, fX11_reserve, if_neg h1, if_pos rfl]
      exact ⟨⟨fun e => absurd e h1, fun _ => ⟨fun _ => j1', fun e => absurd rfl e⟩⟩, ⟨fun e => absurd e h1, fun _ => ⟨fun _ => j2', fun e => absurd rfl e⟩⟩, j3⟩
    · by_cases h4 : v = 4
      · subst h4
        obtain ⟨j1, j2, j3⟩ := key 4 16 (by decide) (by decide) (by decide) (by decide)
        have j1' : kX11_reserve_27 m 4 := j1
        have j2' : kX10_reserve_31 x 4 := j2
        rw [fX10_reserve, if_neg h1, if_neg h2, if_pos rfl, fX11_reserve, if_neg h1, if_neg h2, if_pos rfl]
        exact ⟨⟨fun e => absurd e h1, fun _ => ⟨fun e => absurd e h2, fun _ => ⟨fun _ => j1', fun e => absurd rfl e⟩⟩⟩, ⟨fun e => absurd e h1, fun _ => ⟨fun e => absurd e h2, fun _ => ⟨fun _ => j2', fun e => absurd rfl e⟩⟩⟩, j3⟩
      · by_cases h8 : v = 8
        · subst h8
          obtain ⟨j1, j2, j3⟩ := key 8 8 (by decide) (by decide) (by decide) (by decide)
          have j1' : kX11_reserve_27 m 8 := j1
          have j2' : kX10_reserve_31 x 8 := j2
          rw [fX10_reserve, if_neg h1, if_neg h2, if_neg h4, if_pos rfl, fX11_reserve, if_neg h1, if_neg h2, if_neg h4, if_pos rfl]
          exact ⟨⟨fun e => absurd e h1, fun _ => ⟨fun e => absurd e h2, fun _ => ⟨fun e => absurd e h4, fun _ => ⟨fun _ => j1', fun e => absurd rfl e⟩⟩⟩⟩, ⟨fun e => absurd e h1, fun _ => ⟨fun e => absurd e h2, fun _ => ⟨fun e => absurd e h4, fun _ => ⟨fun _ => j2', fun e => absurd rfl e⟩⟩⟩⟩, j3⟩
        · rw [fX10_reserve, if_neg h1, if_neg h2, if_neg h4, if_neg h8, fX11_reserve, if_neg h1, if_neg h2, if_neg h4, if_neg h8, mf_refuse]
          exact ⟨⟨fun e => absurd e h1, fun _ => ⟨fun e => absurd e h2, fun _ => ⟨fun e => absurd e h4, fun _ => ⟨fun e => absurd e h8, fun _ => ⟨(mk_refuse _ _).mpr trivial, trivial⟩⟩⟩⟩⟩, ⟨fun e => absurd e h1, fun _ => ⟨fun e => absurd e h2, fun _ => ⟨fun e => absurd e h4, fun _ => ⟨fun e => absurd e h8, fun _ => trivial⟩⟩⟩⟩, okI_l 0 rfl rfl (R_m0 h 1)⟩
