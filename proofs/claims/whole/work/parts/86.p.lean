/-! ===== PURE: the class's checker, its loops ===== -/
def PSx (m : SS) (f a0 p : Nat) : Prop := p < 32 ∧ p.testBit 4 = true ∧ ∀ b, b < 5 → p.testBit b = true → (stn m a0).testBit b = false ∧ ∃ s, s < 16 ∧ Rch m f (16 * a0 + s) ∧ (b = 4 ∨ s.testBit b = false)
def ME (c : Int) (m : SS) (f a0 p c0 h : Nat) (pr : Nat → Prop) (y : SS) : Prop := ∃ (C Q : Nat → Nat) (n r e : Nat), CS c m y C Q n r e ∧ CI m f C Q n r e h (fun a => a = a0) ∧ (wrd m f → ∀ k, k < 5 → (C f).testBit k = true) ∧ (C a0 = c0 ∨ ∃ i, h ≤ i ∧ i < n ∧ Q i = a0) ∧ (∀ k t : Nat, pr k → t < 80 → wy m a0 k = nI t → wrd m t → ∀ b, b < 5 → p.testBit b = true → (C t).testBit b = true)
theorem ME.imp {c : Int} {m : SS} {f a0 p c0 h : Nat} {pr qr : Nat → Prop} {y : SS} (H : ME c m f a0 p c0 h pr y) (hi : ∀ k t : Nat, qr k → t < 80 → wy m a0 k = nI t → pr k) : ME c m f a0 p c0 h qr y := by
  obtain ⟨C, Q, n, r, e, h1, h2, h3, h4, h5⟩ := H
  exact ⟨C, Q, n, r, e, h1, h2, h3, h4, fun k t a1 a2 a3 => h5 k t (hi k t a1 a2 a3) a2 a3⟩
theorem come_ME {c : Int} {m : SS} {f a0 p c0 h : Nat} {pr : Nat → Prop} {y : SS} (hw : wrd m a0) (hP : PSx m f a0 p) (H : ME c m f a0 p c0 h pr y) {k0 : Nat} (hk0 : k0 ≤ 8) : kX0_come y (wy m a0 k0) (nI p) ∧ ME c m f a0 p c0 h (fun k => pr k ∨ k = k0) (fX0_come y (wy m a0 k0) (nI p)) := by
  obtain ⟨C, Q, n, r, e, h1, h2, h3, h4, h5⟩ := H
  obtain ⟨P1, P2, P3⟩ := hP
  obtain ⟨ck, C2, Q2, n2, r2, e2, j1, j2, j3, j4, j5, j6, j7⟩ := come_L h1 h2 P1 P2 (wy_cases h1.1 hw.1 hk0) (fun t0 ht0 et k hk hpk => by
    obtain ⟨q1, s, q2, q3, q4⟩ := P3 k hk hpk
    refine ⟨s ||| stn m a0, bo_or16 s q2 _ (stn_lt m a0), q3.step q2 hw hk0 (by omega) et, ?_⟩
    rcases q4 with q4 | q4
    · exact Or.inl q4
    · refine Or.inr ?_
      rw [Nat.testBit_or, q1, q4]
      rfl)
  refine ⟨ck, C2, Q2, n2, r2, e2, j1, j2, fun w k hk => j3 _ _ (h3 w k hk), ?_, ?_⟩
  · rcases h4 with h4 | ⟨i, z1, z2, z3⟩
    · rcases j7 a0 with z | z
      · exact Or.inl (z.trans h4)
      · exact Or.inr z
    · exact Or.inr ⟨i, z1, by omega, (j6 i z2).trans z3⟩
  · intro k t z1 z2 z3 z4 b z5 z6
    rcases z1 with z1 | z1
    · exact j3 _ _ (h5 k t z1 z2 z3 z4 b z5 z6)
    · rw [z1] at z3
      exact j4 t z2 z3 z4 b z5 z6
theorem tests_ME {c : Int} {m : SS} {f a0 p c0 h : Nat} (hw : wrd m a0) (ho : gA m 9 a0 = 111) (hP : PSx m f a0 p) : ∀ (d n k : Nat) (y : SS), k + d = 8 → d < n → ME c m f a0 p c0 h (fun j => j < k) y → kX0_goOnByTests_2 n y a0 (nI p) (nI k) ∧ ME c m f a0 p c0 h (fun j => j < 8) (fX0_goOnByTests_2 n y a0 (nI p) (nI k)) := by
  intro d
  induction d with
  | zero =>
    intro n k y hk hn H
    obtain ⟨n, rfl⟩ := fuel hn
    have ek : k = 8 := by omega
    subst ek
    have c8 : (8 : Int32) ≤ nI 8 := by decide
    refine ⟨⟨fun _ => trivial, fun e => absurd c8 e⟩, ?_⟩
    rw [fX0_goOnByTests_2, if_pos c8]
    exact H
  | succ d ih =>
    intro n k y hk hn H
    obtain ⟨n, rfl⟩ := fuel hn
    have c8 : ¬ (8 : Int32) ≤ nI k := nle (n := 8) (by omega) (by decide) rfl
    have H0 := H
    obtain ⟨C, Q, nn, r, e, h1, h2, h3, h4, h5⟩ := H
    have hR := h1.1
    have hwy : isW y a0 := (isW_m hR).mpr hw
    have e35 : gA y 35 a0 = gA m 5 a0 := congrFun hR.1.2.2.2.2.2.1 _
    have e36 : gA y 36 a0 = gA m 6 a0 := congrFun hR.1.2.2.2.2.2.2.1 _
    have t4 : gA y 15 = gA m 8 := hR.2.2.1.2.2.2.1
    have hwk : wy m a0 k = if nI k &&& (gA m 6 a0 ^^^ (-1)) = 0 then flw m (gA m 5 a0 ||| nI k) else -1 := by
      rw [wy, if_neg (by omega), ho, if_neg (by decide), if_pos rfl]
    by_cases hb : nI k &&& (gA m 6 a0 ^^^ (-1)) = 0
    · rw [if_pos hb] at hwk
      obtain ⟨fk, ff⟩ := x_followed (q := y) (m := m) t4 (gA m 5 a0 ||| nI k)
      rw [← hwk] at ff
      obtain ⟨ck, cM⟩ := come_ME hw hP H0 (k0 := k) (by omega)
      obtain ⟨j1, j2⟩ := ih n (k + 1) _ (by omega) (by omega) (cM.imp (fun j t z _ _ => by
        have z' : j < k + 1 := z
        by_cases e : j = k
        · exact Or.inr e
        · exact Or.inl (by omega)))
      constructor
      · refine ⟨fun e => absurd e c8, fun _ => ⟨hwy, ?_⟩⟩
        rw [e35, e36]
        refine ⟨fun _ => ⟨hwy, fk, ?_⟩, fun e => absurd hb e⟩
        rw [ff]
        refine ⟨ck, ?_⟩
        unfold kX0_goOnByTests_37
        rw [nI_1]
        exact j1
      · rw [fX0_goOnByTests_2, if_neg c8, e35, e36, if_pos hb, ff, fX0_goOnByTests_33, fX0_goOnByTests_37, nI_1]
        exact j2
    · rw [if_neg hb] at hwk
      obtain ⟨j1, j2⟩ := ih n (k + 1) y (by omega) (by omega) (H0.imp (fun j t z z2 z3 => by
        have z' : j < k + 1 := z
        by_cases e : j = k
        · rw [e, hwk] at z3
          exact absurd z3.symm (nI80 (by omega))
        · show j < k
          omega))
      constructor
      · refine ⟨fun e => absurd e c8, fun _ => ⟨hwy, ?_⟩⟩
        rw [e36]
        refine ⟨fun e => absurd e hb, fun _ => ?_⟩
        unfold kX0_goOnByTests_37
        rw [nI_1]
        exact j1
      · rw [fX0_goOnByTests_2, if_neg c8, e36, if_neg hb, fX0_goOnByTests_37, nI_1]
        exact j2
theorem go_34 {c : Int} {m : SS} {f a0 p c0 h : Nat} {y : SS} (hw : wrd m a0) (hP : PSx m f a0 p) {s0 s1 : Int32} (hp : s1 &&& (s0 ^^^ (-1)) = nI p) (H : ME c m f a0 p c0 h (fun _ => False) y) : kX0_goOn_34 y (nI a0) a0 s0 s1 ∧ ME c m f a0 p c0 h (fun k => k ≤ 8) (fX0_goOn_34 y (nI a0) a0 s0 s1) := by
  have H0 := H
  obtain ⟨C, Q, nn, r, e, h1, h2, h3, h4, h5⟩ := H
  have hR := h1.1
  have hwy : isW y a0 := (isW_m hR).mpr hw
  have e34 : gA y 34 a0 = gA m 9 a0 := congrFun hR.1.2.2.2.2.1 _
  have e35 : gA y 35 a0 = gA m 5 a0 := congrFun hR.1.2.2.2.2.2.1 _
  have t4 : gA y 15 = gA m 8 := hR.2.2.1.2.2.2.1
  obtain ⟨fk, ff⟩ := x_followed (q := y) (m := m) t4 (gA m 5 a0)
  obtain ⟨ck, cM⟩ := come_ME hw hP H0 (k0 := 0) (by omega)
  by_cases o99 : gA m 9 a0 = 99
  · have w0 : wy m a0 0 = flw m (gA m 5 a0) := by
      rw [wy, if_neg (by decide), o99, if_pos (Or.inr rfl), if_pos rfl]
    have w8 : wy m a0 8 = flw m (nI (a0 + 1)) := by
      rw [wy, if_pos rfl, if_pos o99]
    have wk : ∀ k, ¬ k = 0 → ¬ k = 8 → wy m a0 k = -1 := by
      intro k k1 k2
      rw [wy, if_neg k2, o99, if_pos (Or.inr rfl), if_neg k1]
    rw [← w0] at ff
    obtain ⟨ck2, cM2⟩ := come_ME hw hP cM (k0 := 8) (by omega)
    have t42 : gA (fX0_come y (wy m a0 0) (nI p)) 15 = gA m 8 := by
      obtain ⟨C2, Q2, n2, r2, e2, z1, _⟩ := cM
      exact z1.1.2.2.1.2.2.2.1
    obtain ⟨fk2, ff2⟩ := x_followed (q := fX0_come y (wy m a0 0) (nI p)) (m := m) t42 (nI (a0 + 1))
    rw [← w8] at ff2
    constructor
    · refine ⟨hwy, ?_⟩
      rw [e34, e35]
      refine ⟨fun _ => ⟨hwy, fk, ?_⟩, fun e => absurd o99 e⟩
      rw [ff, hp]
      refine ⟨ck, ?_⟩
      unfold kX0_goOn_120
      rw [nI_1, ff2]
      exact ⟨fk2, ck2, trivial⟩
    · rw [fX0_goOn_34, e34, if_pos o99, e35, ff, hp, fX0_goOn_116, fX0_goOn_120, nI_1, ff2, fX0_goOn_131]
      refine cM2.imp (fun k t z _ z3 => ?_)
      by_cases k1 : k = 0
      · exact Or.inl (Or.inr k1)
      · by_cases k2 : k = 8
        · exact Or.inr k2
        · rw [wk k k1 k2] at z3
          exact absurd z3.symm (nI80 (by omega))
  · by_cases o110 : gA m 9 a0 = 110
    · have w0 : wy m a0 0 = flw m (gA m 5 a0) := by
        rw [wy, if_neg (by decide), o110, if_pos (Or.inl rfl), if_pos rfl]
      have wk : ∀ k, ¬ k = 0 → wy m a0 k = -1 := by
        intro k k1
        by_cases k2 : k = 8
        · rw [wy, if_pos k2, if_neg o99]
        · rw [wy, if_neg k2, o110, if_pos (Or.inl rfl), if_neg k1]
      rw [← w0] at ff
      constructor
      · refine ⟨hwy, ?_⟩
        rw [e34, e35]
        refine ⟨fun e => absurd e o99, fun _ => ⟨fun _ => ⟨hwy, fk, ?_⟩, fun e => absurd o110 e⟩⟩
        rw [ff, hp]
        exact ⟨ck, trivial⟩
      · rw [fX0_goOn_34, e34, if_neg o99, if_pos o110, e35, ff, hp, fX0_goOn_88]
        refine cM.imp (fun k t z _ z3 => ?_)
        by_cases k1 : k = 0
        · exact Or.inr k1
        · rw [wk k k1] at z3
          exact absurd z3.symm (nI80 (by omega))
    · by_cases o111 : gA m 9 a0 = 111
      · obtain ⟨tk, tM⟩ := tests_ME hw o111 hP 8 10 0 y rfl (by decide) (H0.imp (fun j t z _ _ => absurd (show j < 0 from z) (by omega)))
        have tk' : kX0_goOnByTests y a0 (nI p) := tk
        constructor
        · refine ⟨hwy, ?_⟩
          rw [e34, hp]
          exact ⟨fun e => absurd e o99, fun _ => ⟨fun e => absurd e o110, fun _ => ⟨fun _ => ⟨tk', trivial⟩, fun e => absurd o111 e⟩⟩⟩
        · rw [fX0_goOn_34, e34, if_neg o99, if_neg o110, if_pos o111, hp]
          refine ME.imp (pr := fun j => j < 8) tM (fun k t z _ z3 => ?_)
          have z' : k ≤ 8 := z
          by_cases k2 : k = 8
          · rw [wy, if_pos k2, if_neg o99] at z3
            exact absurd z3.symm (nI80 (by omega))
          · show k < 8
            omega
      · have wk : ∀ k, wy m a0 k = -1 := by
          intro k
          by_cases k2 : k = 8
          · rw [wy, if_pos k2, if_neg o99]
          · rw [wy, if_neg k2, if_neg (fun z => by rcases z with z | z; exact o110 z; exact o99 z), if_neg o111]
        constructor
        · refine ⟨hwy, ?_⟩
          rw [e34]
          exact ⟨fun e => absurd e o99, fun _ => ⟨fun e => absurd e o110, fun _ => ⟨fun e => absurd e o111, fun _ => trivial⟩⟩⟩
        · rw [fX0_goOn_34, e34, if_neg o99, if_neg o110, if_neg o111]
          refine ME.imp (pr := fun _ => False) H0 (fun k t z _ z3 => ?_)
          rw [wk k] at z3
          exact absurd z3.symm (nI80 (by omega))
def LI (c : Int) (m : SS) (f h : Nat) (y : SS) (n : Nat) : Prop := ∃ (C Q : Nat → Nat) (r e : Nat), CS c m y C Q n r e ∧ CI m f C Q n r e h (fun _ => False) ∧ (wrd m f → ∀ k, k < 5 → (C f).testBit k = true)
theorem go_L {c : Int} {m : SS} {f h n : Nat} {y : SS} (H : LI c m f h y n) (hh : h < n) : kX0_goOn y (gA y 24 (nI h).toNatClampNeg) ∧ ∃ n2, LI c m f (h + 1) (fX0_goOn y (gA y 24 (nI h).toNatClampNeg)) n2 := by
  obtain ⟨C, Q, r, e, S, I, hst⟩ := H
  obtain ⟨S1, S2, S3, S4, S5, S6⟩ := S
  have I0 := I
  obtain ⟨I1, I2, I3, I4, I5, I6, I7, I8, I9⟩ := I
  have hn400 : n ≤ 5 * 80 := Nat.le_trans I5 (sm_le (fun a _ => pc_le _ (I1 a)))
  have hcl : (nI h).toNatClampNeg = h := nI_clamp (by omega)
  rw [hcl, S3 h hh]
  obtain ⟨ha, hne⟩ := I4 h hh
  generalize hA : Q h = a0 at *
  obtain ⟨hw0, hb4⟩ := I2 a0 ha hne
  have hw : wrd m a0 := ⟨ha, hw0⟩
  have hca : (nI a0).toNatClampNeg = a0 := nI_clamp (by omega)
  have hwy : isW y a0 := (isW_m S1).mpr hw
  have e39 : gA y 39 = gA m 10 := S1.1.2.2.2.2.2.2.2.2.2.1
  have e80 : (80 : Int32).toInt - 1 = 79 := by decide
  have hr : rg 0 79 (nI a0) := by
    rw [rg, nI_toInt (by omega)]
    omega
  have hin : vp_in (nI a0) 80 := vp_in_nI (by omega) (by decide)
  have ex := xf_isOutside y (nI a0) 80
  rw [e80, if_pos hr] at ex
  obtain ⟨kw, w1, w2⟩ := w_at y (nI a0)
  have ew := w1 hr (by rw [hca, e39]; exact hw0)
  rw [hca] at ew
  obtain ⟨sk, sf⟩ := st_x S1 hwy
  have hs16 := stn_lt m a0
  have en := bo_not (C a0) (I1 a0) (stn m a0) (by omega)
  have bits : ∀ b, b < 5 → (C a0 &&& (31 ^^^ stn m a0)).testBit b = ((C a0).testBit b && !(stn m a0).testBit b) := fun b hb => bb_not (C a0) (I1 a0) (stn m a0) (by omega) b hb
  generalize hP0 : (C a0 &&& (31 ^^^ stn m a0)) = p at *
  have hP : PSx m f a0 p := by
    refine ⟨en.2, ?_, ?_⟩
    · rw [bits 4 (by decide), hb4, bb_4 _ hs16]
      rfl
    · intro b hb hpb
      rw [bits b hb, Bool.and_eq_true] at hpb
      refine ⟨?_, I3 a0 b ha hb hpb.1⟩
      revert hpb
      cases (stn m a0).testBit b <;> simp
  have H1 : ME c m f a0 p (C a0) (h + 1) (fun _ => False) y := by
    refine ⟨C, Q, n, r, e, ⟨S1, S2, S3, S4, S5, S6⟩, ⟨I1, I2, I3, I4, I5, I6, I7, by omega, ?_⟩, hst, Or.inl rfl, fun k t z => absurd z id⟩
    intro a z1 z2
    rcases I9 a z1 z2 with ⟨i, q1, q2, q3⟩ | q | q
    · by_cases ei : i = h
      · rw [ei, hA] at q3
        exact Or.inr (Or.inr q3.symm)
      · exact Or.inl ⟨i, by omega, q2, q3⟩
    · exact Or.inr (Or.inl q)
    · exact absurd q id
  obtain ⟨gk, gM⟩ := go_34 hw hP (s0 := nI (stn m a0)) (s1 := nI (C a0)) en.1 H1
  have ef : fX0_goOn y (nI a0) = fX0_goOn_34 y (nI a0) a0 (nI (stn m a0)) (nI (C a0)) := by
    rw [fX0_goOn, ex, fX0_goOn_6, if_pos rfl, ew, oc_some, sf, hca, S2 a0 ha]
  constructor
  · refine ⟨(xk_isOutside _ _ _).mpr trivial, ?_⟩
    rw [ex]
    refine ⟨fun _ => ⟨kw, ?_⟩, fun z => absurd rfl z⟩
    rw [ew]
    refine ⟨fun z => (by cases z), fun w z => ?_⟩
    cases z
    refine ⟨hin, sk, hwy, ?_⟩
    rw [sf, hca, S2 a0 ha]
    exact gk
  · rw [ef]
    obtain ⟨C2, Q2, n2, r2, e2, T, J, T3, T4, T5⟩ := gM
    obtain ⟨J1, J2, J3, J4, J5, J6, J7, J8, J9⟩ := J
    refine ⟨n2, C2, Q2, r2, e2, T, ⟨J1, J2, J3, J4, J5, J6, J7, J8, ?_⟩, T3⟩
    intro a z1 z2
    rcases J9 a z1 z2 with q | q | q
    · exact Or.inl q
    · exact Or.inr (Or.inl q)
    · have q' : a = a0 := q
      rw [q']
      rcases T4 with q2 | q2
      · refine Or.inr (Or.inl ?_)
        intro k t y1 y2 y3 y4 b y5 y6 y7
        refine T5 k t y1 y2 y3 y4 b y5 ?_
        rw [q2] at y6
        rw [bits b y5, y6, y7]
        rfl
      · exact Or.inl q2
theorem all_L {c : Int} {m : SS} {f : Nat} : ∀ (d fu h n : Nat) (y : SS), h + d = 400 → d < fu → LI c m f h y n → kX0_goAllWays_32 fu y (nI h) ∧ ∃ n2, LI c m f n2 (fX0_goAllWays_32 fu y (nI h)) n2 := by
  intro d
  induction d with
  | zero =>
    intro fu h n y hd hf H
    obtain ⟨fu, rfl⟩ := fuel hf
    have H0 := H
    obtain ⟨C, Q, r, e, S, I, hst⟩ := H
    have hn400 : n ≤ 5 * 80 := Nat.le_trans I.2.2.2.2.1 (sm_le (fun a _ => pc_le _ (I.1 a)))
    have hhn := I.2.2.2.2.2.2.2.1
    have en : n = h := by omega
    have c1 : gI y 603 ≤ nI h := by
      rw [S.2.2.2.1, en, nI_leI (by omega) (by omega)]
      omega
    refine ⟨⟨fun _ => trivial, fun z => absurd c1 z⟩, n, ?_⟩
    rw [fX0_goAllWays_32, if_pos c1, fX0_goAllWays_63]
    rw [← en] at H0
    exact H0
  | succ d ih =>
    intro fu h n y hd hf H
    obtain ⟨fu, rfl⟩ := fuel hf
    have H0 := H
    obtain ⟨C, Q, r, e, S, I, hst⟩ := H
    have hn400 : n ≤ 5 * 80 := Nat.le_trans I.2.2.2.2.1 (sm_le (fun a _ => pc_le _ (I.1 a)))
    have hhn := I.2.2.2.2.2.2.2.1
    by_cases en : n = h
    · have c1 : gI y 603 ≤ nI h := by
        rw [S.2.2.2.1, en, nI_leI (by omega) (by omega)]
        omega
      refine ⟨⟨fun _ => trivial, fun z => absurd c1 z⟩, n, ?_⟩
      rw [fX0_goAllWays_32, if_pos c1, fX0_goAllWays_63]
      rw [← en] at H0
      exact H0
    · have c1 : ¬ gI y 603 ≤ nI h := by
        rw [S.2.2.2.1, nI_leI (by omega) (by omega)]
        omega
      have c2 : ¬ (400 : Int32) ≤ nI h := nle (n := 400) (by omega) (by decide) rfl
      have hin : vp_in (nI h) 400 := vp_in_nI (by omega) (by decide)
      obtain ⟨gk, n2, gM⟩ := go_L H0 (by omega)
      obtain ⟨j1, n3, j2⟩ := ih fu (h + 1) n2 _ (by omega) (by omega) gM
      refine ⟨⟨fun z => absurd z c1, fun _ => ⟨fun z => absurd z c2, fun _ => ⟨hin, gk, ?_⟩⟩⟩, n3, ?_⟩
      · unfold kX0_goAllWays_57
        rw [nI_1]
        exact j1
      · rw [fX0_goAllWays_32, if_neg c1, if_neg c2, fX0_goAllWays_57, nI_1]
        exact j2
theorem x_fill : ∀ (d n i : Nat) (q : SS), i + d = 80 → d < n → kJ7_fill_53178_coming_5 n q 0 (nI i) 80 ∧ fJ7_fill_53178_coming_5 n q 0 (nI i) 80 = sA q 23 (cpf i 80 (fun _ => 0) (gA q 23)) := by
  intro d
  induction d with
  | zero =>
    intro n i q h hn
    obtain ⟨k, rfl⟩ := fuel hn
    have hi : i = 80 := by omega
    subst hi
    have c : (80 : Int32) ≤ nI 80 := by decide
    refine ⟨⟨fun _ => trivial, fun e => absurd c e⟩, ?_⟩
    rw [fJ7_fill_53178_coming_5, if_pos c, cpf_nil, sA_self]
  | succ d ih =>
    intro n i q h hn
    obtain ⟨k, rfl⟩ := fuel hn
    have c : ¬ (80 : Int32) ≤ nI i := nle (n := 80) (by omega) (by decide) rfl
    have hin : vp_in (nI i) 80 := vp_in_nI (by omega) (by decide)
    have hc : (nI i).toNatClampNeg = i := nI_clamp (by omega)
    obtain ⟨j1, j2⟩ := ih k (i + 1) (sA q 23 (upd (gA q 23) i 0)) (by omega) (by omega)
    refine ⟨⟨fun e => absurd e c, fun _ => ⟨hin, ?_⟩⟩, ?_⟩
    · rw [hc, nI_1]
      exact j1
    · rw [fJ7_fill_53178_coming_5, if_neg c, hc, nI_1, j2, sA_sA]
      have e := cpf_step (i := i) (n := 80) (by omega) (fun _ => (0 : Int32)) (gA q 23)
      show sA q 23 (cpf (i + 1) 80 (fun _ => 0) (upd (gA q 23) i 0)) = _
      rw [e]
theorem walks_X {c : Int} {x m : SS} (h : R c x m) {f : Nat} (hf : f < 80) : kX0_goAllWays x (nI f) ∧ R c (fX0_goAllWays x (nI f)) m ∧ ∃ r : Nat, r < 16 ∧ (∀ k, k < 4 → (r.testBit k = true ↔ ∃ a s : Nat, s < 16 ∧ wrd m a ∧ Rch m f (16 * a + s) ∧ (rdn m a).testBit k = true ∧ s.testBit k = false)) ∧ gI (fX0_goAllWays x (nI f)) 604 = nI r ∧ gI (fX0_goAllWays x (nI f)) 605 = nI (cnt 80 (hC (fun j => wrd m j ∧ ∃ s, s < 16 ∧ Rch m f (16 * j + s)))) := by
  obtain ⟨f1, f2⟩ := x_fill 80 90 0 x rfl (by decide)
  have f1' : kJ7_fill_53178_coming x 0 := f1
  have f2' : fJ7_fill_53178_coming x 0 = sA x 23 (cpf 0 80 (fun _ => 0) (gA x 23)) := f2
  have hS : CS c m (sI (sI (sI (sA x 23 (cpf 0 80 (fun _ => 0) (gA x 23))) 603 0) 604 0) 605 0) (fun _ => 0) (fun _ => 0) 0 0 0 := by
    refine ⟨h, ?_, fun i hi => absurd hi (by omega), rfl, rfl, rfl⟩
    intro a ha
    show cpf 0 80 (fun _ => (0 : Int32)) (gA x 23) a = nI 0
    rw [cpf_at 80 _ _ ha]
    rfl
  have hI : CI m f (fun _ => 0) (fun _ => 0) 0 0 0 0 (fun _ => False) := by
    refine ⟨fun _ => (by decide : 0 < 32), fun a _ z => absurd rfl z, ?_, fun i hi => absurd hi (by omega), Nat.zero_le _, ⟨by decide, ?_⟩, ?_, Nat.le_refl 0, fun a _ z => absurd rfl z⟩
    · intro a k _ _ hb
      rw [Nat.zero_testBit] at hb
      exact absurd hb (by decide)
    · intro k _
      rw [Nat.zero_testBit]
      constructor
      · intro z
        exact absurd z (by decide)
      · intro ⟨a, _, z, _⟩
        rw [Nat.zero_testBit] at z
        exact z
    · exact (cnt_zero (n := 80) (f := fun _ => nI 0) (fun c hc => rfl)).symm
  obtain ⟨ck, C, Q, n, r, e, T1, T2, T3, T4, T5, T6, T7⟩ := come_L hS hI (t := nI f) (p := 31) (by decide) (by decide) (Or.inr ⟨f, by omega, rfl⟩) (fun t0 h1 h2 k hk _ => by
    have e0 := (nI_eq (by omega) (by omega)).mp h2
    refine ⟨0, by decide, ?_, Or.inr (Nat.zero_testBit k)⟩
    rw [← e0, Nat.add_zero]
    exact Rch.base m f)
  have L0 : LI c m f 0 (fX0_come (sI (sI (sI (sA x 23 (cpf 0 80 (fun _ => 0) (gA x 23))) 603 0) 604 0) 605 0) (nI f) (nI 31)) n := ⟨C, Q, r, e, T1, T2, fun w k hk => T4 f hf rfl w k hk (bb_all k hk)⟩
  obtain ⟨ak, n2, C2, Q2, r2, e2, S, I, hst⟩ := all_L 400 410 0 n _ rfl (by decide) L0
  have ef : fX0_goAllWays x (nI f) = fX0_goAllWays_32 410 (fX0_come (sI (sI (sI (sA x 23 (cpf 0 80 (fun _ => 0) (gA x 23))) 603 0) 604 0) 605 0) (nI f) (nI 31)) (nI 0) := by
    rw [fX0_goAllWays, f2', fX0_goAllWays_8, fX0_goAllWays_30]
    rfl
  have kf : kX0_goAllWays x (nI f) := by
    refine ⟨f1', ?_⟩
    rw [f2']
    exact ⟨ck, ak⟩
  rw [ef]
  obtain ⟨S1, S2, S3, S4, S5, S6⟩ := S
  obtain ⟨I1, I2, I3, I4, I5, I6, I7, I8, I9⟩ := I
  have done : ∀ a, a < 80 → ¬ C2 a = 0 → DX m C2 a := by
    intro a z1 z2
    rcases I9 a z1 z2 with ⟨i, q1, q2, _⟩ | q | q
    · omega
    · exact q
    · exact absurd q id
  -- whatever is reached stands in the class's parts
  have full : ∀ q, Rch m f q → wrd m (q / 16) → ∀ b, b < 5 → (b = 4 ∨ (q % 16).testBit b = false) → (C2 (q / 16)).testBit b = true := by
    intro q hq
    refine hq (fun q => wrd m (q / 16) → ∀ b, b < 5 → (b = 4 ∨ (q % 16).testBit b = false) → (C2 (q / 16)).testBit b = true) ?_ ?_
    · intro w b hb _
      have e0 : 16 * f / 16 = f := by omega
      rw [e0] at w ⊢
      exact hst w b hb
    · intro a s k t z1 z2 z3 z4 z5 z6 w b hb hor
      have e1 : (16 * a + s) / 16 = a := by omega
      have e2 : (16 * a + s) % 16 = s := by omega
      have hu := bo_or16 s z2 _ (stn_lt m a)
      have e3 : (16 * t + (s ||| stn m a)) / 16 = t := by omega
      have e4 : (16 * t + (s ||| stn m a)) % 16 = (s ||| stn m a) := by omega
      rw [e1, e2] at z1
      rw [e3] at w ⊢
      rw [e4] at hor
      have hne : ¬ C2 a = 0 := tb_ne (z1 z3 4 (by decide) (Or.inl rfl))
      have hsb : (stn m a).testBit b = false ∧ (b = 4 ∨ s.testBit b = false) := by
        rcases hor with e | e
        · rw [e]
          exact ⟨bb_4 _ (stn_lt m a), Or.inl rfl⟩
        · rw [Nat.testBit_or] at e
          revert e
          cases s.testBit b <;> cases (stn m a).testBit b <;> simp
      exact done a z3.1 hne k t z4 w.1 z6 w b hb (z1 z3 b hb hsb.2) hsb.1
  refine ⟨kf, S1, r2, I6.1, ?_, S5, ?_⟩
  · intro k hk
    rw [I6.2 k hk]
    constructor
    · intro ⟨a, z1, z2, z3⟩
      obtain ⟨s, q1, q2, q3⟩ := I3 a k z1 (by omega) z2
      have hw := (I2 a z1 (tb_ne z2)).1
      refine ⟨a, s, q1, ⟨z1, hw⟩, q2, z3, ?_⟩
      rcases q3 with q3 | q3
      · omega
      · exact q3
    · intro ⟨a, s, z1, z2, z3, z4, z5⟩
      have e1 : (16 * a + s) / 16 = a := by omega
      have e2 : (16 * a + s) % 16 = s := by omega
      have hfu := full _ z3
      rw [e1, e2] at hfu
      exact ⟨a, z2.1, hfu z2 k (by omega) (Or.inr z5), z4⟩
  · rw [S6, I7]
    have ecnt : cnt 80 (fun a => nI (C2 a)) = cnt 80 (hC (fun j => wrd m j ∧ ∃ s, s < 16 ∧ Rch m f (16 * j + s))) := by
     refine cnt_congr (fun j hj => ?_)
     rw [hC_iff, nI0 (I1 j)]
     constructor
     · intro z ⟨z1, s, z2, z3⟩
       have e1 : (16 * j + s) / 16 = j := by omega
       have e2 : (16 * j + s) % 16 = s := by omega
       have hfu := full _ z3
       rw [e1, e2] at hfu
       exact tb_ne (hfu z1 4 (by decide) (Or.inl rfl)) z
     · intro z
       refine Classical.not_not.mp (fun hne => z ?_)
       obtain ⟨w1, w2⟩ := I2 j hj hne
       obtain ⟨s, q1, q2, _⟩ := I3 j 4 hj (by decide) w2
       exact ⟨⟨hj, w1⟩, s, q1, q2⟩
    rw [ecnt]
theorem rdn_0 (m : SS) (v : Int32) {a : Nat} (ha : a < 80) : rdn (sI m 0 v) a = rdn m a := by
  obtain ⟨k1, b1, b2, b3, e1, e2, e3, e4⟩ := m_reads m ha
  obtain ⟨k2, d1, d2, d3, g1, g2, g3, g4⟩ := m_reads (sI m 0 v) ha
  have f1 : d1 = b1 := Bool.eq_iff_iff.mpr (g1.trans e1.symm)
  have f2 : d2 = b2 := Bool.eq_iff_iff.mpr (g2.trans e2.symm)
  have f3 : d3 = b3 := Bool.eq_iff_iff.mpr (g3.trans e3.symm)
  rw [rdn, rdn, rdv, rdv, e4, g4, f1, f2, f3]
  rfl
theorem R_TB {c : Int} {x m : SS} (h : R c x m) (F G : Nat → Int32) : R c x (TB m F G) := h
theorem op_unset {c : Int} {x m : SS} (h : R c x m) (v : Int32) : kX11_unset m v ∧ kX10_unset x v ∧ okI c [0] (fX10_unset x v) (fX11_unset m v).1 (fX11_unset m v).2 := by
  have ho := mf_out m v 80
  rw [tm_80] at ho
  have ko := (mk_out m v 80).mpr trivial
  have e80 : (80 : Int32).toInt - 1 = 79 := by decide
  have hx := xf_requireIndex x v 80
  rw [e80] at hx
  have kx := (xk_requireIndex x v 80).mpr trivial
  have z1 : ¬ (1 : Int32) = 0 := by decide
  by_cases hr : rg 0 79 v
  · rw [if_pos hr] at ho hx
    obtain ⟨f, hf, rfl⟩ := tof (x := v) (n := 80) hr.1 (by have := hr.2; omega) (by decide)
    obtain ⟨g1, g2, r, g3, g4, g5, g6⟩ := walks_X h hf
    obtain ⟨w1, F, G, r2, w2, w3, w4⟩ := walks_M (R_m0 h 0) hf 1
    have w3' : ∀ k, k < 4 → (r2.testBit k = true ↔ ∃ a s : Nat, s < 16 ∧ wrd m a ∧ Rch m f (16 * a + s) ∧ (rdn m a).testBit k = true ∧ s.testBit k = false) := by
      intro k hk
      rw [w3 k hk]
      constructor
      · intro ⟨a, s, y1, y2, y3, y4, y5⟩
        rw [rdn_0 m 0 y2.1] at y4
        exact ⟨a, s, y1, y2, y3, y4, y5⟩
      · intro ⟨a, s, y1, y2, y3, y4, y5⟩
        refine ⟨a, s, y1, y2, y3, ?_, y5⟩
        rw [rdn_0 m 0 y2.1]
        exact y4
    have er : r = r2 := bb_ext g3 w2 (fun k hk => Bool.eq_iff_iff.mpr ((g4 k hk).trans (w3' k hk).symm))
    rw [if_neg z1] at w4
    refine ⟨⟨ko, ?_⟩, ⟨kx, fun u e => ?_⟩, ?_⟩
    · rw [ho]
      refine ⟨fun _ => ⟨w1, trivial⟩, fun e => absurd rfl e⟩
    · rw [hx] at e
      cases e
      exact ⟨g1, trivial⟩
    · have f1 : fX10_unset x (nI f) = .inr (nI r, fX0_goAllWays x (nI f)) := by
        rw [fX10_unset, hx, xb_inr, fX10_unset_14, g5]
      have f2 : fX11_unset m (nI f) = (nI r2, TB (sI m 0 0) F G) := by
        rw [fX11_unset, ho, fX11_unset_7, if_pos rfl, w4, fX11_unset_20]
      rw [f1, f2]
      exact okI_r rfl (by rw [er]) (R_TB (R_m0 g2 0) F G)
  · rw [if_neg hr] at ho hx
    refine ⟨⟨ko, ?_⟩, ⟨kx, fun u e => ?_⟩, ?_⟩
    · rw [ho]
      exact ⟨fun e => absurd e z1, fun _ => trivial⟩
    · rw [hx] at e
      cases e
    · have f1 : fX10_unset x v = .inl (0, x) := by
        rw [fX10_unset, hx, xb_inl]
      have f2 : fX11_unset m v = (0, sI m 0 1) := by
        rw [fX11_unset, ho, fX11_unset_7, if_neg z1, fX11_unset_20]
      rw [f1, f2]
      exact okI_l 0 rfl rfl (R_m0 h 1)
theorem op_reached {c : Int} {x m : SS} (h : R c x m) (v : Int32) : kX11_reached m v ∧ kX10_reached x v ∧ okI c [0] (fX10_reached x v) (fX11_reached m v).1 (fX11_reached m v).2 := by
  have ho := mf_out m v 80
  rw [tm_80] at ho
  have ko := (mk_out m v 80).mpr trivial
  have e80 : (80 : Int32).toInt - 1 = 79 := by decide
  have hx := xf_requireIndex x v 80
  rw [e80] at hx
  have kx := (xk_requireIndex x v 80).mpr trivial
  have z1 : ¬ (1 : Int32) = 0 := by decide
  by_cases hr : rg 0 79 v
  · rw [if_pos hr] at ho hx
    obtain ⟨f, hf, rfl⟩ := tof (x := v) (n := 80) hr.1 (by have := hr.2; omega) (by decide)
    obtain ⟨g1, g2, r, g3, g4, g5, g6⟩ := walks_X h hf
    obtain ⟨w1, F, G, r2, w2, w3, w4⟩ := walks_M (R_m0 h 0) hf 0
    rw [if_pos rfl] at w4
    refine ⟨⟨ko, ?_⟩, ⟨kx, fun u e => ?_⟩, ?_⟩
    · rw [ho]
      refine ⟨fun _ => ⟨w1, trivial⟩, fun e => absurd rfl e⟩
    · rw [hx] at e
      cases e
      exact ⟨g1, trivial⟩
    · have f1 : fX10_reached x (nI f) = .inr (nI (cnt 80 (hC (fun j => wrd m j ∧ ∃ s, s < 16 ∧ Rch m f (16 * j + s)))), fX0_goAllWays x (nI f)) := by
        rw [fX10_reached, hx, xb_inr, fX10_reached_14, g6]
      have f2 : fX11_reached m (nI f) = (nI (cnt 80 (hC (fun j => wrd m j ∧ ∃ s, s < 16 ∧ Rch m f (16 * j + s)))), TB (sI m 0 0) F G) := by
        rw [fX11_reached, ho, fX11_reached_7, if_pos rfl, w4, fX11_reached_20]
        rfl
      rw [f1, f2]
      exact okI_r rfl rfl (R_TB (R_m0 g2 0) F G)
  · rw [if_neg hr] at ho hx
    refine ⟨⟨ko, ?_⟩, ⟨kx, fun u e => ?_⟩, ?_⟩
    · rw [ho]
      exact ⟨fun e => absurd e z1, fun _ => trivial⟩
    · rw [hx] at e
      cases e
    · have f1 : fX10_reached x v = .inl (0, x) := by
        rw [fX10_reached, hx, xb_inl]
      have f2 : fX11_reached m v = (0, sI m 0 1) := by
        rw [fX11_reached, ho, fX11_reached_7, if_neg z1, fX11_reached_20]
      rw [f1, f2]
      exact okI_l 0 rfl rfl (R_m0 h 1)
