/-! ===== PURE: the class's checker ===== -/
def CS (c : Int) (m y : SS) (C Q : Nat → Nat) (n r e : Nat) : Prop := R c y m ∧ (∀ a, a < 80 → gA y 23 a = nI (C a)) ∧ (∀ i, i < n → gA y 24 i = nI (Q i)) ∧ gI y 603 = nI n ∧ gI y 604 = nI r ∧ gI y 605 = nI e
def DX (m : SS) (C : Nat → Nat) (a : Nat) : Prop := ∀ k t : Nat, k ≤ 8 → t < 80 → wy m a k = nI t → wrd m t → ∀ b, b < 5 → (C a).testBit b = true → (stn m a).testBit b = false → (C t).testBit b = true
def CI (m : SS) (f : Nat) (C Q : Nat → Nat) (n r e h : Nat) (X : Nat → Prop) : Prop :=
  (∀ a, C a < 32) ∧ (∀ a, a < 80 → ¬ C a = 0 → ¬ gA m 10 a = 0 ∧ (C a).testBit 4 = true) ∧ (∀ a k, a < 80 → k < 5 → (C a).testBit k = true → ∃ s, s < 16 ∧ Rch m f (16 * a + s) ∧ (k = 4 ∨ s.testBit k = false)) ∧ (∀ i, i < n → Q i < 80 ∧ ¬ C (Q i) = 0) ∧ n ≤ sm 80 (fun a => pc (C a)) ∧ (r < 16 ∧ ∀ k, k < 4 → (r.testBit k = true ↔ ∃ a, a < 80 ∧ (C a).testBit k = true ∧ (rdn m a).testBit k = true)) ∧ e = cnt 80 (fun a => nI (C a)) ∧ h ≤ n ∧ (∀ a, a < 80 → ¬ C a = 0 → (∃ i, h ≤ i ∧ i < n ∧ Q i = a) ∨ DX m C a ∨ X a)
theorem nI0 {k : Nat} (hk : k < 32) : (nI k = 0) = (k = 0) := propext (nI_eq (a := k) (b := 0) (by omega) (by omega))
theorem tb_or_l {a b k : Nat} (h : a.testBit k = true) : (a ||| b).testBit k = true := by
  rw [Nat.testBit_or, h]
  rfl
theorem tb_or_r {a b k : Nat} (h : b.testBit k = true) : (a ||| b).testBit k = true := by
  rw [Nat.testBit_or, h]
  cases a.testBit k <;> rfl
theorem tb_or_e {a b k : Nat} (h : (a ||| b).testBit k = true) : a.testBit k = true ∨ b.testBit k = true := by
  rw [Nat.testBit_or] at h
  revert h
  cases a.testBit k <;> cases b.testBit k <;> decide
theorem tb_ne {a k : Nat} (h : a.testBit k = true) : ¬ a = 0 := by
  intro e
  rw [e, Nat.zero_testBit] at h
  exact absurd h (by decide)
theorem come_n {y : SS} {t : Int32} (p : Int32) (h : ¬ (rg 0 79 t ∧ ¬ gA y 39 t.toNatClampNeg = 0)) : kX0_come y t p ∧ fX0_come y t p = y := by
  have z1 : ¬ (1 : Int32) = 0 := by decide
  have e80 : (80 : Int32).toInt - 1 = 79 := by decide
  have ex := xf_isOutside y t 80
  rw [e80] at ex
  by_cases hr : rg 0 79 t
  · have h0 : gA y 39 t.toNatClampNeg = 0 := Classical.not_not.mp (fun z => h ⟨hr, z⟩)
    obtain ⟨kw, w1, w2⟩ := w_at y t
    have ew := w2 (fun _ => h0)
    rw [if_pos hr] at ex
    constructor
    · refine ⟨(xk_isOutside _ _ _).mpr trivial, ?_⟩
      rw [ex]
      refine ⟨fun _ => ⟨kw, ?_⟩, fun e => absurd rfl e⟩
      rw [ew]
      exact ⟨fun _ => trivial, fun w e => by cases e⟩
    · rw [fX0_come, ex, fX0_come_6, if_pos rfl, ew, oc_none]
  · rw [if_neg hr] at ex
    constructor
    · refine ⟨(xk_isOutside _ _ _).mpr trivial, ?_⟩
      rw [ex]
      exact ⟨fun e => absurd e z1, fun _ => trivial⟩
    · rw [fX0_come, ex, fX0_come_6, if_neg z1]
theorem come_L {c : Int} {m y : SS} {f : Nat} {C Q : Nat → Nat} {n r e h : Nat} {X : Nat → Prop} (hS : CS c m y C Q n r e) (hI : CI m f C Q n r e h X) {t : Int32} {p : Nat} (hp : p < 32) (hp4 : p.testBit 4 = true) (ht : t = -1 ∨ ∃ t0, t0 ≤ 80 ∧ t = nI t0) (hs : ∀ t0, t0 < 80 → t = nI t0 → ∀ k, k < 5 → p.testBit k = true → ∃ s, s < 16 ∧ Rch m f (16 * t0 + s) ∧ (k = 4 ∨ s.testBit k = false)) :
    kX0_come y t (nI p) ∧ ∃ (C2 Q2 : Nat → Nat) (n2 r2 e2 : Nat), CS c m (fX0_come y t (nI p)) C2 Q2 n2 r2 e2 ∧ CI m f C2 Q2 n2 r2 e2 h X ∧ (∀ a k, (C a).testBit k = true → (C2 a).testBit k = true) ∧ (∀ t0, t0 < 80 → t = nI t0 → wrd m t0 → ∀ k, k < 5 → p.testBit k = true → (C2 t0).testBit k = true) ∧ n ≤ n2 ∧ (∀ i, i < n → Q2 i = Q i) ∧ (∀ a, C2 a = C a ∨ ∃ i, h ≤ i ∧ i < n2 ∧ Q2 i = a) := by
  have hR := hS.1
  have e39 : gA y 39 = gA m 10 := hR.1.2.2.2.2.2.2.2.2.2.1
  by_cases hw : rg 0 79 t ∧ ¬ gA y 39 t.toNatClampNeg = 0
  · obtain ⟨hr, hz⟩ := hw
    obtain ⟨t0, ht0, rfl⟩ := tof (x := t) (n := 80) hr.1 (by have := hr.2; omega) (by decide)
    have hcl : (nI t0).toNatClampNeg = t0 := nI_clamp (by omega)
    rw [hcl, e39] at hz
    have hwt : wrd m t0 := ⟨ht0, hz⟩
    have hin : vp_in (nI t0) 80 := vp_in_nI (by omega) (by decide)
    have e80 : (80 : Int32).toInt - 1 = 79 := by decide
    have ex := xf_isOutside y (nI t0) 80
    rw [e80, if_pos hr] at ex
    obtain ⟨kw, w1, w2⟩ := w_at y (nI t0)
    have ew := w1 hr (by rw [hcl, e39]; exact hz)
    rw [hcl] at ew
    obtain ⟨S1, S2, S3, S4, S5, S6⟩ := hS
    have hI0 := hI
    obtain ⟨I1, I2, I3, I4, I5, I6, I7, I8, I9⟩ := hI
    have hb := I1 t0
    have e23 : gA y 23 t0 = nI (C t0) := S2 t0 ht0
    have en := bo_not p hp (C t0) hb
    have eor := bo_or (C t0) hb p hp
    by_cases hnew : (p &&& (31 ^^^ C t0)) = 0
    · have c0 : nI p &&& (nI (C t0) ^^^ (-1)) = 0 := by
        rw [en.1, hnew]
        rfl
      have ef : fX0_come y (nI t0) (nI p) = y := by
        rw [fX0_come, ex, fX0_come_6, if_pos rfl, ew, oc_some, hcl, e23, if_pos c0, fX0_come_51]
      refine ⟨⟨(xk_isOutside _ _ _).mpr trivial, ?_⟩, C, Q, n, r, e, ?_, hI0, fun a k z => z, ?_, Nat.le_refl n, fun i _ => rfl, fun a => Or.inl rfl⟩
      · rw [ex]
        refine ⟨fun _ => ⟨kw, ?_⟩, fun z => absurd rfl z⟩
        rw [ew]
        refine ⟨fun z => (by cases z), fun w z => ?_⟩
        cases z
        rw [hcl, e23]
        exact ⟨hin, fun _ => trivial, fun z => absurd c0 z⟩
      · rw [ef]
        exact ⟨S1, S2, S3, S4, S5, S6⟩
      · intro t1 h1 h2 _ k hk hpk
        have e1 := (nI_eq (by omega) (by omega)).mp h2
        rw [← e1]
        exact no_new (C t0) hb p hp hnew k hk hpk
    · have c0 : ¬ nI p &&& (nI (C t0) ^^^ (-1)) = 0 := by
        rw [en.1, nI0 en.2]
        exact hnew
      have hup := pc_up (C t0) hb p hp hnew
      have hsm := sm_up (n := 80) (a := t0) (g := fun a => pc (C a)) (f := fun a => pc (if a = t0 then C t0 ||| p else C a)) (v := pc (C t0 ||| p)) ht0 (by simp) (fun j hj => by simp [hj])
      have hC2lt : ∀ a, (if a = t0 then C t0 ||| p else C a) < 32 := by
        intro a
        split
        · exact eor.2
        · exact I1 a
      have hsm5 : sm 80 (fun a => pc (if a = t0 then C t0 ||| p else C a)) ≤ 5 * 80 := sm_le (fun a _ => pc_le _ (hC2lt a))
      have hn4 : n < 400 := by
        have h1 : sm 80 (fun a => pc (if a = t0 then C t0 ||| p else C a)) + pc (C t0) = sm 80 (fun a => pc (C a)) + pc (C t0 ||| p) := hsm
        omega
      have cn : gI y 603 < 400 := by
        rw [S4]
        show nI n < nI 400
        rw [nI_ltI (by omega) (by omega)]
        exact hn4
      have hwy : isW y t0 := (isW_m S1).mpr hwt
      -- the part behind the count
      have key : ∀ q : SS, R c q m → gA q 23 = gA y 23 → gA q 24 = gA y 24 → gI q 603 = nI n → gI q 604 = nI r → kX0_come_67 q (nI t0) (nI p) t0 (nI (C t0)) ∧ R c (fX0_come_67 q (nI t0) (nI p) t0 (nI (C t0))) m ∧ gA (fX0_come_67 q (nI t0) (nI p) t0 (nI (C t0))) 23 = upd (gA y 23) t0 (nI (C t0 ||| p)) ∧ gA (fX0_come_67 q (nI t0) (nI p) t0 (nI (C t0))) 24 = upd (gA y 24) n (nI t0) ∧ gI (fX0_come_67 q (nI t0) (nI p) t0 (nI (C t0))) 603 = nI (n + 1) ∧ gI (fX0_come_67 q (nI t0) (nI p) t0 (nI (C t0))) 604 = nI (r ||| (p &&& rdn m t0)) ∧ gI (fX0_come_67 q (nI t0) (nI p) t0 (nI (C t0))) 605 = gI q 605 := by
        intro q hq q23 q24 q603 q604
        have hRq : R c (sA q 23 (upd (gA q 23) t0 (nI (C t0 ||| p)))) m := hq
        have hwq : isW (sA q 23 (upd (gA q 23) t0 (nI (C t0 ||| p)))) t0 := (isW_m hRq).mpr hwt
        obtain ⟨kr, fr⟩ := rd_x hRq hwq
        have hrd := (rd_m S1 (gA m 51) (gA m 52) ht0).2.2
        have ea := bo_and p hp (rdn m t0) (by omega)
        have ea16 := bo_and16 p hp (rdn m t0) hrd
        have eo := bo_or r (by have := I6.1; omega) (p &&& rdn m t0) (by omega)
        have hn : (nI n).toNatClampNeg = n := nI_clamp (by omega)
        have e67 : fX0_come_67 q (nI t0) (nI p) t0 (nI (C t0)) = sI (sA (sI (sA q 23 (upd (gA q 23) t0 (nI (C t0 ||| p)))) 604 (nI (r ||| (p &&& rdn m t0)))) 24 (upd (gA q 24) n (nI t0))) 603 (nI (n + 1)) := by
          rw [fX0_come_67, hcl, eor.1, fr, fX0_come_87, q604, ea.1, eo.1]
          show sI (sA (sI (sA q 23 _) 604 _) 24 (upd (gA q 24) (gI q 603).toNatClampNeg (nI t0))) 603 (gI q 603 + 1) = _
          rw [q603, hn, nI_1]
        refine ⟨⟨hin, ?_⟩, ?_, ?_, ?_, ?_, ?_, ?_⟩
        · rw [hcl, eor.1, fr]
          refine ⟨kr, hwq, ?_, trivial⟩
          show vp_in (gI q 603) 400
          rw [q603]
          exact vp_in_nI (by omega) (by decide)
        · rw [e67]
          exact hq
        · rw [e67, ← q23]
          rfl
        · rw [e67, ← q24]
          rfl
        · rw [e67]
          rfl
        · rw [e67]
          rfl
        · rw [e67]
          rfl
      have fin : ∀ Y : SS, ∀ e2 : Nat, R c Y m → gA Y 23 = upd (gA y 23) t0 (nI (C t0 ||| p)) → gA Y 24 = upd (gA y 24) n (nI t0) → gI Y 603 = nI (n + 1) → gI Y 604 = nI (r ||| (p &&& rdn m t0)) → gI Y 605 = nI e2 → e2 = cnt 80 (fun a => nI (if a = t0 then C t0 ||| p else C a)) →
          ∃ (C2 Q2 : Nat → Nat) (n2 r2 e2 : Nat), CS c m Y C2 Q2 n2 r2 e2 ∧ CI m f C2 Q2 n2 r2 e2 h X ∧ (∀ a k, (C a).testBit k = true → (C2 a).testBit k = true) ∧ (∀ t1, t1 < 80 → nI t0 = nI t1 → wrd m t1 → ∀ k, k < 5 → p.testBit k = true → (C2 t1).testBit k = true) ∧ n ≤ n2 ∧ (∀ i, i < n → Q2 i = Q i) ∧ (∀ a, C2 a = C a ∨ ∃ i, h ≤ i ∧ i < n2 ∧ Q2 i = a) := by
        intro Y e2 y1 y2 y3 y4 y5 y6 y7
        have hrd := (rd_m S1 (gA m 51) (gA m 52) ht0).2.2
        have mono : ∀ a k, (C a).testBit k = true → (if a = t0 then C t0 ||| p else C a).testBit k = true := by
          intro a k hk
          split
          · rename_i ea
            rw [ea] at hk
            exact tb_or_l hk
          · exact hk
        have b4 : (C t0 ||| p).testBit 4 = true := tb_or_r hp4
        have bne : ¬ (C t0 ||| p) = 0 := tb_ne b4
        refine ⟨fun a => if a = t0 then C t0 ||| p else C a, fun i => if i = n then t0 else Q i, n + 1, r ||| (p &&& rdn m t0), e2, ⟨y1, ?_, ?_, y4, y5, y6⟩, ⟨hC2lt, ?_, ?_, ?_, ?_, ⟨?_, ?_⟩, y7, ?_, ?_⟩, mono, ?_, by omega, ?_, ?_⟩
        · intro a ha
          dsimp only
          rw [y2, upd_at]
          by_cases ea : a = t0
          · rw [if_pos ea, if_pos ea]
          · rw [if_neg ea, if_neg ea]
            exact S2 a ha
        · intro i hi
          dsimp only
          rw [y3, upd_at]
          by_cases ei : i = n
          · rw [if_pos ei, if_pos ei]
          · rw [if_neg ei, if_neg ei]
            exact S3 i (by omega)
        · intro a ha hne
          dsimp only at hne ⊢
          by_cases ea : a = t0
          · rw [if_pos ea]
            rw [ea]
            exact ⟨hz, b4⟩
          · rw [if_neg ea] at hne ⊢
            exact I2 a ha hne
        · intro a k ha hk hb2
          dsimp only at hb2
          by_cases ea : a = t0
          · rw [if_pos ea] at hb2
            rw [ea]
            rcases tb_or_e hb2 with hb3 | hb3
            · exact I3 t0 k ht0 hk hb3
            · exact hs t0 ht0 rfl k hk hb3
          · rw [if_neg ea] at hb2
            exact I3 a k ha hk hb2
        · intro i hi
          dsimp only
          by_cases ei : i = n
          · rw [if_pos ei]
            refine ⟨ht0, ?_⟩
            rw [if_pos rfl]
            exact bne
          · rw [if_neg ei]
            obtain ⟨j1, j2⟩ := I4 i (by omega)
            refine ⟨j1, ?_⟩
            split
            · exact bne
            · exact j2
        · have h1 : sm 80 (fun a => pc (if a = t0 then C t0 ||| p else C a)) + pc (C t0) = sm 80 (fun a => pc (C a)) + pc (C t0 ||| p) := hsm
          show n + 1 ≤ sm 80 (fun a => pc (if a = t0 then C t0 ||| p else C a))
          omega
        · exact bo_or16 r I6.1 _ (bo_and16 p hp (rdn m t0) hrd)
        · intro k hk
          constructor
          · intro hb2
            rcases tb_or_e hb2 with hb3 | hb3
            · obtain ⟨a, j1, j2, j3⟩ := (I6.2 k hk).mp hb3
              exact ⟨a, j1, mono a k j2, j3⟩
            · rw [Nat.testBit_and, Bool.and_eq_true] at hb3
              refine ⟨t0, ht0, ?_, hb3.2⟩
              show (if t0 = t0 then C t0 ||| p else C t0).testBit k = true
              rw [if_pos rfl]
              exact tb_or_r hb3.1
          · intro ⟨a, j1, j2, j3⟩
            have j2' : (if a = t0 then C t0 ||| p else C a).testBit k = true := j2
            by_cases ea : a = t0
            · rw [if_pos ea] at j2'
              rw [ea] at j3
              rcases tb_or_e j2' with hb3 | hb3
              · exact tb_or_l ((I6.2 k hk).mpr ⟨t0, ht0, hb3, j3⟩)
              · refine tb_or_r ?_
                rw [Nat.testBit_and, hb3, j3]
                rfl
            · rw [if_neg ea] at j2'
              exact tb_or_l ((I6.2 k hk).mpr ⟨a, j1, j2', j3⟩)
        · omega
        · intro a ha hne
          by_cases ea : a = t0
          · refine Or.inl ⟨n, I8, by omega, ?_⟩
            show (if n = n then t0 else Q n) = a
            rw [if_pos rfl, ea]
          · have hne2 : ¬ C a = 0 := by
              have hne3 : ¬ (if a = t0 then C t0 ||| p else C a) = 0 := hne
              rw [if_neg ea] at hne3
              exact hne3
            rcases I9 a ha hne2 with ⟨i, j1, j2, j3⟩ | hd | hx
            · refine Or.inl ⟨i, j1, by omega, ?_⟩
              show (if i = n then t0 else Q i) = a
              rw [if_neg (by omega)]
              exact j3
            · refine Or.inr (Or.inl ?_)
              intro k t1 h1 h2 h3 h4 b h5 h6 h7
              have h6' : (if a = t0 then C t0 ||| p else C a).testBit b = true := h6
              rw [if_neg ea] at h6'
              exact mono t1 b (hd k t1 h1 h2 h3 h4 b h5 h6' h7)
            · exact Or.inr (Or.inr hx)
        · intro t1 h1 h2 _ k _ hk
          have e1 := (nI_eq (by omega) (by omega)).mp h2
          show (if t1 = t0 then C t0 ||| p else C t1).testBit k = true
          rw [if_pos e1.symm]
          exact tb_or_r hk
        · intro i hi
          show (if i = n then t0 else Q i) = Q i
          rw [if_neg (by omega)]
        · intro a
          by_cases ea : a = t0
          · refine Or.inr ⟨n, I8, by omega, ?_⟩
            show (if n = n then t0 else Q n) = a
            rw [if_pos rfl, ea]
          · refine Or.inl ?_
            show (if a = t0 then C t0 ||| p else C a) = C a
            rw [if_neg ea]
      have bne : ¬ (C t0 ||| p) = 0 := tb_ne (tb_or_r hp4)
      have nbne : ¬ nI (C t0 ||| p) = 0 := by
        rw [nI0 eor.2]
        exact bne
      by_cases hz0 : C t0 = 0
      · have c23 : nI (C t0) = (0 : Int32) := by
          rw [hz0]
          rfl
        obtain ⟨k1, k2, k3, k4, k5, k6, k7⟩ := key (sI y 605 (gI y 605 + 1)) S1 rfl rfl S4 S5
        have ef : fX0_come y (nI t0) (nI p) = fX0_come_67 (sI y 605 (gI y 605 + 1)) (nI t0) (nI p) t0 (nI (C t0)) := by
          rw [fX0_come, ex, fX0_come_6, if_pos rfl, ew, oc_some, hcl, e23, if_neg c0, if_pos cn, if_pos c23]
        rw [ef]
        refine ⟨⟨(xk_isOutside _ _ _).mpr trivial, ?_⟩, fin _ (e + 1) k2 k3 k4 k5 k6 ?_ ?_⟩
        · rw [ex]
          refine ⟨fun _ => ⟨kw, ?_⟩, fun z => absurd rfl z⟩
          rw [ew]
          refine ⟨fun z => (by cases z), fun w z => ?_⟩
          cases z
          rw [hcl, e23]
          exact ⟨hin, fun z => absurd z c0, fun _ => ⟨fun _ => ⟨fun _ => k1, fun z => absurd c23 z⟩, fun z => absurd cn z⟩⟩
        · rw [k7]
          show gI y 605 + 1 = nI (e + 1)
          rw [S6, nI_1]
        · have ef2 : (fun a => nI (if a = t0 then C t0 ||| p else C a)) = upd (fun a => nI (C a)) t0 (nI (C t0 ||| p)) := by
            funext a
            rw [upd_at]
            split
            · rfl
            · rfl
          rw [ef2, cnt_upd ht0 c23 nbne, I7]
      · have c23 : ¬ nI (C t0) = (0 : Int32) := by
          rw [nI0 hb]
          exact hz0
        obtain ⟨k1, k2, k3, k4, k5, k6, k7⟩ := key y S1 rfl rfl S4 S5
        have ef : fX0_come y (nI t0) (nI p) = fX0_come_67 y (nI t0) (nI p) t0 (nI (C t0)) := by
          rw [fX0_come, ex, fX0_come_6, if_pos rfl, ew, oc_some, hcl, e23, if_neg c0, if_pos cn, if_neg c23]
        rw [ef]
        refine ⟨⟨(xk_isOutside _ _ _).mpr trivial, ?_⟩, fin _ e k2 k3 k4 k5 k6 ?_ ?_⟩
        · rw [ex]
          refine ⟨fun _ => ⟨kw, ?_⟩, fun z => absurd rfl z⟩
          rw [ew]
          refine ⟨fun z => (by cases z), fun w z => ?_⟩
          cases z
          rw [hcl, e23]
          exact ⟨hin, fun z => absurd z c0, fun _ => ⟨fun _ => ⟨fun z => absurd z c23, fun _ => k1⟩, fun z => absurd cn z⟩⟩
        · rw [k7]
          exact S6
        · rw [I7]
          refine cnt_congr (fun a _ => ?_)
          by_cases ea : a = t0
          · rw [if_pos ea, ea]
            exact ⟨fun z => absurd z c23, fun z => absurd z nbne⟩
          · rw [if_neg ea]
  · obtain ⟨kn, fn⟩ := come_n (nI p) hw
    rw [fn]
    refine ⟨kn, C, Q, n, r, e, hS, hI, fun a k z => z, ?_, Nat.le_refl n, fun i _ => rfl, fun a => Or.inl rfl⟩
    intro t0 h1 h2 h3
    refine absurd ⟨?_, ?_⟩ hw
    · rw [h2, rg, nI_toInt (by omega)]
      omega
    · rw [h2, nI_clamp (by omega), e39]
      exact h3.2
