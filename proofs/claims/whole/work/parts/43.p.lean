/-! ===== PURE: the relation between the class's state and the reference's ===== -/
abbrev rg (lo hi : Int) (v : Int32) : Prop := lo ≤ v.toInt ∧ v.toInt ≤ hi
def rf (lo hi : Int) (f : Nat → Int32) : Prop := ∀ a, rg lo hi (f a)
theorem rf_upd {lo hi : Int} {f : Nat → Int32} {v : Int32} (h : rf lo hi f) (hv : rg lo hi v) (k : Nat) : rf lo hi (upd f k v) := by
  intro a
  rw [upd_at]
  split
  · exact hv
  · exact h a
theorem rg.mono {lo hi lo2 hi2 : Int} {v : Int32} (h : rg lo hi v) (h1 : lo2 ≤ lo) (h2 : hi ≤ hi2) : rg lo2 hi2 v := ⟨Int.le_trans h1 h.1, Int.le_trans h.2 h2⟩
abbrev isOrd (v : Int32) : Prop := v = 110 ∨ v = 111 ∨ v = 99 ∨ v = 114 ∨ v = 100 ∨ v = 112 ∨ v = 101 ∨ v = 115 ∨ v = 107 ∨ v = 103 ∨ v = 113
def eW (x m : SS) : Prop := gA x 30 = gA m 1 ∧ gA x 31 = gA m 2 ∧ gA x 32 = gA m 3 ∧ gA x 33 = gA m 4 ∧ gA x 34 = gA m 9 ∧ gA x 35 = gA m 5 ∧ gA x 36 = gA m 6 ∧ gA x 37 = gA m 11 ∧ gA x 38 = gA m 7 ∧ gA x 39 = gA m 10 ∧ gI x 204 = gI m 1
def eV (m : SS) : Prop := rf 0 127 (gA m 1) ∧ rf 0 7 (gA m 2) ∧ rf 0 255 (gA m 3) ∧ rf 0 2 (gA m 4) ∧ rf 0 79 (gA m 5) ∧ rf 0 7 (gA m 6) ∧ rf 0 255 (gA m 7) ∧ rf 0 65535 (gA m 9) ∧ rf 0 1 (gA m 11) ∧ (∀ a, ¬ gA m 10 a = 0 → isOrd (gA m 9 a)) ∧ rf 0 1 (gA m 10)
def eT (c : Int) (x m : SS) : Prop := gA x 13 = gA m 12 ∧ gA x 14 = gA m 14 ∧ rf (-1) 79 (gA m 14) ∧ gA x 15 = gA m 8 ∧ (∀ a, gA m 8 a = -1 ∨ rg 64 79 (gA m 8 a)) ∧ gI x 205 = gI m 2 ∧ rg (-c) 4 (gI m 2) ∧ gA x 18 = gA m 13 ∧ rf 0 1 (gA m 13)
def eP (x m : SS) : Prop := (∀ r, r < 4 → gA x 25 r = gA m 15 r) ∧ gI x 701 = gA m 15 4 ∧ gI x 702 = gA m 15 9 ∧ gI x 703 = gA m 15 5 ∧ gI x 704 = gA m 15 6 ∧ gI x 705 = gA m 15 7 ∧ gI x 706 = gA m 15 8 ∧ gI x 900 = gA m 15 10 ∧ gI x 901 = gA m 15 11 ∧ gI x 902 = gA m 15 12 ∧ gI x 903 = gA m 15 13 ∧ gI x 904 = gA m 15 14 ∧ gI x 905 = gA m 15 15
def vis (f : Nat → Int32) : Prop := (∀ r, r < 4 → rg 0 255 (f r)) ∧ rg 0 63 (f 4) ∧ rg 0 1 (f 5) ∧ rg 0 1 (f 6) ∧ rg 0 1 (f 7) ∧ rg 0 1 (f 8) ∧ rg 0 63 (f 9)
def eQ (m : SS) : Prop := vis (gA m 15) ∧ rg 0 255 (gA m 15 10) ∧ rg 0 255 (gA m 15 11) ∧ rg 0 63 (gA m 15 12) ∧ rg 0 255 (gA m 15 13) ∧ rg 0 255 (gA m 15 14) ∧ rg 0 1 (gA m 15 15)
def eK (x m : SS) : Prop := (∀ r, r < 4 → gA x 26 r = gA m 16 r) ∧ gI x 801 = gA m 16 4 ∧ gI x 802 = gA m 16 9 ∧ gI x 803 = gA m 16 5 ∧ gI x 804 = gA m 16 6 ∧ gI x 805 = gA m 16 7 ∧ gI x 806 = gA m 16 8 ∧ vis (gA m 16)
def eM (x m : SS) : Prop := MI x ∧ (∀ c, c < 64 → gA x 16 c = gA m 17 c) ∧ (∀ c, c < 64 → gA x 17 c = gA m 18 c) ∧ (∀ c, c < 64 → rg 0 255 (gA m 17 c)) ∧ (∀ c, c < 64 → rg 0 255 (gA m 18 c))
def eR (x m : SS) : Prop := gA x 22 = gA m 19 ∧ rf 0 80 (gA m 19) ∧ gI x 509 = gI m 7 ∧ rg 0 4 (gI m 7)
def eN (x m : SS) : Prop := gI x 510 = gI m 6 ∧ rg (-1) 80 (gI m 6) ∧ gI x 511 = gI m 25 ∧ rg 0 1 (gI m 25) ∧ gI x 512 = gI m 23 ∧ rg 0 65535 (gI m 23) ∧ (gI m 23 = 119 → gI x 513 = gI m 5) ∧ gI x 514 = gI m 24 ∧ rg 0 1 (gI m 24) ∧ gI x 515 = gI m 4 ∧ rg 0 63 (gI m 4) ∧ gI x 516 = gI m 3 ∧ rg 0 9 (gI m 3) ∧ gI x 517 = gI m 8 ∧ gI x 518 = gI m 9
def eF (x m : SS) : Prop := gI x 1000 = gI m 26 ∧ rg 0 1 (gI m 26) ∧ (¬ gI m 26 = 0 → gI x 1001 = gI m 18 ∧ gI x 1002 = gI m 19 ∧ gI x 1003 = gI m 20 ∧ rg 0 7 (gI m 18) ∧ rg 0 255 (gI m 19) ∧ rg 0 255 (gI m 20))
def eC (x m : SS) : Prop := gI x 401 = gI m 10 ∧ gI x 402 = gI m 11 ∧ (¬ gI m 11 = 0 → gI x 403 = gI m 12) ∧ gI x 404 = gI m 13 ∧ gI x 405 = gI m 14 ∧ gI x 406 = gI m 15 ∧ gI x 407 = gI m 16
def eS (c : Int) (x m : SS) : Prop := gL x 408 = gL m 21 ∧ gL x 409 = gL m 22 ∧ gB x 21 = gB m 22 ∧ 0 ≤ (gL m 22).toInt ∧ (gL m 22).toInt ≤ (gL m 21).toInt ∧ (gL m 21).toInt ≤ c ∧ (gI m 17).toInt = (gL m 21).toInt - (gL m 22).toInt
def eE (m : SS) : Prop := gI m 25 = 0 → gI m 26 = 0 ∧ ∀ k, k < 10 → gA m 15 k = gA m 16 k
def R (c : Int) (x m : SS) : Prop := eW x m ∧ eV m ∧ eT c x m ∧ eP x m ∧ eQ m ∧ eK x m ∧ eM x m ∧ eR x m ∧ eN x m ∧ eF x m ∧ eC x m ∧ eS c x m ∧ eE m
theorem R.mono {c c2 : Int} {x m : SS} (h : R c x m) (hc : c ≤ c2) : R c2 x m := by
  obtain ⟨hW, hV, hT, hP, hQ, hK, hM, hR, hN, hF, hC, hS, hE⟩ := h
  refine ⟨hW, hV, ?_, hP, hQ, hK, hM, hR, hN, hF, hC, ?_, hE⟩
  · obtain ⟨a1, a2, a3, a4, a5, a6, a7, a8, a9⟩ := hT
    exact ⟨a1, a2, a3, a4, a5, a6, a7.mono (by omega) (by omega), a8, a9⟩
  · obtain ⟨a1, a2, a3, a4, a5, a6, a7⟩ := hS
    exact ⟨a1, a2, a3, a4, a5, by omega, a7⟩
theorem R_m0 {c : Int} {x m : SS} (h : R c x m) (v : Int32) : R c x (sI m 0 v) := h
/-- what an answer or a throw of the class is against the reference's answer; tab: the throws in the order in which the law catches them -/
def okI (c : Int) (tab : List Nat) (F : (Nat × SS) ⊕ (Int32 × SS)) (b : Int32) (m : SS) : Prop := match F with
  | .inl u => (∃ i : Nat, tab[i]? = some u.1 ∧ gI m 0 = nI (i + 1)) ∧ R c u.2 m
  | .inr u => gI m 0 = 0 ∧ u.1 = b ∧ R c u.2 m
theorem okI_l {c : Int} {tab : List Nat} {k : Nat} {x m : SS} {b : Int32} (i : Nat) (h1 : tab[i]? = some k) (h2 : gI m 0 = nI (i + 1)) (h3 : R c x m) : okI c tab (.inl (k, x)) b m := ⟨⟨i, h1, h2⟩, h3⟩
theorem okI_r {c : Int} {tab : List Nat} {v : Int32} {x m : SS} {b : Int32} (h1 : gI m 0 = 0) (h2 : v = b) (h3 : R c x m) : okI c tab (.inr (v, x)) b m := ⟨h1, h2, h3⟩
theorem xb_inr {β γ : Type} (b : β) (k : β → (Nat × SS) ⊕ γ) : xb (.inr b) k = k b := rfl
theorem xb_inl {β γ : Type} (u : Nat × SS) (k : β → (Nat × SS) ⊕ γ) : xb (.inl u) k = .inl u := rfl
theorem oc_some {α : Type} (k : Nat) (a : α) (b : Nat → α) : oc (some k) a b = b k := rfl
theorem oc_none {α : Type} (a : α) (b : Nat → α) : oc none a b = a := rfl
theorem mk_isIn (q : SS) (a b c : Int32) : kX11_isIn q a b c = True := eq_true (m_isIn q a b c).1
theorem mf_isIn (q : SS) (a b c : Int32) : fX11_isIn q a b c = (if rg b.toInt c.toInt a then 1 else 0, q) := by
  rw [(m_isIn q a b c).2]
  simp only [Int32.le_iff_toInt_le, rg]
theorem mk_out (q : SS) (v n : Int32) : kX11_out q v n = True := eq_true (m_out q v n).1
theorem mf_out (q : SS) (v n : Int32) : fX11_out q v n = if rg 0 (n - 1).toInt v then (0, sI q 0 0) else (1, sI q 0 1) := by
  rw [(m_out q v n).2]
  simp only [Int32.le_iff_toInt_le, rg, tl_0]
theorem mk_refuse (q : SS) (v : Int32) : kX11_refuse q v = True := rfl
theorem mf_refuse (q : SS) (v : Int32) : fX11_refuse q v = (0, sI q 0 v) := rfl
theorem xk_isOutside (q : SS) (v b : Int32) : kX10_isOutside q v b = True := by
  have n0 : narrow .boolean (.int 0) = .int 0 := rfl
  have n1 : narrow .boolean (.int 1) = .int 1 := rfl
  exact eq_true ⟨fun _ => ⟨n1, trivial⟩, fun _ => ⟨fun _ => ⟨n0, trivial⟩, fun _ => ⟨n1, trivial⟩⟩⟩
theorem xf_isOutside (q : SS) (v b : Int32) : fX10_isOutside q v b = (if rg 0 (b.toInt - 1) v then 0 else 1, q) := by
  simp only [fX10_isOutside, fX10_isOutside_9, fX10_isOutside_14, rg, Int32.lt_iff_toInt_lt, tl_0]
  by_cases h1 : v.toInt < 0
  · rw [if_pos h1, if_neg (by omega)]
  · rw [if_neg h1]
    by_cases h2 : v.toInt < b.toInt
    · rw [if_pos h2, if_pos (by omega)]
    · rw [if_neg h2, if_neg (by omega)]
theorem xk_requireIndex (q : SS) (v b : Int32) : kX10_requireIndex q v b = True := by
  refine eq_true ⟨?_, fun _ => trivial, fun _ => trivial⟩
  rw [xk_isOutside]
  trivial
theorem xf_requireIndex (q : SS) (v b : Int32) : fX10_requireIndex q v b = if rg 0 (b.toInt - 1) v then .inr q else .inl (0, q) := by
  simp only [fX10_requireIndex, fX10_requireIndex_5, xf_isOutside, tb0]
theorem xk_requireNumber (q : SS) (v a b : Int32) : kX10_requireNumber q v a b = True :=
  eq_true ⟨fun _ => trivial, fun _ => ⟨fun _ => trivial, fun _ => trivial⟩⟩
theorem xf_requireNumber (q : SS) (v a b : Int32) : fX10_requireNumber q v a b = if rg a.toInt b.toInt v then .inr q else .inl (1, q) := by
  simp only [fX10_requireNumber, fX10_requireNumber_10, rg, Int32.lt_iff_toInt_lt, Int32.le_iff_toInt_le]
  by_cases h1 : v.toInt < a.toInt
  · rw [if_pos h1, if_neg (by omega)]
  · rw [if_neg h1]
    by_cases h2 : v.toInt ≤ b.toInt
    · rw [if_pos h2, if_pos (by omega)]
    · rw [if_neg h2, if_neg (by omega)]
theorem xk_requireNotBegun (q : SS) : kX10_requireNotBegun q = True := eq_true ⟨fun _ => trivial, fun _ => trivial⟩
theorem tm_4 : (4 - 1 : Int32).toInt = 3 := by decide
theorem tm_64 : (64 - 1 : Int32).toInt = 63 := by decide
theorem tm_80 : (80 - 1 : Int32).toInt = 79 := by decide
