/-! ===== PURE: the bus ===== -/
abbrev bt (d : Int32) (k : Nat) : Prop := ((d >>> (nI k &&& 31)) &&& 1) = 0
def ib (d : Int32) (F : Nat → Int32) : Nat → Int32
  | 0 => 255
  | k + 1 => if bt d k then ib d F k else ib d F k &&& F k
def cb (d : Int32) : Nat → Int32
  | 0 => 0
  | k + 1 => if bt d k then cb d k else cb d k + 1
def mres (q : SS) (d : Int32) (F : Nat → Int32) : Int32 × SS := if cb d 7 ≤ 1 then fX11_drives_153 q (ib d F 7) (cb d 7) 0 (gI q 13) else fX11_drives_153 q (ib d F 7) (cb d 7) 1 (gI q 13)
theorem k_153 (q : SS) (a b s t : Int32) : kX11_drives_153 q a b s t := ⟨fun _ => trivial, fun _ => trivial⟩
theorem m_dr : ∀ (r n k : Nat) (q : SS) (a d : Int32) (F : Nat → Int32), gA q 1 a.toNatClampNeg = d → gA q 50 = F → vp_in a 80 → k + r = 7 → r < n → kX11_drives_97 n q a (ib d F k) (cb d k) (nI k) ∧ fX11_drives_97 n q a (ib d F k) (cb d k) (nI k) = mres q d F := by
  intro r
  induction r with
  | zero =>
    intro n k q a d F hd hF ha h hn
    obtain ⟨j, rfl⟩ := fuel hn
    have hk : k = 7 := by omega
    subst hk
    have c : (7 : Int32) ≤ nI 7 := by decide
    refine ⟨⟨fun _ => ⟨fun _ => k_153 _ _ _ _ _, fun _ => k_153 _ _ _ _ _⟩, fun e => absurd c e⟩, ?_⟩
    rw [fX11_drives_97, if_pos c, mres]
  | succ r ih =>
    intro n k q a d F hd hF ha h hn
    obtain ⟨j, rfl⟩ := fuel hn
    have c : ¬ (7 : Int32) ≤ nI k := nle (n := 7) (by omega) (by decide) rfl
    have hin : vp_in (nI k) 7 := vp_in_nI (by omega) (by decide)
    have hc : (nI k).toNatClampNeg = k := nI_clamp (by omega)
    have hs := ih j (k + 1) q a d F hd hF ha (by omega) (by omega)
    by_cases hb : bt d k
    · have e1 : ib d F (k + 1) = ib d F k := if_pos hb
      have e2 : cb d (k + 1) = cb d k := if_pos hb
      rw [e1, e2] at hs
      refine ⟨⟨fun e => absurd e c, fun _ => ⟨ha, fun _ => ?_, fun e => ?_⟩⟩, ?_⟩
      · show kX11_drives_97 j q a _ _ (nI k + 1)
        rw [nI_1]
        exact hs.1
      · rw [hd] at e
        exact absurd hb e
      · rw [fX11_drives_97, if_neg c, hd, if_pos hb, fX11_drives_132, nI_1]
        exact hs.2
    · have e1 : ib d F (k + 1) = ib d F k &&& F k := if_neg hb
      have e2 : cb d (k + 1) = cb d k + 1 := if_neg hb
      rw [e1, e2] at hs
      refine ⟨⟨fun e => absurd e c, fun _ => ⟨ha, fun e => ?_, fun _ => ⟨hin, ?_⟩⟩⟩, ?_⟩
      · rw [hd] at e
        exact absurd e hb
      · show kX11_drives_97 j q a (_ &&& gA q 50 (nI k).toNatClampNeg) _ (nI k + 1)
        rw [nI_1, hc, hF]
        exact hs.1
      · rw [fX11_drives_97, if_neg c, hd, if_neg hb, fX11_drives_132, nI_1, hc, hF]
        exact hs.2
def stp (d K b v : Int32) : Int32 := if d &&& K = 0 then b else b &&& v
def dfin (q : SS) (d b : Int32) : Int32 × SS := fX6_driveBus_178 q d b (fJ6_bitCount_0f7a4 q00 d).1
theorem xk_bc (q : SS) (v : Int32) : kJ6_bitCount_0f7a4 q v = True := rfl
theorem xf_bc (q : SS) (v : Int32) : fJ6_bitCount_0f7a4 q v = ((fJ6_bitCount_0f7a4 q00 v).1, q) := rfl
theorem k_178 (q : SS) (a b s : Int32) : kX6_driveBus_178 q a b s := ⟨fun _ => trivial, fun _ => trivial⟩
theorem x_172 (q : SS) (d s t : Int32) : kX6_driveBus_172 q d s t ∧ fX6_driveBus_172 q d s t = dfin q d (t &&& s) := ⟨⟨trivial, k_178 _ _ _ _⟩, rfl⟩
theorem x_154 (q : SS) {A : Nat} (hA : isW q A) (d s t : Int32) : kX6_driveBus_154 q A d s t ∧ fX6_driveBus_154 q A d s t = dfin q d (stp d 64 (t &&& s) (gA q 38 A)) := by
  by_cases h : d &&& 64 = 0
  · refine ⟨⟨fun _ => (x_172 _ _ _ _).1, fun e => absurd h e⟩, ?_⟩
    rw [fX6_driveBus_154, if_pos h, (x_172 _ _ _ _).2, stp, if_pos h, Int32.and_self]
  · refine ⟨⟨fun e => absurd e h, fun _ => ⟨hA, (x_172 _ _ _ _).1⟩⟩, ?_⟩
    rw [fX6_driveBus_154, if_neg h, (x_172 _ _ _ _).2, stp, if_neg h]
theorem x_125 (q : SS) {A : Nat} (hA : isW q A) (hE : rg 0 1 (gI q 905)) (d s t : Int32) : kX6_driveBus_125 q A d s t ∧ fX6_driveBus_125 q A d s t = dfin q d (stp d 64 (stp d 32 (t &&& s) (gA q 25 (rb (gI q 904) (gI q 905)).toNatClampNeg)) (gA q 38 A)) := by
  obtain ⟨e1, e2⟩ := x_second q hE
  have hin : vp_in (rb (gI q 904) (gI q 905)) 4 := rin (rb3 _ _) (by decide)
  by_cases h : d &&& 32 = 0
  · refine ⟨⟨fun _ => (x_154 q hA _ _ _).1, fun e => absurd h e⟩, ?_⟩
    rw [fX6_driveBus_125, if_pos h, (x_154 q hA _ _ _).2, Int32.and_self]
    simp only [stp, h, if_true]
  · refine ⟨⟨fun e => absurd e h, fun _ => ⟨e1, ?_⟩⟩, ?_⟩
    · rw [e2]
      exact ⟨hin, (x_154 q hA _ _ _).1⟩
    · rw [fX6_driveBus_125, if_neg h, e2]
      show fX6_driveBus_154 q A d _ _ = _
      rw [(x_154 q hA _ _ _).2]
      simp only [stp, h, if_false]
theorem x_96 (q : SS) {A : Nat} (hA : isW q A) (hE : rg 0 1 (gI q 905)) (d s t : Int32) : kX6_driveBus_96 q A d s t ∧ fX6_driveBus_96 q A d s t = dfin q d (stp d 64 (stp d 32 (stp d 16 (t &&& s) (gA q 25 (ra (gI q 904) (gI q 905)).toNatClampNeg)) (gA q 25 (rb (gI q 904) (gI q 905)).toNatClampNeg)) (gA q 38 A)) := by
  obtain ⟨e1, e2⟩ := x_first q hE
  have hin : vp_in (ra (gI q 904) (gI q 905)) 4 := rin (ra3 _ _) (by decide)
  by_cases h : d &&& 16 = 0
  · refine ⟨⟨fun _ => (x_125 q hA hE _ _ _).1, fun e => absurd h e⟩, ?_⟩
    rw [fX6_driveBus_96, if_pos h, (x_125 q hA hE _ _ _).2, Int32.and_self]
    simp only [stp, h, if_true]
  · refine ⟨⟨fun e => absurd e h, fun _ => ⟨e1, ?_⟩⟩, ?_⟩
    · rw [e2]
      exact ⟨hin, (x_125 q hA hE _ _ _).1⟩
    · rw [fX6_driveBus_96, if_neg h, e2]
      show fX6_driveBus_125 q A d _ _ = _
      rw [(x_125 q hA hE _ _ _).2]
      simp only [stp, h, if_false]
theorem x_75 (q : SS) {A : Nat} (hA : isW q A) (hE : rg 0 1 (gI q 905)) (d s t : Int32) : kX6_driveBus_75 q A d s t ∧ fX6_driveBus_75 q A d s t = dfin q d (stp d 64 (stp d 32 (stp d 16 (stp d 8 (t &&& s) (gI q 701)) (gA q 25 (ra (gI q 904) (gI q 905)).toNatClampNeg)) (gA q 25 (rb (gI q 904) (gI q 905)).toNatClampNeg)) (gA q 38 A)) := by
  by_cases h : d &&& 8 = 0
  · refine ⟨⟨fun _ => (x_96 q hA hE _ _ _).1, fun e => absurd h e⟩, ?_⟩
    rw [fX6_driveBus_75, if_pos h, (x_96 q hA hE _ _ _).2, Int32.and_self]
    simp only [stp, h, if_true]
  · refine ⟨⟨fun e => absurd e h, fun _ => (x_96 q hA hE _ _ _).1⟩, ?_⟩
    rw [fX6_driveBus_75, if_neg h, (x_96 q hA hE _ _ _).2]
    simp only [stp, h, if_false]
theorem x_55 (q : SS) {A : Nat} (hA : isW q A) (hE : rg 0 1 (gI q 905)) (d s t : Int32) : kX6_driveBus_55 q A d s t ∧ fX6_driveBus_55 q A d s t = dfin q d (stp d 64 (stp d 32 (stp d 16 (stp d 8 (stp d 4 (t &&& s) (gI q 903)) (gI q 701)) (gA q 25 (ra (gI q 904) (gI q 905)).toNatClampNeg)) (gA q 25 (rb (gI q 904) (gI q 905)).toNatClampNeg)) (gA q 38 A)) := by
  by_cases h : d &&& 4 = 0
  · refine ⟨⟨fun _ => (x_75 q hA hE _ _ _).1, fun e => absurd h e⟩, ?_⟩
    rw [fX6_driveBus_55, if_pos h, (x_75 q hA hE _ _ _).2, Int32.and_self]
    simp only [stp, h, if_true]
  · refine ⟨⟨fun e => absurd e h, fun _ => (x_75 q hA hE _ _ _).1⟩, ?_⟩
    rw [fX6_driveBus_55, if_neg h, (x_75 q hA hE _ _ _).2]
    simp only [stp, h, if_false]
theorem x_35 (q : SS) {A : Nat} (hA : isW q A) (hE : rg 0 1 (gI q 905)) (d s t : Int32) : kX6_driveBus_35 q A d s t ∧ fX6_driveBus_35 q A d s t = dfin q d (stp d 64 (stp d 32 (stp d 16 (stp d 8 (stp d 4 (stp d 2 (t &&& s) (gI q 901)) (gI q 903)) (gI q 701)) (gA q 25 (ra (gI q 904) (gI q 905)).toNatClampNeg)) (gA q 25 (rb (gI q 904) (gI q 905)).toNatClampNeg)) (gA q 38 A)) := by
  by_cases h : d &&& 2 = 0
  · refine ⟨⟨fun _ => (x_55 q hA hE _ _ _).1, fun e => absurd h e⟩, ?_⟩
    rw [fX6_driveBus_35, if_pos h, (x_55 q hA hE _ _ _).2, Int32.and_self]
    simp only [stp, h, if_true]
  · refine ⟨⟨fun e => absurd e h, fun _ => (x_55 q hA hE _ _ _).1⟩, ?_⟩
    rw [fX6_driveBus_35, if_neg h, (x_55 q hA hE _ _ _).2]
    simp only [stp, h, if_false]
theorem x_16 (q : SS) {A : Nat} (hA : isW q A) (hE : rg 0 1 (gI q 905)) (d b : Int32) : kX6_driveBus_16 q A d b ∧ fX6_driveBus_16 q A d b = dfin q d (stp d 64 (stp d 32 (stp d 16 (stp d 8 (stp d 4 (stp d 2 (stp d 1 b (gI q 900)) (gI q 901)) (gI q 903)) (gI q 701)) (gA q 25 (ra (gI q 904) (gI q 905)).toNatClampNeg)) (gA q 25 (rb (gI q 904) (gI q 905)).toNatClampNeg)) (gA q 38 A)) := by
  by_cases h : d &&& 1 = 0
  · refine ⟨⟨fun _ => (x_35 q hA hE _ _ _).1, fun e => absurd h e⟩, ?_⟩
    rw [fX6_driveBus_16, if_pos h, (x_35 q hA hE _ _ _).2, Int32.and_self]
    simp only [stp, h, if_true]
  · refine ⟨⟨fun e => absurd e h, fun _ => (x_35 q hA hE _ _ _).1⟩, ?_⟩
    rw [fX6_driveBus_16, if_neg h, (x_35 q hA hE _ _ _).2]
    simp only [stp, h, if_false]
theorem dbit : ∀ n, n < 128 → ∀ k, k < 7 → decide (bt (nI n) k) = decide (nI n &&& nI (2 ^ k) = 0) := by decide +kernel
theorem dcnt : ∀ n, n < 128 → (decide (cb (nI n) 7 ≤ 1) = decide ((fJ6_bitCount_0f7a4 q00 (nI n)).1 ≤ 1)) := by decide +kernel
theorem dzero : ∀ n, n < 128 → (decide (cb (nI n) 7 = 0) = decide (nI n = 0)) := by decide +kernel
theorem ib7 {d : Int32} (hd : rg 0 127 d) (F : Nat → Int32) : ib d F 7 = stp d 64 (stp d 32 (stp d 16 (stp d 8 (stp d 4 (stp d 2 (stp d 1 255 (F 0)) (F 1)) (F 2)) (F 3)) (F 4)) (F 5)) (F 6) := by
  obtain ⟨n, hn, rfl⟩ := tof (n := 128) hd.1 (by have := hd.2; omega) (by decide)
  have e : ∀ k, k < 7 → (bt (nI n) k ↔ nI n &&& nI (2 ^ k) = 0) := fun k hk => decide_eq_decide.mp (dbit n hn k hk)
  have s : ∀ (k : Nat), k < 7 → ib (nI n) F (k + 1) = stp (nI n) (nI (2 ^ k)) (ib (nI n) F k) (F k) := by
    intro k hk
    rw [ib, stp]
    by_cases h : bt (nI n) k
    · rw [if_pos h, if_pos ((e k hk).mp h)]
    · rw [if_neg h, if_neg (fun z => h ((e k hk).mpr z))]
  rw [s 6 (by decide), s 5 (by decide), s 4 (by decide), s 3 (by decide), s 2 (by decide), s 1 (by decide), s 0 (by decide)]
  rfl
