/-! the law's loop -/
theorem and63 (a : Int32) : 0 ≤ (a &&& 63).toInt ∧ (a &&& 63).toInt ≤ 63 := by
  have h : (a &&& 63).toBitVec.toNat ≤ 63 := by
    show (a.toBitVec &&& 63#32).toNat ≤ 63
    rw [BitVec.toNat_and]
    exact Nat.and_le_right
  have e : (a &&& 63).toInt = ((a &&& 63).toBitVec.toNat : Int) := by
    show (a &&& 63).toBitVec.toInt = _
    rw [BitVec.toInt_eq_toNat_of_lt (by show 2 * _ < 2 ^ 32; omega)]
  constructor <;> omega
theorem sub9 {L : Nat} (h : L ≤ 4608) : (Int32.ofNat L - 9).toInt = (L : Int) - 9 := by
  rw [Int32.toInt_sub, kO (by omega), show (9 : Int32).toInt = 9 by decide]
  exact Int.bmod_eq_of_le (by omega) (by omega)
section LROW3
variable {p : Program} {l : Launch} {e : Env} {R : Room} {s : State} {m : MethodId} {args : Array Value} {below : List Frame} {meth : Method} {c : Code} {cells slots : Nat} {Q : State → Prop} {nL : Nat} {A : Nat → Prop} {x : SS} {pc : Nat} {lv : List (Nat × Value)} {rest : List Value} {cc : ByteArray} {Ts : List Cond} {own : String} {G : SS → Heap → Prop}
theorem zl_slen (S : CallFix p m c cc nL s args Ts own) {b L : Nat} {xs : Nat → Int32} (hX : va_X b L xs s s.heap) (hbl : b < s.heap.size) (hbA : ¬ A b) (hdg : decode cc pc = .ok (.arraylength, 1)) (kk : Z p l e R s m args below meth c cells slots Q nL A G x (pc + 1) lv (.int (Int32.ofNat L) :: rest)) : Z p l e R s m args below meth c cells slots Q nL A G x pc lv (.ref b :: rest) := by
  obtain ⟨hx, hb, hml, hown, hts⟩ := S
  exact fun H locs ls h1 h2 h3 => va_slen hx hb hX hbl hbA h2 hdg (kk H locs ls h1 h2 h3)
theorem zl_sld (S : CallFix p m c cc nL s args Ts own) {b L : Nat} {xs : Nat → Int32} (hX : va_X b L xs s s.heap) (hbl : b < s.heap.size) (hbA : ¬ A b) {i w : Int32} (hin : vp_in i L) (hw : xs i.toNatClampNeg = w) (hdg : decode cc pc = .ok (.iaload, 1)) (kk : Z p l e R s m args below meth c cells slots Q nL A G x (pc + 1) lv (.int w :: rest)) : Z p l e R s m args below meth c cells slots Q nL A G x pc lv (.int i :: .ref b :: rest) := by
  obtain ⟨hx, hb, hml, hown, hts⟩ := S
  subst hw
  exact fun H locs ls h1 h2 h3 => va_sld hx hb hX hbl hbA h2 hin hdg (kk H locs ls h1 h2 h3)
end LROW3
theorem law_loop {p : Program} {l : Launch} {e : Env} {s : State} {m : MethodId} {b : Nat} {below : List Frame} {meth : Method} {c : Code} {D : va_G} {kc : Nat → ClassId} {kd : ClassId} {ad am : Nat → Nat} {o1 o2 L : Nat} {xs : Nat → Int32} (C : LC p l s m b c D kc kd L xs) (hL : L ≤ 4608) {Q : State → Prop} (hend : ∀ (x mm : SS) (f : Nat → Int64) (g : Nat → UInt64) (i5 : Int32) (cells slots : Nat), cells ≤ 603072 → slots ≤ 7182442 → LZ p l e s m b below meth c D kc kd ad am o1 o2 Q cells slots f g x mm 2174 i5) :
    ∀ (d t : Nat) (x mm : SS) (f : Nat → Int64) (g : Nat → UInt64), R (2000 * (t : Int)) x mm → t ≤ 512 → L ≤ 9 * t + 9 * d → LZ p l e s m b below meth c D kc kd ad am o1 o2 Q (100 + 300 * t) (3000 + 5400 * t) f g x mm 28 (Int32.ofNat (9 * t)) := by
  have S := C.S
  have hx := S.1
  have hb := S.2.1
  intro d
  induction d with
  | zero =>
    intro t x mm f g h ht hLd
    refine z_iload (j := 5) hx hb dL_law_28 rfl ?_
    refine z_aload_n (j := 0) hx hb dL_law_30 rfl rfl ?_
    refine zl_slen S C.hX C.hbl C.hbA dL_law_31 ?_
    refine z_bipush (v := 9) hx hb dL_law_32 (by decide) ?_
    refine z_isub hx hb dL_law_34 ?_
    refine z_icmp_gt (tgt := 2174) hx hb dL_law_35 (by decide) (fun g7 => hend _ _ _ _ _ _ _ (by omega) (by omega)) (fun g7 => ?_)
    rw [Int32.lt_iff_toInt_lt, sub9 hL, kO (by omega)] at g7
    omega
  | succ d ih =>
    intro t x mm f g h ht hLd
    refine z_iload (j := 5) hx hb dL_law_28 rfl ?_
    refine z_aload_n (j := 0) hx hb dL_law_30 rfl rfl ?_
    refine zl_slen S C.hX C.hbl C.hbA dL_law_31 ?_
    refine z_bipush (v := 9) hx hb dL_law_32 (by decide) ?_
    refine z_isub hx hb dL_law_34 ?_
    refine z_icmp_gt (tgt := 2174) hx hb dL_law_35 (by decide) (fun g7 => hend _ _ _ _ _ _ _ (by omega) (by omega)) (fun g7 => ?_)
    rw [Int32.lt_iff_toInt_lt, sub9 hL, kO (by omega)] at g7
    have hsv : ∀ k, k < 9 → vp_in (Int32.ofNat (9 * t) + Int32.ofNat k) L ∧ xs (Int32.ofNat (9 * t) + Int32.ofNat k).toNatClampNeg = (fun k => xs (9 * t + k)) k := fun k hk => by
      rw [← Int32.ofNat_add]
      exact ⟨kIn (by omega) (by omega), by rw [kNat (by omega)]⟩
    have h0 : xs (Int32.ofNat (9 * t)).toNatClampNeg = (fun k => xs (9 * t + k)) 0 := by rw [kNat (by omega)]; rfl
    generalize (fun k => xs (9 * t + k)) = sv at hsv h0
    refine z_aload_n (j := 0) hx hb dL_law_38 rfl rfl ?_
    refine z_iload (j := 5) hx hb dL_law_39 rfl ?_
    refine zl_sld S C.hX C.hbl C.hbA (w := sv 0) (kIn (by omega) (by omega)) h0 dL_law_41 ?_
    refine z_bipush (v := 63) hx hb dL_law_42 (by decide) ?_
    refine z_iand hx hb dL_law_44 ?_
    have hc : 0 ≤ 2000 * (t : Int) ∧ 2000 * (t : Int) ≤ 1999990000 := by constructor <;> omega
    have hce : 100 + 300 * t + 300 ≤ 603072 := by omega
    have hsl : 3000 + 5400 * t + 5400 ≤ 7182442 := by omega
    have nx : ∀ (x2 m2 : SS) (f2 : Nat → Int64) (g2 : Nat → UInt64), R (2000 * (t : Int) + 2000) x2 m2 → LZ p l e s m b below meth c D kc kd ad am o1 o2 Q (100 + 300 * t + 300) (3000 + 5400 * t + 5400) f2 g2 x2 m2 2168 (Int32.ofNat (9 * t)) := by
      intro x2 m2 f2 g2 h2
      have h3 : R (2000 * ((t + 1 : Nat) : Int)) x2 m2 := by
        rw [show 2000 * ((t + 1 : Nat) : Int) = 2000 * (t : Int) + 2000 by push_cast; omega]
        exact h2
      have k := ih (t + 1) x2 m2 f2 g2 h3 (by omega) (by omega)
      rw [show 100 + 300 * (t + 1) = 100 + 300 * t + 300 by omega, show 3000 + 5400 * (t + 1) = 3000 + 5400 * t + 5400 by omega] at k
      refine z_iinc (k := 5) (v := Int32.ofNat (9 * (t + 1))) (lv' := [(5, .int (Int32.ofNat (9 * (t + 1)))), (0, .ref b), (1, .ref (ad 0)), (2, .ref (am 0)), (3, .ref o1), (4, .ref o2)]) hx hb dL_law_2168 rfl (by rw [show 9 * (t + 1) = 9 * t + 9 by omega, Int32.ofNat_add]; rfl) (by decide) rfl ?_
      refine z_goto (tgt := 28) hx hb dL_law_2171 (by decide) ?_
      exact z_sub [1, 2, 3, 4, 5, 0] rfl k
    obtain ⟨b1, b2⟩ := and63 (sv 0)
    by_cases h40 : (sv 0 &&& 63).toInt ≤ 40
    · obtain ⟨k, hk⟩ : ∃ k : Nat, (sv 0 &&& 63).toInt = (k : Int) := ⟨(sv 0 &&& 63).toInt.toNat, (Int.toNat_of_nonneg b1).symm⟩
      have hk40 : k ≤ 40 := by omega
      generalize sv 0 &&& 63 = w at hk
      match k, hk, hk40 with
      | 0, hk, _ =>
        exact z_tableIn (off := 179) (tgt := 224) hx hb dL_law_45 (by rw [hk]; decide) (by rw [hk]; decide) (by rw [hk]; rfl) (by decide) (law_c0 C h hc hsv hce hsl f g nx)
      | 1, hk, _ =>
        exact z_tableIn (off := 327) (tgt := 372) hx hb dL_law_45 (by rw [hk]; decide) (by rw [hk]; decide) (by rw [hk]; rfl) (by decide) (law_c1 C h hc hsv hce hsl f g nx)
      | 2, hk, _ =>
        exact z_tableIn (off := 407) (tgt := 452) hx hb dL_law_45 (by rw [hk]; decide) (by rw [hk]; decide) (by rw [hk]; rfl) (by decide) (law_c2 C h hc hsv hce hsl f g nx)
      | 3, hk, _ =>
        exact z_tableIn (off := 475) (tgt := 520) hx hb dL_law_45 (by rw [hk]; decide) (by rw [hk]; decide) (by rw [hk]; rfl) (by decide) (law_c3 C h hc hsv hce hsl f g nx)
      | 4, hk, _ =>
        exact z_tableIn (off := 581) (tgt := 626) hx hb dL_law_45 (by rw [hk]; decide) (by rw [hk]; decide) (by rw [hk]; rfl) (by decide) (law_c4 C h hc hsv hce hsl f g nx)
      | 5, hk, _ =>
        exact z_tableIn (off := 637) (tgt := 682) hx hb dL_law_45 (by rw [hk]; decide) (by rw [hk]; decide) (by rw [hk]; rfl) (by decide) (law_c5 C h hc hsv hce hsl f g nx)
      | 6, hk, _ =>
        exact z_tableIn (off := 650) (tgt := 695) hx hb dL_law_45 (by rw [hk]; decide) (by rw [hk]; decide) (by rw [hk]; rfl) (by decide) (law_c6 C h hc hsv hce hsl f g nx)
      | 7, hk, _ =>
        exact z_tableIn (off := 730) (tgt := 775) hx hb dL_law_45 (by rw [hk]; decide) (by rw [hk]; decide) (by rw [hk]; rfl) (by decide) (law_c7 C h hc hsv hce hsl f g nx)
      | 8, hk, _ =>
        exact z_tableIn (off := 798) (tgt := 843) hx hb dL_law_45 (by rw [hk]; decide) (by rw [hk]; decide) (by rw [hk]; rfl) (by decide) (law_c8 C h hc hsv hce hsl f g nx)
      | 9, hk, _ =>
        exact z_tableIn (off := 866) (tgt := 911) hx hb dL_law_45 (by rw [hk]; decide) (by rw [hk]; decide) (by rw [hk]; rfl) (by decide) (law_c9 C h hc hsv hce hsl f g nx)
      | 10, hk, _ =>
        exact z_tableIn (off := 934) (tgt := 979) hx hb dL_law_45 (by rw [hk]; decide) (by rw [hk]; decide) (by rw [hk]; rfl) (by decide) (law_c10 C h hc hsv hce hsl f g nx)
      | 11, hk, _ =>
        exact z_tableIn (off := 1030) (tgt := 1075) hx hb dL_law_45 (by rw [hk]; decide) (by rw [hk]; decide) (by rw [hk]; rfl) (by decide) (law_c11 C h hc hsv hce hsl f g nx)
      | 12, hk, _ =>
        exact z_tableIn (off := 1121) (tgt := 1166) hx hb dL_law_45 (by rw [hk]; decide) (by rw [hk]; decide) (by rw [hk]; rfl) (by decide) (law_c12 C h hc hsv hce hsl f g nx)
      | 13, hk, _ =>
        exact z_tableIn (off := 1177) (tgt := 1222) hx hb dL_law_45 (by rw [hk]; decide) (by rw [hk]; decide) (by rw [hk]; rfl) (by decide) (law_c13 C h hc hsv hce hsl f g nx)
      | 14, hk, _ =>
        exact z_tableIn (off := 1233) (tgt := 1278) hx hb dL_law_45 (by rw [hk]; decide) (by rw [hk]; decide) (by rw [hk]; rfl) (by decide) (law_c14 C h hc hsv hce hsl f g nx)
      | 15, hk, _ =>
        exact z_tableIn (off := 1246) (tgt := 1291) hx hb dL_law_45 (by rw [hk]; decide) (by rw [hk]; decide) (by rw [hk]; rfl) (by decide) (law_c15 C h hc hsv hce hsl f g nx)
      | 16, hk, _ =>
        exact z_tableIn (off := 1259) (tgt := 1304) hx hb dL_law_45 (by rw [hk]; decide) (by rw [hk]; decide) (by rw [hk]; rfl) (by decide) (law_c16 C h hc hsv hce hsl f g nx)
      | 17, hk, _ =>
        exact z_tableIn (off := 1315) (tgt := 1360) hx hb dL_law_45 (by rw [hk]; decide) (by rw [hk]; decide) (by rw [hk]; rfl) (by decide) (law_c17 C h hc hsv hce hsl f g nx)
      | 18, hk, _ =>
        exact z_tableIn (off := 1371) (tgt := 1416) hx hb dL_law_45 (by rw [hk]; decide) (by rw [hk]; decide) (by rw [hk]; rfl) (by decide) (law_c18 C h hc hsv hce hsl f g nx)
      | 19, hk, _ =>
        exact z_tableIn (off := 1384) (tgt := 1429) hx hb dL_law_45 (by rw [hk]; decide) (by rw [hk]; decide) (by rw [hk]; rfl) (by decide) (law_c19 C h hc hsv hce hsl f g nx)
      | 20, hk, _ =>
        exact z_tableIn (off := 1440) (tgt := 1485) hx hb dL_law_45 (by rw [hk]; decide) (by rw [hk]; decide) (by rw [hk]; rfl) (by decide) (law_c20 C h hc hsv hce hsl f g nx)
      | 21, hk, _ =>
        exact z_tableIn (off := 1496) (tgt := 1541) hx hb dL_law_45 (by rw [hk]; decide) (by rw [hk]; decide) (by rw [hk]; rfl) (by decide) (law_c21 C h hc hsv hce hsl f g nx)
      | 22, hk, _ =>
        exact z_tableIn (off := 1554) (tgt := 1599) hx hb dL_law_45 (by rw [hk]; decide) (by rw [hk]; decide) (by rw [hk]; rfl) (by decide) (law_c22 C h hc hsv hce hsl f g nx)
      | 23, hk, _ =>
        exact z_tableIn (off := 1567) (tgt := 1612) hx hb dL_law_45 (by rw [hk]; decide) (by rw [hk]; decide) (by rw [hk]; rfl) (by decide) (law_c23 C h hc hsv hce hsl f g nx)
      | 24, hk, _ =>
        exact z_tableIn (off := 1580) (tgt := 1625) hx hb dL_law_45 (by rw [hk]; decide) (by rw [hk]; decide) (by rw [hk]; rfl) (by decide) (law_c24 C h hc hsv hce hsl f g nx)
      | 25, hk, _ =>
        exact z_tableIn (off := 1593) (tgt := 1638) hx hb dL_law_45 (by rw [hk]; decide) (by rw [hk]; decide) (by rw [hk]; rfl) (by decide) (law_c25 C h hc hsv hce hsl f g nx)
      | 26, hk, _ =>
        exact z_tableIn (off := 1606) (tgt := 1651) hx hb dL_law_45 (by rw [hk]; decide) (by rw [hk]; decide) (by rw [hk]; rfl) (by decide) (law_c26 C h hc hsv hce hsl f g nx)
      | 27, hk, _ =>
        exact z_tableIn (off := 1662) (tgt := 1707) hx hb dL_law_45 (by rw [hk]; decide) (by rw [hk]; decide) (by rw [hk]; rfl) (by decide) (law_c27 C h hc hsv hce hsl f g nx)
      | 28, hk, _ =>
        exact z_tableIn (off := 1718) (tgt := 1763) hx hb dL_law_45 (by rw [hk]; decide) (by rw [hk]; decide) (by rw [hk]; rfl) (by decide) (law_c28 C h hc hsv hce hsl f g nx)
      | 29, hk, _ =>
        exact z_tableIn (off := 1776) (tgt := 1821) hx hb dL_law_45 (by rw [hk]; decide) (by rw [hk]; decide) (by rw [hk]; rfl) (by decide) (law_c29 C h hc hsv hce hsl f g nx)
      | 30, hk, _ =>
        exact z_tableIn (off := 1789) (tgt := 1834) hx hb dL_law_45 (by rw [hk]; decide) (by rw [hk]; decide) (by rw [hk]; rfl) (by decide) (law_c30 C h hc hsv hce hsl f g nx)
      | 31, hk, _ =>
        exact z_tableIn (off := 1802) (tgt := 1847) hx hb dL_law_45 (by rw [hk]; decide) (by rw [hk]; decide) (by rw [hk]; rfl) (by decide) (law_c31 C h hc hsv hce hsl f g nx)
      | 32, hk, _ =>
        exact z_tableIn (off := 1846) (tgt := 1891) hx hb dL_law_45 (by rw [hk]; decide) (by rw [hk]; decide) (by rw [hk]; rfl) (by decide) (law_c32 C h hc hsv hce hsl f g nx)
      | 33, hk, _ =>
        exact z_tableIn (off := 1859) (tgt := 1904) hx hb dL_law_45 (by rw [hk]; decide) (by rw [hk]; decide) (by rw [hk]; rfl) (by decide) (law_c33 C h hc hsv hce hsl f g nx)
      | 34, hk, _ =>
        exact z_tableIn (off := 1872) (tgt := 1917) hx hb dL_law_45 (by rw [hk]; decide) (by rw [hk]; decide) (by rw [hk]; rfl) (by decide) (law_c34 C h hc hsv hce hsl f g nx)
      | 35, hk, _ =>
        exact z_tableIn (off := 1885) (tgt := 1930) hx hb dL_law_45 (by rw [hk]; decide) (by rw [hk]; decide) (by rw [hk]; rfl) (by decide) (law_c35 C h hc hsv hce hsl f g nx)
      | 36, hk, _ =>
        exact z_tableIn (off := 1898) (tgt := 1943) hx hb dL_law_45 (by rw [hk]; decide) (by rw [hk]; decide) (by rw [hk]; rfl) (by decide) (law_c36 C h hc hsv hce hsl f g nx)
      | 37, hk, _ =>
        exact z_tableIn (off := 1912) (tgt := 1957) hx hb dL_law_45 (by rw [hk]; decide) (by rw [hk]; decide) (by rw [hk]; rfl) (by decide) (law_c37 C h hc hsv hce hsl f g nx)
      | 38, hk, _ =>
        exact z_tableIn (off := 1979) (tgt := 2024) hx hb dL_law_45 (by rw [hk]; decide) (by rw [hk]; decide) (by rw [hk]; rfl) (by decide) (law_c38 C h hc hsv hce hsl f g nx)
      | 39, hk, _ =>
        exact z_tableIn (off := 2045) (tgt := 2090) hx hb dL_law_45 (by rw [hk]; decide) (by rw [hk]; decide) (by rw [hk]; rfl) (by decide) (law_c39 C h hc hsv hce hsl f g nx)
      | 40, hk, _ =>
        exact z_tableIn (off := 2110) (tgt := 2155) hx hb dL_law_45 (by rw [hk]; decide) (by rw [hk]; decide) (by rw [hk]; rfl) (by decide) (law_c40 C h hc hsv hce hsl f g nx)
      | k + 41, hk, h => exact absurd h (by omega)
    · exact z_tableOut (tgt := 2168) hx hb dL_law_45 (Or.inr (by omega)) (by decide) (z_widen (by omega) (by omega) (nx _ _ _ _ (h.mono (by omega))))
