def fX11_takes (q : SS) : Int32 × SS := (((gA q 21) (((gA q 20) (4 : Int32).toNatClampNeg) : Int32).toNatClampNeg), (sA q 20 (upd (gA q 20) (4 : Int32).toNatClampNeg ((((gA q 20) (4 : Int32).toNatClampNeg) + 1) - (((gA q 20) (4 : Int32).toNatClampNeg) + 1) / 64 * 64))))
def kX11_takes (q : SS) : Prop := vp_in ((gA q 20) (4 : Int32).toNatClampNeg) 64 ∧ True
set_option maxHeartbeats 4000000 in
set_option maxRecDepth 100000 in
theorem ctX11_takes (l : Launch) (D : va_G) (kc : Nat → ClassId) (ad : Nat → Nat) (q : SS) (hok : kX11_takes q) : Ci l yX11_takes (Cond.code yX11_takes cX11_takes 2 (some .int) :: lw_G) (zr 0 0 0) 0 0 (PM D kc) (GM D kc ad) (GM D kc ad) [.ref (ad 0)] q (fX11_takes q) := by
  refine Ci.of (cc := cX11_takes) (maxL := 2) (ret := (some .int)) (by decide) rfl (Nat.le_of_ble_eq_true rfl) ?_
  intro p e s m args below meth c A S hr hlocks hin hA hK
  have hx := S.1
  have hb := S.2.1
  have hK : va_K D vwCl (tysK kc) s := hK
  generalize hFe : fX11_takes q = F
  have hF : F = fX11_takes q := hFe.symm
  refine z_aload_n (j := 0) hx hb dX11_takes_0 rfl rfl ?_
  refine z_get (v := .ref (ad 21)) S hK inX11 0 (fun _ => rfl) rfl 48 (by decide) q6_145 rfl rfl dX11_takes_1 ?_
  refine z_aload_n (j := 0) hx hb dX11_takes_4 rfl rfl ?_
  refine z_get (v := .ref (ad 20)) S hK inX11 0 (fun _ => rfl) rfl 47 (by decide) q6_144 rfl rfl dX11_takes_5 ?_
  refine z_iconst (v := 4) hx hb dX11_takes_8 (by decide) ?_
  refine z_iald (f := (gA q 20)) S hK 20 0 (fun _ => rfl) rfl (show ¬ (_ ∨ _) from by decide) dX11_takes_9 ?_
  have h10 := And.left hok
  have hok := And.right hok
  refine z_iald (f := (gA q 21)) S hK 21 0 (fun _ => rfl) rfl h10 dX11_takes_10 ?_
  refine z_istore_n (lv' := [(1, .int ((gA q 21) (((gA q 20) (4 : Int32).toNatClampNeg) : Int32).toNatClampNeg)), (0, .ref (ad 0))]) hx hb dX11_takes_11 rfl (by decide) rfl ?_
  refine z_aload_n (j := 1) hx hb dX11_takes_12 rfl rfl ?_
  refine z_get (v := .ref (ad 20)) S hK inX11 0 (fun _ => rfl) rfl 47 (by decide) q6_144 rfl rfl dX11_takes_13 ?_
  refine z_iconst (v := 4) hx hb dX11_takes_16 (by decide) ?_
  refine z_aload_n (j := 1) hx hb dX11_takes_17 rfl rfl ?_
  refine z_get (v := .ref (ad 20)) S hK inX11 0 (fun _ => rfl) rfl 47 (by decide) q6_144 rfl rfl dX11_takes_18 ?_
  refine z_iconst (v := 4) hx hb dX11_takes_21 (by decide) ?_
  refine z_iald (f := (gA q 20)) S hK 20 0 (fun _ => rfl) rfl (show ¬ (_ ∨ _) from by decide) dX11_takes_22 ?_
  refine z_iconst (v := 1) hx hb dX11_takes_23 (by decide) ?_
  refine z_iadd hx hb dX11_takes_24 ?_
  refine z_bipush (v := 64) hx hb dX11_takes_25 (by decide) ?_
  refine z_irem hx hb dX11_takes_27 (by decide) ?_
  refine z_iast (f := (gA q 20)) (q' := (sA q 20 (upd (gA q 20) (4 : Int32).toNatClampNeg ((((gA q 20) (4 : Int32).toNatClampNeg) + 1) - (((gA q 20) (4 : Int32).toNatClampNeg) + 1) / 64 * 64)))) S hK 20 0 (fun _ => rfl) rfl (show ¬ (_ ∨ _) from by decide) dX11_takes_28 (wMa20 kc ad _ _) (fun _ h => h) ?_
  refine z_iload_n (j := 0) hx hb dX11_takes_29 rfl rfl ?_
  exact z_iret hx hb hlocks hr rfl hF dX11_takes_30
theorem hX11_takes : yX11_takes.cls = RX11 ∧ yX11_takes.cls ≠ "java/lang/invoke/MethodHandle" ∧ yX11_takes.cls ≠ "java/lang/invoke/VarHandle" ∧ (parseMethodDescriptor yX11_takes.desc).map (fun d => d.parameters.length) = some 0 := by decide +kernel
def fX11_flags_32 (q : SS) (s0 : Int32) (s1 : Int32) : SS := (sA q 20 (upd (gA q 20) (s1 : Int32).toNatClampNeg s0))
def kX11_flags_32 (q : SS) (s0 : Int32) (s1 : Int32) : Prop := vp_in s1 16 ∧ True
def fX11_flags_19 (q : SS) (v1 : Int32) (v2 : Int32) (v3 : Int32) (s0 : Int32) (s1 : Int32) : SS := fX11_flags_32 (fX11_carry (sA q 20 (upd (gA q 20) (s1 : Int32).toNatClampNeg s0)) v1 v2 v3).2 (fX11_carry (sA q 20 (upd (gA q 20) (s1 : Int32).toNatClampNeg s0)) v1 v2 v3).1 6
def kX11_flags_19 (q : SS) (v1 : Int32) (v2 : Int32) (v3 : Int32) (s0 : Int32) (s1 : Int32) : Prop := vp_in s1 16 ∧ kX11_carry (sA q 20 (upd (gA q 20) (s1 : Int32).toNatClampNeg s0)) v1 v2 v3 ∧ kX11_flags_32 (fX11_carry (sA q 20 (upd (gA q 20) (s1 : Int32).toNatClampNeg s0)) v1 v2 v3).2 (fX11_carry (sA q 20 (upd (gA q 20) (s1 : Int32).toNatClampNeg s0)) v1 v2 v3).1 6
def fX11_flags_11 (q : SS) (v1 : Int32) (v2 : Int32) (v3 : Int32) (s0 : Int32) (s1 : Int32) : SS := (if s0 = 0 then fX11_flags_19 q v1 v2 v3 1 s1 else fX11_flags_19 q v1 v2 v3 0 s1)
def kX11_flags_11 (q : SS) (v1 : Int32) (v2 : Int32) (v3 : Int32) (s0 : Int32) (s1 : Int32) : Prop := ((s0 = 0 → kX11_flags_19 q v1 v2 v3 1 s1) ∧ (¬ s0 = 0 → kX11_flags_19 q v1 v2 v3 0 s1))
def fX11_flags (q : SS) (v1 : Int32) (v2 : Int32) (v3 : Int32) : SS := fX11_flags_11 (fX11_combined q v1 v2 v3).2 v1 v2 v3 (fX11_combined q v1 v2 v3).1 5
def kX11_flags (q : SS) (v1 : Int32) (v2 : Int32) (v3 : Int32) : Prop := kX11_combined q v1 v2 v3 ∧ kX11_flags_11 (fX11_combined q v1 v2 v3).2 v1 v2 v3 (fX11_combined q v1 v2 v3).1 5
set_option maxHeartbeats 4000000 in
set_option maxRecDepth 100000 in
theorem ctX11_flags (l : Launch) (D : va_G) (kc : Nat → ClassId) (ad : Nat → Nat) (q : SS) (v1 : Int32) (v2 : Int32) (v3 : Int32) (hok : kX11_flags q v1 v2 v3) : Cv l yX11_flags (Cond.code yX11_flags cX11_flags 4 none :: lw_G) (zr 1 0 0) 0 0 (PM D kc) (GM D kc ad) (GM D kc ad) [.ref (ad 0), .int v1, .int v2, .int v3] q (fX11_flags q v1 v2 v3) := by
  refine Cv.of (cc := cX11_flags) (maxL := 4) (ret := none) (by decide) rfl (Nat.le_of_ble_eq_true rfl) ?_
  intro p e s m args below meth c A S hr hlocks hin hA hK
  have hx := S.1
  have hb := S.2.1
  have hK : va_K D vwCl (tysK kc) s := hK
  generalize hFe : fX11_flags q v1 v2 v3 = F
  have hF : F = fX11_flags q v1 v2 v3 := hFe.symm
  have b32 : ∀ (q : SS) (s0 : Int32) (s1 : Int32), kX11_flags_32 q s0 s1 → F = fX11_flags_32 q s0 s1 → Z p l e (zr 1 0 0) s m args below meth c 0 0 (MQ below (va_Qv (fun (_ : Unit) => True) (fun _ t => (GM D kc ad) A F t.heap) A) args s 0 0 A) 4 A (ZG D vwCl (wM kc ad) (fun _ tl => tl = []) A) q 32 [] [.int s0, .int s1, .ref (ad 20)] := by
    intro q s0 s1 hok hF
    have h32 := And.left hok
    have hok := And.right hok
    refine z_iast (f := (gA q 20)) (q' := (sA q 20 (upd (gA q 20) (s1 : Int32).toNatClampNeg s0))) S hK 20 0 (fun _ => rfl) rfl h32 dX11_flags_32 (wMa20 kc ad _ _) (fun _ h => h) ?_
    exact z_vret hx hb hlocks hr hF dX11_flags_33
  have b19 : ∀ (q : SS) (v1 : Int32) (v2 : Int32) (v3 : Int32) (s0 : Int32) (s1 : Int32), kX11_flags_19 q v1 v2 v3 s0 s1 → F = fX11_flags_19 q v1 v2 v3 s0 s1 → Z p l e (zr 1 0 0) s m args below meth c 0 0 (MQ below (va_Qv (fun (_ : Unit) => True) (fun _ t => (GM D kc ad) A F t.heap) A) args s 0 0 A) 4 A (ZG D vwCl (wM kc ad) (fun _ tl => tl = []) A) q 19 [(0, .ref (ad 0)), (1, .int v1), (2, .int v2), (3, .int v3)] [.int s0, .int s1, .ref (ad 20)] := by
    intro q v1 v2 v3 s0 s1 hok hF
    have h19 := And.left hok
    have hok := And.right hok
    refine z_iast (f := (gA q 20)) (q' := (sA q 20 (upd (gA q 20) (s1 : Int32).toNatClampNeg s0))) S hK 20 0 (fun _ => rfl) rfl h19 dX11_flags_19 (wMa20 kc ad _ _) (fun _ h => h) ?_
    refine z_aload_n (j := 0) hx hb dX11_flags_20 rfl rfl ?_
    refine z_get (v := .ref (ad 20)) S hK inX11 0 (fun _ => rfl) rfl 47 (by decide) q6_144 rfl rfl dX11_flags_21 ?_
    refine z_bipush (v := 6) hx hb dX11_flags_24 (by decide) ?_
    refine z_iload_n (j := 1) hx hb dX11_flags_26 rfl rfl ?_
    refine z_iload_n (j := 2) hx hb dX11_flags_27 rfl rfl ?_
    refine z_iload_n (j := 3) hx hb dX11_flags_28 rfl rfl ?_
    have h29 := And.left hok
    have hok := And.right hok
    refine z_callSi (As := [.int v1, .int v2, .int v3]) S (ctX11_carry l D kc ad (sA q 20 (upd (gA q 20) (s1 : Int32).toNatClampNeg s0)) v1 v2 v3 h29) (va_cwS 3 S.2.2.2.2 (gS q7_164 q7_165 q1_12 q7_166) rfl rfl rfl hX11_carry ⟨Nat.le_of_ble_eq_true rfl, Nat.le_of_ble_eq_true rfl⟩) hA (pbM D kc) (psM hK) rfl rfl (Nat.le_of_ble_eq_true rfl) dX11_flags_29 ⟨Nat.le_of_ble_eq_true rfl, Nat.le_of_ble_eq_true rfl⟩ ?_
    refine z_sub [] rfl ?_
    exact b32 (fX11_carry (sA q 20 (upd (gA q 20) (s1 : Int32).toNatClampNeg s0)) v1 v2 v3).2 (fX11_carry (sA q 20 (upd (gA q 20) (s1 : Int32).toNatClampNeg s0)) v1 v2 v3).1 6 hok hF
  have b11 : ∀ (q : SS) (v1 : Int32) (v2 : Int32) (v3 : Int32) (s0 : Int32) (s1 : Int32), kX11_flags_11 q v1 v2 v3 s0 s1 → F = fX11_flags_11 q v1 v2 v3 s0 s1 → Z p l e (zr 1 0 0) s m args below meth c 0 0 (MQ below (va_Qv (fun (_ : Unit) => True) (fun _ t => (GM D kc ad) A F t.heap) A) args s 0 0 A) 4 A (ZG D vwCl (wM kc ad) (fun _ tl => tl = []) A) q 11 [(0, .ref (ad 0)), (1, .int v1), (2, .int v2), (3, .int v3)] [.int s0, .int s1, .ref (ad 20)] := by
    intro q v1 v2 v3 s0 s1 hok hF
    refine z_if_ne (tgt := 18) hx hb dX11_flags_11 (by decide) (fun g11 => ?_) (fun g11 => ?_)
    · have hF := hF.trans (if_neg g11)
      have hok := And.right hok g11
      refine z_iconst (v := 0) hx hb dX11_flags_18 (by decide) ?_
      exact b19 q v1 v2 v3 0 s1 hok hF
    · have hF := hF.trans (if_pos g11)
      have hok := And.left hok g11
      refine z_iconst (v := 1) hx hb dX11_flags_14 (by decide) ?_
      refine z_goto (tgt := 19) hx hb dX11_flags_15 (by decide) ?_
      exact b19 q v1 v2 v3 1 s1 hok hF
  refine z_aload_n (j := 0) hx hb dX11_flags_0 rfl rfl ?_
  refine z_get (v := .ref (ad 20)) S hK inX11 0 (fun _ => rfl) rfl 47 (by decide) q6_144 rfl rfl dX11_flags_1 ?_
  refine z_iconst (v := 5) hx hb dX11_flags_4 (by decide) ?_
  refine z_iload_n (j := 1) hx hb dX11_flags_5 rfl rfl ?_
  refine z_iload_n (j := 2) hx hb dX11_flags_6 rfl rfl ?_
  refine z_iload_n (j := 3) hx hb dX11_flags_7 rfl rfl ?_
  have h8 := And.left hok
  have hok := And.right hok
  refine z_callSi (As := [.int v1, .int v2, .int v3]) S (ctX11_combined l D kc ad q v1 v2 v3 h8) (va_cwS 3 S.2.2.2.2 (gS q7_133 q7_134 q1_12 q7_135) rfl rfl rfl hX11_combined ⟨Nat.le_of_ble_eq_true rfl, Nat.le_of_ble_eq_true rfl⟩) hA (pbM D kc) (psM hK) rfl rfl (Nat.le_of_ble_eq_true rfl) dX11_flags_8 ⟨Nat.le_of_ble_eq_true rfl, Nat.le_of_ble_eq_true rfl⟩ ?_
  exact b11 (fX11_combined q v1 v2 v3).2 v1 v2 v3 (fX11_combined q v1 v2 v3).1 5 hok hF
theorem hX11_flags : yX11_flags.cls = RX11 ∧ yX11_flags.cls ≠ "java/lang/invoke/MethodHandle" ∧ yX11_flags.cls ≠ "java/lang/invoke/VarHandle" ∧ (parseMethodDescriptor yX11_flags.desc).map (fun d => d.parameters.length) = some 3 := by decide +kernel
def fX11_defines__310 (q : SS) : SS := q
def kX11_defines__310 (q : SS) : Prop := True
def fX11_defines__293 (q : SS) (v1 : Int32) (v4 : Int32) : SS := (if v1 = 15 then fX11_defines__310 (sA q 20 (upd (gA q 20) (8 : Int32).toNatClampNeg (v4 - v4 / 2 * 2))) else fX11_defines__310 q)
def kX11_defines__293 (q : SS) (v1 : Int32) (v4 : Int32) : Prop := ((v1 = 15 → kX11_defines__310 (sA q 20 (upd (gA q 20) (8 : Int32).toNatClampNeg (v4 - v4 / 2 * 2)))) ∧ (¬ v1 = 15 → kX11_defines__310 q))
def fX11_defines__266 (q : SS) (v1 : Int32) (v4 : Int32) : SS := (if v1 = 14 then fX11_defines__293 (sA (sA q 20 (upd (gA q 20) (4 : Int32).toNatClampNeg ((gA q 20) (9 : Int32).toNatClampNeg))) 20 (upd (upd (gA q 20) (4 : Int32).toNatClampNeg ((gA q 20) (9 : Int32).toNatClampNeg)) (8 : Int32).toNatClampNeg 1)) v1 v4 else fX11_defines__293 q v1 v4)
def kX11_defines__266 (q : SS) (v1 : Int32) (v4 : Int32) : Prop := ((v1 = 14 → kX11_defines__293 (sA (sA q 20 (upd (gA q 20) (4 : Int32).toNatClampNeg ((gA q 20) (9 : Int32).toNatClampNeg))) 20 (upd (upd (gA q 20) (4 : Int32).toNatClampNeg ((gA q 20) (9 : Int32).toNatClampNeg)) (8 : Int32).toNatClampNeg 1)) v1 v4) ∧ (¬ v1 = 14 → kX11_defines__293 q v1 v4))
def fX11_defines__244 (q : SS) (v1 : Int32) (v4 : Int32) : SS := (if v1 = 13 then fX11_defines__266 (sA q 20 (upd (gA q 20) (7 : Int32).toNatClampNeg (1 - ((gA q 20) (7 : Int32).toNatClampNeg)))) v1 v4 else fX11_defines__266 q v1 v4)
def kX11_defines__244 (q : SS) (v1 : Int32) (v4 : Int32) : Prop := ((v1 = 13 → kX11_defines__266 (sA q 20 (upd (gA q 20) (7 : Int32).toNatClampNeg (1 - ((gA q 20) (7 : Int32).toNatClampNeg)))) v1 v4) ∧ (¬ v1 = 13 → kX11_defines__266 q v1 v4))
def fX11_defines__204 (q : SS) (v1 : Int32) (v2 : Int32) (v3 : Int32) (v4 : Int32) (v5 : Int32) : SS := (if v1 = 12 then fX11_defines__244 (sA (sA q 20 (upd (gA q 20) (v2 : Int32).toNatClampNeg ((gA q 21) ((v5 - v5 / 64 * 64) : Int32).toNatClampNeg))) 20 (upd (upd (gA q 20) (v2 : Int32).toNatClampNeg ((gA q 21) ((v5 - v5 / 64 * 64) : Int32).toNatClampNeg)) (v3 : Int32).toNatClampNeg ((((upd (gA q 20) (v2 : Int32).toNatClampNeg ((gA q 21) ((v5 - v5 / 64 * 64) : Int32).toNatClampNeg)) (v3 : Int32).toNatClampNeg) + 1) - (((upd (gA q 20) (v2 : Int32).toNatClampNeg ((gA q 21) ((v5 - v5 / 64 * 64) : Int32).toNatClampNeg)) (v3 : Int32).toNatClampNeg) + 1) / 256 * 256))) v1 v4 else fX11_defines__244 q v1 v4)
def kX11_defines__204 (q : SS) (v1 : Int32) (v2 : Int32) (v3 : Int32) (v4 : Int32) (v5 : Int32) : Prop := ((v1 = 12 → vp_in (v5 - v5 / 64 * 64) 64 ∧ vp_in v2 16 ∧ vp_in v3 16 ∧ vp_in v3 16 ∧ kX11_defines__244 (sA (sA q 20 (upd (gA q 20) (v2 : Int32).toNatClampNeg ((gA q 21) ((v5 - v5 / 64 * 64) : Int32).toNatClampNeg))) 20 (upd (upd (gA q 20) (v2 : Int32).toNatClampNeg ((gA q 21) ((v5 - v5 / 64 * 64) : Int32).toNatClampNeg)) (v3 : Int32).toNatClampNeg ((((upd (gA q 20) (v2 : Int32).toNatClampNeg ((gA q 21) ((v5 - v5 / 64 * 64) : Int32).toNatClampNeg)) (v3 : Int32).toNatClampNeg) + 1) - (((upd (gA q 20) (v2 : Int32).toNatClampNeg ((gA q 21) ((v5 - v5 / 64 * 64) : Int32).toNatClampNeg)) (v3 : Int32).toNatClampNeg) + 1) / 256 * 256))) v1 v4) ∧ (¬ v1 = 12 → kX11_defines__244 q v1 v4))
def fX11_defines__193 (q : SS) (v1 : Int32) (v2 : Int32) (v3 : Int32) (v4 : Int32) (v5 : Int32) (v6 : Int32) : SS := fX11_defines__204 (sA q 20 (upd (gA q 20) (4 : Int32).toNatClampNeg (v6 - v6 / 64 * 64))) v1 v2 v3 v4 v5
def kX11_defines__193 (q : SS) (v1 : Int32) (v2 : Int32) (v3 : Int32) (v4 : Int32) (v5 : Int32) (v6 : Int32) : Prop := kX11_defines__204 (sA q 20 (upd (gA q 20) (4 : Int32).toNatClampNeg (v6 - v6 / 64 * 64))) v1 v2 v3 v4 v5
def fX11_defines__188 (q : SS) (v1 : Int32) (v2 : Int32) (v3 : Int32) (v4 : Int32) (v5 : Int32) (v6 : Int32) (s0 : Int32) : SS := (if ((gA q 20) (s0 : Int32).toNatClampNeg) = 1 then fX11_defines__193 q v1 v2 v3 v4 v5 v6 else fX11_defines__204 q v1 v2 v3 v4 v5)
def kX11_defines__188 (q : SS) (v1 : Int32) (v2 : Int32) (v3 : Int32) (v4 : Int32) (v5 : Int32) (v6 : Int32) (s0 : Int32) : Prop := vp_in s0 16 ∧ ((((gA q 20) (s0 : Int32).toNatClampNeg) = 1 → kX11_defines__193 q v1 v2 v3 v4 v5 v6) ∧ (¬ ((gA q 20) (s0 : Int32).toNatClampNeg) = 1 → kX11_defines__204 q v1 v2 v3 v4 v5))
def fX11_defines__164 (q : SS) (v1 : Int32) (v2 : Int32) (v3 : Int32) (v4 : Int32) (v5 : Int32) (s0 : Int32) : SS := (if v1 = 11 then fX11_defines__193 q v1 v2 v3 v4 v5 s0 else (if v1 = 9 then fX11_defines__188 q v1 v2 v3 v4 v5 s0 5 else fX11_defines__188 q v1 v2 v3 v4 v5 s0 6))
def kX11_defines__164 (q : SS) (v1 : Int32) (v2 : Int32) (v3 : Int32) (v4 : Int32) (v5 : Int32) (s0 : Int32) : Prop := ((v1 = 11 → kX11_defines__193 q v1 v2 v3 v4 v5 s0) ∧ (¬ v1 = 11 → ((v1 = 9 → kX11_defines__188 q v1 v2 v3 v4 v5 s0 5) ∧ (¬ v1 = 9 → kX11_defines__188 q v1 v2 v3 v4 v5 s0 6))))
def fX11_defines__148 (q : SS) (v1 : Int32) (v2 : Int32) (v3 : Int32) (v4 : Int32) (v5 : Int32) : SS := (if v1 < 9 then fX11_defines__204 q v1 v2 v3 v4 v5 else (if 11 < v1 then fX11_defines__204 q v1 v2 v3 v4 v5 else fX11_defines__164 (fX11_takes q).2 v1 v2 v3 v4 v5 (fX11_takes q).1))
def kX11_defines__148 (q : SS) (v1 : Int32) (v2 : Int32) (v3 : Int32) (v4 : Int32) (v5 : Int32) : Prop := ((v1 < 9 → kX11_defines__204 q v1 v2 v3 v4 v5) ∧ (¬ v1 < 9 → ((11 < v1 → kX11_defines__204 q v1 v2 v3 v4 v5) ∧ (¬ 11 < v1 → kX11_takes q ∧ kX11_defines__164 (fX11_takes q).2 v1 v2 v3 v4 v5 (fX11_takes q).1))))
def fX11_defines__130 (q : SS) (v1 : Int32) (v2 : Int32) (v3 : Int32) (v4 : Int32) (v5 : Int32) : SS := (if v1 = 8 then fX11_defines__148 (sA q 21 (upd (gA q 21) ((v5 - v5 / 64 * 64) : Int32).toNatClampNeg v4)) v1 v2 v3 v4 v5 else fX11_defines__148 q v1 v2 v3 v4 v5)
def kX11_defines__130 (q : SS) (v1 : Int32) (v2 : Int32) (v3 : Int32) (v4 : Int32) (v5 : Int32) : Prop := ((v1 = 8 → vp_in (v5 - v5 / 64 * 64) 64 ∧ kX11_defines__148 (sA q 21 (upd (gA q 21) ((v5 - v5 / 64 * 64) : Int32).toNatClampNeg v4)) v1 v2 v3 v4 v5) ∧ (¬ v1 = 8 → kX11_defines__148 q v1 v2 v3 v4 v5))
def fX11_defines__108 (q : SS) (v1 : Int32) (v2 : Int32) (v3 : Int32) (v4 : Int32) (v5 : Int32) : SS := (if v1 = 7 then fX11_defines__130 (sA q 20 (upd (gA q 20) (v2 : Int32).toNatClampNeg ((gA q 21) ((v5 - v5 / 64 * 64) : Int32).toNatClampNeg))) v1 v2 v3 v4 v5 else fX11_defines__130 q v1 v2 v3 v4 v5)
def kX11_defines__108 (q : SS) (v1 : Int32) (v2 : Int32) (v3 : Int32) (v4 : Int32) (v5 : Int32) : Prop := ((v1 = 7 → vp_in (v5 - v5 / 64 * 64) 64 ∧ vp_in v2 16 ∧ kX11_defines__130 (sA q 20 (upd (gA q 20) (v2 : Int32).toNatClampNeg ((gA q 21) ((v5 - v5 / 64 * 64) : Int32).toNatClampNeg))) v1 v2 v3 v4 v5) ∧ (¬ v1 = 7 → kX11_defines__130 q v1 v2 v3 v4 v5))
def fX11_defines__107 (q : SS) (v1 : Int32) (v2 : Int32) (v3 : Int32) (v4 : Int32) (v5 : Int32) (s0 : Int32) (s1 : Int32) : SS := fX11_defines__108 (sA q 20 (upd (gA q 20) (s1 : Int32).toNatClampNeg s0)) v1 v2 v3 v4 v5
def kX11_defines__107 (q : SS) (v1 : Int32) (v2 : Int32) (v3 : Int32) (v4 : Int32) (v5 : Int32) (s0 : Int32) (s1 : Int32) : Prop := vp_in s1 16 ∧ kX11_defines__108 (sA q 20 (upd (gA q 20) (s1 : Int32).toNatClampNeg s0)) v1 v2 v3 v4 v5
def fX11_defines__92 (q : SS) (v1 : Int32) (v2 : Int32) (v3 : Int32) (v4 : Int32) (v5 : Int32) : SS := (if v1 = 6 then fX11_defines__107 (fX11_takes q).2 v1 v2 v3 v4 v5 (fX11_takes q).1 v2 else fX11_defines__108 q v1 v2 v3 v4 v5)
def kX11_defines__92 (q : SS) (v1 : Int32) (v2 : Int32) (v3 : Int32) (v4 : Int32) (v5 : Int32) : Prop := ((v1 = 6 → kX11_takes q ∧ kX11_defines__107 (fX11_takes q).2 v1 v2 v3 v4 v5 (fX11_takes q).1 v2) ∧ (¬ v1 = 6 → kX11_defines__108 q v1 v2 v3 v4 v5))
def fX11_defines__91 (q : SS) (v1 : Int32) (v2 : Int32) (v3 : Int32) (v4 : Int32) (v5 : Int32) (s0 : Int32) (s1 : Int32) : SS := fX11_defines__92 (sA q 20 (upd (gA q 20) (s1 : Int32).toNatClampNeg s0)) v1 v2 v3 v4 v5
def kX11_defines__91 (q : SS) (v1 : Int32) (v2 : Int32) (v3 : Int32) (v4 : Int32) (v5 : Int32) (s0 : Int32) (s1 : Int32) : Prop := vp_in s1 16 ∧ kX11_defines__92 (sA q 20 (upd (gA q 20) (s1 : Int32).toNatClampNeg s0)) v1 v2 v3 v4 v5
def fX11_defines__79 (q : SS) (v1 : Int32) (v2 : Int32) (v3 : Int32) (v4 : Int32) (v5 : Int32) : SS := fX11_defines__91 (fX11_combined q 5 0 v4).2 v1 v2 v3 v4 v5 (fX11_combined q 5 0 v4).1 v2
def kX11_defines__79 (q : SS) (v1 : Int32) (v2 : Int32) (v3 : Int32) (v4 : Int32) (v5 : Int32) : Prop := kX11_combined q 5 0 v4 ∧ kX11_defines__91 (fX11_combined q 5 0 v4).2 v1 v2 v3 v4 v5 (fX11_combined q 5 0 v4).1 v2
def fX11_defines__66 (q : SS) (v1 : Int32) (v2 : Int32) (v3 : Int32) (v4 : Int32) (v5 : Int32) : SS := (if v1 = 5 then fX11_defines__79 (fX11_flags q 5 0 v4) v1 v2 v3 v4 v5 else fX11_defines__92 q v1 v2 v3 v4 v5)
def kX11_defines__66 (q : SS) (v1 : Int32) (v2 : Int32) (v3 : Int32) (v4 : Int32) (v5 : Int32) : Prop := ((v1 = 5 → kX11_flags q 5 0 v4 ∧ kX11_defines__79 (fX11_flags q 5 0 v4) v1 v2 v3 v4 v5) ∧ (¬ v1 = 5 → kX11_defines__92 q v1 v2 v3 v4 v5))
def fX11_defines__65 (q : SS) (v1 : Int32) (v2 : Int32) (v3 : Int32) (v4 : Int32) (v5 : Int32) (s0 : Int32) (s1 : Int32) : SS := fX11_defines__66 (sA q 20 (upd (gA q 20) (s1 : Int32).toNatClampNeg s0)) v1 v2 v3 v4 v5
def kX11_defines__65 (q : SS) (v1 : Int32) (v2 : Int32) (v3 : Int32) (v4 : Int32) (v5 : Int32) (s0 : Int32) (s1 : Int32) : Prop := vp_in s1 16 ∧ kX11_defines__66 (sA q 20 (upd (gA q 20) (s1 : Int32).toNatClampNeg s0)) v1 v2 v3 v4 v5
def fX11_defines__50 (q : SS) (v1 : Int32) (v2 : Int32) (v3 : Int32) (v4 : Int32) (v5 : Int32) : SS := fX11_defines__65 (fX11_combined q (v1 - 1) v4 v5).2 v1 v2 v3 v4 v5 (fX11_combined q (v1 - 1) v4 v5).1 v2
def kX11_defines__50 (q : SS) (v1 : Int32) (v2 : Int32) (v3 : Int32) (v4 : Int32) (v5 : Int32) : Prop := kX11_combined q (v1 - 1) v4 v5 ∧ kX11_defines__65 (fX11_combined q (v1 - 1) v4 v5).2 v1 v2 v3 v4 v5 (fX11_combined q (v1 - 1) v4 v5).1 v2
def fX11_defines__29 (q : SS) (v1 : Int32) (v2 : Int32) (v3 : Int32) (v4 : Int32) (v5 : Int32) : SS := (if v1 < 2 then fX11_defines__66 q v1 v2 v3 v4 v5 else (if 4 < v1 then fX11_defines__66 q v1 v2 v3 v4 v5 else fX11_defines__50 (fX11_flags q (v1 - 1) v4 v5) v1 v2 v3 v4 v5))
def kX11_defines__29 (q : SS) (v1 : Int32) (v2 : Int32) (v3 : Int32) (v4 : Int32) (v5 : Int32) : Prop := ((v1 < 2 → kX11_defines__66 q v1 v2 v3 v4 v5) ∧ (¬ v1 < 2 → ((4 < v1 → kX11_defines__66 q v1 v2 v3 v4 v5) ∧ (¬ 4 < v1 → kX11_flags q (v1 - 1) v4 v5 ∧ kX11_defines__50 (fX11_flags q (v1 - 1) v4 v5) v1 v2 v3 v4 v5))))
def fX11_defines_ (q : SS) (v1 : Int32) (v2 : Int32) (v3 : Int32) : SS := (if v1 = 1 then fX11_defines__29 (sA q 20 (upd (gA q 20) (v2 : Int32).toNatClampNeg ((gA q 20) (v3 : Int32).toNatClampNeg))) v1 v2 v3 ((gA q 20) (v2 : Int32).toNatClampNeg) ((gA q 20) (v3 : Int32).toNatClampNeg) else fX11_defines__29 q v1 v2 v3 ((gA q 20) (v2 : Int32).toNatClampNeg) ((gA q 20) (v3 : Int32).toNatClampNeg))
def kX11_defines_ (q : SS) (v1 : Int32) (v2 : Int32) (v3 : Int32) : Prop := vp_in v2 16 ∧ vp_in v3 16 ∧ ((v1 = 1 → vp_in v2 16 ∧ kX11_defines__29 (sA q 20 (upd (gA q 20) (v2 : Int32).toNatClampNeg ((gA q 20) (v3 : Int32).toNatClampNeg))) v1 v2 v3 ((gA q 20) (v2 : Int32).toNatClampNeg) ((gA q 20) (v3 : Int32).toNatClampNeg)) ∧ (¬ v1 = 1 → kX11_defines__29 q v1 v2 v3 ((gA q 20) (v2 : Int32).toNatClampNeg) ((gA q 20) (v3 : Int32).toNatClampNeg)))
set_option maxHeartbeats 4000000 in
set_option maxRecDepth 100000 in
theorem ctX11_defines_ (l : Launch) (D : va_G) (kc : Nat → ClassId) (ad : Nat → Nat) (q : SS) (v1 : Int32) (v2 : Int32) (v3 : Int32) (hok : kX11_defines_ q v1 v2 v3) : Cv l yX11_defines_ (Cond.code yX11_defines_ cX11_defines_ 7 none :: lw_G) (zr 2 0 0) 0 0 (PM D kc) (GM D kc ad) (GM D kc ad) [.ref (ad 0), .int v1, .int v2, .int v3] q (fX11_defines_ q v1 v2 v3) := by
  refine Cv.of (cc := cX11_defines_) (maxL := 7) (ret := none) (by decide) rfl (Nat.le_of_ble_eq_true rfl) ?_
  intro p e s m args below meth c A S hr hlocks hin hA hK
  have hx := S.1
  have hb := S.2.1
  have hK : va_K D vwCl (tysK kc) s := hK
  generalize hFe : fX11_defines_ q v1 v2 v3 = F
  have hF : F = fX11_defines_ q v1 v2 v3 := hFe.symm
  have b310 : ∀ (q : SS), kX11_defines__310 q → F = fX11_defines__310 q → Z p l e (zr 2 0 0) s m args below meth c 0 0 (MQ below (va_Qv (fun (_ : Unit) => True) (fun _ t => (GM D kc ad) A F t.heap) A) args s 0 0 A) 7 A (ZG D vwCl (wM kc ad) (fun _ tl => tl = []) A) q 310 [] [] := by
    intro q hok hF
    exact z_vret hx hb hlocks hr hF dX11_defines__310
  have b293 : ∀ (q : SS) (v1 : Int32) (v4 : Int32), kX11_defines__293 q v1 v4 → F = fX11_defines__293 q v1 v4 → Z p l e (zr 2 0 0) s m args below meth c 0 0 (MQ below (va_Qv (fun (_ : Unit) => True) (fun _ t => (GM D kc ad) A F t.heap) A) args s 0 0 A) 7 A (ZG D vwCl (wM kc ad) (fun _ tl => tl = []) A) q 293 [(0, .ref (ad 0)), (1, .int v1), (4, .int v4)] [] := by
    intro q v1 v4 hok hF
    refine z_iload_n (j := 1) hx hb dX11_defines__293 rfl rfl ?_
    refine z_bipush (v := 15) hx hb dX11_defines__294 (by decide) ?_
    refine z_icmp_ne (tgt := 310) hx hb dX11_defines__296 (by decide) (fun g296 => ?_) (fun g296 => ?_)
    · have hF := hF.trans (if_neg g296)
      have hok := And.right hok g296
      refine z_sub [] rfl ?_
      exact b310 q hok hF
    · have hF := hF.trans (if_pos g296)
      have hok := And.left hok g296
      refine z_aload_n (j := 0) hx hb dX11_defines__299 rfl rfl ?_
      refine z_get (v := .ref (ad 20)) S hK inX11 0 (fun _ => rfl) rfl 47 (by decide) q6_144 rfl rfl dX11_defines__300 ?_
      refine z_bipush (v := 8) hx hb dX11_defines__303 (by decide) ?_
      refine z_iload (j := 2) hx hb dX11_defines__305 rfl ?_
      refine z_iconst (v := 2) hx hb dX11_defines__307 (by decide) ?_
      refine z_irem hx hb dX11_defines__308 (by decide) ?_
      refine z_iast (f := (gA q 20)) (q' := (sA q 20 (upd (gA q 20) (8 : Int32).toNatClampNeg (v4 - v4 / 2 * 2)))) S hK 20 0 (fun _ => rfl) rfl (show ¬ (_ ∨ _) from by decide) dX11_defines__309 (wMa20 kc ad _ _) (fun _ h => h) ?_
      refine z_sub [] rfl ?_
      exact b310 (sA q 20 (upd (gA q 20) (8 : Int32).toNatClampNeg (v4 - v4 / 2 * 2))) hok hF
  have b266 : ∀ (q : SS) (v1 : Int32) (v4 : Int32), kX11_defines__266 q v1 v4 → F = fX11_defines__266 q v1 v4 → Z p l e (zr 2 0 0) s m args below meth c 0 0 (MQ below (va_Qv (fun (_ : Unit) => True) (fun _ t => (GM D kc ad) A F t.heap) A) args s 0 0 A) 7 A (ZG D vwCl (wM kc ad) (fun _ tl => tl = []) A) q 266 [(0, .ref (ad 0)), (1, .int v1), (4, .int v4)] [] := by
    intro q v1 v4 hok hF
    refine z_iload_n (j := 1) hx hb dX11_defines__266 rfl rfl ?_
    refine z_bipush (v := 14) hx hb dX11_defines__267 (by decide) ?_
    refine z_icmp_ne (tgt := 293) hx hb dX11_defines__269 (by decide) (fun g269 => ?_) (fun g269 => ?_)
    · have hF := hF.trans (if_neg g269)
      have hok := And.right hok g269
      exact b293 q v1 v4 hok hF
    · have hF := hF.trans (if_pos g269)
      have hok := And.left hok g269
      refine z_aload_n (j := 0) hx hb dX11_defines__272 rfl rfl ?_
      refine z_get (v := .ref (ad 20)) S hK inX11 0 (fun _ => rfl) rfl 47 (by decide) q6_144 rfl rfl dX11_defines__273 ?_
      refine z_iconst (v := 4) hx hb dX11_defines__276 (by decide) ?_
      refine z_aload_n (j := 0) hx hb dX11_defines__277 rfl rfl ?_
      refine z_get (v := .ref (ad 20)) S hK inX11 0 (fun _ => rfl) rfl 47 (by decide) q6_144 rfl rfl dX11_defines__278 ?_
      refine z_bipush (v := 9) hx hb dX11_defines__281 (by decide) ?_
      refine z_iald (f := (gA q 20)) S hK 20 0 (fun _ => rfl) rfl (show ¬ (_ ∨ _) from by decide) dX11_defines__283 ?_
      refine z_iast (f := (gA q 20)) (q' := (sA q 20 (upd (gA q 20) (4 : Int32).toNatClampNeg ((gA q 20) (9 : Int32).toNatClampNeg)))) S hK 20 0 (fun _ => rfl) rfl (show ¬ (_ ∨ _) from by decide) dX11_defines__284 (wMa20 kc ad _ _) (fun _ h => h) ?_
      refine z_aload_n (j := 0) hx hb dX11_defines__285 rfl rfl ?_
      refine z_get (v := .ref (ad 20)) S hK inX11 0 (fun _ => rfl) rfl 47 (by decide) q6_144 rfl rfl dX11_defines__286 ?_
      refine z_bipush (v := 8) hx hb dX11_defines__289 (by decide) ?_
      refine z_iconst (v := 1) hx hb dX11_defines__291 (by decide) ?_
      refine z_iast (f := (upd (gA q 20) (4 : Int32).toNatClampNeg ((gA q 20) (9 : Int32).toNatClampNeg))) (q' := (sA (sA q 20 (upd (gA q 20) (4 : Int32).toNatClampNeg ((gA q 20) (9 : Int32).toNatClampNeg))) 20 (upd (upd (gA q 20) (4 : Int32).toNatClampNeg ((gA q 20) (9 : Int32).toNatClampNeg)) (8 : Int32).toNatClampNeg 1))) S hK 20 0 (fun _ => rfl) rfl (show ¬ (_ ∨ _) from by decide) dX11_defines__292 (wMa20 kc ad _ _) (fun _ h => h) ?_
      exact b293 (sA (sA q 20 (upd (gA q 20) (4 : Int32).toNatClampNeg ((gA q 20) (9 : Int32).toNatClampNeg))) 20 (upd (upd (gA q 20) (4 : Int32).toNatClampNeg ((gA q 20) (9 : Int32).toNatClampNeg)) (8 : Int32).toNatClampNeg 1)) v1 v4 hok hF
  have b244 : ∀ (q : SS) (v1 : Int32) (v4 : Int32), kX11_defines__244 q v1 v4 → F = fX11_defines__244 q v1 v4 → Z p l e (zr 2 0 0) s m args below meth c 0 0 (MQ below (va_Qv (fun (_ : Unit) => True) (fun _ t => (GM D kc ad) A F t.heap) A) args s 0 0 A) 7 A (ZG D vwCl (wM kc ad) (fun _ tl => tl = []) A) q 244 [(0, .ref (ad 0)), (1, .int v1), (4, .int v4)] [] := by
    intro q v1 v4 hok hF
    refine z_iload_n (j := 1) hx hb dX11_defines__244 rfl rfl ?_
    refine z_bipush (v := 13) hx hb dX11_defines__245 (by decide) ?_
    refine z_icmp_ne (tgt := 266) hx hb dX11_defines__247 (by decide) (fun g247 => ?_) (fun g247 => ?_)
    · have hF := hF.trans (if_neg g247)
      have hok := And.right hok g247
      exact b266 q v1 v4 hok hF
    · have hF := hF.trans (if_pos g247)
      have hok := And.left hok g247
      refine z_aload_n (j := 0) hx hb dX11_defines__250 rfl rfl ?_
      refine z_get (v := .ref (ad 20)) S hK inX11 0 (fun _ => rfl) rfl 47 (by decide) q6_144 rfl rfl dX11_defines__251 ?_
      refine z_bipush (v := 7) hx hb dX11_defines__254 (by decide) ?_
      refine z_iconst (v := 1) hx hb dX11_defines__256 (by decide) ?_
      refine z_aload_n (j := 0) hx hb dX11_defines__257 rfl rfl ?_
      refine z_get (v := .ref (ad 20)) S hK inX11 0 (fun _ => rfl) rfl 47 (by decide) q6_144 rfl rfl dX11_defines__258 ?_
      refine z_bipush (v := 7) hx hb dX11_defines__261 (by decide) ?_
      refine z_iald (f := (gA q 20)) S hK 20 0 (fun _ => rfl) rfl (show ¬ (_ ∨ _) from by decide) dX11_defines__263 ?_
      refine z_isub hx hb dX11_defines__264 ?_
      refine z_iast (f := (gA q 20)) (q' := (sA q 20 (upd (gA q 20) (7 : Int32).toNatClampNeg (1 - ((gA q 20) (7 : Int32).toNatClampNeg))))) S hK 20 0 (fun _ => rfl) rfl (show ¬ (_ ∨ _) from by decide) dX11_defines__265 (wMa20 kc ad _ _) (fun _ h => h) ?_
      exact b266 (sA q 20 (upd (gA q 20) (7 : Int32).toNatClampNeg (1 - ((gA q 20) (7 : Int32).toNatClampNeg)))) v1 v4 hok hF
  have b204 : ∀ (q : SS) (v1 : Int32) (v2 : Int32) (v3 : Int32) (v4 : Int32) (v5 : Int32), kX11_defines__204 q v1 v2 v3 v4 v5 → F = fX11_defines__204 q v1 v2 v3 v4 v5 → Z p l e (zr 2 0 0) s m args below meth c 0 0 (MQ below (va_Qv (fun (_ : Unit) => True) (fun _ t => (GM D kc ad) A F t.heap) A) args s 0 0 A) 7 A (ZG D vwCl (wM kc ad) (fun _ tl => tl = []) A) q 204 [(0, .ref (ad 0)), (1, .int v1), (2, .int v2), (3, .int v3), (4, .int v4), (5, .int v5)] [] := by
    intro q v1 v2 v3 v4 v5 hok hF
    refine z_iload_n (j := 1) hx hb dX11_defines__204 rfl rfl ?_
    refine z_bipush (v := 12) hx hb dX11_defines__205 (by decide) ?_
    refine z_icmp_ne (tgt := 244) hx hb dX11_defines__207 (by decide) (fun g207 => ?_) (fun g207 => ?_)
    · have hF := hF.trans (if_neg g207)
      have hok := And.right hok g207
      refine z_sub [0, 1, 4] rfl ?_
      exact b244 q v1 v4 hok hF
    · have hF := hF.trans (if_pos g207)
      have hok := And.left hok g207
      refine z_aload_n (j := 0) hx hb dX11_defines__210 rfl rfl ?_
      refine z_get (v := .ref (ad 20)) S hK inX11 0 (fun _ => rfl) rfl 47 (by decide) q6_144 rfl rfl dX11_defines__211 ?_
      refine z_iload_n (j := 2) hx hb dX11_defines__214 rfl rfl ?_
      refine z_aload_n (j := 0) hx hb dX11_defines__215 rfl rfl ?_
      refine z_get (v := .ref (ad 21)) S hK inX11 0 (fun _ => rfl) rfl 48 (by decide) q6_145 rfl rfl dX11_defines__216 ?_
      refine z_iload (j := 5) hx hb dX11_defines__219 rfl ?_
      refine z_bipush (v := 64) hx hb dX11_defines__221 (by decide) ?_
      refine z_irem hx hb dX11_defines__223 (by decide) ?_
      have h224 := And.left hok
      have hok := And.right hok
      refine z_iald (f := (gA q 21)) S hK 21 0 (fun _ => rfl) rfl h224 dX11_defines__224 ?_
      have h225 := And.left hok
      have hok := And.right hok
      refine z_iast (f := (gA q 20)) (q' := (sA q 20 (upd (gA q 20) (v2 : Int32).toNatClampNeg ((gA q 21) ((v5 - v5 / 64 * 64) : Int32).toNatClampNeg)))) S hK 20 0 (fun _ => rfl) rfl h225 dX11_defines__225 (wMa20 kc ad _ _) (fun _ h => h) ?_
      refine z_aload_n (j := 0) hx hb dX11_defines__226 rfl rfl ?_
      refine z_get (v := .ref (ad 20)) S hK inX11 0 (fun _ => rfl) rfl 47 (by decide) q6_144 rfl rfl dX11_defines__227 ?_
      refine z_iload_n (j := 3) hx hb dX11_defines__230 rfl rfl ?_
      refine z_aload_n (j := 0) hx hb dX11_defines__231 rfl rfl ?_
      refine z_get (v := .ref (ad 20)) S hK inX11 0 (fun _ => rfl) rfl 47 (by decide) q6_144 rfl rfl dX11_defines__232 ?_
      refine z_iload_n (j := 3) hx hb dX11_defines__235 rfl rfl ?_
      have h236 := And.left hok
      have hok := And.right hok
      refine z_iald (f := (upd (gA q 20) (v2 : Int32).toNatClampNeg ((gA q 21) ((v5 - v5 / 64 * 64) : Int32).toNatClampNeg))) S hK 20 0 (fun _ => rfl) rfl h236 dX11_defines__236 ?_
      refine z_iconst (v := 1) hx hb dX11_defines__237 (by decide) ?_
      refine z_iadd hx hb dX11_defines__238 ?_
      refine z_sipush (v := 256) hx hb dX11_defines__239 (by decide) ?_
      refine z_irem hx hb dX11_defines__242 (by decide) ?_
      have h243 := And.left hok
      have hok := And.right hok
      refine z_iast (f := (upd (gA q 20) (v2 : Int32).toNatClampNeg ((gA q 21) ((v5 - v5 / 64 * 64) : Int32).toNatClampNeg))) (q' := (sA (sA q 20 (upd (gA q 20) (v2 : Int32).toNatClampNeg ((gA q 21) ((v5 - v5 / 64 * 64) : Int32).toNatClampNeg))) 20 (upd (upd (gA q 20) (v2 : Int32).toNatClampNeg ((gA q 21) ((v5 - v5 / 64 * 64) : Int32).toNatClampNeg)) (v3 : Int32).toNatClampNeg ((((upd (gA q 20) (v2 : Int32).toNatClampNeg ((gA q 21) ((v5 - v5 / 64 * 64) : Int32).toNatClampNeg)) (v3 : Int32).toNatClampNeg) + 1) - (((upd (gA q 20) (v2 : Int32).toNatClampNeg ((gA q 21) ((v5 - v5 / 64 * 64) : Int32).toNatClampNeg)) (v3 : Int32).toNatClampNeg) + 1) / 256 * 256)))) S hK 20 0 (fun _ => rfl) rfl h243 dX11_defines__243 (wMa20 kc ad _ _) (fun _ h => h) ?_
      refine z_sub [0, 1, 4] rfl ?_
      exact b244 (sA (sA q 20 (upd (gA q 20) (v2 : Int32).toNatClampNeg ((gA q 21) ((v5 - v5 / 64 * 64) : Int32).toNatClampNeg))) 20 (upd (upd (gA q 20) (v2 : Int32).toNatClampNeg ((gA q 21) ((v5 - v5 / 64 * 64) : Int32).toNatClampNeg)) (v3 : Int32).toNatClampNeg ((((upd (gA q 20) (v2 : Int32).toNatClampNeg ((gA q 21) ((v5 - v5 / 64 * 64) : Int32).toNatClampNeg)) (v3 : Int32).toNatClampNeg) + 1) - (((upd (gA q 20) (v2 : Int32).toNatClampNeg ((gA q 21) ((v5 - v5 / 64 * 64) : Int32).toNatClampNeg)) (v3 : Int32).toNatClampNeg) + 1) / 256 * 256))) v1 v4 hok hF
  have b193 : ∀ (q : SS) (v1 : Int32) (v2 : Int32) (v3 : Int32) (v4 : Int32) (v5 : Int32) (v6 : Int32), kX11_defines__193 q v1 v2 v3 v4 v5 v6 → F = fX11_defines__193 q v1 v2 v3 v4 v5 v6 → Z p l e (zr 2 0 0) s m args below meth c 0 0 (MQ below (va_Qv (fun (_ : Unit) => True) (fun _ t => (GM D kc ad) A F t.heap) A) args s 0 0 A) 7 A (ZG D vwCl (wM kc ad) (fun _ tl => tl = []) A) q 193 [(0, .ref (ad 0)), (1, .int v1), (2, .int v2), (3, .int v3), (4, .int v4), (5, .int v5), (6, .int v6)] [] := by
    intro q v1 v2 v3 v4 v5 v6 hok hF
    refine z_aload_n (j := 0) hx hb dX11_defines__193 rfl rfl ?_
    refine z_get (v := .ref (ad 20)) S hK inX11 0 (fun _ => rfl) rfl 47 (by decide) q6_144 rfl rfl dX11_defines__194 ?_
    refine z_iconst (v := 4) hx hb dX11_defines__197 (by decide) ?_
    refine z_iload (j := 6) hx hb dX11_defines__198 rfl ?_
    refine z_bipush (v := 64) hx hb dX11_defines__200 (by decide) ?_
    refine z_irem hx hb dX11_defines__202 (by decide) ?_
    refine z_iast (f := (gA q 20)) (q' := (sA q 20 (upd (gA q 20) (4 : Int32).toNatClampNeg (v6 - v6 / 64 * 64)))) S hK 20 0 (fun _ => rfl) rfl (show ¬ (_ ∨ _) from by decide) dX11_defines__203 (wMa20 kc ad _ _) (fun _ h => h) ?_
    refine z_sub [0, 1, 2, 3, 4, 5] rfl ?_
    exact b204 (sA q 20 (upd (gA q 20) (4 : Int32).toNatClampNeg (v6 - v6 / 64 * 64))) v1 v2 v3 v4 v5 hok hF
  have b188 : ∀ (q : SS) (v1 : Int32) (v2 : Int32) (v3 : Int32) (v4 : Int32) (v5 : Int32) (v6 : Int32) (s0 : Int32), kX11_defines__188 q v1 v2 v3 v4 v5 v6 s0 → F = fX11_defines__188 q v1 v2 v3 v4 v5 v6 s0 → Z p l e (zr 2 0 0) s m args below meth c 0 0 (MQ below (va_Qv (fun (_ : Unit) => True) (fun _ t => (GM D kc ad) A F t.heap) A) args s 0 0 A) 7 A (ZG D vwCl (wM kc ad) (fun _ tl => tl = []) A) q 188 [(0, .ref (ad 0)), (1, .int v1), (2, .int v2), (3, .int v3), (4, .int v4), (5, .int v5), (6, .int v6)] [.int s0, .ref (ad 20)] := by
    intro q v1 v2 v3 v4 v5 v6 s0 hok hF
    have h188 := And.left hok
    have hok := And.right hok
    refine z_iald (f := (gA q 20)) S hK 20 0 (fun _ => rfl) rfl h188 dX11_defines__188 ?_
    refine z_iconst (v := 1) hx hb dX11_defines__189 (by decide) ?_
    refine z_icmp_ne (tgt := 204) hx hb dX11_defines__190 (by decide) (fun g190 => ?_) (fun g190 => ?_)
    · have hF := hF.trans (if_neg g190)
      have hok := And.right hok g190
      refine z_sub [0, 1, 2, 3, 4, 5] rfl ?_
      exact b204 q v1 v2 v3 v4 v5 hok hF
    · have hF := hF.trans (if_pos g190)
      have hok := And.left hok g190
      exact b193 q v1 v2 v3 v4 v5 v6 hok hF
  have b164 : ∀ (q : SS) (v1 : Int32) (v2 : Int32) (v3 : Int32) (v4 : Int32) (v5 : Int32) (s0 : Int32), kX11_defines__164 q v1 v2 v3 v4 v5 s0 → F = fX11_defines__164 q v1 v2 v3 v4 v5 s0 → Z p l e (zr 2 0 0) s m args below meth c 0 0 (MQ below (va_Qv (fun (_ : Unit) => True) (fun _ t => (GM D kc ad) A F t.heap) A) args s 0 0 A) 7 A (ZG D vwCl (wM kc ad) (fun _ tl => tl = []) A) q 164 [(0, .ref (ad 0)), (1, .int v1), (2, .int v2), (3, .int v3), (4, .int v4), (5, .int v5)] [.int s0] := by
    intro q v1 v2 v3 v4 v5 s0 hok hF
    refine z_istore (lv' := [(6, .int s0), (0, .ref (ad 0)), (1, .int v1), (2, .int v2), (3, .int v3), (4, .int v4), (5, .int v5)]) hx hb dX11_defines__164 (by decide) rfl ?_
    refine z_iload_n (j := 2) hx hb dX11_defines__166 rfl rfl ?_
    refine z_bipush (v := 11) hx hb dX11_defines__167 (by decide) ?_
    refine z_icmp_eq (tgt := 193) hx hb dX11_defines__169 (by decide) (fun g169 => ?_) (fun g169 => ?_)
    · have hF := hF.trans (if_pos g169)
      have hok := And.left hok g169
      refine z_sub [1, 2, 3, 4, 5, 6, 0] rfl ?_
      exact b193 q v1 v2 v3 v4 v5 s0 hok hF
    · have hF := hF.trans (if_neg g169)
      have hok := And.right hok g169
      refine z_aload_n (j := 1) hx hb dX11_defines__172 rfl rfl ?_
      refine z_get (v := .ref (ad 20)) S hK inX11 0 (fun _ => rfl) rfl 47 (by decide) q6_144 rfl rfl dX11_defines__173 ?_
      refine z_iload_n (j := 2) hx hb dX11_defines__176 rfl rfl ?_
      refine z_bipush (v := 9) hx hb dX11_defines__177 (by decide) ?_
      refine z_icmp_ne (tgt := 186) hx hb dX11_defines__179 (by decide) (fun g179 => ?_) (fun g179 => ?_)
      · have hF := hF.trans (if_neg g179)
        have hok := And.right hok g179
        refine z_bipush (v := 6) hx hb dX11_defines__186 (by decide) ?_
        refine z_sub [1, 2, 3, 4, 5, 6, 0] rfl ?_
        exact b188 q v1 v2 v3 v4 v5 s0 6 hok hF
      · have hF := hF.trans (if_pos g179)
        have hok := And.left hok g179
        refine z_iconst (v := 5) hx hb dX11_defines__182 (by decide) ?_
        refine z_goto (tgt := 188) hx hb dX11_defines__183 (by decide) ?_
        refine z_sub [1, 2, 3, 4, 5, 6, 0] rfl ?_
        exact b188 q v1 v2 v3 v4 v5 s0 5 hok hF
  have b148 : ∀ (q : SS) (v1 : Int32) (v2 : Int32) (v3 : Int32) (v4 : Int32) (v5 : Int32), kX11_defines__148 q v1 v2 v3 v4 v5 → F = fX11_defines__148 q v1 v2 v3 v4 v5 → Z p l e (zr 2 0 0) s m args below meth c 0 0 (MQ below (va_Qv (fun (_ : Unit) => True) (fun _ t => (GM D kc ad) A F t.heap) A) args s 0 0 A) 7 A (ZG D vwCl (wM kc ad) (fun _ tl => tl = []) A) q 148 [(0, .ref (ad 0)), (1, .int v1), (2, .int v2), (3, .int v3), (4, .int v4), (5, .int v5)] [] := by
    intro q v1 v2 v3 v4 v5 hok hF
    refine z_iload_n (j := 1) hx hb dX11_defines__148 rfl rfl ?_
    refine z_bipush (v := 9) hx hb dX11_defines__149 (by decide) ?_
    refine z_icmp_lt (tgt := 204) hx hb dX11_defines__151 (by decide) (fun g151 => ?_) (fun g151 => ?_)
    · have hF := hF.trans (if_pos g151)
      have hok := And.left hok g151
      exact b204 q v1 v2 v3 v4 v5 hok hF
    · have hF := hF.trans (if_neg g151)
      have hok := And.right hok g151
      refine z_iload_n (j := 1) hx hb dX11_defines__154 rfl rfl ?_
      refine z_bipush (v := 11) hx hb dX11_defines__155 (by decide) ?_
      refine z_icmp_gt (tgt := 204) hx hb dX11_defines__157 (by decide) (fun g157 => ?_) (fun g157 => ?_)
      · have hF := hF.trans (if_pos g157)
        have hok := And.left hok g157
        exact b204 q v1 v2 v3 v4 v5 hok hF
      · have hF := hF.trans (if_neg g157)
        have hok := And.right hok g157
        refine z_aload_n (j := 0) hx hb dX11_defines__160 rfl rfl ?_
        have h161 := And.left hok
        have hok := And.right hok
        refine z_callVi (As := []) S (ctX11_takes l D kc ad q h161) (cwV 0 S.2.2.2.2 (gV q7_179 q7_181 qp3_11 q1_12 q7_182) rfl rfl rfl hX11_takes ⟨Nat.le_of_ble_eq_true rfl, Nat.le_of_ble_eq_true rfl⟩) hA (pbM D kc) (psM hK) (z_recv hK 0 (fun _ => rfl) rfl) rfl rfl (Nat.le_of_ble_eq_true rfl) dX11_defines__161 ⟨Nat.le_of_ble_eq_true rfl, Nat.le_of_ble_eq_true rfl⟩ ?_
        exact b164 (fX11_takes q).2 v1 v2 v3 v4 v5 (fX11_takes q).1 hok hF
  have b130 : ∀ (q : SS) (v1 : Int32) (v2 : Int32) (v3 : Int32) (v4 : Int32) (v5 : Int32), kX11_defines__130 q v1 v2 v3 v4 v5 → F = fX11_defines__130 q v1 v2 v3 v4 v5 → Z p l e (zr 2 0 0) s m args below meth c 0 0 (MQ below (va_Qv (fun (_ : Unit) => True) (fun _ t => (GM D kc ad) A F t.heap) A) args s 0 0 A) 7 A (ZG D vwCl (wM kc ad) (fun _ tl => tl = []) A) q 130 [(0, .ref (ad 0)), (1, .int v1), (2, .int v2), (3, .int v3), (4, .int v4), (5, .int v5)] [] := by
    intro q v1 v2 v3 v4 v5 hok hF
    refine z_iload_n (j := 1) hx hb dX11_defines__130 rfl rfl ?_
    refine z_bipush (v := 8) hx hb dX11_defines__131 (by decide) ?_
    refine z_icmp_ne (tgt := 148) hx hb dX11_defines__133 (by decide) (fun g133 => ?_) (fun g133 => ?_)
    · have hF := hF.trans (if_neg g133)
      have hok := And.right hok g133
      exact b148 q v1 v2 v3 v4 v5 hok hF
    · have hF := hF.trans (if_pos g133)
      have hok := And.left hok g133
      refine z_aload_n (j := 0) hx hb dX11_defines__136 rfl rfl ?_
      refine z_get (v := .ref (ad 21)) S hK inX11 0 (fun _ => rfl) rfl 48 (by decide) q6_145 rfl rfl dX11_defines__137 ?_
      refine z_iload (j := 5) hx hb dX11_defines__140 rfl ?_
      refine z_bipush (v := 64) hx hb dX11_defines__142 (by decide) ?_
      refine z_irem hx hb dX11_defines__144 (by decide) ?_
      refine z_iload (j := 4) hx hb dX11_defines__145 rfl ?_
      have h147 := And.left hok
      have hok := And.right hok
      refine z_iast (f := (gA q 21)) (q' := (sA q 21 (upd (gA q 21) ((v5 - v5 / 64 * 64) : Int32).toNatClampNeg v4))) S hK 21 0 (fun _ => rfl) rfl h147 dX11_defines__147 (wMa21 kc ad _ _) (fun _ h => h) ?_
      exact b148 (sA q 21 (upd (gA q 21) ((v5 - v5 / 64 * 64) : Int32).toNatClampNeg v4)) v1 v2 v3 v4 v5 hok hF
  have b108 : ∀ (q : SS) (v1 : Int32) (v2 : Int32) (v3 : Int32) (v4 : Int32) (v5 : Int32), kX11_defines__108 q v1 v2 v3 v4 v5 → F = fX11_defines__108 q v1 v2 v3 v4 v5 → Z p l e (zr 2 0 0) s m args below meth c 0 0 (MQ below (va_Qv (fun (_ : Unit) => True) (fun _ t => (GM D kc ad) A F t.heap) A) args s 0 0 A) 7 A (ZG D vwCl (wM kc ad) (fun _ tl => tl = []) A) q 108 [(0, .ref (ad 0)), (1, .int v1), (2, .int v2), (3, .int v3), (4, .int v4), (5, .int v5)] [] := by
    intro q v1 v2 v3 v4 v5 hok hF
    refine z_iload_n (j := 1) hx hb dX11_defines__108 rfl rfl ?_
    refine z_bipush (v := 7) hx hb dX11_defines__109 (by decide) ?_
    refine z_icmp_ne (tgt := 130) hx hb dX11_defines__111 (by decide) (fun g111 => ?_) (fun g111 => ?_)
    · have hF := hF.trans (if_neg g111)
      have hok := And.right hok g111
      exact b130 q v1 v2 v3 v4 v5 hok hF
    · have hF := hF.trans (if_pos g111)
      have hok := And.left hok g111
      refine z_aload_n (j := 0) hx hb dX11_defines__114 rfl rfl ?_
      refine z_get (v := .ref (ad 20)) S hK inX11 0 (fun _ => rfl) rfl 47 (by decide) q6_144 rfl rfl dX11_defines__115 ?_
      refine z_iload_n (j := 2) hx hb dX11_defines__118 rfl rfl ?_
      refine z_aload_n (j := 0) hx hb dX11_defines__119 rfl rfl ?_
      refine z_get (v := .ref (ad 21)) S hK inX11 0 (fun _ => rfl) rfl 48 (by decide) q6_145 rfl rfl dX11_defines__120 ?_
      refine z_iload (j := 5) hx hb dX11_defines__123 rfl ?_
      refine z_bipush (v := 64) hx hb dX11_defines__125 (by decide) ?_
      refine z_irem hx hb dX11_defines__127 (by decide) ?_
      have h128 := And.left hok
      have hok := And.right hok
      refine z_iald (f := (gA q 21)) S hK 21 0 (fun _ => rfl) rfl h128 dX11_defines__128 ?_
      have h129 := And.left hok
      have hok := And.right hok
      refine z_iast (f := (gA q 20)) (q' := (sA q 20 (upd (gA q 20) (v2 : Int32).toNatClampNeg ((gA q 21) ((v5 - v5 / 64 * 64) : Int32).toNatClampNeg)))) S hK 20 0 (fun _ => rfl) rfl h129 dX11_defines__129 (wMa20 kc ad _ _) (fun _ h => h) ?_
      exact b130 (sA q 20 (upd (gA q 20) (v2 : Int32).toNatClampNeg ((gA q 21) ((v5 - v5 / 64 * 64) : Int32).toNatClampNeg))) v1 v2 v3 v4 v5 hok hF
  have b107 : ∀ (q : SS) (v1 : Int32) (v2 : Int32) (v3 : Int32) (v4 : Int32) (v5 : Int32) (s0 : Int32) (s1 : Int32), kX11_defines__107 q v1 v2 v3 v4 v5 s0 s1 → F = fX11_defines__107 q v1 v2 v3 v4 v5 s0 s1 → Z p l e (zr 2 0 0) s m args below meth c 0 0 (MQ below (va_Qv (fun (_ : Unit) => True) (fun _ t => (GM D kc ad) A F t.heap) A) args s 0 0 A) 7 A (ZG D vwCl (wM kc ad) (fun _ tl => tl = []) A) q 107 [(0, .ref (ad 0)), (1, .int v1), (2, .int v2), (3, .int v3), (4, .int v4), (5, .int v5)] [.int s0, .int s1, .ref (ad 20)] := by
    intro q v1 v2 v3 v4 v5 s0 s1 hok hF
    have h107 := And.left hok
    have hok := And.right hok
    refine z_iast (f := (gA q 20)) (q' := (sA q 20 (upd (gA q 20) (s1 : Int32).toNatClampNeg s0))) S hK 20 0 (fun _ => rfl) rfl h107 dX11_defines__107 (wMa20 kc ad _ _) (fun _ h => h) ?_
    exact b108 (sA q 20 (upd (gA q 20) (s1 : Int32).toNatClampNeg s0)) v1 v2 v3 v4 v5 hok hF
  have b92 : ∀ (q : SS) (v1 : Int32) (v2 : Int32) (v3 : Int32) (v4 : Int32) (v5 : Int32), kX11_defines__92 q v1 v2 v3 v4 v5 → F = fX11_defines__92 q v1 v2 v3 v4 v5 → Z p l e (zr 2 0 0) s m args below meth c 0 0 (MQ below (va_Qv (fun (_ : Unit) => True) (fun _ t => (GM D kc ad) A F t.heap) A) args s 0 0 A) 7 A (ZG D vwCl (wM kc ad) (fun _ tl => tl = []) A) q 92 [(0, .ref (ad 0)), (1, .int v1), (2, .int v2), (3, .int v3), (4, .int v4), (5, .int v5)] [] := by
    intro q v1 v2 v3 v4 v5 hok hF
    refine z_iload_n (j := 1) hx hb dX11_defines__92 rfl rfl ?_
    refine z_bipush (v := 6) hx hb dX11_defines__93 (by decide) ?_
    refine z_icmp_ne (tgt := 108) hx hb dX11_defines__95 (by decide) (fun g95 => ?_) (fun g95 => ?_)
    · have hF := hF.trans (if_neg g95)
      have hok := And.right hok g95
      exact b108 q v1 v2 v3 v4 v5 hok hF
    · have hF := hF.trans (if_pos g95)
      have hok := And.left hok g95
      refine z_aload_n (j := 0) hx hb dX11_defines__98 rfl rfl ?_
      refine z_get (v := .ref (ad 20)) S hK inX11 0 (fun _ => rfl) rfl 47 (by decide) q6_144 rfl rfl dX11_defines__99 ?_
      refine z_iload_n (j := 2) hx hb dX11_defines__102 rfl rfl ?_
      refine z_aload_n (j := 0) hx hb dX11_defines__103 rfl rfl ?_
      have h104 := And.left hok
      have hok := And.right hok
      refine z_callVi (As := []) S (ctX11_takes l D kc ad q h104) (cwV 0 S.2.2.2.2 (gV q7_179 q7_181 qp3_11 q1_12 q7_182) rfl rfl rfl hX11_takes ⟨Nat.le_of_ble_eq_true rfl, Nat.le_of_ble_eq_true rfl⟩) hA (pbM D kc) (psM hK) (z_recv hK 0 (fun _ => rfl) rfl) rfl rfl (Nat.le_of_ble_eq_true rfl) dX11_defines__104 ⟨Nat.le_of_ble_eq_true rfl, Nat.le_of_ble_eq_true rfl⟩ ?_
      exact b107 (fX11_takes q).2 v1 v2 v3 v4 v5 (fX11_takes q).1 v2 hok hF
  have b91 : ∀ (q : SS) (v1 : Int32) (v2 : Int32) (v3 : Int32) (v4 : Int32) (v5 : Int32) (s0 : Int32) (s1 : Int32), kX11_defines__91 q v1 v2 v3 v4 v5 s0 s1 → F = fX11_defines__91 q v1 v2 v3 v4 v5 s0 s1 → Z p l e (zr 2 0 0) s m args below meth c 0 0 (MQ below (va_Qv (fun (_ : Unit) => True) (fun _ t => (GM D kc ad) A F t.heap) A) args s 0 0 A) 7 A (ZG D vwCl (wM kc ad) (fun _ tl => tl = []) A) q 91 [(0, .ref (ad 0)), (1, .int v1), (2, .int v2), (3, .int v3), (4, .int v4), (5, .int v5)] [.int s0, .int s1, .ref (ad 20)] := by
    intro q v1 v2 v3 v4 v5 s0 s1 hok hF
    have h91 := And.left hok
    have hok := And.right hok
    refine z_iast (f := (gA q 20)) (q' := (sA q 20 (upd (gA q 20) (s1 : Int32).toNatClampNeg s0))) S hK 20 0 (fun _ => rfl) rfl h91 dX11_defines__91 (wMa20 kc ad _ _) (fun _ h => h) ?_
    exact b92 (sA q 20 (upd (gA q 20) (s1 : Int32).toNatClampNeg s0)) v1 v2 v3 v4 v5 hok hF
  have b79 : ∀ (q : SS) (v1 : Int32) (v2 : Int32) (v3 : Int32) (v4 : Int32) (v5 : Int32), kX11_defines__79 q v1 v2 v3 v4 v5 → F = fX11_defines__79 q v1 v2 v3 v4 v5 → Z p l e (zr 2 0 0) s m args below meth c 0 0 (MQ below (va_Qv (fun (_ : Unit) => True) (fun _ t => (GM D kc ad) A F t.heap) A) args s 0 0 A) 7 A (ZG D vwCl (wM kc ad) (fun _ tl => tl = []) A) q 79 [(0, .ref (ad 0)), (1, .int v1), (2, .int v2), (3, .int v3), (4, .int v4), (5, .int v5)] [] := by
    intro q v1 v2 v3 v4 v5 hok hF
    refine z_aload_n (j := 0) hx hb dX11_defines__79 rfl rfl ?_
    refine z_get (v := .ref (ad 20)) S hK inX11 0 (fun _ => rfl) rfl 47 (by decide) q6_144 rfl rfl dX11_defines__80 ?_
    refine z_iload_n (j := 2) hx hb dX11_defines__83 rfl rfl ?_
    refine z_iconst (v := 5) hx hb dX11_defines__84 (by decide) ?_
    refine z_iconst (v := 0) hx hb dX11_defines__85 (by decide) ?_
    refine z_iload (j := 4) hx hb dX11_defines__86 rfl ?_
    have h88 := And.left hok
    have hok := And.right hok
    refine z_callSi (As := [.int 5, .int 0, .int v4]) S (ctX11_combined l D kc ad q 5 0 v4 h88) (va_cwS 3 S.2.2.2.2 (gS q7_133 q7_134 q1_12 q7_135) rfl rfl rfl hX11_combined ⟨Nat.le_of_ble_eq_true rfl, Nat.le_of_ble_eq_true rfl⟩) hA (pbM D kc) (psM hK) rfl rfl (Nat.le_of_ble_eq_true rfl) dX11_defines__88 ⟨Nat.le_of_ble_eq_true rfl, Nat.le_of_ble_eq_true rfl⟩ ?_
    exact b91 (fX11_combined q 5 0 v4).2 v1 v2 v3 v4 v5 (fX11_combined q 5 0 v4).1 v2 hok hF
  have b66 : ∀ (q : SS) (v1 : Int32) (v2 : Int32) (v3 : Int32) (v4 : Int32) (v5 : Int32), kX11_defines__66 q v1 v2 v3 v4 v5 → F = fX11_defines__66 q v1 v2 v3 v4 v5 → Z p l e (zr 2 0 0) s m args below meth c 0 0 (MQ below (va_Qv (fun (_ : Unit) => True) (fun _ t => (GM D kc ad) A F t.heap) A) args s 0 0 A) 7 A (ZG D vwCl (wM kc ad) (fun _ tl => tl = []) A) q 66 [(0, .ref (ad 0)), (1, .int v1), (2, .int v2), (3, .int v3), (4, .int v4), (5, .int v5)] [] := by
    intro q v1 v2 v3 v4 v5 hok hF
    refine z_iload_n (j := 1) hx hb dX11_defines__66 rfl rfl ?_
    refine z_iconst (v := 5) hx hb dX11_defines__67 (by decide) ?_
    refine z_icmp_ne (tgt := 92) hx hb dX11_defines__68 (by decide) (fun g68 => ?_) (fun g68 => ?_)
    · have hF := hF.trans (if_neg g68)
      have hok := And.right hok g68
      exact b92 q v1 v2 v3 v4 v5 hok hF
    · have hF := hF.trans (if_pos g68)
      have hok := And.left hok g68
      refine z_aload_n (j := 0) hx hb dX11_defines__71 rfl rfl ?_
      refine z_iconst (v := 5) hx hb dX11_defines__72 (by decide) ?_
      refine z_iconst (v := 0) hx hb dX11_defines__73 (by decide) ?_
      refine z_iload (j := 4) hx hb dX11_defines__74 rfl ?_
      have h76 := And.left hok
      have hok := And.right hok
      refine z_callVv (As := [.int 5, .int 0, .int v4]) S (ctX11_flags l D kc ad q 5 0 v4 h76) (cwV 3 S.2.2.2.2 (gV q7_187 q7_189 qp3_13 q1_12 q7_190) rfl rfl rfl hX11_flags ⟨Nat.le_of_ble_eq_true rfl, Nat.le_of_ble_eq_true rfl⟩) hA (pbM D kc) (psM hK) (z_recv hK 0 (fun _ => rfl) rfl) rfl rfl (Nat.le_of_ble_eq_true rfl) dX11_defines__76 ⟨Nat.le_of_ble_eq_true rfl, Nat.le_of_ble_eq_true rfl⟩ ?_
      exact b79 (fX11_flags q 5 0 v4) v1 v2 v3 v4 v5 hok hF
  have b65 : ∀ (q : SS) (v1 : Int32) (v2 : Int32) (v3 : Int32) (v4 : Int32) (v5 : Int32) (s0 : Int32) (s1 : Int32), kX11_defines__65 q v1 v2 v3 v4 v5 s0 s1 → F = fX11_defines__65 q v1 v2 v3 v4 v5 s0 s1 → Z p l e (zr 2 0 0) s m args below meth c 0 0 (MQ below (va_Qv (fun (_ : Unit) => True) (fun _ t => (GM D kc ad) A F t.heap) A) args s 0 0 A) 7 A (ZG D vwCl (wM kc ad) (fun _ tl => tl = []) A) q 65 [(0, .ref (ad 0)), (1, .int v1), (2, .int v2), (3, .int v3), (4, .int v4), (5, .int v5)] [.int s0, .int s1, .ref (ad 20)] := by
    intro q v1 v2 v3 v4 v5 s0 s1 hok hF
    have h65 := And.left hok
    have hok := And.right hok
    refine z_iast (f := (gA q 20)) (q' := (sA q 20 (upd (gA q 20) (s1 : Int32).toNatClampNeg s0))) S hK 20 0 (fun _ => rfl) rfl h65 dX11_defines__65 (wMa20 kc ad _ _) (fun _ h => h) ?_
    exact b66 (sA q 20 (upd (gA q 20) (s1 : Int32).toNatClampNeg s0)) v1 v2 v3 v4 v5 hok hF
  have b50 : ∀ (q : SS) (v1 : Int32) (v2 : Int32) (v3 : Int32) (v4 : Int32) (v5 : Int32), kX11_defines__50 q v1 v2 v3 v4 v5 → F = fX11_defines__50 q v1 v2 v3 v4 v5 → Z p l e (zr 2 0 0) s m args below meth c 0 0 (MQ below (va_Qv (fun (_ : Unit) => True) (fun _ t => (GM D kc ad) A F t.heap) A) args s 0 0 A) 7 A (ZG D vwCl (wM kc ad) (fun _ tl => tl = []) A) q 50 [(0, .ref (ad 0)), (1, .int v1), (2, .int v2), (3, .int v3), (4, .int v4), (5, .int v5)] [] := by
    intro q v1 v2 v3 v4 v5 hok hF
    refine z_aload_n (j := 0) hx hb dX11_defines__50 rfl rfl ?_
    refine z_get (v := .ref (ad 20)) S hK inX11 0 (fun _ => rfl) rfl 47 (by decide) q6_144 rfl rfl dX11_defines__51 ?_
    refine z_iload_n (j := 2) hx hb dX11_defines__54 rfl rfl ?_
    refine z_iload_n (j := 1) hx hb dX11_defines__55 rfl rfl ?_
    refine z_iconst (v := 1) hx hb dX11_defines__56 (by decide) ?_
    refine z_isub hx hb dX11_defines__57 ?_
    refine z_iload (j := 4) hx hb dX11_defines__58 rfl ?_
    refine z_iload (j := 5) hx hb dX11_defines__60 rfl ?_
    have h62 := And.left hok
    have hok := And.right hok
    refine z_callSi (As := [.int (v1 - 1), .int v4, .int v5]) S (ctX11_combined l D kc ad q (v1 - 1) v4 v5 h62) (va_cwS 3 S.2.2.2.2 (gS q7_133 q7_134 q1_12 q7_135) rfl rfl rfl hX11_combined ⟨Nat.le_of_ble_eq_true rfl, Nat.le_of_ble_eq_true rfl⟩) hA (pbM D kc) (psM hK) rfl rfl (Nat.le_of_ble_eq_true rfl) dX11_defines__62 ⟨Nat.le_of_ble_eq_true rfl, Nat.le_of_ble_eq_true rfl⟩ ?_
    exact b65 (fX11_combined q (v1 - 1) v4 v5).2 v1 v2 v3 v4 v5 (fX11_combined q (v1 - 1) v4 v5).1 v2 hok hF
  have b29 : ∀ (q : SS) (v1 : Int32) (v2 : Int32) (v3 : Int32) (v4 : Int32) (v5 : Int32), kX11_defines__29 q v1 v2 v3 v4 v5 → F = fX11_defines__29 q v1 v2 v3 v4 v5 → Z p l e (zr 2 0 0) s m args below meth c 0 0 (MQ below (va_Qv (fun (_ : Unit) => True) (fun _ t => (GM D kc ad) A F t.heap) A) args s 0 0 A) 7 A (ZG D vwCl (wM kc ad) (fun _ tl => tl = []) A) q 29 [(0, .ref (ad 0)), (1, .int v1), (2, .int v2), (3, .int v3), (4, .int v4), (5, .int v5)] [] := by
    intro q v1 v2 v3 v4 v5 hok hF
    refine z_iload_n (j := 1) hx hb dX11_defines__29 rfl rfl ?_
    refine z_iconst (v := 2) hx hb dX11_defines__30 (by decide) ?_
    refine z_icmp_lt (tgt := 66) hx hb dX11_defines__31 (by decide) (fun g31 => ?_) (fun g31 => ?_)
    · have hF := hF.trans (if_pos g31)
      have hok := And.left hok g31
      exact b66 q v1 v2 v3 v4 v5 hok hF
    · have hF := hF.trans (if_neg g31)
      have hok := And.right hok g31
      refine z_iload_n (j := 1) hx hb dX11_defines__34 rfl rfl ?_
      refine z_iconst (v := 4) hx hb dX11_defines__35 (by decide) ?_
      refine z_icmp_gt (tgt := 66) hx hb dX11_defines__36 (by decide) (fun g36 => ?_) (fun g36 => ?_)
      · have hF := hF.trans (if_pos g36)
        have hok := And.left hok g36
        exact b66 q v1 v2 v3 v4 v5 hok hF
      · have hF := hF.trans (if_neg g36)
        have hok := And.right hok g36
        refine z_aload_n (j := 0) hx hb dX11_defines__39 rfl rfl ?_
        refine z_iload_n (j := 1) hx hb dX11_defines__40 rfl rfl ?_
        refine z_iconst (v := 1) hx hb dX11_defines__41 (by decide) ?_
        refine z_isub hx hb dX11_defines__42 ?_
        refine z_iload (j := 4) hx hb dX11_defines__43 rfl ?_
        refine z_iload (j := 5) hx hb dX11_defines__45 rfl ?_
        have h47 := And.left hok
        have hok := And.right hok
        refine z_callVv (As := [.int (v1 - 1), .int v4, .int v5]) S (ctX11_flags l D kc ad q (v1 - 1) v4 v5 h47) (cwV 3 S.2.2.2.2 (gV q7_187 q7_189 qp3_13 q1_12 q7_190) rfl rfl rfl hX11_flags ⟨Nat.le_of_ble_eq_true rfl, Nat.le_of_ble_eq_true rfl⟩) hA (pbM D kc) (psM hK) (z_recv hK 0 (fun _ => rfl) rfl) rfl rfl (Nat.le_of_ble_eq_true rfl) dX11_defines__47 ⟨Nat.le_of_ble_eq_true rfl, Nat.le_of_ble_eq_true rfl⟩ ?_
        exact b50 (fX11_flags q (v1 - 1) v4 v5) v1 v2 v3 v4 v5 hok hF
  refine z_aload_n (j := 0) hx hb dX11_defines__0 rfl rfl ?_
  refine z_get (v := .ref (ad 20)) S hK inX11 0 (fun _ => rfl) rfl 47 (by decide) q6_144 rfl rfl dX11_defines__1 ?_
  refine z_iload_n (j := 2) hx hb dX11_defines__4 rfl rfl ?_
  have h5 := And.left hok
  have hok := And.right hok
  refine z_iald (f := (gA q 20)) S hK 20 0 (fun _ => rfl) rfl h5 dX11_defines__5 ?_
  refine z_istore (lv' := [(4, .int ((gA q 20) (v2 : Int32).toNatClampNeg)), (0, .ref (ad 0)), (1, .int v1), (2, .int v2), (3, .int v3)]) hx hb dX11_defines__6 (by decide) rfl ?_
  refine z_aload_n (j := 1) hx hb dX11_defines__8 rfl rfl ?_
  refine z_get (v := .ref (ad 20)) S hK inX11 0 (fun _ => rfl) rfl 47 (by decide) q6_144 rfl rfl dX11_defines__9 ?_
  refine z_iload_n (j := 4) hx hb dX11_defines__12 rfl rfl ?_
  have h13 := And.left hok
  have hok := And.right hok
  refine z_iald (f := (gA q 20)) S hK 20 0 (fun _ => rfl) rfl h13 dX11_defines__13 ?_
  refine z_istore (lv' := [(5, .int ((gA q 20) (v3 : Int32).toNatClampNeg)), (4, .int ((gA q 20) (v2 : Int32).toNatClampNeg)), (0, .ref (ad 0)), (1, .int v1), (2, .int v2), (3, .int v3)]) hx hb dX11_defines__14 (by decide) rfl ?_
  refine z_iload_n (j := 3) hx hb dX11_defines__16 rfl rfl ?_
  refine z_iconst (v := 1) hx hb dX11_defines__17 (by decide) ?_
  refine z_icmp_ne (tgt := 29) hx hb dX11_defines__18 (by decide) (fun g18 => ?_) (fun g18 => ?_)
  · have hF := hF.trans (if_neg g18)
    have hok := And.right hok g18
    refine z_sub [2, 3, 4, 5, 1, 0] rfl ?_
    exact b29 q v1 v2 v3 ((gA q 20) (v2 : Int32).toNatClampNeg) ((gA q 20) (v3 : Int32).toNatClampNeg) hok hF
  · have hF := hF.trans (if_pos g18)
    have hok := And.left hok g18
    refine z_aload_n (j := 2) hx hb dX11_defines__21 rfl rfl ?_
    refine z_get (v := .ref (ad 20)) S hK inX11 0 (fun _ => rfl) rfl 47 (by decide) q6_144 rfl rfl dX11_defines__22 ?_
    refine z_iload_n (j := 4) hx hb dX11_defines__25 rfl rfl ?_
    refine z_iload (j := 0) hx hb dX11_defines__26 rfl ?_
    have h28 := And.left hok
    have hok := And.right hok
    refine z_iast (f := (gA q 20)) (q' := (sA q 20 (upd (gA q 20) (v2 : Int32).toNatClampNeg ((gA q 20) (v3 : Int32).toNatClampNeg)))) S hK 20 0 (fun _ => rfl) rfl h28 dX11_defines__28 (wMa20 kc ad _ _) (fun _ h => h) ?_
    refine z_sub [2, 3, 4, 5, 1, 0] rfl ?_
    exact b29 (sA q 20 (upd (gA q 20) (v2 : Int32).toNatClampNeg ((gA q 20) (v3 : Int32).toNatClampNeg))) v1 v2 v3 ((gA q 20) (v2 : Int32).toNatClampNeg) ((gA q 20) (v3 : Int32).toNatClampNeg) hok hF
theorem hX11_defines_ : yX11_defines_.cls = RX11 ∧ yX11_defines_.cls ≠ "java/lang/invoke/MethodHandle" ∧ yX11_defines_.cls ≠ "java/lang/invoke/VarHandle" ∧ (parseMethodDescriptor yX11_defines_.desc).map (fun d => d.parameters.length) = some 3 := by decide +kernel
def fX11_defines_197 (q : SS) (v4 : Int32) (v5 : Int32) (s0 : Int32) : SS := (fX11_defines_ q s0 v4 v5)
def kX11_defines_197 (q : SS) (v4 : Int32) (v5 : Int32) (s0 : Int32) : Prop := kX11_defines_ q s0 v4 v5 ∧ True
def fX11_defines_170 (q : SS) (v1 : Int32) (v4 : Int32) (s0 : Int32) : SS := (if ((gA q 16) (7 : Int32).toNatClampNeg) = 0 then fX11_defines_197 q v4 s0 (v1 / 16) else fX11_defines_197 q v4 s0 (14 - (v1 / 16)))
def kX11_defines_170 (q : SS) (v1 : Int32) (v4 : Int32) (s0 : Int32) : Prop := ((((gA q 16) (7 : Int32).toNatClampNeg) = 0 → kX11_defines_197 q v4 s0 (v1 / 16)) ∧ (¬ ((gA q 16) (7 : Int32).toNatClampNeg) = 0 → kX11_defines_197 q v4 s0 (14 - (v1 / 16))))
def fX11_defines_153 (q : SS) (v1 : Int32) (v3 : Int32) (s0 : Int32) : SS := (if v3 = 0 then fX11_defines_170 q v1 s0 ((v1 / 4) - (v1 / 4) / 4 * 4) else fX11_defines_170 q v1 s0 (v1 - v1 / 4 * 4))
def kX11_defines_153 (q : SS) (v1 : Int32) (v3 : Int32) (s0 : Int32) : Prop := ((v3 = 0 → kX11_defines_170 q v1 s0 ((v1 / 4) - (v1 / 4) / 4 * 4)) ∧ (¬ v3 = 0 → kX11_defines_170 q v1 s0 (v1 - v1 / 4 * 4)))
def fX11_defines_137 (q : SS) (v1 : Int32) (s0 : Int32) : SS := (if s0 = 0 then fX11_defines_153 q v1 s0 (v1 - v1 / 4 * 4) else fX11_defines_153 q v1 s0 ((v1 / 4) - (v1 / 4) / 4 * 4))
def kX11_defines_137 (q : SS) (v1 : Int32) (s0 : Int32) : Prop := ((s0 = 0 → kX11_defines_153 q v1 s0 (v1 - v1 / 4 * 4)) ∧ (¬ s0 = 0 → kX11_defines_153 q v1 s0 ((v1 / 4) - (v1 / 4) / 4 * 4)))
def fX11_defines_114 (q : SS) (v1 : Int32) (v2 : Int32) (s0 : Int32) : SS := (if s0 = 0 then (sI q 27 s0) else (if (v2 - v2 / 2 * 2) = 1 then fX11_defines_137 (sI q 27 s0) v1 1 else fX11_defines_137 (sI q 27 s0) v1 0))
def kX11_defines_114 (q : SS) (v1 : Int32) (v2 : Int32) (s0 : Int32) : Prop := nf .boolean s0 ∧ ((s0 = 0 → True) ∧ (¬ s0 = 0 → (((v2 - v2 / 2 * 2) = 1 → kX11_defines_137 (sI q 27 s0) v1 1) ∧ (¬ (v2 - v2 / 2 * 2) = 1 → kX11_defines_137 (sI q 27 s0) v1 0))))
def fX11_defines_102 (q : SS) (v1 : Int32) (v2 : Int32) : SS := (if 64 ≤ v2 then fX11_defines_114 q v1 v2 0 else fX11_defines_114 q v1 v2 1)
def kX11_defines_102 (q : SS) (v1 : Int32) (v2 : Int32) : Prop := ((64 ≤ v2 → kX11_defines_114 q v1 v2 0) ∧ (¬ 64 ≤ v2 → kX11_defines_114 q v1 v2 1))
def fX11_defines_98 (k59 : SS → Int32 → Int32 → SS) (q : SS) (v2 : Int32) (s0 : Int32) : SS := k59 q s0 v2
def kX11_defines_98 (kk59 : SS → Int32 → Int32 → Prop) (q : SS) (v2 : Int32) (s0 : Int32) : Prop := kk59 q s0 v2
def fX11_defines_59 : Nat → SS → Int32 → Int32 → SS
  | 0, q, _, _ => q
  | n + 1, q, v1, v2 => (if ((gA q 16) (7 : Int32).toNatClampNeg) = 1 then (if (v1 / 16) = 15 then (if 64 ≤ v2 then fX11_defines_102 q v1 v2 else (if 64 ≤ (v2 + 1) then fX11_defines_59 n q v1 (v2 + 1) else fX11_defines_98 (fX11_defines_59 n) (fX11_takes q).2 (v2 + 1) (fX11_takes q).1)) else fX11_defines_102 q v1 v2) else fX11_defines_102 q v1 v2)
def kX11_defines_59 : Nat → SS → Int32 → Int32 → Prop
  | 0, _, _, _ => False
  | n + 1, q, v1, v2 => ((((gA q 16) (7 : Int32).toNatClampNeg) = 1 → (((v1 / 16) = 15 → ((64 ≤ v2 → kX11_defines_102 q v1 v2) ∧ (¬ 64 ≤ v2 → ((64 ≤ (v2 + 1) → kX11_defines_59 n q v1 (v2 + 1)) ∧ (¬ 64 ≤ (v2 + 1) → kX11_takes q ∧ kX11_defines_98 (kX11_defines_59 n) (fX11_takes q).2 (v2 + 1) (fX11_takes q).1))))) ∧ (¬ (v1 / 16) = 15 → kX11_defines_102 q v1 v2))) ∧ (¬ ((gA q 16) (7 : Int32).toNatClampNeg) = 1 → kX11_defines_102 q v1 v2))
def fX11_defines_56 (q : SS) (s0 : Int32) : SS := fX11_defines_59 130 q s0 0
def kX11_defines_56 (q : SS) (s0 : Int32) : Prop := kX11_defines_59 130 q s0 0
def fX11_defines_28 : Nat → SS → Int32 → SS
  | 0, q, _ => q
  | n + 1, q, v1 => (if 64 ≤ v1 then fX11_defines_56 (fX11_takes q).2 (fX11_takes q).1 else fX11_defines_28 n (sA q 21 (upd (gA q 21) (v1 : Int32).toNatClampNeg ((gA q 18) (v1 : Int32).toNatClampNeg))) (v1 + 1))
def kX11_defines_28 : Nat → SS → Int32 → Prop
  | 0, _, _ => False
  | n + 1, q, v1 => ((64 ≤ v1 → kX11_takes q ∧ kX11_defines_56 (fX11_takes q).2 (fX11_takes q).1) ∧ (¬ 64 ≤ v1 → vp_in v1 64 ∧ vp_in v1 64 ∧ kX11_defines_28 n (sA q 21 (upd (gA q 21) (v1 : Int32).toNatClampNeg ((gA q 18) (v1 : Int32).toNatClampNeg))) (v1 + 1)))
def fX11_defines_2 : Nat → SS → Int32 → SS
  | 0, q, _ => q
  | n + 1, q, v1 => (if 10 ≤ v1 then fX11_defines_28 130 q 0 else fX11_defines_2 n (sA q 20 (upd (gA q 20) (v1 : Int32).toNatClampNeg ((gA q 16) (v1 : Int32).toNatClampNeg))) (v1 + 1))
def kX11_defines_2 : Nat → SS → Int32 → Prop
  | 0, _, _ => False
  | n + 1, q, v1 => ((10 ≤ v1 → kX11_defines_28 130 q 0) ∧ (¬ 10 ≤ v1 → vp_in v1 16 ∧ vp_in v1 16 ∧ kX11_defines_2 n (sA q 20 (upd (gA q 20) (v1 : Int32).toNatClampNeg ((gA q 16) (v1 : Int32).toNatClampNeg))) (v1 + 1)))
def fX11_defines (q : SS) : SS := fX11_defines_2 130 q 0
def kX11_defines (q : SS) : Prop := kX11_defines_2 130 q 0
set_option maxHeartbeats 4000000 in
set_option maxRecDepth 100000 in
theorem ctX11_defines (l : Launch) (D : va_G) (kc : Nat → ClassId) (ad : Nat → Nat) (q : SS) (hok : kX11_defines q) : Cv l yX11_defines (Cond.code yX11_defines cX11_defines 6 none :: lw_G) (zr 3 0 0) 0 0 (PM D kc) (GM D kc ad) (GM D kc ad) [.ref (ad 0)] q (fX11_defines q) := by
  refine Cv.of (cc := cX11_defines) (maxL := 6) (ret := none) (by decide) rfl (Nat.le_of_ble_eq_true rfl) ?_
  intro p e s m args below meth c A S hr hlocks hin hA hK
  have hx := S.1
  have hb := S.2.1
  have hK : va_K D vwCl (tysK kc) s := hK
  generalize hFe : fX11_defines q = F
  have hF : F = fX11_defines q := hFe.symm
  have b197 : ∀ (q : SS) (v4 : Int32) (v5 : Int32) (s0 : Int32), kX11_defines_197 q v4 v5 s0 → F = fX11_defines_197 q v4 v5 s0 → Z p l e (zr 3 0 0) s m args below meth c 0 0 (MQ below (va_Qv (fun (_ : Unit) => True) (fun _ t => (GM D kc ad) A F t.heap) A) args s 0 0 A) 6 A (ZG D vwCl (wM kc ad) (fun _ tl => tl = []) A) q 197 [(4, .int v4), (5, .int v5)] [.int s0, .ref (ad 0)] := by
    intro q v4 v5 s0 hok hF
    refine z_iload (j := 0) hx hb dX11_defines_197 rfl ?_
    refine z_iload (j := 1) hx hb dX11_defines_199 rfl ?_
    have h201 := And.left hok
    have hok := And.right hok
    refine z_callVv (As := [.int s0, .int v4, .int v5]) S (ctX11_defines_ l D kc ad q s0 v4 v5 h201) (cwV 3 S.2.2.2.2 (gV q7_183 q7_185 qp3_12 q1_12 q7_186) rfl rfl rfl hX11_defines_ ⟨Nat.le_of_ble_eq_true rfl, Nat.le_of_ble_eq_true rfl⟩) hA (pbM D kc) (psM hK) (z_recv hK 0 (fun _ => rfl) rfl) rfl rfl (Nat.le_of_ble_eq_true rfl) dX11_defines_201 ⟨Nat.le_of_ble_eq_true rfl, Nat.le_of_ble_eq_true rfl⟩ ?_
    exact z_vret hx hb hlocks hr hF dX11_defines_204
  have b170 : ∀ (q : SS) (v1 : Int32) (v4 : Int32) (s0 : Int32), kX11_defines_170 q v1 v4 s0 → F = fX11_defines_170 q v1 v4 s0 → Z p l e (zr 3 0 0) s m args below meth c 0 0 (MQ below (va_Qv (fun (_ : Unit) => True) (fun _ t => (GM D kc ad) A F t.heap) A) args s 0 0 A) 6 A (ZG D vwCl (wM kc ad) (fun _ tl => tl = []) A) q 170 [(0, .ref (ad 0)), (1, .int v1), (4, .int v4)] [.int s0] := by
    intro q v1 v4 s0 hok hF
    refine z_istore (lv' := [(5, .int s0), (0, .ref (ad 0)), (1, .int v1), (4, .int v4)]) hx hb dX11_defines_170 (by decide) rfl ?_
    refine z_aload_n (j := 1) hx hb dX11_defines_172 rfl rfl ?_
    refine z_aload_n (j := 1) hx hb dX11_defines_173 rfl rfl ?_
    refine z_get (v := .ref (ad 16)) S hK inX11 0 (fun _ => rfl) rfl 43 (by decide) q6_140 rfl rfl dX11_defines_174 ?_
    refine z_bipush (v := 7) hx hb dX11_defines_177 (by decide) ?_
    refine z_iald (f := (gA q 16)) S hK 16 0 (fun _ => rfl) rfl (show ¬ (_ ∨ _) from by decide) dX11_defines_179 ?_
    refine z_if_ne (tgt := 190) hx hb dX11_defines_180 (by decide) (fun g180 => ?_) (fun g180 => ?_)
    · have hF := hF.trans (if_neg g180)
      have hok := And.right hok g180
      refine z_bipush (v := 14) hx hb dX11_defines_190 (by decide) ?_
      refine z_iload_n (j := 2) hx hb dX11_defines_192 rfl rfl ?_
      refine z_bipush (v := 16) hx hb dX11_defines_193 (by decide) ?_
      refine z_idiv hx hb dX11_defines_195 (by decide) ?_
      refine z_isub hx hb dX11_defines_196 ?_
      refine z_sub [3, 0] rfl ?_
      exact b197 q v4 s0 (14 - (v1 / 16)) hok hF
    · have hF := hF.trans (if_pos g180)
      have hok := And.left hok g180
      refine z_iload_n (j := 2) hx hb dX11_defines_183 rfl rfl ?_
      refine z_bipush (v := 16) hx hb dX11_defines_184 (by decide) ?_
      refine z_idiv hx hb dX11_defines_186 (by decide) ?_
      refine z_goto (tgt := 197) hx hb dX11_defines_187 (by decide) ?_
      refine z_sub [3, 0] rfl ?_
      exact b197 q v4 s0 (v1 / 16) hok hF
  have b153 : ∀ (q : SS) (v1 : Int32) (v3 : Int32) (s0 : Int32), kX11_defines_153 q v1 v3 s0 → F = fX11_defines_153 q v1 v3 s0 → Z p l e (zr 3 0 0) s m args below meth c 0 0 (MQ below (va_Qv (fun (_ : Unit) => True) (fun _ t => (GM D kc ad) A F t.heap) A) args s 0 0 A) 6 A (ZG D vwCl (wM kc ad) (fun _ tl => tl = []) A) q 153 [(0, .ref (ad 0)), (1, .int v1), (3, .int v3)] [.int s0] := by
    intro q v1 v3 s0 hok hF
    refine z_istore (lv' := [(4, .int s0), (0, .ref (ad 0)), (1, .int v1), (3, .int v3)]) hx hb dX11_defines_153 (by decide) rfl ?_
    refine z_iload_n (j := 3) hx hb dX11_defines_155 rfl rfl ?_
    refine z_if_eq (tgt := 165) hx hb dX11_defines_156 (by decide) (fun g156 => ?_) (fun g156 => ?_)
    · have hF := hF.trans (if_pos g156)
      have hok := And.left hok g156
      refine z_iload_n (j := 2) hx hb dX11_defines_165 rfl rfl ?_
      refine z_iconst (v := 4) hx hb dX11_defines_166 (by decide) ?_
      refine z_idiv hx hb dX11_defines_167 (by decide) ?_
      refine z_iconst (v := 4) hx hb dX11_defines_168 (by decide) ?_
      refine z_irem hx hb dX11_defines_169 (by decide) ?_
      refine z_sub [1, 2, 0] rfl ?_
      exact b170 q v1 s0 ((v1 / 4) - (v1 / 4) / 4 * 4) hok hF
    · have hF := hF.trans (if_neg g156)
      have hok := And.right hok g156
      refine z_iload_n (j := 2) hx hb dX11_defines_159 rfl rfl ?_
      refine z_iconst (v := 4) hx hb dX11_defines_160 (by decide) ?_
      refine z_irem hx hb dX11_defines_161 (by decide) ?_
      refine z_goto (tgt := 170) hx hb dX11_defines_162 (by decide) ?_
      refine z_sub [1, 2, 0] rfl ?_
      exact b170 q v1 s0 (v1 - v1 / 4 * 4) hok hF
  have b137 : ∀ (q : SS) (v1 : Int32) (s0 : Int32), kX11_defines_137 q v1 s0 → F = fX11_defines_137 q v1 s0 → Z p l e (zr 3 0 0) s m args below meth c 0 0 (MQ below (va_Qv (fun (_ : Unit) => True) (fun _ t => (GM D kc ad) A F t.heap) A) args s 0 0 A) 6 A (ZG D vwCl (wM kc ad) (fun _ tl => tl = []) A) q 137 [(0, .ref (ad 0)), (1, .int v1)] [.int s0] := by
    intro q v1 s0 hok hF
    refine z_istore_n (lv' := [(3, .int s0), (0, .ref (ad 0)), (1, .int v1)]) hx hb dX11_defines_137 rfl (by decide) rfl ?_
    refine z_iload_n (j := 0) hx hb dX11_defines_138 rfl rfl ?_
    refine z_if_eq (tgt := 150) hx hb dX11_defines_139 (by decide) (fun g139 => ?_) (fun g139 => ?_)
    · have hF := hF.trans (if_pos g139)
      have hok := And.left hok g139
      refine z_iload_n (j := 2) hx hb dX11_defines_150 rfl rfl ?_
      refine z_iconst (v := 4) hx hb dX11_defines_151 (by decide) ?_
      refine z_irem hx hb dX11_defines_152 (by decide) ?_
      refine z_sub [1, 2, 0] rfl ?_
      exact b153 q v1 s0 (v1 - v1 / 4 * 4) hok hF
    · have hF := hF.trans (if_neg g139)
      have hok := And.right hok g139
      refine z_iload_n (j := 2) hx hb dX11_defines_142 rfl rfl ?_
      refine z_iconst (v := 4) hx hb dX11_defines_143 (by decide) ?_
      refine z_idiv hx hb dX11_defines_144 (by decide) ?_
      refine z_iconst (v := 4) hx hb dX11_defines_145 (by decide) ?_
      refine z_irem hx hb dX11_defines_146 (by decide) ?_
      refine z_goto (tgt := 153) hx hb dX11_defines_147 (by decide) ?_
      refine z_sub [1, 2, 0] rfl ?_
      exact b153 q v1 s0 ((v1 / 4) - (v1 / 4) / 4 * 4) hok hF
  have b114 : ∀ (q : SS) (v1 : Int32) (v2 : Int32) (s0 : Int32), kX11_defines_114 q v1 v2 s0 → F = fX11_defines_114 q v1 v2 s0 → Z p l e (zr 3 0 0) s m args below meth c 0 0 (MQ below (va_Qv (fun (_ : Unit) => True) (fun _ t => (GM D kc ad) A F t.heap) A) args s 0 0 A) 6 A (ZG D vwCl (wM kc ad) (fun _ tl => tl = []) A) q 114 [(0, .ref (ad 0)), (1, .int v1), (2, .int v2)] [.int s0, .ref (ad 0)] := by
    intro q v1 v2 s0 hok hF
    have h114 := And.left hok
    have hok := And.right hok
    refine z_put (v := .int s0) (q' := (sI q 27 s0)) S hK inX11 tyX11 tyX11_ok nmX11 0 (fun _ => rfl) rfl 27 (by decide) q6_124 rfl rfl h114.1 h114.2 (Nat.le_of_ble_eq_true rfl) dX11_defines_114 (wMp27 kc ad _ _) (fun _ h => h) ?_
    refine z_aload_n (j := 0) hx hb dX11_defines_117 rfl rfl ?_
    refine z_get (v := .int s0) S hK inX11 0 (fun _ => rfl) rfl 27 (by decide) q6_124 rfl rfl dX11_defines_118 ?_
    refine z_if_ne (tgt := 125) hx hb dX11_defines_121 (by decide) (fun g121 => ?_) (fun g121 => ?_)
    · have hF := hF.trans (if_neg g121)
      have hok := And.right hok g121
      refine z_iload_n (j := 2) hx hb dX11_defines_125 rfl rfl ?_
      refine z_iconst (v := 2) hx hb dX11_defines_126 (by decide) ?_
      refine z_irem hx hb dX11_defines_127 (by decide) ?_
      refine z_iconst (v := 1) hx hb dX11_defines_128 (by decide) ?_
      refine z_icmp_ne (tgt := 136) hx hb dX11_defines_129 (by decide) (fun g129 => ?_) (fun g129 => ?_)
      · have hF := hF.trans (if_neg g129)
        have hok := And.right hok g129
        refine z_iconst (v := 0) hx hb dX11_defines_136 (by decide) ?_
        refine z_sub [0, 1] rfl ?_
        exact b137 (sI q 27 s0) v1 0 hok hF
      · have hF := hF.trans (if_pos g129)
        have hok := And.left hok g129
        refine z_iconst (v := 1) hx hb dX11_defines_132 (by decide) ?_
        refine z_goto (tgt := 137) hx hb dX11_defines_133 (by decide) ?_
        refine z_sub [0, 1] rfl ?_
        exact b137 (sI q 27 s0) v1 1 hok hF
    · have hF := hF.trans (if_pos g121)
      have hok := And.left hok g121
      exact z_vret hx hb hlocks hr hF dX11_defines_124
  have b102 : ∀ (q : SS) (v1 : Int32) (v2 : Int32), kX11_defines_102 q v1 v2 → F = fX11_defines_102 q v1 v2 → Z p l e (zr 3 0 0) s m args below meth c 0 0 (MQ below (va_Qv (fun (_ : Unit) => True) (fun _ t => (GM D kc ad) A F t.heap) A) args s 0 0 A) 6 A (ZG D vwCl (wM kc ad) (fun _ tl => tl = []) A) q 102 [(0, .ref (ad 0)), (1, .int v1), (2, .int v2)] [] := by
    intro q v1 v2 hok hF
    refine z_aload_n (j := 0) hx hb dX11_defines_102 rfl rfl ?_
    refine z_iload_n (j := 2) hx hb dX11_defines_103 rfl rfl ?_
    refine z_bipush (v := 64) hx hb dX11_defines_104 (by decide) ?_
    refine z_icmp_ge (tgt := 113) hx hb dX11_defines_106 (by decide) (fun g106 => ?_) (fun g106 => ?_)
    · have hF := hF.trans (if_pos g106)
      have hok := And.left hok g106
      refine z_iconst (v := 0) hx hb dX11_defines_113 (by decide) ?_
      exact b114 q v1 v2 0 hok hF
    · have hF := hF.trans (if_neg g106)
      have hok := And.right hok g106
      refine z_iconst (v := 1) hx hb dX11_defines_109 (by decide) ?_
      refine z_goto (tgt := 114) hx hb dX11_defines_110 (by decide) ?_
      exact b114 q v1 v2 1 hok hF
  have b98 : ∀ (k59 : SS → Int32 → Int32 → SS) (kk59 : SS → Int32 → Int32 → Prop) (_ : ∀ (q : SS) (v1 : Int32) (v2 : Int32), kk59 q v1 v2 → F = k59 q v1 v2 → Z p l e (zr 3 0 0) s m args below meth c 0 0 (MQ below (va_Qv (fun (_ : Unit) => True) (fun _ t => (GM D kc ad) A F t.heap) A) args s 0 0 A) 6 A (ZG D vwCl (wM kc ad) (fun _ tl => tl = []) A) q 59 [(0, .ref (ad 0)), (1, .int v1), (2, .int v2)] []) (q : SS) (v2 : Int32) (s0 : Int32), kX11_defines_98 kk59 q v2 s0 → F = fX11_defines_98 k59 q v2 s0 → Z p l e (zr 3 0 0) s m args below meth c 0 0 (MQ below (va_Qv (fun (_ : Unit) => True) (fun _ t => (GM D kc ad) A F t.heap) A) args s 0 0 A) 6 A (ZG D vwCl (wM kc ad) (fun _ tl => tl = []) A) q 98 [(0, .ref (ad 0)), (2, .int v2)] [.int s0] := by
    intro k59 kk59 hk59 q v2 s0 hok hF
    refine z_istore_n (lv' := [(1, .int s0), (0, .ref (ad 0)), (2, .int v2)]) hx hb dX11_defines_98 rfl (by decide) rfl ?_
    refine z_goto (tgt := 59) hx hb dX11_defines_99 (by decide) ?_
    refine z_sub [1, 0, 2] rfl ?_
    exact hk59 q s0 v2 hok hF
  have b59 : ∀ (n : Nat) (q : SS) (v1 : Int32) (v2 : Int32), kX11_defines_59 n q v1 v2 → F = fX11_defines_59 n q v1 v2 → Z p l e (zr 3 0 0) s m args below meth c 0 0 (MQ below (va_Qv (fun (_ : Unit) => True) (fun _ t => (GM D kc ad) A F t.heap) A) args s 0 0 A) 6 A (ZG D vwCl (wM kc ad) (fun _ tl => tl = []) A) q 59 [(0, .ref (ad 0)), (1, .int v1), (2, .int v2)] [] := by
    intro n
    induction n with
    | zero => intro q v1 v2 hok hF; exact False.elim hok
    | succ n ih =>
      intro q v1 v2 hok hF
      refine z_aload_n (j := 0) hx hb dX11_defines_59 rfl rfl ?_
      refine z_get (v := .ref (ad 16)) S hK inX11 0 (fun _ => rfl) rfl 43 (by decide) q6_140 rfl rfl dX11_defines_60 ?_
      refine z_bipush (v := 7) hx hb dX11_defines_63 (by decide) ?_
      refine z_iald (f := (gA q 16)) S hK 16 0 (fun _ => rfl) rfl (show ¬ (_ ∨ _) from by decide) dX11_defines_65 ?_
      refine z_iconst (v := 1) hx hb dX11_defines_66 (by decide) ?_
      refine z_icmp_ne (tgt := 102) hx hb dX11_defines_67 (by decide) (fun g67 => ?_) (fun g67 => ?_)
      · have hF := hF.trans (if_neg g67)
        have hok := And.right hok g67
        exact b102 q v1 v2 hok hF
      · have hF := hF.trans (if_pos g67)
        have hok := And.left hok g67
        refine z_iload_n (j := 1) hx hb dX11_defines_70 rfl rfl ?_
        refine z_bipush (v := 16) hx hb dX11_defines_71 (by decide) ?_
        refine z_idiv hx hb dX11_defines_73 (by decide) ?_
        refine z_bipush (v := 15) hx hb dX11_defines_74 (by decide) ?_
        refine z_icmp_ne (tgt := 102) hx hb dX11_defines_76 (by decide) (fun g76 => ?_) (fun g76 => ?_)
        · have hF := hF.trans (if_neg g76)
          have hok := And.right hok g76
          exact b102 q v1 v2 hok hF
        · have hF := hF.trans (if_pos g76)
          have hok := And.left hok g76
          refine z_iload_n (j := 2) hx hb dX11_defines_79 rfl rfl ?_
          refine z_bipush (v := 64) hx hb dX11_defines_80 (by decide) ?_
          refine z_icmp_ge (tgt := 102) hx hb dX11_defines_82 (by decide) (fun g82 => ?_) (fun g82 => ?_)
          · have hF := hF.trans (if_pos g82)
            have hok := And.left hok g82
            exact b102 q v1 v2 hok hF
          · have hF := hF.trans (if_neg g82)
            have hok := And.right hok g82
            refine z_iinc (k := 2) (v := (v2 + 1)) (lv' := [(2, .int (v2 + 1)), (0, .ref (ad 0)), (1, .int v1)]) hx hb dX11_defines_85 rfl rfl (by decide) rfl ?_
            refine z_iload_n (j := 0) hx hb dX11_defines_88 rfl rfl ?_
            refine z_bipush (v := 64) hx hb dX11_defines_89 (by decide) ?_
            refine z_icmp_ge (tgt := 59) hx hb dX11_defines_91 (by decide) (fun g91 => ?_) (fun g91 => ?_)
            · have hF := hF.trans (if_pos g91)
              have hok := And.left hok g91
              refine z_sub [1, 2, 0] rfl ?_
              exact ih q v1 (v2 + 1) hok hF
            · have hF := hF.trans (if_neg g91)
              have hok := And.right hok g91
              refine z_aload_n (j := 1) hx hb dX11_defines_94 rfl rfl ?_
              have h95 := And.left hok
              have hok := And.right hok
              refine z_callVi (As := []) S (ctX11_takes l D kc ad q h95) (cwV 0 S.2.2.2.2 (gV q7_179 q7_181 qp3_11 q1_12 q7_182) rfl rfl rfl hX11_takes ⟨Nat.le_of_ble_eq_true rfl, Nat.le_of_ble_eq_true rfl⟩) hA (pbM D kc) (psM hK) (z_recv hK 0 (fun _ => rfl) rfl) rfl rfl (Nat.le_of_ble_eq_true rfl) dX11_defines_95 ⟨Nat.le_of_ble_eq_true rfl, Nat.le_of_ble_eq_true rfl⟩ ?_
              refine z_sub [1, 0] rfl ?_
              exact b98 (fX11_defines_59 n) (kX11_defines_59 n) ih (fX11_takes q).2 (v2 + 1) (fX11_takes q).1 hok hF
  have b56 : ∀ (q : SS) (s0 : Int32), kX11_defines_56 q s0 → F = fX11_defines_56 q s0 → Z p l e (zr 3 0 0) s m args below meth c 0 0 (MQ below (va_Qv (fun (_ : Unit) => True) (fun _ t => (GM D kc ad) A F t.heap) A) args s 0 0 A) 6 A (ZG D vwCl (wM kc ad) (fun _ tl => tl = []) A) q 56 [(0, .ref (ad 0))] [.int s0] := by
    intro q s0 hok hF
    refine z_istore_n (lv' := [(1, .int s0), (0, .ref (ad 0))]) hx hb dX11_defines_56 rfl (by decide) rfl ?_
    refine z_iconst (v := 0) hx hb dX11_defines_57 (by decide) ?_
    refine z_istore_n (lv' := [(2, .int 0), (1, .int s0), (0, .ref (ad 0))]) hx hb dX11_defines_58 rfl (by decide) rfl ?_
    refine z_sub [2, 1, 0] rfl ?_
    exact b59 130 q s0 0 hok hF
  have b28 : ∀ (n : Nat) (q : SS) (v1 : Int32), kX11_defines_28 n q v1 → F = fX11_defines_28 n q v1 → Z p l e (zr 3 0 0) s m args below meth c 0 0 (MQ below (va_Qv (fun (_ : Unit) => True) (fun _ t => (GM D kc ad) A F t.heap) A) args s 0 0 A) 6 A (ZG D vwCl (wM kc ad) (fun _ tl => tl = []) A) q 28 [(0, .ref (ad 0)), (1, .int v1)] [] := by
    intro n
    induction n with
    | zero => intro q v1 hok hF; exact False.elim hok
    | succ n ih =>
      intro q v1 hok hF
      refine z_iload_n (j := 1) hx hb dX11_defines_28 rfl rfl ?_
      refine z_bipush (v := 64) hx hb dX11_defines_29 (by decide) ?_
      refine z_icmp_ge (tgt := 52) hx hb dX11_defines_31 (by decide) (fun g31 => ?_) (fun g31 => ?_)
      · have hF := hF.trans (if_pos g31)
        have hok := And.left hok g31
        refine z_aload_n (j := 0) hx hb dX11_defines_52 rfl rfl ?_
        have h53 := And.left hok
        have hok := And.right hok
        refine z_callVi (As := []) S (ctX11_takes l D kc ad q h53) (cwV 0 S.2.2.2.2 (gV q7_179 q7_181 qp3_11 q1_12 q7_182) rfl rfl rfl hX11_takes ⟨Nat.le_of_ble_eq_true rfl, Nat.le_of_ble_eq_true rfl⟩) hA (pbM D kc) (psM hK) (z_recv hK 0 (fun _ => rfl) rfl) rfl rfl (Nat.le_of_ble_eq_true rfl) dX11_defines_53 ⟨Nat.le_of_ble_eq_true rfl, Nat.le_of_ble_eq_true rfl⟩ ?_
        refine z_sub [0] rfl ?_
        exact b56 (fX11_takes q).2 (fX11_takes q).1 hok hF
      · have hF := hF.trans (if_neg g31)
        have hok := And.right hok g31
        refine z_aload_n (j := 0) hx hb dX11_defines_34 rfl rfl ?_
        refine z_get (v := .ref (ad 21)) S hK inX11 0 (fun _ => rfl) rfl 48 (by decide) q6_145 rfl rfl dX11_defines_35 ?_
        refine z_iload_n (j := 1) hx hb dX11_defines_38 rfl rfl ?_
        refine z_aload_n (j := 0) hx hb dX11_defines_39 rfl rfl ?_
        refine z_get (v := .ref (ad 18)) S hK inX11 0 (fun _ => rfl) rfl 45 (by decide) q6_142 rfl rfl dX11_defines_40 ?_
        refine z_iload_n (j := 1) hx hb dX11_defines_43 rfl rfl ?_
        have h44 := And.left hok
        have hok := And.right hok
        refine z_iald (f := (gA q 18)) S hK 18 0 (fun _ => rfl) rfl h44 dX11_defines_44 ?_
        have h45 := And.left hok
        have hok := And.right hok
        refine z_iast (f := (gA q 21)) (q' := (sA q 21 (upd (gA q 21) (v1 : Int32).toNatClampNeg ((gA q 18) (v1 : Int32).toNatClampNeg)))) S hK 21 0 (fun _ => rfl) rfl h45 dX11_defines_45 (wMa21 kc ad _ _) (fun _ h => h) ?_
        refine z_iinc (k := 1) (v := (v1 + 1)) (lv' := [(1, .int (v1 + 1)), (0, .ref (ad 0))]) hx hb dX11_defines_46 rfl rfl (by decide) rfl ?_
        refine z_goto (tgt := 28) hx hb dX11_defines_49 (by decide) ?_
        refine z_sub [1, 0] rfl ?_
        exact ih (sA q 21 (upd (gA q 21) (v1 : Int32).toNatClampNeg ((gA q 18) (v1 : Int32).toNatClampNeg))) (v1 + 1) hok hF
  have b2 : ∀ (n : Nat) (q : SS) (v1 : Int32), kX11_defines_2 n q v1 → F = fX11_defines_2 n q v1 → Z p l e (zr 3 0 0) s m args below meth c 0 0 (MQ below (va_Qv (fun (_ : Unit) => True) (fun _ t => (GM D kc ad) A F t.heap) A) args s 0 0 A) 6 A (ZG D vwCl (wM kc ad) (fun _ tl => tl = []) A) q 2 [(0, .ref (ad 0)), (1, .int v1)] [] := by
    intro n
    induction n with
    | zero => intro q v1 hok hF; exact False.elim hok
    | succ n ih =>
      intro q v1 hok hF
      refine z_iload_n (j := 1) hx hb dX11_defines_2 rfl rfl ?_
      refine z_bipush (v := 10) hx hb dX11_defines_3 (by decide) ?_
      refine z_icmp_ge (tgt := 26) hx hb dX11_defines_5 (by decide) (fun g5 => ?_) (fun g5 => ?_)
      · have hF := hF.trans (if_pos g5)
        have hok := And.left hok g5
        refine z_iconst (v := 0) hx hb dX11_defines_26 (by decide) ?_
        refine z_istore_n (lv' := [(1, .int 0), (0, .ref (ad 0))]) hx hb dX11_defines_27 rfl (by decide) rfl ?_
        refine z_sub [1, 0] rfl ?_
        exact b28 130 q 0 hok hF
      · have hF := hF.trans (if_neg g5)
        have hok := And.right hok g5
        refine z_aload_n (j := 0) hx hb dX11_defines_8 rfl rfl ?_
        refine z_get (v := .ref (ad 20)) S hK inX11 0 (fun _ => rfl) rfl 47 (by decide) q6_144 rfl rfl dX11_defines_9 ?_
        refine z_iload_n (j := 1) hx hb dX11_defines_12 rfl rfl ?_
        refine z_aload_n (j := 0) hx hb dX11_defines_13 rfl rfl ?_
        refine z_get (v := .ref (ad 16)) S hK inX11 0 (fun _ => rfl) rfl 43 (by decide) q6_140 rfl rfl dX11_defines_14 ?_
        refine z_iload_n (j := 1) hx hb dX11_defines_17 rfl rfl ?_
        have h18 := And.left hok
        have hok := And.right hok
        refine z_iald (f := (gA q 16)) S hK 16 0 (fun _ => rfl) rfl h18 dX11_defines_18 ?_
        have h19 := And.left hok
        have hok := And.right hok
        refine z_iast (f := (gA q 20)) (q' := (sA q 20 (upd (gA q 20) (v1 : Int32).toNatClampNeg ((gA q 16) (v1 : Int32).toNatClampNeg)))) S hK 20 0 (fun _ => rfl) rfl h19 dX11_defines_19 (wMa20 kc ad _ _) (fun _ h => h) ?_
        refine z_iinc (k := 1) (v := (v1 + 1)) (lv' := [(1, .int (v1 + 1)), (0, .ref (ad 0))]) hx hb dX11_defines_20 rfl rfl (by decide) rfl ?_
        refine z_goto (tgt := 2) hx hb dX11_defines_23 (by decide) ?_
        refine z_sub [1, 0] rfl ?_
        exact ih (sA q 20 (upd (gA q 20) (v1 : Int32).toNatClampNeg ((gA q 16) (v1 : Int32).toNatClampNeg))) (v1 + 1) hok hF
  refine z_iconst (v := 0) hx hb dX11_defines_0 (by decide) ?_
  refine z_istore_n (lv' := [(1, .int 0), (0, .ref (ad 0))]) hx hb dX11_defines_1 rfl (by decide) rfl ?_
  refine z_sub [1, 0] rfl ?_
  exact b2 130 q 0 hok hF
theorem hX11_defines : yX11_defines.cls = RX11 ∧ yX11_defines.cls ≠ "java/lang/invoke/MethodHandle" ∧ yX11_defines.cls ≠ "java/lang/invoke/VarHandle" ∧ (parseMethodDescriptor yX11_defines.desc).map (fun d => d.parameters.length) = some 0 := by decide +kernel
def fX11_finish_193 (q : SS) : SS := (fX11_begins q)
def kX11_finish_193 (q : SS) : Prop := kX11_begins q ∧ True
def fX11_finish_168 (q : SS) (s0 : Int64) (s1 : Int64) (s2 : Int32) : SS := fX11_finish_193 (fX11_asks (sI (sL (sB q 22 (vp_updL (gB q 22) (s2 : Int32).toNatClampNeg (s1 + s0))) 22 ((gL q 22) + (((gI q 17) : Int32).toInt64))) 17 0))
def kX11_finish_168 (q : SS) (s0 : Int64) (s1 : Int64) (s2 : Int32) : Prop := vp_in s2 32 ∧ kX11_asks (sI (sL (sB q 22 (vp_updL (gB q 22) (s2 : Int32).toNatClampNeg (s1 + s0))) 22 ((gL q 22) + (((gI q 17) : Int32).toInt64))) 17 0) ∧ kX11_finish_193 (fX11_asks (sI (sL (sB q 22 (vp_updL (gB q 22) (s2 : Int32).toNatClampNeg (s1 + s0))) 22 ((gL q 22) + (((gI q 17) : Int32).toInt64))) 17 0))
def fX11_finish_122 (q : SS) (s0 : Int32) (s1 : Int32) : SS := fX11_finish_168 (sI (sI q 11 (s1 + s0)) 10 ((gI q 10) + 1)) (((gI q 17) : Int32).toInt64) ((gB q 22) (((16 * ((gA q 16) (7 : Int32).toNatClampNeg)) + (((gA q 15) (14 : Int32).toNatClampNeg) / 16)) : Int32).toNatClampNeg) ((16 * ((gA q 16) (7 : Int32).toNatClampNeg)) + (((gA q 15) (14 : Int32).toNatClampNeg) / 16))
def kX11_finish_122 (q : SS) (s0 : Int32) (s1 : Int32) : Prop := vp_in ((16 * ((gA q 16) (7 : Int32).toNatClampNeg)) + (((gA q 15) (14 : Int32).toNatClampNeg) / 16)) 32 ∧ kX11_finish_168 (sI (sI q 11 (s1 + s0)) 10 ((gI q 10) + 1)) (((gI q 17) : Int32).toInt64) ((gB q 22) (((16 * ((gA q 16) (7 : Int32).toNatClampNeg)) + (((gA q 15) (14 : Int32).toNatClampNeg) / 16)) : Int32).toNatClampNeg) ((16 * ((gA q 16) (7 : Int32).toNatClampNeg)) + (((gA q 15) (14 : Int32).toNatClampNeg) / 16))
def fX11_finish_108 (q : SS) (v1 : Int32) : SS := (if v1 = 0 then fX11_finish_122 q 1 (gI q 11) else fX11_finish_122 q 0 (gI q 11))
def kX11_finish_108 (q : SS) (v1 : Int32) : Prop := ((v1 = 0 → kX11_finish_122 q 1 (gI q 11)) ∧ (¬ v1 = 0 → kX11_finish_122 q 0 (gI q 11)))
def fX11_finish_79 (k52 : SS → Int32 → Int32 → SS) (q : SS) (v2 : Int32) (s0 : Int32) (s1 : Int32) : SS := k52 q (s1 &&& s0) (v2 + 1)
def kX11_finish_79 (kk52 : SS → Int32 → Int32 → Prop) (q : SS) (v2 : Int32) (s0 : Int32) (s1 : Int32) : Prop := kk52 q (s1 &&& s0) (v2 + 1)
def fX11_finish_52 : Nat → SS → Int32 → Int32 → SS
  | 0, q, _, _ => q
  | n + 1, q, v1, v2 => (if 64 ≤ v2 then (if v1 = 0 then (if (gI q 11) = 0 then fX11_finish_108 (sI q 12 ((gA q 16) (4 : Int32).toNatClampNeg)) v1 else fX11_finish_108 q v1) else fX11_finish_108 q v1) else (if ((gA q 21) (v2 : Int32).toNatClampNeg) = ((gA q 17) (v2 : Int32).toNatClampNeg) then fX11_finish_79 (fX11_finish_52 n) q v2 1 v1 else fX11_finish_79 (fX11_finish_52 n) q v2 0 v1))
def kX11_finish_52 : Nat → SS → Int32 → Int32 → Prop
  | 0, _, _, _ => False
  | n + 1, q, v1, v2 => ((64 ≤ v2 → ((v1 = 0 → (((gI q 11) = 0 → kX11_finish_108 (sI q 12 ((gA q 16) (4 : Int32).toNatClampNeg)) v1) ∧ (¬ (gI q 11) = 0 → kX11_finish_108 q v1))) ∧ (¬ v1 = 0 → kX11_finish_108 q v1))) ∧ (¬ 64 ≤ v2 → vp_in v2 64 ∧ vp_in v2 64 ∧ ((((gA q 21) (v2 : Int32).toNatClampNeg) = ((gA q 17) (v2 : Int32).toNatClampNeg) → kX11_finish_79 (kX11_finish_52 n) q v2 1 v1) ∧ (¬ ((gA q 21) (v2 : Int32).toNatClampNeg) = ((gA q 17) (v2 : Int32).toNatClampNeg) → kX11_finish_79 (kX11_finish_52 n) q v2 0 v1))))
def fX11_finish_42 (k15 : SS → Int32 → Int32 → SS) (q : SS) (v2 : Int32) (s0 : Int32) (s1 : Int32) : SS := k15 q (s1 &&& s0) (v2 + 1)
def kX11_finish_42 (kk15 : SS → Int32 → Int32 → Prop) (q : SS) (v2 : Int32) (s0 : Int32) (s1 : Int32) : Prop := kk15 q (s1 &&& s0) (v2 + 1)
def fX11_finish_15 : Nat → SS → Int32 → Int32 → SS
  | 0, q, _, _ => q
  | n + 1, q, v1, v2 => (if 10 ≤ v2 then fX11_finish_52 130 q v1 0 else (if ((gA q 20) (v2 : Int32).toNatClampNeg) = ((gA q 15) (v2 : Int32).toNatClampNeg) then fX11_finish_42 (fX11_finish_15 n) q v2 1 v1 else fX11_finish_42 (fX11_finish_15 n) q v2 0 v1))
def kX11_finish_15 : Nat → SS → Int32 → Int32 → Prop
  | 0, _, _, _ => False
  | n + 1, q, v1, v2 => ((10 ≤ v2 → kX11_finish_52 130 q v1 0) ∧ (¬ 10 ≤ v2 → vp_in v2 16 ∧ vp_in v2 16 ∧ ((((gA q 20) (v2 : Int32).toNatClampNeg) = ((gA q 15) (v2 : Int32).toNatClampNeg) → kX11_finish_42 (kX11_finish_15 n) q v2 1 v1) ∧ (¬ ((gA q 20) (v2 : Int32).toNatClampNeg) = ((gA q 15) (v2 : Int32).toNatClampNeg) → kX11_finish_42 (kX11_finish_15 n) q v2 0 v1))))
def fX11_finish_8 (q : SS) : SS := fX11_finish_15 130 q (gI q 27) 0
def kX11_finish_8 (q : SS) : Prop := kX11_finish_15 130 q (gI q 27) 0
def fX11_finish_4 (q : SS) : SS := fX11_finish_8 (fX11_defines q)
def kX11_finish_4 (q : SS) : Prop := kX11_defines q ∧ kX11_finish_8 (fX11_defines q)
def fX11_finish (q : SS) : SS := fX11_finish_4 (fX11_finds q)
def kX11_finish (q : SS) : Prop := kX11_finds q ∧ kX11_finish_4 (fX11_finds q)
set_option maxHeartbeats 4000000 in
set_option maxRecDepth 100000 in
theorem ctX11_finish (l : Launch) (D : va_G) (kc : Nat → ClassId) (ad : Nat → Nat) (q : SS) (hok : kX11_finish q) : Cv l yX11_finish (Cond.code yX11_finish cX11_finish 3 none :: lw_G) (zr 4 0 0) 0 0 (PM D kc) (GM D kc ad) (GM D kc ad) [.ref (ad 0)] q (fX11_finish q) := by
  refine Cv.of (cc := cX11_finish) (maxL := 3) (ret := none) (by decide) rfl (Nat.le_of_ble_eq_true rfl) ?_
  intro p e s m args below meth c A S hr hlocks hin hA hK
  have hx := S.1
  have hb := S.2.1
  have hK : va_K D vwCl (tysK kc) s := hK
  generalize hFe : fX11_finish q = F
  have hF : F = fX11_finish q := hFe.symm
  have b193 : ∀ (q : SS), kX11_finish_193 q → F = fX11_finish_193 q → Z p l e (zr 4 0 0) s m args below meth c 0 0 (MQ below (va_Qv (fun (_ : Unit) => True) (fun _ t => (GM D kc ad) A F t.heap) A) args s 0 0 A) 3 A (ZG D vwCl (wM kc ad) (fun _ tl => tl = []) A) q 193 [(0, .ref (ad 0))] [] := by
    intro q hok hF
    refine z_aload_n (j := 0) hx hb dX11_finish_193 rfl rfl ?_
    have h194 := And.left hok
    have hok := And.right hok
    refine z_callVv (As := []) S (ctX11_begins l D kc ad q h194) (cwV 0 S.2.2.2.2 (gV q7_148 q7_150 qp3_4 q1_12 q7_151) rfl rfl rfl hX11_begins ⟨Nat.le_of_ble_eq_true rfl, Nat.le_of_ble_eq_true rfl⟩) hA (pbM D kc) (psM hK) (z_recv hK 0 (fun _ => rfl) rfl) rfl rfl (Nat.le_of_ble_eq_true rfl) dX11_finish_194 ⟨Nat.le_of_ble_eq_true rfl, Nat.le_of_ble_eq_true rfl⟩ ?_
    exact z_vret hx hb hlocks hr hF dX11_finish_197
  have b168 : ∀ (q : SS) (s0 : Int64) (s1 : Int64) (s2 : Int32), kX11_finish_168 q s0 s1 s2 → F = fX11_finish_168 q s0 s1 s2 → Z p l e (zr 4 0 0) s m args below meth c 0 0 (MQ below (va_Qv (fun (_ : Unit) => True) (fun _ t => (GM D kc ad) A F t.heap) A) args s 0 0 A) 3 A (ZG D vwCl (wM kc ad) (fun _ tl => tl = []) A) q 168 [(0, .ref (ad 0))] [.long s0, .long s1, .int s2, .ref (ad 22)] := by
    intro q s0 s1 s2 hok hF
    refine z_ladd hx hb dX11_finish_168 ?_
    have h169 := And.left hok
    have hok := And.right hok
    refine z_last (f := (gB q 22)) (q' := (sB q 22 (vp_updL (gB q 22) (s2 : Int32).toNatClampNeg (s1 + s0)))) S hK 22 2 (fun _ => rfl) rfl h169 dX11_finish_169 (wMa22 kc ad _ _) (fun _ h => h) ?_
    refine z_aload_n (j := 0) hx hb dX11_finish_170 rfl rfl ?_
    refine z_dup hx hb dX11_finish_171 rfl ?_
    refine z_get (v := .long (gL q 22)) S hK inX11 0 (fun _ => rfl) rfl 22 (by decide) q6_119 rfl rfl dX11_finish_172 ?_
    refine z_aload_n (j := 0) hx hb dX11_finish_175 rfl rfl ?_
    refine z_get (v := .int (gI q 17)) S hK inX11 0 (fun _ => rfl) rfl 17 (by decide) q6_114 rfl rfl dX11_finish_176 ?_
    refine z_i2l hx hb dX11_finish_179 ?_
    refine z_ladd hx hb dX11_finish_180 ?_
    refine z_put (v := .long ((gL q 22) + (((gI q 17) : Int32).toInt64))) (q' := (sL (sB q 22 (vp_updL (gB q 22) (s2 : Int32).toNatClampNeg (s1 + s0))) 22 ((gL q 22) + (((gI q 17) : Int32).toInt64)))) S hK inX11 tyX11 tyX11_ok nmX11 0 (fun _ => rfl) rfl 22 (by decide) q6_119 rfl rfl rfl rfl (Nat.le_of_ble_eq_true rfl) dX11_finish_181 (wMp22 kc ad _ _) (fun _ h => h) ?_
    refine z_aload_n (j := 0) hx hb dX11_finish_184 rfl rfl ?_
    refine z_iconst (v := 0) hx hb dX11_finish_185 (by decide) ?_
    refine z_put (v := .int 0) (q' := (sI (sL (sB q 22 (vp_updL (gB q 22) (s2 : Int32).toNatClampNeg (s1 + s0))) 22 ((gL q 22) + (((gI q 17) : Int32).toInt64))) 17 0)) S hK inX11 tyX11 tyX11_ok nmX11 0 (fun _ => rfl) rfl 17 (by decide) q6_114 rfl rfl rfl rfl (Nat.le_of_ble_eq_true rfl) dX11_finish_186 (wMp17 kc ad _ _) (fun _ h => h) ?_
    refine z_aload_n (j := 0) hx hb dX11_finish_189 rfl rfl ?_
    have h190 := And.left hok
    have hok := And.right hok
    refine z_callVv (As := []) S (ctX11_asks l D kc ad (sI (sL (sB q 22 (vp_updL (gB q 22) (s2 : Int32).toNatClampNeg (s1 + s0))) 22 ((gL q 22) + (((gI q 17) : Int32).toInt64))) 17 0) h190) (cwV 0 S.2.2.2.2 (gV q7_144 q7_146 qp3_3 q1_12 q7_147) rfl rfl rfl hX11_asks ⟨Nat.le_of_ble_eq_true rfl, Nat.le_of_ble_eq_true rfl⟩) hA (pbM D kc) (psM hK) (z_recv hK 0 (fun _ => rfl) rfl) rfl rfl (Nat.le_of_ble_eq_true rfl) dX11_finish_190 ⟨Nat.le_of_ble_eq_true rfl, Nat.le_of_ble_eq_true rfl⟩ ?_
    exact b193 (fX11_asks (sI (sL (sB q 22 (vp_updL (gB q 22) (s2 : Int32).toNatClampNeg (s1 + s0))) 22 ((gL q 22) + (((gI q 17) : Int32).toInt64))) 17 0)) hok hF
  have b122 : ∀ (q : SS) (s0 : Int32) (s1 : Int32), kX11_finish_122 q s0 s1 → F = fX11_finish_122 q s0 s1 → Z p l e (zr 4 0 0) s m args below meth c 0 0 (MQ below (va_Qv (fun (_ : Unit) => True) (fun _ t => (GM D kc ad) A F t.heap) A) args s 0 0 A) 3 A (ZG D vwCl (wM kc ad) (fun _ tl => tl = []) A) q 122 [(0, .ref (ad 0))] [.int s0, .int s1, .ref (ad 0)] := by
    intro q s0 s1 hok hF
    refine z_iadd hx hb dX11_finish_122 ?_
    refine z_put (v := .int (s1 + s0)) (q' := (sI q 11 (s1 + s0))) S hK inX11 tyX11 tyX11_ok nmX11 0 (fun _ => rfl) rfl 11 (by decide) q6_108 rfl rfl rfl rfl (Nat.le_of_ble_eq_true rfl) dX11_finish_123 (wMp11 kc ad _ _) (fun _ h => h) ?_
    refine z_aload_n (j := 0) hx hb dX11_finish_126 rfl rfl ?_
    refine z_dup hx hb dX11_finish_127 rfl ?_
    refine z_get (v := .int (gI q 10)) S hK inX11 0 (fun _ => rfl) rfl 10 (by decide) q6_107 rfl rfl dX11_finish_128 ?_
    refine z_iconst (v := 1) hx hb dX11_finish_131 (by decide) ?_
    refine z_iadd hx hb dX11_finish_132 ?_
    refine z_put (v := .int ((gI q 10) + 1)) (q' := (sI (sI q 11 (s1 + s0)) 10 ((gI q 10) + 1))) S hK inX11 tyX11 tyX11_ok nmX11 0 (fun _ => rfl) rfl 10 (by decide) q6_107 rfl rfl rfl rfl (Nat.le_of_ble_eq_true rfl) dX11_finish_133 (wMp10 kc ad _ _) (fun _ h => h) ?_
    refine z_aload_n (j := 0) hx hb dX11_finish_136 rfl rfl ?_
    refine z_get (v := .ref (ad 22)) S hK inX11 0 (fun _ => rfl) rfl 49 (by decide) q6_146 rfl rfl dX11_finish_137 ?_
    refine z_bipush (v := 16) hx hb dX11_finish_140 (by decide) ?_
    refine z_aload_n (j := 0) hx hb dX11_finish_142 rfl rfl ?_
    refine z_get (v := .ref (ad 16)) S hK inX11 0 (fun _ => rfl) rfl 43 (by decide) q6_140 rfl rfl dX11_finish_143 ?_
    refine z_bipush (v := 7) hx hb dX11_finish_146 (by decide) ?_
    refine z_iald (f := (gA q 16)) S hK 16 0 (fun _ => rfl) rfl (show ¬ (_ ∨ _) from by decide) dX11_finish_148 ?_
    refine z_imul hx hb dX11_finish_149 ?_
    refine z_aload_n (j := 0) hx hb dX11_finish_150 rfl rfl ?_
    refine z_get (v := .ref (ad 15)) S hK inX11 0 (fun _ => rfl) rfl 42 (by decide) q6_139 rfl rfl dX11_finish_151 ?_
    refine z_bipush (v := 14) hx hb dX11_finish_154 (by decide) ?_
    refine z_iald (f := (gA q 15)) S hK 15 0 (fun _ => rfl) rfl (show ¬ (_ ∨ _) from by decide) dX11_finish_156 ?_
    refine z_bipush (v := 16) hx hb dX11_finish_157 (by decide) ?_
    refine z_idiv hx hb dX11_finish_159 (by decide) ?_
    refine z_iadd hx hb dX11_finish_160 ?_
    refine z_dup2_11 hx hb dX11_finish_161 rfl rfl ?_
    have h162 := And.left hok
    have hok := And.right hok
    refine z_lald (f := (gB q 22)) S hK 22 2 (fun _ => rfl) rfl h162 dX11_finish_162 ?_
    refine z_aload_n (j := 0) hx hb dX11_finish_163 rfl rfl ?_
    refine z_get (v := .int (gI q 17)) S hK inX11 0 (fun _ => rfl) rfl 17 (by decide) q6_114 rfl rfl dX11_finish_164 ?_
    refine z_i2l hx hb dX11_finish_167 ?_
    exact b168 (sI (sI q 11 (s1 + s0)) 10 ((gI q 10) + 1)) (((gI q 17) : Int32).toInt64) ((gB q 22) (((16 * ((gA q 16) (7 : Int32).toNatClampNeg)) + (((gA q 15) (14 : Int32).toNatClampNeg) / 16)) : Int32).toNatClampNeg) ((16 * ((gA q 16) (7 : Int32).toNatClampNeg)) + (((gA q 15) (14 : Int32).toNatClampNeg) / 16)) hok hF
  have b108 : ∀ (q : SS) (v1 : Int32), kX11_finish_108 q v1 → F = fX11_finish_108 q v1 → Z p l e (zr 4 0 0) s m args below meth c 0 0 (MQ below (va_Qv (fun (_ : Unit) => True) (fun _ t => (GM D kc ad) A F t.heap) A) args s 0 0 A) 3 A (ZG D vwCl (wM kc ad) (fun _ tl => tl = []) A) q 108 [(0, .ref (ad 0)), (1, .int v1)] [] := by
    intro q v1 hok hF
    refine z_aload_n (j := 0) hx hb dX11_finish_108 rfl rfl ?_
    refine z_dup hx hb dX11_finish_109 rfl ?_
    refine z_get (v := .int (gI q 11)) S hK inX11 0 (fun _ => rfl) rfl 11 (by decide) q6_108 rfl rfl dX11_finish_110 ?_
    refine z_iload_n (j := 1) hx hb dX11_finish_113 rfl rfl ?_
    refine z_if_eq (tgt := 121) hx hb dX11_finish_114 (by decide) (fun g114 => ?_) (fun g114 => ?_)
    · have hF := hF.trans (if_pos g114)
      have hok := And.left hok g114
      refine z_iconst (v := 1) hx hb dX11_finish_121 (by decide) ?_
      refine z_sub [0] rfl ?_
      exact b122 q 1 (gI q 11) hok hF
    · have hF := hF.trans (if_neg g114)
      have hok := And.right hok g114
      refine z_iconst (v := 0) hx hb dX11_finish_117 (by decide) ?_
      refine z_goto (tgt := 122) hx hb dX11_finish_118 (by decide) ?_
      refine z_sub [0] rfl ?_
      exact b122 q 0 (gI q 11) hok hF
  have b79 : ∀ (k52 : SS → Int32 → Int32 → SS) (kk52 : SS → Int32 → Int32 → Prop) (_ : ∀ (q : SS) (v1 : Int32) (v2 : Int32), kk52 q v1 v2 → F = k52 q v1 v2 → Z p l e (zr 4 0 0) s m args below meth c 0 0 (MQ below (va_Qv (fun (_ : Unit) => True) (fun _ t => (GM D kc ad) A F t.heap) A) args s 0 0 A) 3 A (ZG D vwCl (wM kc ad) (fun _ tl => tl = []) A) q 52 [(0, .ref (ad 0)), (1, .int v1), (2, .int v2)] []) (q : SS) (v2 : Int32) (s0 : Int32) (s1 : Int32), kX11_finish_79 kk52 q v2 s0 s1 → F = fX11_finish_79 k52 q v2 s0 s1 → Z p l e (zr 4 0 0) s m args below meth c 0 0 (MQ below (va_Qv (fun (_ : Unit) => True) (fun _ t => (GM D kc ad) A F t.heap) A) args s 0 0 A) 3 A (ZG D vwCl (wM kc ad) (fun _ tl => tl = []) A) q 79 [(0, .ref (ad 0)), (2, .int v2)] [.int s0, .int s1] := by
    intro k52 kk52 hk52 q v2 s0 s1 hok hF
    refine z_iand hx hb dX11_finish_79 ?_
    refine z_istore_n (lv' := [(1, .int (s1 &&& s0)), (0, .ref (ad 0)), (2, .int v2)]) hx hb dX11_finish_80 rfl (by decide) rfl ?_
    refine z_iinc (k := 2) (v := (v2 + 1)) (lv' := [(2, .int (v2 + 1)), (1, .int (s1 &&& s0)), (0, .ref (ad 0))]) hx hb dX11_finish_81 rfl rfl (by decide) rfl ?_
    refine z_goto (tgt := 52) hx hb dX11_finish_84 (by decide) ?_
    refine z_sub [2, 1, 0] rfl ?_
    exact hk52 q (s1 &&& s0) (v2 + 1) hok hF
  have b52 : ∀ (n : Nat) (q : SS) (v1 : Int32) (v2 : Int32), kX11_finish_52 n q v1 v2 → F = fX11_finish_52 n q v1 v2 → Z p l e (zr 4 0 0) s m args below meth c 0 0 (MQ below (va_Qv (fun (_ : Unit) => True) (fun _ t => (GM D kc ad) A F t.heap) A) args s 0 0 A) 3 A (ZG D vwCl (wM kc ad) (fun _ tl => tl = []) A) q 52 [(0, .ref (ad 0)), (1, .int v1), (2, .int v2)] [] := by
    intro n
    induction n with
    | zero => intro q v1 v2 hok hF; exact False.elim hok
    | succ n ih =>
      intro q v1 v2 hok hF
      refine z_iload_n (j := 2) hx hb dX11_finish_52 rfl rfl ?_
      refine z_bipush (v := 64) hx hb dX11_finish_53 (by decide) ?_
      refine z_icmp_ge (tgt := 87) hx hb dX11_finish_55 (by decide) (fun g55 => ?_) (fun g55 => ?_)
      · have hF := hF.trans (if_pos g55)
        have hok := And.left hok g55
        refine z_iload_n (j := 1) hx hb dX11_finish_87 rfl rfl ?_
        refine z_if_ne (tgt := 108) hx hb dX11_finish_88 (by decide) (fun g88 => ?_) (fun g88 => ?_)
        · have hF := hF.trans (if_neg g88)
          have hok := And.right hok g88
          refine z_sub [0, 1] rfl ?_
          exact b108 q v1 hok hF
        · have hF := hF.trans (if_pos g88)
          have hok := And.left hok g88
          refine z_aload_n (j := 0) hx hb dX11_finish_91 rfl rfl ?_
          refine z_get (v := .int (gI q 11)) S hK inX11 0 (fun _ => rfl) rfl 11 (by decide) q6_108 rfl rfl dX11_finish_92 ?_
          refine z_if_ne (tgt := 108) hx hb dX11_finish_95 (by decide) (fun g95 => ?_) (fun g95 => ?_)
          · have hF := hF.trans (if_neg g95)
            have hok := And.right hok g95
            refine z_sub [0, 1] rfl ?_
            exact b108 q v1 hok hF
          · have hF := hF.trans (if_pos g95)
            have hok := And.left hok g95
            refine z_aload_n (j := 0) hx hb dX11_finish_98 rfl rfl ?_
            refine z_aload_n (j := 0) hx hb dX11_finish_99 rfl rfl ?_
            refine z_get (v := .ref (ad 16)) S hK inX11 0 (fun _ => rfl) rfl 43 (by decide) q6_140 rfl rfl dX11_finish_100 ?_
            refine z_iconst (v := 4) hx hb dX11_finish_103 (by decide) ?_
            refine z_iald (f := (gA q 16)) S hK 16 0 (fun _ => rfl) rfl (show ¬ (_ ∨ _) from by decide) dX11_finish_104 ?_
            refine z_put (v := .int ((gA q 16) (4 : Int32).toNatClampNeg)) (q' := (sI q 12 ((gA q 16) (4 : Int32).toNatClampNeg))) S hK inX11 tyX11 tyX11_ok nmX11 0 (fun _ => rfl) rfl 12 (by decide) q6_109 rfl rfl rfl rfl (Nat.le_of_ble_eq_true rfl) dX11_finish_105 (wMp12 kc ad _ _) (fun _ h => h) ?_
            refine z_sub [0, 1] rfl ?_
            exact b108 (sI q 12 ((gA q 16) (4 : Int32).toNatClampNeg)) v1 hok hF
      · have hF := hF.trans (if_neg g55)
        have hok := And.right hok g55
        refine z_iload_n (j := 1) hx hb dX11_finish_58 rfl rfl ?_
        refine z_aload_n (j := 0) hx hb dX11_finish_59 rfl rfl ?_
        refine z_get (v := .ref (ad 21)) S hK inX11 0 (fun _ => rfl) rfl 48 (by decide) q6_145 rfl rfl dX11_finish_60 ?_
        refine z_iload_n (j := 2) hx hb dX11_finish_63 rfl rfl ?_
        have h64 := And.left hok
        have hok := And.right hok
        refine z_iald (f := (gA q 21)) S hK 21 0 (fun _ => rfl) rfl h64 dX11_finish_64 ?_
        refine z_aload_n (j := 0) hx hb dX11_finish_65 rfl rfl ?_
        refine z_get (v := .ref (ad 17)) S hK inX11 0 (fun _ => rfl) rfl 44 (by decide) q6_141 rfl rfl dX11_finish_66 ?_
        refine z_iload_n (j := 2) hx hb dX11_finish_69 rfl rfl ?_
        have h70 := And.left hok
        have hok := And.right hok
        refine z_iald (f := (gA q 17)) S hK 17 0 (fun _ => rfl) rfl h70 dX11_finish_70 ?_
        refine z_icmp_ne (tgt := 78) hx hb dX11_finish_71 (by decide) (fun g71 => ?_) (fun g71 => ?_)
        · have hF := hF.trans (if_neg g71)
          have hok := And.right hok g71
          refine z_iconst (v := 0) hx hb dX11_finish_78 (by decide) ?_
          refine z_sub [0, 2] rfl ?_
          exact b79 (fX11_finish_52 n) (kX11_finish_52 n) ih q v2 0 v1 hok hF
        · have hF := hF.trans (if_pos g71)
          have hok := And.left hok g71
          refine z_iconst (v := 1) hx hb dX11_finish_74 (by decide) ?_
          refine z_goto (tgt := 79) hx hb dX11_finish_75 (by decide) ?_
          refine z_sub [0, 2] rfl ?_
          exact b79 (fX11_finish_52 n) (kX11_finish_52 n) ih q v2 1 v1 hok hF
  have b42 : ∀ (k15 : SS → Int32 → Int32 → SS) (kk15 : SS → Int32 → Int32 → Prop) (_ : ∀ (q : SS) (v1 : Int32) (v2 : Int32), kk15 q v1 v2 → F = k15 q v1 v2 → Z p l e (zr 4 0 0) s m args below meth c 0 0 (MQ below (va_Qv (fun (_ : Unit) => True) (fun _ t => (GM D kc ad) A F t.heap) A) args s 0 0 A) 3 A (ZG D vwCl (wM kc ad) (fun _ tl => tl = []) A) q 15 [(0, .ref (ad 0)), (1, .int v1), (2, .int v2)] []) (q : SS) (v2 : Int32) (s0 : Int32) (s1 : Int32), kX11_finish_42 kk15 q v2 s0 s1 → F = fX11_finish_42 k15 q v2 s0 s1 → Z p l e (zr 4 0 0) s m args below meth c 0 0 (MQ below (va_Qv (fun (_ : Unit) => True) (fun _ t => (GM D kc ad) A F t.heap) A) args s 0 0 A) 3 A (ZG D vwCl (wM kc ad) (fun _ tl => tl = []) A) q 42 [(0, .ref (ad 0)), (2, .int v2)] [.int s0, .int s1] := by
    intro k15 kk15 hk15 q v2 s0 s1 hok hF
    refine z_iand hx hb dX11_finish_42 ?_
    refine z_istore_n (lv' := [(1, .int (s1 &&& s0)), (0, .ref (ad 0)), (2, .int v2)]) hx hb dX11_finish_43 rfl (by decide) rfl ?_
    refine z_iinc (k := 2) (v := (v2 + 1)) (lv' := [(2, .int (v2 + 1)), (1, .int (s1 &&& s0)), (0, .ref (ad 0))]) hx hb dX11_finish_44 rfl rfl (by decide) rfl ?_
    refine z_goto (tgt := 15) hx hb dX11_finish_47 (by decide) ?_
    refine z_sub [2, 1, 0] rfl ?_
    exact hk15 q (s1 &&& s0) (v2 + 1) hok hF
  have b15 : ∀ (n : Nat) (q : SS) (v1 : Int32) (v2 : Int32), kX11_finish_15 n q v1 v2 → F = fX11_finish_15 n q v1 v2 → Z p l e (zr 4 0 0) s m args below meth c 0 0 (MQ below (va_Qv (fun (_ : Unit) => True) (fun _ t => (GM D kc ad) A F t.heap) A) args s 0 0 A) 3 A (ZG D vwCl (wM kc ad) (fun _ tl => tl = []) A) q 15 [(0, .ref (ad 0)), (1, .int v1), (2, .int v2)] [] := by
    intro n
    induction n with
    | zero => intro q v1 v2 hok hF; exact False.elim hok
    | succ n ih =>
      intro q v1 v2 hok hF
      refine z_iload_n (j := 2) hx hb dX11_finish_15 rfl rfl ?_
      refine z_bipush (v := 10) hx hb dX11_finish_16 (by decide) ?_
      refine z_icmp_ge (tgt := 50) hx hb dX11_finish_18 (by decide) (fun g18 => ?_) (fun g18 => ?_)
      · have hF := hF.trans (if_pos g18)
        have hok := And.left hok g18
        refine z_iconst (v := 0) hx hb dX11_finish_50 (by decide) ?_
        refine z_istore_n (lv' := [(2, .int 0), (0, .ref (ad 0)), (1, .int v1)]) hx hb dX11_finish_51 rfl (by decide) rfl ?_
        refine z_sub [1, 2, 0] rfl ?_
        exact b52 130 q v1 0 hok hF
      · have hF := hF.trans (if_neg g18)
        have hok := And.right hok g18
        refine z_iload_n (j := 1) hx hb dX11_finish_21 rfl rfl ?_
        refine z_aload_n (j := 0) hx hb dX11_finish_22 rfl rfl ?_
        refine z_get (v := .ref (ad 20)) S hK inX11 0 (fun _ => rfl) rfl 47 (by decide) q6_144 rfl rfl dX11_finish_23 ?_
        refine z_iload_n (j := 2) hx hb dX11_finish_26 rfl rfl ?_
        have h27 := And.left hok
        have hok := And.right hok
        refine z_iald (f := (gA q 20)) S hK 20 0 (fun _ => rfl) rfl h27 dX11_finish_27 ?_
        refine z_aload_n (j := 0) hx hb dX11_finish_28 rfl rfl ?_
        refine z_get (v := .ref (ad 15)) S hK inX11 0 (fun _ => rfl) rfl 42 (by decide) q6_139 rfl rfl dX11_finish_29 ?_
        refine z_iload_n (j := 2) hx hb dX11_finish_32 rfl rfl ?_
        have h33 := And.left hok
        have hok := And.right hok
        refine z_iald (f := (gA q 15)) S hK 15 0 (fun _ => rfl) rfl h33 dX11_finish_33 ?_
        refine z_icmp_ne (tgt := 41) hx hb dX11_finish_34 (by decide) (fun g34 => ?_) (fun g34 => ?_)
        · have hF := hF.trans (if_neg g34)
          have hok := And.right hok g34
          refine z_iconst (v := 0) hx hb dX11_finish_41 (by decide) ?_
          refine z_sub [0, 2] rfl ?_
          exact b42 (fX11_finish_15 n) (kX11_finish_15 n) ih q v2 0 v1 hok hF
        · have hF := hF.trans (if_pos g34)
          have hok := And.left hok g34
          refine z_iconst (v := 1) hx hb dX11_finish_37 (by decide) ?_
          refine z_goto (tgt := 42) hx hb dX11_finish_38 (by decide) ?_
          refine z_sub [0, 2] rfl ?_
          exact b42 (fX11_finish_15 n) (kX11_finish_15 n) ih q v2 1 v1 hok hF
  have b8 : ∀ (q : SS), kX11_finish_8 q → F = fX11_finish_8 q → Z p l e (zr 4 0 0) s m args below meth c 0 0 (MQ below (va_Qv (fun (_ : Unit) => True) (fun _ t => (GM D kc ad) A F t.heap) A) args s 0 0 A) 3 A (ZG D vwCl (wM kc ad) (fun _ tl => tl = []) A) q 8 [(0, .ref (ad 0))] [] := by
    intro q hok hF
    refine z_aload_n (j := 0) hx hb dX11_finish_8 rfl rfl ?_
    refine z_get (v := .int (gI q 27)) S hK inX11 0 (fun _ => rfl) rfl 27 (by decide) q6_124 rfl rfl dX11_finish_9 ?_
    refine z_istore_n (lv' := [(1, .int (gI q 27)), (0, .ref (ad 0))]) hx hb dX11_finish_12 rfl (by decide) rfl ?_
    refine z_iconst (v := 0) hx hb dX11_finish_13 (by decide) ?_
    refine z_istore_n (lv' := [(2, .int 0), (1, .int (gI q 27)), (0, .ref (ad 0))]) hx hb dX11_finish_14 rfl (by decide) rfl ?_
    refine z_sub [2, 1, 0] rfl ?_
    exact b15 130 q (gI q 27) 0 hok hF
  have b4 : ∀ (q : SS), kX11_finish_4 q → F = fX11_finish_4 q → Z p l e (zr 4 0 0) s m args below meth c 0 0 (MQ below (va_Qv (fun (_ : Unit) => True) (fun _ t => (GM D kc ad) A F t.heap) A) args s 0 0 A) 3 A (ZG D vwCl (wM kc ad) (fun _ tl => tl = []) A) q 4 [(0, .ref (ad 0))] [] := by
    intro q hok hF
    refine z_aload_n (j := 0) hx hb dX11_finish_4 rfl rfl ?_
    have h5 := And.left hok
    have hok := And.right hok
    refine z_callVv (As := []) S (ctX11_defines l D kc ad q h5) (cwV 0 S.2.2.2.2 (gV q7_175 q7_177 qp3_10 q1_12 q7_178) rfl rfl rfl hX11_defines ⟨Nat.le_of_ble_eq_true rfl, Nat.le_of_ble_eq_true rfl⟩) hA (pbM D kc) (psM hK) (z_recv hK 0 (fun _ => rfl) rfl) rfl rfl (Nat.le_of_ble_eq_true rfl) dX11_finish_5 ⟨Nat.le_of_ble_eq_true rfl, Nat.le_of_ble_eq_true rfl⟩ ?_
    exact b8 (fX11_defines q) hok hF
  refine z_aload_n (j := 0) hx hb dX11_finish_0 rfl rfl ?_
  have h1 := And.left hok
  have hok := And.right hok
  refine z_callVv (As := []) S (ctX11_finds l D kc ad q h1) (cwV 0 S.2.2.2.2 (gV q7_160 q7_162 qp3_7 q1_12 q7_163) rfl rfl rfl hX11_finds ⟨Nat.le_of_ble_eq_true rfl, Nat.le_of_ble_eq_true rfl⟩) hA (pbM D kc) (psM hK) (z_recv hK 0 (fun _ => rfl) rfl) rfl rfl (Nat.le_of_ble_eq_true rfl) dX11_finish_1 ⟨Nat.le_of_ble_eq_true rfl, Nat.le_of_ble_eq_true rfl⟩ ?_
  exact b4 (fX11_finds q) hok hF
theorem hX11_finish : yX11_finish.cls = RX11 ∧ yX11_finish.cls ≠ "java/lang/invoke/MethodHandle" ∧ yX11_finish.cls ≠ "java/lang/invoke/VarHandle" ∧ (parseMethodDescriptor yX11_finish.desc).map (fun d => d.parameters.length) = some 0 := by decide +kernel
def fX11_orders_112 (q : SS) : SS := (fX11_finish q)
def kX11_orders_112 (q : SS) : Prop := kX11_finish q ∧ True
def fX11_orders_96 (q : SS) (v2 : Int32) (v3 : Int32) : SS := (if v3 = 103 then fX11_orders_112 (sA q 15 (upd (gA q 15) (8 : Int32).toNatClampNeg (v2 - v2 / 2 * 2))) else fX11_orders_112 q)
def kX11_orders_96 (q : SS) (v2 : Int32) (v3 : Int32) : Prop := ((v3 = 103 → kX11_orders_112 (sA q 15 (upd (gA q 15) (8 : Int32).toNatClampNeg (v2 - v2 / 2 * 2)))) ∧ (¬ v3 = 103 → kX11_orders_112 q))
def fX11_orders_69 (q : SS) (v2 : Int32) (v3 : Int32) : SS := (if v3 = 107 then fX11_orders_96 (sA (sA q 15 (upd (gA q 15) (4 : Int32).toNatClampNeg ((gA q 15) (9 : Int32).toNatClampNeg))) 15 (upd (upd (gA q 15) (4 : Int32).toNatClampNeg ((gA q 15) (9 : Int32).toNatClampNeg)) (8 : Int32).toNatClampNeg 1)) v2 v3 else fX11_orders_96 q v2 v3)
def kX11_orders_69 (q : SS) (v2 : Int32) (v3 : Int32) : Prop := ((v3 = 107 → kX11_orders_96 (sA (sA q 15 (upd (gA q 15) (4 : Int32).toNatClampNeg ((gA q 15) (9 : Int32).toNatClampNeg))) 15 (upd (upd (gA q 15) (4 : Int32).toNatClampNeg ((gA q 15) (9 : Int32).toNatClampNeg)) (8 : Int32).toNatClampNeg 1)) v2 v3) ∧ (¬ v3 = 107 → kX11_orders_96 q v2 v3))
def fX11_orders_43 (q : SS) (s0 : Int32) : SS := (sI q 6 s0)
def kX11_orders_43 (q : SS) (s0 : Int32) : Prop := True
def fX11_orders_40 (q : SS) (s0 : Int32) : SS := fX11_orders_43 (fX11_follows q s0).2 (fX11_follows q s0).1
def kX11_orders_40 (q : SS) (s0 : Int32) : Prop := kX11_follows q s0 ∧ kX11_orders_43 (fX11_follows q s0).2 (fX11_follows q s0).1
def fX11_orders_30 (q : SS) (v1 : Int32) (v2 : Int32) (v3 : Int32) (s0 : Int32) : SS := (if s0 = 0 then fX11_orders_40 (fX11_leads q v1).2 (fX11_leads q v1).1 else (if v3 = 115 then fX11_orders_69 (sA q 15 (upd (gA q 15) (7 : Int32).toNatClampNeg (1 - ((gA q 15) (7 : Int32).toNatClampNeg)))) v2 v3 else fX11_orders_69 q v2 v3))
def kX11_orders_30 (q : SS) (v1 : Int32) (v2 : Int32) (v3 : Int32) (s0 : Int32) : Prop := ((s0 = 0 → kX11_leads q v1 ∧ kX11_orders_40 (fX11_leads q v1).2 (fX11_leads q v1).1) ∧ (¬ s0 = 0 → ((v3 = 115 → kX11_orders_69 (sA q 15 (upd (gA q 15) (7 : Int32).toNatClampNeg (1 - ((gA q 15) (7 : Int32).toNatClampNeg)))) v2 v3) ∧ (¬ v3 = 115 → kX11_orders_69 q v2 v3))))
def fX11_orders_21 (q : SS) : SS := (fX11_begins q)
def kX11_orders_21 (q : SS) : Prop := kX11_begins q ∧ True
def fX11_orders_17 (q : SS) : SS := fX11_orders_21 (fX11_asks q)
def kX11_orders_17 (q : SS) : Prop := kX11_asks q ∧ kX11_orders_21 (fX11_asks q)
def fX11_orders (q : SS) (v1 : Int32) (v2 : Int32) : SS := (if ((gA q 9) (v1 : Int32).toNatClampNeg) = 113 then fX11_orders_17 (fX11_back q) else fX11_orders_30 (fX11_ends q ((gA q 9) (v1 : Int32).toNatClampNeg)).2 v1 v2 ((gA q 9) (v1 : Int32).toNatClampNeg) (fX11_ends q ((gA q 9) (v1 : Int32).toNatClampNeg)).1)
def kX11_orders (q : SS) (v1 : Int32) (v2 : Int32) : Prop := vp_in v1 80 ∧ ((((gA q 9) (v1 : Int32).toNatClampNeg) = 113 → kX11_back q ∧ kX11_orders_17 (fX11_back q)) ∧ (¬ ((gA q 9) (v1 : Int32).toNatClampNeg) = 113 → kX11_ends q ((gA q 9) (v1 : Int32).toNatClampNeg) ∧ kX11_orders_30 (fX11_ends q ((gA q 9) (v1 : Int32).toNatClampNeg)).2 v1 v2 ((gA q 9) (v1 : Int32).toNatClampNeg) (fX11_ends q ((gA q 9) (v1 : Int32).toNatClampNeg)).1))
set_option maxHeartbeats 4000000 in
set_option maxRecDepth 100000 in
theorem ctX11_orders (l : Launch) (D : va_G) (kc : Nat → ClassId) (ad : Nat → Nat) (q : SS) (v1 : Int32) (v2 : Int32) (hok : kX11_orders q v1 v2) : Cv l yX11_orders (Cond.code yX11_orders cX11_orders 4 none :: lw_G) (zr 5 0 0) 0 0 (PM D kc) (GM D kc ad) (GM D kc ad) [.ref (ad 0), .int v1, .int v2] q (fX11_orders q v1 v2) := by
  refine Cv.of (cc := cX11_orders) (maxL := 4) (ret := none) (by decide) rfl (Nat.le_of_ble_eq_true rfl) ?_
  intro p e s m args below meth c A S hr hlocks hin hA hK
  have hx := S.1
  have hb := S.2.1
  have hK : va_K D vwCl (tysK kc) s := hK
  generalize hFe : fX11_orders q v1 v2 = F
  have hF : F = fX11_orders q v1 v2 := hFe.symm
  have b112 : ∀ (q : SS), kX11_orders_112 q → F = fX11_orders_112 q → Z p l e (zr 5 0 0) s m args below meth c 0 0 (MQ below (va_Qv (fun (_ : Unit) => True) (fun _ t => (GM D kc ad) A F t.heap) A) args s 0 0 A) 4 A (ZG D vwCl (wM kc ad) (fun _ tl => tl = []) A) q 112 [(0, .ref (ad 0))] [] := by
    intro q hok hF
    refine z_aload_n (j := 0) hx hb dX11_orders_112 rfl rfl ?_
    have h113 := And.left hok
    have hok := And.right hok
    refine z_callVv (As := []) S (ctX11_finish l D kc ad q h113) (cwV 0 S.2.2.2.2 (gV q7_171 q7_173 qp3_9 q1_12 q7_174) rfl rfl rfl hX11_finish ⟨Nat.le_of_ble_eq_true rfl, Nat.le_of_ble_eq_true rfl⟩) hA (pbM D kc) (psM hK) (z_recv hK 0 (fun _ => rfl) rfl) rfl rfl (Nat.le_of_ble_eq_true rfl) dX11_orders_113 ⟨Nat.le_of_ble_eq_true rfl, Nat.le_of_ble_eq_true rfl⟩ ?_
    exact z_vret hx hb hlocks hr hF dX11_orders_116
  have b96 : ∀ (q : SS) (v2 : Int32) (v3 : Int32), kX11_orders_96 q v2 v3 → F = fX11_orders_96 q v2 v3 → Z p l e (zr 5 0 0) s m args below meth c 0 0 (MQ below (va_Qv (fun (_ : Unit) => True) (fun _ t => (GM D kc ad) A F t.heap) A) args s 0 0 A) 4 A (ZG D vwCl (wM kc ad) (fun _ tl => tl = []) A) q 96 [(0, .ref (ad 0)), (2, .int v2), (3, .int v3)] [] := by
    intro q v2 v3 hok hF
    refine z_iload_n (j := 2) hx hb dX11_orders_96 rfl rfl ?_
    refine z_bipush (v := 103) hx hb dX11_orders_97 (by decide) ?_
    refine z_icmp_ne (tgt := 112) hx hb dX11_orders_99 (by decide) (fun g99 => ?_) (fun g99 => ?_)
    · have hF := hF.trans (if_neg g99)
      have hok := And.right hok g99
      refine z_sub [0] rfl ?_
      exact b112 q hok hF
    · have hF := hF.trans (if_pos g99)
      have hok := And.left hok g99
      refine z_aload_n (j := 0) hx hb dX11_orders_102 rfl rfl ?_
      refine z_get (v := .ref (ad 15)) S hK inX11 0 (fun _ => rfl) rfl 42 (by decide) q6_139 rfl rfl dX11_orders_103 ?_
      refine z_bipush (v := 8) hx hb dX11_orders_106 (by decide) ?_
      refine z_iload_n (j := 1) hx hb dX11_orders_108 rfl rfl ?_
      refine z_iconst (v := 2) hx hb dX11_orders_109 (by decide) ?_
      refine z_irem hx hb dX11_orders_110 (by decide) ?_
      refine z_iast (f := (gA q 15)) (q' := (sA q 15 (upd (gA q 15) (8 : Int32).toNatClampNeg (v2 - v2 / 2 * 2)))) S hK 15 0 (fun _ => rfl) rfl (show ¬ (_ ∨ _) from by decide) dX11_orders_111 (wMa15 kc ad _ _) (fun _ h => h) ?_
      refine z_sub [0] rfl ?_
      exact b112 (sA q 15 (upd (gA q 15) (8 : Int32).toNatClampNeg (v2 - v2 / 2 * 2))) hok hF
  have b69 : ∀ (q : SS) (v2 : Int32) (v3 : Int32), kX11_orders_69 q v2 v3 → F = fX11_orders_69 q v2 v3 → Z p l e (zr 5 0 0) s m args below meth c 0 0 (MQ below (va_Qv (fun (_ : Unit) => True) (fun _ t => (GM D kc ad) A F t.heap) A) args s 0 0 A) 4 A (ZG D vwCl (wM kc ad) (fun _ tl => tl = []) A) q 69 [(0, .ref (ad 0)), (2, .int v2), (3, .int v3)] [] := by
    intro q v2 v3 hok hF
    refine z_iload_n (j := 2) hx hb dX11_orders_69 rfl rfl ?_
    refine z_bipush (v := 107) hx hb dX11_orders_70 (by decide) ?_
    refine z_icmp_ne (tgt := 96) hx hb dX11_orders_72 (by decide) (fun g72 => ?_) (fun g72 => ?_)
    · have hF := hF.trans (if_neg g72)
      have hok := And.right hok g72
      exact b96 q v2 v3 hok hF
    · have hF := hF.trans (if_pos g72)
      have hok := And.left hok g72
      refine z_aload_n (j := 0) hx hb dX11_orders_75 rfl rfl ?_
      refine z_get (v := .ref (ad 15)) S hK inX11 0 (fun _ => rfl) rfl 42 (by decide) q6_139 rfl rfl dX11_orders_76 ?_
      refine z_iconst (v := 4) hx hb dX11_orders_79 (by decide) ?_
      refine z_aload_n (j := 0) hx hb dX11_orders_80 rfl rfl ?_
      refine z_get (v := .ref (ad 15)) S hK inX11 0 (fun _ => rfl) rfl 42 (by decide) q6_139 rfl rfl dX11_orders_81 ?_
      refine z_bipush (v := 9) hx hb dX11_orders_84 (by decide) ?_
      refine z_iald (f := (gA q 15)) S hK 15 0 (fun _ => rfl) rfl (show ¬ (_ ∨ _) from by decide) dX11_orders_86 ?_
      refine z_iast (f := (gA q 15)) (q' := (sA q 15 (upd (gA q 15) (4 : Int32).toNatClampNeg ((gA q 15) (9 : Int32).toNatClampNeg)))) S hK 15 0 (fun _ => rfl) rfl (show ¬ (_ ∨ _) from by decide) dX11_orders_87 (wMa15 kc ad _ _) (fun _ h => h) ?_
      refine z_aload_n (j := 0) hx hb dX11_orders_88 rfl rfl ?_
      refine z_get (v := .ref (ad 15)) S hK inX11 0 (fun _ => rfl) rfl 42 (by decide) q6_139 rfl rfl dX11_orders_89 ?_
      refine z_bipush (v := 8) hx hb dX11_orders_92 (by decide) ?_
      refine z_iconst (v := 1) hx hb dX11_orders_94 (by decide) ?_
      refine z_iast (f := (upd (gA q 15) (4 : Int32).toNatClampNeg ((gA q 15) (9 : Int32).toNatClampNeg))) (q' := (sA (sA q 15 (upd (gA q 15) (4 : Int32).toNatClampNeg ((gA q 15) (9 : Int32).toNatClampNeg))) 15 (upd (upd (gA q 15) (4 : Int32).toNatClampNeg ((gA q 15) (9 : Int32).toNatClampNeg)) (8 : Int32).toNatClampNeg 1))) S hK 15 0 (fun _ => rfl) rfl (show ¬ (_ ∨ _) from by decide) dX11_orders_95 (wMa15 kc ad _ _) (fun _ h => h) ?_
      exact b96 (sA (sA q 15 (upd (gA q 15) (4 : Int32).toNatClampNeg ((gA q 15) (9 : Int32).toNatClampNeg))) 15 (upd (upd (gA q 15) (4 : Int32).toNatClampNeg ((gA q 15) (9 : Int32).toNatClampNeg)) (8 : Int32).toNatClampNeg 1)) v2 v3 hok hF
  have b43 : ∀ (q : SS) (s0 : Int32), kX11_orders_43 q s0 → F = fX11_orders_43 q s0 → Z p l e (zr 5 0 0) s m args below meth c 0 0 (MQ below (va_Qv (fun (_ : Unit) => True) (fun _ t => (GM D kc ad) A F t.heap) A) args s 0 0 A) 4 A (ZG D vwCl (wM kc ad) (fun _ tl => tl = []) A) q 43 [] [.int s0, .ref (ad 0)] := by
    intro q s0 hok hF
    refine z_put (v := .int s0) (q' := (sI q 6 s0)) S hK inX11 tyX11 tyX11_ok nmX11 0 (fun _ => rfl) rfl 6 (by decide) q6_103 rfl rfl rfl rfl (Nat.le_of_ble_eq_true rfl) dX11_orders_43 (wMp6 kc ad _ _) (fun _ h => h) ?_
    exact z_vret hx hb hlocks hr hF dX11_orders_46
  have b40 : ∀ (q : SS) (s0 : Int32), kX11_orders_40 q s0 → F = fX11_orders_40 q s0 → Z p l e (zr 5 0 0) s m args below meth c 0 0 (MQ below (va_Qv (fun (_ : Unit) => True) (fun _ t => (GM D kc ad) A F t.heap) A) args s 0 0 A) 4 A (ZG D vwCl (wM kc ad) (fun _ tl => tl = []) A) q 40 [] [.int s0, .ref (ad 0), .ref (ad 0)] := by
    intro q s0 hok hF
    have h40 := And.left hok
    have hok := And.right hok
    refine z_callVi (As := [.int s0]) S (ctX11_follows l D kc ad q s0 h40) (cwV 1 S.2.2.2.2 (gV q7_167 q7_169 qp3_8 q1_12 q7_170) rfl rfl rfl hX11_follows ⟨Nat.le_of_ble_eq_true rfl, Nat.le_of_ble_eq_true rfl⟩) hA (pbM D kc) (psM hK) (z_recv hK 0 (fun _ => rfl) rfl) rfl rfl (Nat.le_of_ble_eq_true rfl) dX11_orders_40 ⟨Nat.le_of_ble_eq_true rfl, Nat.le_of_ble_eq_true rfl⟩ ?_
    exact b43 (fX11_follows q s0).2 (fX11_follows q s0).1 hok hF
  have b30 : ∀ (q : SS) (v1 : Int32) (v2 : Int32) (v3 : Int32) (s0 : Int32), kX11_orders_30 q v1 v2 v3 s0 → F = fX11_orders_30 q v1 v2 v3 s0 → Z p l e (zr 5 0 0) s m args below meth c 0 0 (MQ below (va_Qv (fun (_ : Unit) => True) (fun _ t => (GM D kc ad) A F t.heap) A) args s 0 0 A) 4 A (ZG D vwCl (wM kc ad) (fun _ tl => tl = []) A) q 30 [(0, .ref (ad 0)), (1, .int v1), (2, .int v2), (3, .int v3)] [.int s0] := by
    intro q v1 v2 v3 s0 hok hF
    refine z_if_ne (tgt := 47) hx hb dX11_orders_30 (by decide) (fun g30 => ?_) (fun g30 => ?_)
    · have hF := hF.trans (if_neg g30)
      have hok := And.right hok g30
      refine z_iload_n (j := 3) hx hb dX11_orders_47 rfl rfl ?_
      refine z_bipush (v := 115) hx hb dX11_orders_48 (by decide) ?_
      refine z_icmp_ne (tgt := 69) hx hb dX11_orders_50 (by decide) (fun g50 => ?_) (fun g50 => ?_)
      · have hF := hF.trans (if_neg g50)
        have hok := And.right hok g50
        refine z_sub [0, 2, 3] rfl ?_
        exact b69 q v2 v3 hok hF
      · have hF := hF.trans (if_pos g50)
        have hok := And.left hok g50
        refine z_aload_n (j := 0) hx hb dX11_orders_53 rfl rfl ?_
        refine z_get (v := .ref (ad 15)) S hK inX11 0 (fun _ => rfl) rfl 42 (by decide) q6_139 rfl rfl dX11_orders_54 ?_
        refine z_bipush (v := 7) hx hb dX11_orders_57 (by decide) ?_
        refine z_iconst (v := 1) hx hb dX11_orders_59 (by decide) ?_
        refine z_aload_n (j := 0) hx hb dX11_orders_60 rfl rfl ?_
        refine z_get (v := .ref (ad 15)) S hK inX11 0 (fun _ => rfl) rfl 42 (by decide) q6_139 rfl rfl dX11_orders_61 ?_
        refine z_bipush (v := 7) hx hb dX11_orders_64 (by decide) ?_
        refine z_iald (f := (gA q 15)) S hK 15 0 (fun _ => rfl) rfl (show ¬ (_ ∨ _) from by decide) dX11_orders_66 ?_
        refine z_isub hx hb dX11_orders_67 ?_
        refine z_iast (f := (gA q 15)) (q' := (sA q 15 (upd (gA q 15) (7 : Int32).toNatClampNeg (1 - ((gA q 15) (7 : Int32).toNatClampNeg))))) S hK 15 0 (fun _ => rfl) rfl (show ¬ (_ ∨ _) from by decide) dX11_orders_68 (wMa15 kc ad _ _) (fun _ h => h) ?_
        refine z_sub [0, 2, 3] rfl ?_
        exact b69 (sA q 15 (upd (gA q 15) (7 : Int32).toNatClampNeg (1 - ((gA q 15) (7 : Int32).toNatClampNeg)))) v2 v3 hok hF
    · have hF := hF.trans (if_pos g30)
      have hok := And.left hok g30
      refine z_aload_n (j := 0) hx hb dX11_orders_33 rfl rfl ?_
      refine z_aload_n (j := 0) hx hb dX11_orders_34 rfl rfl ?_
      refine z_aload_n (j := 0) hx hb dX11_orders_35 rfl rfl ?_
      refine z_iload_n (j := 1) hx hb dX11_orders_36 rfl rfl ?_
      have h37 := And.left hok
      have hok := And.right hok
      refine z_callVi (As := [.int v1]) S (ctX11_leads l D kc ad q v1 h37) (cwV 1 S.2.2.2.2 (gV q7_152 q7_154 qp3_5 q1_12 q7_155) rfl rfl rfl hX11_leads ⟨Nat.le_of_ble_eq_true rfl, Nat.le_of_ble_eq_true rfl⟩) hA (pbM D kc) (psM hK) (z_recv hK 0 (fun _ => rfl) rfl) rfl rfl (Nat.le_of_ble_eq_true rfl) dX11_orders_37 ⟨Nat.le_of_ble_eq_true rfl, Nat.le_of_ble_eq_true rfl⟩ ?_
      refine z_sub [] rfl ?_
      exact b40 (fX11_leads q v1).2 (fX11_leads q v1).1 hok hF
  have b21 : ∀ (q : SS), kX11_orders_21 q → F = fX11_orders_21 q → Z p l e (zr 5 0 0) s m args below meth c 0 0 (MQ below (va_Qv (fun (_ : Unit) => True) (fun _ t => (GM D kc ad) A F t.heap) A) args s 0 0 A) 4 A (ZG D vwCl (wM kc ad) (fun _ tl => tl = []) A) q 21 [(0, .ref (ad 0))] [] := by
    intro q hok hF
    refine z_aload_n (j := 0) hx hb dX11_orders_21 rfl rfl ?_
    have h22 := And.left hok
    have hok := And.right hok
    refine z_callVv (As := []) S (ctX11_begins l D kc ad q h22) (cwV 0 S.2.2.2.2 (gV q7_148 q7_150 qp3_4 q1_12 q7_151) rfl rfl rfl hX11_begins ⟨Nat.le_of_ble_eq_true rfl, Nat.le_of_ble_eq_true rfl⟩) hA (pbM D kc) (psM hK) (z_recv hK 0 (fun _ => rfl) rfl) rfl rfl (Nat.le_of_ble_eq_true rfl) dX11_orders_22 ⟨Nat.le_of_ble_eq_true rfl, Nat.le_of_ble_eq_true rfl⟩ ?_
    exact z_vret hx hb hlocks hr hF dX11_orders_25
  have b17 : ∀ (q : SS), kX11_orders_17 q → F = fX11_orders_17 q → Z p l e (zr 5 0 0) s m args below meth c 0 0 (MQ below (va_Qv (fun (_ : Unit) => True) (fun _ t => (GM D kc ad) A F t.heap) A) args s 0 0 A) 4 A (ZG D vwCl (wM kc ad) (fun _ tl => tl = []) A) q 17 [(0, .ref (ad 0))] [] := by
    intro q hok hF
    refine z_aload_n (j := 0) hx hb dX11_orders_17 rfl rfl ?_
    have h18 := And.left hok
    have hok := And.right hok
    refine z_callVv (As := []) S (ctX11_asks l D kc ad q h18) (cwV 0 S.2.2.2.2 (gV q7_144 q7_146 qp3_3 q1_12 q7_147) rfl rfl rfl hX11_asks ⟨Nat.le_of_ble_eq_true rfl, Nat.le_of_ble_eq_true rfl⟩) hA (pbM D kc) (psM hK) (z_recv hK 0 (fun _ => rfl) rfl) rfl rfl (Nat.le_of_ble_eq_true rfl) dX11_orders_18 ⟨Nat.le_of_ble_eq_true rfl, Nat.le_of_ble_eq_true rfl⟩ ?_
    exact b21 (fX11_asks q) hok hF
  refine z_aload_n (j := 0) hx hb dX11_orders_0 rfl rfl ?_
  refine z_get (v := .ref (ad 9)) S hK inX11 0 (fun _ => rfl) rfl 36 (by decide) q6_133 rfl rfl dX11_orders_1 ?_
  refine z_iload_n (j := 1) hx hb dX11_orders_4 rfl rfl ?_
  have h5 := And.left hok
  have hok := And.right hok
  refine z_cald (f := (gA q 9)) S hK 9 3 (fun _ => rfl) rfl h5 dX11_orders_5 ?_
  refine z_istore_n (lv' := [(3, .int ((gA q 9) (v1 : Int32).toNatClampNeg)), (0, .ref (ad 0)), (1, .int v1), (2, .int v2)]) hx hb dX11_orders_6 rfl (by decide) rfl ?_
  refine z_iload_n (j := 0) hx hb dX11_orders_7 rfl rfl ?_
  refine z_bipush (v := 113) hx hb dX11_orders_8 (by decide) ?_
  refine z_icmp_ne (tgt := 26) hx hb dX11_orders_10 (by decide) (fun g10 => ?_) (fun g10 => ?_)
  · have hF := hF.trans (if_neg g10)
    have hok := And.right hok g10
    refine z_iload_n (j := 0) hx hb dX11_orders_26 rfl rfl ?_
    have h27 := And.left hok
    have hok := And.right hok
    refine z_callSi (As := [.int ((gA q 9) (v1 : Int32).toNatClampNeg)]) S (ctX11_ends l D kc ad q ((gA q 9) (v1 : Int32).toNatClampNeg) h27) (va_cwS 1 S.2.2.2.2 (gS q7_27 q7_28 q1_12 q7_29) rfl rfl rfl hX11_ends ⟨Nat.le_of_ble_eq_true rfl, Nat.le_of_ble_eq_true rfl⟩) hA (pbM D kc) (psM hK) rfl rfl (Nat.le_of_ble_eq_true rfl) dX11_orders_27 ⟨Nat.le_of_ble_eq_true rfl, Nat.le_of_ble_eq_true rfl⟩ ?_
    refine z_sub [1, 2, 3, 0] rfl ?_
    exact b30 (fX11_ends q ((gA q 9) (v1 : Int32).toNatClampNeg)).2 v1 v2 ((gA q 9) (v1 : Int32).toNatClampNeg) (fX11_ends q ((gA q 9) (v1 : Int32).toNatClampNeg)).1 hok hF
  · have hF := hF.trans (if_pos g10)
    have hok := And.left hok g10
    refine z_aload_n (j := 1) hx hb dX11_orders_13 rfl rfl ?_
    have h14 := And.left hok
    have hok := And.right hok
    refine z_callVv (As := []) S (ctX11_back l D kc ad q h14) (cwV 0 S.2.2.2.2 (gV q7_105 q7_107 qp2_11 q1_12 q7_108) rfl rfl rfl hX11_back ⟨Nat.le_of_ble_eq_true rfl, Nat.le_of_ble_eq_true rfl⟩) hA (pbM D kc) (psM hK) (z_recv hK 0 (fun _ => rfl) rfl) rfl rfl (Nat.le_of_ble_eq_true rfl) dX11_orders_14 ⟨Nat.le_of_ble_eq_true rfl, Nat.le_of_ble_eq_true rfl⟩ ?_
    refine z_sub [1] rfl ?_
    exact b17 (fX11_back q) hok hF
theorem hX11_orders : yX11_orders.cls = RX11 ∧ yX11_orders.cls ≠ "java/lang/invoke/MethodHandle" ∧ yX11_orders.cls ≠ "java/lang/invoke/VarHandle" ∧ (parseMethodDescriptor yX11_orders.desc).map (fun d => d.parameters.length) = some 2 := by decide +kernel
def fX11_reads_103 (q : SS) (s0 : Int32) : Int32 × SS := (s0, q)
def kX11_reads_103 (q : SS) (s0 : Int32) : Prop := True
def fX11_reads_102 (q : SS) (v2 : Int32) : Int32 × SS := fX11_reads_103 q v2
def kX11_reads_102 (q : SS) (v2 : Int32) : Prop := kX11_reads_103 q v2
def fX11_reads_73 (q : SS) (v1 : Int32) (v2 : Int32) : Int32 × SS := (if ((gA q 4) (v1 : Int32).toNatClampNeg) = 2 then (if (((gA q 3) (v1 : Int32).toNatClampNeg) &&& 8) = 0 then fX11_reads_103 q (v2 ||| 8) else fX11_reads_102 q v2) else fX11_reads_102 q v2)
def kX11_reads_73 (q : SS) (v1 : Int32) (v2 : Int32) : Prop := vp_in v1 80 ∧ ((((gA q 4) (v1 : Int32).toNatClampNeg) = 2 → vp_in v1 80 ∧ (((((gA q 3) (v1 : Int32).toNatClampNeg) &&& 8) = 0 → kX11_reads_103 q (v2 ||| 8)) ∧ (¬ (((gA q 3) (v1 : Int32).toNatClampNeg) &&& 8) = 0 → kX11_reads_102 q v2))) ∧ (¬ ((gA q 4) (v1 : Int32).toNatClampNeg) = 2 → kX11_reads_102 q v2))
def fX11_reads_47 (q : SS) (v1 : Int32) (s0 : Int32) (s1 : Int32) : Int32 × SS := (if ((gA q 4) (v1 : Int32).toNatClampNeg) = 0 then fX11_reads_73 q v1 (s1 ||| s0) else (if (((gA q 3) (v1 : Int32).toNatClampNeg) &&& 4) = 0 then fX11_reads_73 q v1 ((s1 ||| s0) ||| 4) else fX11_reads_73 q v1 (s1 ||| s0)))
def kX11_reads_47 (q : SS) (v1 : Int32) (s0 : Int32) (s1 : Int32) : Prop := vp_in v1 80 ∧ ((((gA q 4) (v1 : Int32).toNatClampNeg) = 0 → kX11_reads_73 q v1 (s1 ||| s0)) ∧ (¬ ((gA q 4) (v1 : Int32).toNatClampNeg) = 0 → vp_in v1 80 ∧ (((((gA q 3) (v1 : Int32).toNatClampNeg) &&& 4) = 0 → kX11_reads_73 q v1 ((s1 ||| s0) ||| 4)) ∧ (¬ (((gA q 3) (v1 : Int32).toNatClampNeg) &&& 4) = 0 → kX11_reads_73 q v1 (s1 ||| s0)))))
def fX11_reads_39 (q : SS) (v1 : Int32) (s0 : Int32) (s1 : Int32) : Int32 × SS := (if s0 = 0 then fX11_reads_47 q v1 0 s1 else fX11_reads_47 q v1 1 s1)
def kX11_reads_39 (q : SS) (v1 : Int32) (s0 : Int32) (s1 : Int32) : Prop := ((s0 = 0 → kX11_reads_47 q v1 0 s1) ∧ (¬ s0 = 0 → kX11_reads_47 q v1 1 s1))
def fX11_reads_36 (q : SS) (v1 : Int32) (s0 : Int32) (s1 : Int32) (s2 : Int32) (s3 : Int32) : Int32 × SS := fX11_reads_39 (fX11_isIn q s2 s1 s0).2 v1 (fX11_isIn q s2 s1 s0).1 s3
def kX11_reads_36 (q : SS) (v1 : Int32) (s0 : Int32) (s1 : Int32) (s2 : Int32) (s3 : Int32) : Prop := kX11_isIn q s2 s1 s0 ∧ kX11_reads_39 (fX11_isIn q s2 s1 s0).2 v1 (fX11_isIn q s2 s1 s0).1 s3
def fX11_reads (q : SS) (v1 : Int32) : Int32 × SS := fX11_reads_36 q v1 4 1 ((gA q 2) (v1 : Int32).toNatClampNeg) (((((gA q 1) (v1 : Int32).toNatClampNeg) &&& 1) ||| (((gA q 1) (v1 : Int32).toNatClampNeg) &&& 2)) ||| ((((gA q 1) (v1 : Int32).toNatClampNeg) &&& 4) * 2))
def kX11_reads (q : SS) (v1 : Int32) : Prop := vp_in v1 80 ∧ vp_in v1 80 ∧ vp_in v1 80 ∧ vp_in v1 80 ∧ kX11_reads_36 q v1 4 1 ((gA q 2) (v1 : Int32).toNatClampNeg) (((((gA q 1) (v1 : Int32).toNatClampNeg) &&& 1) ||| (((gA q 1) (v1 : Int32).toNatClampNeg) &&& 2)) ||| ((((gA q 1) (v1 : Int32).toNatClampNeg) &&& 4) * 2))
set_option maxHeartbeats 4000000 in
set_option maxRecDepth 100000 in
theorem ctX11_reads (l : Launch) (D : va_G) (kc : Nat → ClassId) (ad : Nat → Nat) (q : SS) (v1 : Int32) (hok : kX11_reads q v1) : Ci l yX11_reads (Cond.code yX11_reads cX11_reads 3 (some .int) :: lw_G) (zr 1 0 0) 0 0 (PM D kc) (GM D kc ad) (GM D kc ad) [.ref (ad 0), .int v1] q (fX11_reads q v1) := by
  refine Ci.of (cc := cX11_reads) (maxL := 3) (ret := (some .int)) (by decide) rfl (Nat.le_of_ble_eq_true rfl) ?_
  intro p e s m args below meth c A S hr hlocks hin hA hK
  have hx := S.1
  have hb := S.2.1
  have hK : va_K D vwCl (tysK kc) s := hK
  generalize hFe : fX11_reads q v1 = F
  have hF : F = fX11_reads q v1 := hFe.symm
  have b103 : ∀ (q : SS) (s0 : Int32), kX11_reads_103 q s0 → F = fX11_reads_103 q s0 → Z p l e (zr 1 0 0) s m args below meth c 0 0 (MQ below (va_Qi (fun (x : Int32) (_ : Unit) => x = F.1) (fun _ t => (GM D kc ad) A F.2 t.heap) A) args s 0 0 A) 3 A (ZG D vwCl (wM kc ad) (fun _ tl => tl = []) A) q 103 [] [.int s0] := by
    intro q s0 hok hF
    exact z_iret hx hb hlocks hr rfl hF dX11_reads_103
  have b102 : ∀ (q : SS) (v2 : Int32), kX11_reads_102 q v2 → F = fX11_reads_102 q v2 → Z p l e (zr 1 0 0) s m args below meth c 0 0 (MQ below (va_Qi (fun (x : Int32) (_ : Unit) => x = F.1) (fun _ t => (GM D kc ad) A F.2 t.heap) A) args s 0 0 A) 3 A (ZG D vwCl (wM kc ad) (fun _ tl => tl = []) A) q 102 [(2, .int v2)] [] := by
    intro q v2 hok hF
    refine z_iload_n (j := 0) hx hb dX11_reads_102 rfl rfl ?_
    refine z_sub [] rfl ?_
    exact b103 q v2 hok hF
  have b73 : ∀ (q : SS) (v1 : Int32) (v2 : Int32), kX11_reads_73 q v1 v2 → F = fX11_reads_73 q v1 v2 → Z p l e (zr 1 0 0) s m args below meth c 0 0 (MQ below (va_Qi (fun (x : Int32) (_ : Unit) => x = F.1) (fun _ t => (GM D kc ad) A F.2 t.heap) A) args s 0 0 A) 3 A (ZG D vwCl (wM kc ad) (fun _ tl => tl = []) A) q 73 [(0, .ref (ad 0)), (1, .int v1), (2, .int v2)] [] := by
    intro q v1 v2 hok hF
    refine z_aload_n (j := 0) hx hb dX11_reads_73 rfl rfl ?_
    refine z_get (v := .ref (ad 4)) S hK inX11 0 (fun _ => rfl) rfl 31 (by decide) q6_128 rfl rfl dX11_reads_74 ?_
    refine z_iload_n (j := 1) hx hb dX11_reads_77 rfl rfl ?_
    have h78 := And.left hok
    have hok := And.right hok
    refine z_iald (f := (gA q 4)) S hK 4 0 (fun _ => rfl) rfl h78 dX11_reads_78 ?_
    refine z_iconst (v := 2) hx hb dX11_reads_79 (by decide) ?_
    refine z_icmp_ne (tgt := 102) hx hb dX11_reads_80 (by decide) (fun g80 => ?_) (fun g80 => ?_)
    · have hF := hF.trans (if_neg g80)
      have hok := And.right hok g80
      refine z_sub [2] rfl ?_
      exact b102 q v2 hok hF
    · have hF := hF.trans (if_pos g80)
      have hok := And.left hok g80
      refine z_aload_n (j := 0) hx hb dX11_reads_83 rfl rfl ?_
      refine z_get (v := .ref (ad 3)) S hK inX11 0 (fun _ => rfl) rfl 30 (by decide) q6_127 rfl rfl dX11_reads_84 ?_
      refine z_iload_n (j := 1) hx hb dX11_reads_87 rfl rfl ?_
      have h88 := And.left hok
      have hok := And.right hok
      refine z_iald (f := (gA q 3)) S hK 3 0 (fun _ => rfl) rfl h88 dX11_reads_88 ?_
      refine z_bipush (v := 8) hx hb dX11_reads_89 (by decide) ?_
      refine z_iand hx hb dX11_reads_91 ?_
      refine z_if_ne (tgt := 102) hx hb dX11_reads_92 (by decide) (fun g92 => ?_) (fun g92 => ?_)
      · have hF := hF.trans (if_neg g92)
        have hok := And.right hok g92
        refine z_sub [2] rfl ?_
        exact b102 q v2 hok hF
      · have hF := hF.trans (if_pos g92)
        have hok := And.left hok g92
        refine z_iload_n (j := 2) hx hb dX11_reads_95 rfl rfl ?_
        refine z_bipush (v := 8) hx hb dX11_reads_96 (by decide) ?_
        refine z_ior hx hb dX11_reads_98 ?_
        refine z_goto (tgt := 103) hx hb dX11_reads_99 (by decide) ?_
        refine z_sub [] rfl ?_
        exact b103 q (v2 ||| 8) hok hF
  have b47 : ∀ (q : SS) (v1 : Int32) (s0 : Int32) (s1 : Int32), kX11_reads_47 q v1 s0 s1 → F = fX11_reads_47 q v1 s0 s1 → Z p l e (zr 1 0 0) s m args below meth c 0 0 (MQ below (va_Qi (fun (x : Int32) (_ : Unit) => x = F.1) (fun _ t => (GM D kc ad) A F.2 t.heap) A) args s 0 0 A) 3 A (ZG D vwCl (wM kc ad) (fun _ tl => tl = []) A) q 47 [(0, .ref (ad 0)), (1, .int v1)] [.int s0, .int s1] := by
    intro q v1 s0 s1 hok hF
    refine z_ior hx hb dX11_reads_47 ?_
    refine z_istore_n (lv' := [(2, .int (s1 ||| s0)), (0, .ref (ad 0)), (1, .int v1)]) hx hb dX11_reads_48 rfl (by decide) rfl ?_
    refine z_aload_n (j := 1) hx hb dX11_reads_49 rfl rfl ?_
    refine z_get (v := .ref (ad 4)) S hK inX11 0 (fun _ => rfl) rfl 31 (by decide) q6_128 rfl rfl dX11_reads_50 ?_
    refine z_iload_n (j := 2) hx hb dX11_reads_53 rfl rfl ?_
    have h54 := And.left hok
    have hok := And.right hok
    refine z_iald (f := (gA q 4)) S hK 4 0 (fun _ => rfl) rfl h54 dX11_reads_54 ?_
    refine z_if_eq (tgt := 73) hx hb dX11_reads_55 (by decide) (fun g55 => ?_) (fun g55 => ?_)
    · have hF := hF.trans (if_pos g55)
      have hok := And.left hok g55
      refine z_sub [1, 2, 0] rfl ?_
      exact b73 q v1 (s1 ||| s0) hok hF
    · have hF := hF.trans (if_neg g55)
      have hok := And.right hok g55
      refine z_aload_n (j := 1) hx hb dX11_reads_58 rfl rfl ?_
      refine z_get (v := .ref (ad 3)) S hK inX11 0 (fun _ => rfl) rfl 30 (by decide) q6_127 rfl rfl dX11_reads_59 ?_
      refine z_iload_n (j := 2) hx hb dX11_reads_62 rfl rfl ?_
      have h63 := And.left hok
      have hok := And.right hok
      refine z_iald (f := (gA q 3)) S hK 3 0 (fun _ => rfl) rfl h63 dX11_reads_63 ?_
      refine z_iconst (v := 4) hx hb dX11_reads_64 (by decide) ?_
      refine z_iand hx hb dX11_reads_65 ?_
      refine z_if_ne (tgt := 73) hx hb dX11_reads_66 (by decide) (fun g66 => ?_) (fun g66 => ?_)
      · have hF := hF.trans (if_neg g66)
        have hok := And.right hok g66
        refine z_sub [1, 2, 0] rfl ?_
        exact b73 q v1 (s1 ||| s0) hok hF
      · have hF := hF.trans (if_pos g66)
        have hok := And.left hok g66
        refine z_iload_n (j := 0) hx hb dX11_reads_69 rfl rfl ?_
        refine z_iconst (v := 4) hx hb dX11_reads_70 (by decide) ?_
        refine z_ior hx hb dX11_reads_71 ?_
        refine z_istore_n (lv' := [(2, .int ((s1 ||| s0) ||| 4)), (0, .ref (ad 0)), (1, .int v1)]) hx hb dX11_reads_72 rfl (by decide) rfl ?_
        refine z_sub [1, 2, 0] rfl ?_
        exact b73 q v1 ((s1 ||| s0) ||| 4) hok hF
  have b39 : ∀ (q : SS) (v1 : Int32) (s0 : Int32) (s1 : Int32), kX11_reads_39 q v1 s0 s1 → F = fX11_reads_39 q v1 s0 s1 → Z p l e (zr 1 0 0) s m args below meth c 0 0 (MQ below (va_Qi (fun (x : Int32) (_ : Unit) => x = F.1) (fun _ t => (GM D kc ad) A F.2 t.heap) A) args s 0 0 A) 3 A (ZG D vwCl (wM kc ad) (fun _ tl => tl = []) A) q 39 [(0, .ref (ad 0)), (1, .int v1)] [.int s0, .int s1] := by
    intro q v1 s0 s1 hok hF
    refine z_if_eq (tgt := 46) hx hb dX11_reads_39 (by decide) (fun g39 => ?_) (fun g39 => ?_)
    · have hF := hF.trans (if_pos g39)
      have hok := And.left hok g39
      refine z_iconst (v := 0) hx hb dX11_reads_46 (by decide) ?_
      exact b47 q v1 0 s1 hok hF
    · have hF := hF.trans (if_neg g39)
      have hok := And.right hok g39
      refine z_iconst (v := 1) hx hb dX11_reads_42 (by decide) ?_
      refine z_goto (tgt := 47) hx hb dX11_reads_43 (by decide) ?_
      exact b47 q v1 1 s1 hok hF
  have b36 : ∀ (q : SS) (v1 : Int32) (s0 : Int32) (s1 : Int32) (s2 : Int32) (s3 : Int32), kX11_reads_36 q v1 s0 s1 s2 s3 → F = fX11_reads_36 q v1 s0 s1 s2 s3 → Z p l e (zr 1 0 0) s m args below meth c 0 0 (MQ below (va_Qi (fun (x : Int32) (_ : Unit) => x = F.1) (fun _ t => (GM D kc ad) A F.2 t.heap) A) args s 0 0 A) 3 A (ZG D vwCl (wM kc ad) (fun _ tl => tl = []) A) q 36 [(0, .ref (ad 0)), (1, .int v1)] [.int s0, .int s1, .int s2, .int s3] := by
    intro q v1 s0 s1 s2 s3 hok hF
    have h36 := And.left hok
    have hok := And.right hok
    refine z_callSi (As := [.int s2, .int s1, .int s0]) S (ctX11_isIn l D kc ad q s2 s1 s0 h36) (va_cwS 3 S.2.2.2.2 (gS q7_21 q7_22 q1_12 q7_23) rfl rfl rfl hX11_isIn ⟨Nat.le_of_ble_eq_true rfl, Nat.le_of_ble_eq_true rfl⟩) hA (pbM D kc) (psM hK) rfl rfl (Nat.le_of_ble_eq_true rfl) dX11_reads_36 ⟨Nat.le_of_ble_eq_true rfl, Nat.le_of_ble_eq_true rfl⟩ ?_
    exact b39 (fX11_isIn q s2 s1 s0).2 v1 (fX11_isIn q s2 s1 s0).1 s3 hok hF
  refine z_aload_n (j := 0) hx hb dX11_reads_0 rfl rfl ?_
  refine z_get (v := .ref (ad 1)) S hK inX11 0 (fun _ => rfl) rfl 28 (by decide) q6_125 rfl rfl dX11_reads_1 ?_
  refine z_iload_n (j := 1) hx hb dX11_reads_4 rfl rfl ?_
  have h5 := And.left hok
  have hok := And.right hok
  refine z_iald (f := (gA q 1)) S hK 1 0 (fun _ => rfl) rfl h5 dX11_reads_5 ?_
  refine z_iconst (v := 1) hx hb dX11_reads_6 (by decide) ?_
  refine z_iand hx hb dX11_reads_7 ?_
  refine z_aload_n (j := 0) hx hb dX11_reads_8 rfl rfl ?_
  refine z_get (v := .ref (ad 1)) S hK inX11 0 (fun _ => rfl) rfl 28 (by decide) q6_125 rfl rfl dX11_reads_9 ?_
  refine z_iload_n (j := 1) hx hb dX11_reads_12 rfl rfl ?_
  have h13 := And.left hok
  have hok := And.right hok
  refine z_iald (f := (gA q 1)) S hK 1 0 (fun _ => rfl) rfl h13 dX11_reads_13 ?_
  refine z_iconst (v := 2) hx hb dX11_reads_14 (by decide) ?_
  refine z_iand hx hb dX11_reads_15 ?_
  refine z_ior hx hb dX11_reads_16 ?_
  refine z_aload_n (j := 0) hx hb dX11_reads_17 rfl rfl ?_
  refine z_get (v := .ref (ad 1)) S hK inX11 0 (fun _ => rfl) rfl 28 (by decide) q6_125 rfl rfl dX11_reads_18 ?_
  refine z_iload_n (j := 1) hx hb dX11_reads_21 rfl rfl ?_
  have h22 := And.left hok
  have hok := And.right hok
  refine z_iald (f := (gA q 1)) S hK 1 0 (fun _ => rfl) rfl h22 dX11_reads_22 ?_
  refine z_iconst (v := 4) hx hb dX11_reads_23 (by decide) ?_
  refine z_iand hx hb dX11_reads_24 ?_
  refine z_iconst (v := 2) hx hb dX11_reads_25 (by decide) ?_
  refine z_imul hx hb dX11_reads_26 ?_
  refine z_ior hx hb dX11_reads_27 ?_
  refine z_aload_n (j := 0) hx hb dX11_reads_28 rfl rfl ?_
  refine z_get (v := .ref (ad 2)) S hK inX11 0 (fun _ => rfl) rfl 29 (by decide) q6_126 rfl rfl dX11_reads_29 ?_
  refine z_iload_n (j := 1) hx hb dX11_reads_32 rfl rfl ?_
  have h33 := And.left hok
  have hok := And.right hok
  refine z_iald (f := (gA q 2)) S hK 2 0 (fun _ => rfl) rfl h33 dX11_reads_33 ?_
  refine z_iconst (v := 1) hx hb dX11_reads_34 (by decide) ?_
  refine z_iconst (v := 4) hx hb dX11_reads_35 (by decide) ?_
  exact b36 q v1 4 1 ((gA q 2) (v1 : Int32).toNatClampNeg) (((((gA q 1) (v1 : Int32).toNatClampNeg) &&& 1) ||| (((gA q 1) (v1 : Int32).toNatClampNeg) &&& 2)) ||| ((((gA q 1) (v1 : Int32).toNatClampNeg) &&& 4) * 2)) hok hF
theorem hX11_reads : yX11_reads.cls = RX11 ∧ yX11_reads.cls ≠ "java/lang/invoke/MethodHandle" ∧ yX11_reads.cls ≠ "java/lang/invoke/VarHandle" ∧ (parseMethodDescriptor yX11_reads.desc).map (fun d => d.parameters.length) = some 1 := by decide +kernel
def fX11_way_40 (q : SS) (s0 : Int32) : Int32 × SS := (s0, q)
def kX11_way_40 (q : SS) (s0 : Int32) : Prop := True
def fX11_way_36 (q : SS) (s0 : Int32) : Int32 × SS := fX11_way_40 q s0
def kX11_way_36 (q : SS) (s0 : Int32) : Prop := kX11_way_40 q s0
def fX11_way_22 (q : SS) (v1 : Int32) (v2 : Int32) : Int32 × SS := (if v2 = 0 then fX11_way_36 (fX11_follows q ((gA q 5) (v1 : Int32).toNatClampNeg)).2 (fX11_follows q ((gA q 5) (v1 : Int32).toNatClampNeg)).1 else fX11_way_40 q (-1))
def kX11_way_22 (q : SS) (v1 : Int32) (v2 : Int32) : Prop := ((v2 = 0 → vp_in v1 80 ∧ kX11_follows q ((gA q 5) (v1 : Int32).toNatClampNeg) ∧ kX11_way_36 (fX11_follows q ((gA q 5) (v1 : Int32).toNatClampNeg)).2 (fX11_follows q ((gA q 5) (v1 : Int32).toNatClampNeg)).1) ∧ (¬ v2 = 0 → kX11_way_40 q (-1)))
def fX11_way_81 (q : SS) (s0 : Int32) : Int32 × SS := (s0, q)
def kX11_way_81 (q : SS) (s0 : Int32) : Prop := True
def fX11_way_80 (q : SS) : Int32 × SS := fX11_way_81 q (-1)
def kX11_way_80 (q : SS) : Prop := kX11_way_81 q (-1)
def fX11_way_77 (q : SS) (s0 : Int32) : Int32 × SS := fX11_way_81 q s0
def kX11_way_77 (q : SS) (s0 : Int32) : Prop := kX11_way_81 q s0
def fX11_way (q : SS) (v1 : Int32) (v2 : Int32) : Int32 × SS := (if ((gA q 9) (v1 : Int32).toNatClampNeg) = 110 then fX11_way_22 q v1 v2 else (if ((gA q 9) (v1 : Int32).toNatClampNeg) = 99 then fX11_way_22 q v1 v2 else (if ((gA q 9) (v1 : Int32).toNatClampNeg) = 111 then (if (v2 &&& (((gA q 6) (v1 : Int32).toNatClampNeg) ^^^ (-1))) = 0 then fX11_way_77 (fX11_follows q (((gA q 5) (v1 : Int32).toNatClampNeg) ||| v2)).2 (fX11_follows q (((gA q 5) (v1 : Int32).toNatClampNeg) ||| v2)).1 else fX11_way_80 q) else fX11_way_80 q)))
def kX11_way (q : SS) (v1 : Int32) (v2 : Int32) : Prop := vp_in v1 80 ∧ ((((gA q 9) (v1 : Int32).toNatClampNeg) = 110 → kX11_way_22 q v1 v2) ∧ (¬ ((gA q 9) (v1 : Int32).toNatClampNeg) = 110 → vp_in v1 80 ∧ ((((gA q 9) (v1 : Int32).toNatClampNeg) = 99 → kX11_way_22 q v1 v2) ∧ (¬ ((gA q 9) (v1 : Int32).toNatClampNeg) = 99 → vp_in v1 80 ∧ ((((gA q 9) (v1 : Int32).toNatClampNeg) = 111 → vp_in v1 80 ∧ (((v2 &&& (((gA q 6) (v1 : Int32).toNatClampNeg) ^^^ (-1))) = 0 → vp_in v1 80 ∧ kX11_follows q (((gA q 5) (v1 : Int32).toNatClampNeg) ||| v2) ∧ kX11_way_77 (fX11_follows q (((gA q 5) (v1 : Int32).toNatClampNeg) ||| v2)).2 (fX11_follows q (((gA q 5) (v1 : Int32).toNatClampNeg) ||| v2)).1) ∧ (¬ (v2 &&& (((gA q 6) (v1 : Int32).toNatClampNeg) ^^^ (-1))) = 0 → kX11_way_80 q))) ∧ (¬ ((gA q 9) (v1 : Int32).toNatClampNeg) = 111 → kX11_way_80 q))))))
set_option maxHeartbeats 4000000 in
set_option maxRecDepth 100000 in
theorem ctX11_way (l : Launch) (D : va_G) (kc : Nat → ClassId) (ad : Nat → Nat) (q : SS) (v1 : Int32) (v2 : Int32) (hok : kX11_way q v1 v2) : Ci l yX11_way (Cond.code yX11_way cX11_way 3 (some .int) :: lw_G) (zr 2 0 0) 0 0 (PM D kc) (GM D kc ad) (GM D kc ad) [.ref (ad 0), .int v1, .int v2] q (fX11_way q v1 v2) := by
  refine Ci.of (cc := cX11_way) (maxL := 3) (ret := (some .int)) (by decide) rfl (Nat.le_of_ble_eq_true rfl) ?_
  intro p e s m args below meth c A S hr hlocks hin hA hK
  have hx := S.1
  have hb := S.2.1
  have hK : va_K D vwCl (tysK kc) s := hK
  generalize hFe : fX11_way q v1 v2 = F
  have hF : F = fX11_way q v1 v2 := hFe.symm
  have b40 : ∀ (q : SS) (s0 : Int32), kX11_way_40 q s0 → F = fX11_way_40 q s0 → Z p l e (zr 2 0 0) s m args below meth c 0 0 (MQ below (va_Qi (fun (x : Int32) (_ : Unit) => x = F.1) (fun _ t => (GM D kc ad) A F.2 t.heap) A) args s 0 0 A) 3 A (ZG D vwCl (wM kc ad) (fun _ tl => tl = []) A) q 40 [] [.int s0] := by
    intro q s0 hok hF
    exact z_iret hx hb hlocks hr rfl hF dX11_way_40
  have b36 : ∀ (q : SS) (s0 : Int32), kX11_way_36 q s0 → F = fX11_way_36 q s0 → Z p l e (zr 2 0 0) s m args below meth c 0 0 (MQ below (va_Qi (fun (x : Int32) (_ : Unit) => x = F.1) (fun _ t => (GM D kc ad) A F.2 t.heap) A) args s 0 0 A) 3 A (ZG D vwCl (wM kc ad) (fun _ tl => tl = []) A) q 36 [] [.int s0] := by
    intro q s0 hok hF
    refine z_goto (tgt := 40) hx hb dX11_way_36 (by decide) ?_
    exact b40 q s0 hok hF
  have b22 : ∀ (q : SS) (v1 : Int32) (v2 : Int32), kX11_way_22 q v1 v2 → F = fX11_way_22 q v1 v2 → Z p l e (zr 2 0 0) s m args below meth c 0 0 (MQ below (va_Qi (fun (x : Int32) (_ : Unit) => x = F.1) (fun _ t => (GM D kc ad) A F.2 t.heap) A) args s 0 0 A) 3 A (ZG D vwCl (wM kc ad) (fun _ tl => tl = []) A) q 22 [(0, .ref (ad 0)), (1, .int v1), (2, .int v2)] [] := by
    intro q v1 v2 hok hF
    refine z_iload_n (j := 2) hx hb dX11_way_22 rfl rfl ?_
    refine z_if_ne (tgt := 39) hx hb dX11_way_23 (by decide) (fun g23 => ?_) (fun g23 => ?_)
    · have hF := hF.trans (if_neg g23)
      have hok := And.right hok g23
      refine z_iconst (v := (-1)) hx hb dX11_way_39 (by decide) ?_
      refine z_sub [] rfl ?_
      exact b40 q (-1) hok hF
    · have hF := hF.trans (if_pos g23)
      have hok := And.left hok g23
      refine z_aload_n (j := 0) hx hb dX11_way_26 rfl rfl ?_
      refine z_aload_n (j := 0) hx hb dX11_way_27 rfl rfl ?_
      refine z_get (v := .ref (ad 5)) S hK inX11 0 (fun _ => rfl) rfl 32 (by decide) q6_129 rfl rfl dX11_way_28 ?_
      refine z_iload_n (j := 1) hx hb dX11_way_31 rfl rfl ?_
      have h32 := And.left hok
      have hok := And.right hok
      refine z_iald (f := (gA q 5)) S hK 5 0 (fun _ => rfl) rfl h32 dX11_way_32 ?_
      have h33 := And.left hok
      have hok := And.right hok
      refine z_callVi (As := [.int ((gA q 5) (v1 : Int32).toNatClampNeg)]) S (ctX11_follows l D kc ad q ((gA q 5) (v1 : Int32).toNatClampNeg) h33) (cwV 1 S.2.2.2.2 (gV q7_167 q7_169 qp3_8 q1_12 q7_170) rfl rfl rfl hX11_follows ⟨Nat.le_of_ble_eq_true rfl, Nat.le_of_ble_eq_true rfl⟩) hA (pbM D kc) (psM hK) (z_recv hK 0 (fun _ => rfl) rfl) rfl rfl (Nat.le_of_ble_eq_true rfl) dX11_way_33 ⟨Nat.le_of_ble_eq_true rfl, Nat.le_of_ble_eq_true rfl⟩ ?_
      refine z_sub [] rfl ?_
      exact b36 (fX11_follows q ((gA q 5) (v1 : Int32).toNatClampNeg)).2 (fX11_follows q ((gA q 5) (v1 : Int32).toNatClampNeg)).1 hok hF
  have b81 : ∀ (q : SS) (s0 : Int32), kX11_way_81 q s0 → F = fX11_way_81 q s0 → Z p l e (zr 2 0 0) s m args below meth c 0 0 (MQ below (va_Qi (fun (x : Int32) (_ : Unit) => x = F.1) (fun _ t => (GM D kc ad) A F.2 t.heap) A) args s 0 0 A) 3 A (ZG D vwCl (wM kc ad) (fun _ tl => tl = []) A) q 81 [] [.int s0] := by
    intro q s0 hok hF
    exact z_iret hx hb hlocks hr rfl hF dX11_way_81
  have b80 : ∀ (q : SS), kX11_way_80 q → F = fX11_way_80 q → Z p l e (zr 2 0 0) s m args below meth c 0 0 (MQ below (va_Qi (fun (x : Int32) (_ : Unit) => x = F.1) (fun _ t => (GM D kc ad) A F.2 t.heap) A) args s 0 0 A) 3 A (ZG D vwCl (wM kc ad) (fun _ tl => tl = []) A) q 80 [] [] := by
    intro q hok hF
    refine z_iconst (v := (-1)) hx hb dX11_way_80 (by decide) ?_
    exact b81 q (-1) hok hF
  have b77 : ∀ (q : SS) (s0 : Int32), kX11_way_77 q s0 → F = fX11_way_77 q s0 → Z p l e (zr 2 0 0) s m args below meth c 0 0 (MQ below (va_Qi (fun (x : Int32) (_ : Unit) => x = F.1) (fun _ t => (GM D kc ad) A F.2 t.heap) A) args s 0 0 A) 3 A (ZG D vwCl (wM kc ad) (fun _ tl => tl = []) A) q 77 [] [.int s0] := by
    intro q s0 hok hF
    refine z_goto (tgt := 81) hx hb dX11_way_77 (by decide) ?_
    exact b81 q s0 hok hF
  refine z_aload_n (j := 0) hx hb dX11_way_0 rfl rfl ?_
  refine z_get (v := .ref (ad 9)) S hK inX11 0 (fun _ => rfl) rfl 36 (by decide) q6_133 rfl rfl dX11_way_1 ?_
  refine z_iload_n (j := 1) hx hb dX11_way_4 rfl rfl ?_
  have h5 := And.left hok
  have hok := And.right hok
  refine z_cald (f := (gA q 9)) S hK 9 3 (fun _ => rfl) rfl h5 dX11_way_5 ?_
  refine z_bipush (v := 110) hx hb dX11_way_6 (by decide) ?_
  refine z_icmp_eq (tgt := 22) hx hb dX11_way_8 (by decide) (fun g8 => ?_) (fun g8 => ?_)
  · have hF := hF.trans (if_pos g8)
    have hok := And.left hok g8
    exact b22 q v1 v2 hok hF
  · have hF := hF.trans (if_neg g8)
    have hok := And.right hok g8
    refine z_aload_n (j := 0) hx hb dX11_way_11 rfl rfl ?_
    refine z_get (v := .ref (ad 9)) S hK inX11 0 (fun _ => rfl) rfl 36 (by decide) q6_133 rfl rfl dX11_way_12 ?_
    refine z_iload_n (j := 1) hx hb dX11_way_15 rfl rfl ?_
    have h16 := And.left hok
    have hok := And.right hok
    refine z_cald (f := (gA q 9)) S hK 9 3 (fun _ => rfl) rfl h16 dX11_way_16 ?_
    refine z_bipush (v := 99) hx hb dX11_way_17 (by decide) ?_
    refine z_icmp_ne (tgt := 41) hx hb dX11_way_19 (by decide) (fun g19 => ?_) (fun g19 => ?_)
    · have hF := hF.trans (if_neg g19)
      have hok := And.right hok g19
      refine z_aload_n (j := 0) hx hb dX11_way_41 rfl rfl ?_
      refine z_get (v := .ref (ad 9)) S hK inX11 0 (fun _ => rfl) rfl 36 (by decide) q6_133 rfl rfl dX11_way_42 ?_
      refine z_iload_n (j := 1) hx hb dX11_way_45 rfl rfl ?_
      have h46 := And.left hok
      have hok := And.right hok
      refine z_cald (f := (gA q 9)) S hK 9 3 (fun _ => rfl) rfl h46 dX11_way_46 ?_
      refine z_bipush (v := 111) hx hb dX11_way_47 (by decide) ?_
      refine z_icmp_ne (tgt := 80) hx hb dX11_way_49 (by decide) (fun g49 => ?_) (fun g49 => ?_)
      · have hF := hF.trans (if_neg g49)
        have hok := And.right hok g49
        refine z_sub [] rfl ?_
        exact b80 q hok hF
      · have hF := hF.trans (if_pos g49)
        have hok := And.left hok g49
        refine z_iload_n (j := 2) hx hb dX11_way_52 rfl rfl ?_
        refine z_aload_n (j := 0) hx hb dX11_way_53 rfl rfl ?_
        refine z_get (v := .ref (ad 6)) S hK inX11 0 (fun _ => rfl) rfl 33 (by decide) q6_130 rfl rfl dX11_way_54 ?_
        refine z_iload_n (j := 1) hx hb dX11_way_57 rfl rfl ?_
        have h58 := And.left hok
        have hok := And.right hok
        refine z_iald (f := (gA q 6)) S hK 6 0 (fun _ => rfl) rfl h58 dX11_way_58 ?_
        refine z_iconst (v := (-1)) hx hb dX11_way_59 (by decide) ?_
        refine z_ixor hx hb dX11_way_60 ?_
        refine z_iand hx hb dX11_way_61 ?_
        refine z_if_ne (tgt := 80) hx hb dX11_way_62 (by decide) (fun g62 => ?_) (fun g62 => ?_)
        · have hF := hF.trans (if_neg g62)
          have hok := And.right hok g62
          refine z_sub [] rfl ?_
          exact b80 q hok hF
        · have hF := hF.trans (if_pos g62)
          have hok := And.left hok g62
          refine z_aload_n (j := 0) hx hb dX11_way_65 rfl rfl ?_
          refine z_aload_n (j := 0) hx hb dX11_way_66 rfl rfl ?_
          refine z_get (v := .ref (ad 5)) S hK inX11 0 (fun _ => rfl) rfl 32 (by decide) q6_129 rfl rfl dX11_way_67 ?_
          refine z_iload_n (j := 1) hx hb dX11_way_70 rfl rfl ?_
          have h71 := And.left hok
          have hok := And.right hok
          refine z_iald (f := (gA q 5)) S hK 5 0 (fun _ => rfl) rfl h71 dX11_way_71 ?_
          refine z_iload_n (j := 2) hx hb dX11_way_72 rfl rfl ?_
          refine z_ior hx hb dX11_way_73 ?_
          have h74 := And.left hok
          have hok := And.right hok
          refine z_callVi (As := [.int (((gA q 5) (v1 : Int32).toNatClampNeg) ||| v2)]) S (ctX11_follows l D kc ad q (((gA q 5) (v1 : Int32).toNatClampNeg) ||| v2) h74) (cwV 1 S.2.2.2.2 (gV q7_167 q7_169 qp3_8 q1_12 q7_170) rfl rfl rfl hX11_follows ⟨Nat.le_of_ble_eq_true rfl, Nat.le_of_ble_eq_true rfl⟩) hA (pbM D kc) (psM hK) (z_recv hK 0 (fun _ => rfl) rfl) rfl rfl (Nat.le_of_ble_eq_true rfl) dX11_way_74 ⟨Nat.le_of_ble_eq_true rfl, Nat.le_of_ble_eq_true rfl⟩ ?_
          refine z_sub [] rfl ?_
          exact b77 (fX11_follows q (((gA q 5) (v1 : Int32).toNatClampNeg) ||| v2)).2 (fX11_follows q (((gA q 5) (v1 : Int32).toNatClampNeg) ||| v2)).1 hok hF
    · have hF := hF.trans (if_pos g19)
      have hok := And.left hok g19
      exact b22 q v1 v2 hok hF
theorem hX11_way : yX11_way.cls = RX11 ∧ yX11_way.cls ≠ "java/lang/invoke/MethodHandle" ∧ yX11_way.cls ≠ "java/lang/invoke/VarHandle" ∧ (parseMethodDescriptor yX11_way.desc).map (fun d => d.parameters.length) = some 2 := by decide +kernel
def fX11_usedShare_40 (q : SS) (s0 : UInt32) : UInt32 × SS := (s0, q)
def kX11_usedShare_40 (q : SS) (s0 : UInt32) : Prop := True
def fX11_usedShare_15 (q : SS) (s0 : Int32) : UInt32 × SS := (if s0 = 0 then fX11_usedShare_40 (sI q 0 s0) (FP.fdiv (FP.l2f (gL q 22)) (FP.l2f (gL q 21))) else fX11_usedShare_40 (sI q 0 s0) FP.fconst0)
def kX11_usedShare_15 (q : SS) (s0 : Int32) : Prop := ((s0 = 0 → vf_n32 (FP.fdiv (FP.l2f (gL q 22)) (FP.l2f (gL q 21))) ∧ kX11_usedShare_40 (sI q 0 s0) (FP.fdiv (FP.l2f (gL q 22)) (FP.l2f (gL q 21)))) ∧ (¬ s0 = 0 → kX11_usedShare_40 (sI q 0 s0) FP.fconst0))
def fX11_usedShare (q : SS) : UInt32 × SS := (if (lg_cmp (gL q 21) 0) = 0 then fX11_usedShare_15 q 1 else fX11_usedShare_15 q 0)
def kX11_usedShare (q : SS) : Prop := (((lg_cmp (gL q 21) 0) = 0 → kX11_usedShare_15 q 1) ∧ (¬ (lg_cmp (gL q 21) 0) = 0 → kX11_usedShare_15 q 0))
set_option maxHeartbeats 4000000 in
set_option maxRecDepth 100000 in
theorem ctX11_usedShare (l : Launch) (D : va_G) (kc : Nat → ClassId) (ad : Nat → Nat) (q : SS) (hok : kX11_usedShare q) : Cf l yX11_usedShare (Cond.code yX11_usedShare cX11_usedShare 1 (some .float) :: lw_G) (zr 0 0 0) 0 0 (PM D kc) (GM D kc ad) (GM D kc ad) [.ref (ad 0)] q (fX11_usedShare q) := by
  refine Cf.of (cc := cX11_usedShare) (maxL := 1) (ret := (some .float)) (by decide) rfl (Nat.le_of_ble_eq_true rfl) ?_
  intro p e s m args below meth c A S hr hlocks hin hA hK
  have hx := S.1
  have hb := S.2.1
  have hK : va_K D vwCl (tysK kc) s := hK
  generalize hFe : fX11_usedShare q = F
  have hF : F = fX11_usedShare q := hFe.symm
  have b40 : ∀ (q : SS) (s0 : UInt32), kX11_usedShare_40 q s0 → F = fX11_usedShare_40 q s0 → Z p l e (zr 0 0 0) s m args below meth c 0 0 (MQ below (va_Qf (fun (x : UInt32) (_ : Unit) => x = F.1) (fun _ t => (GM D kc ad) A F.2 t.heap) A) args s 0 0 A) 1 A (ZG D vwCl (wM kc ad) (fun _ tl => tl = []) A) q 40 [] [.float s0] := by
    intro q s0 hok hF
    exact z_fret hx hb hlocks hr hF dX11_usedShare_40
  have b15 : ∀ (q : SS) (s0 : Int32), kX11_usedShare_15 q s0 → F = fX11_usedShare_15 q s0 → Z p l e (zr 0 0 0) s m args below meth c 0 0 (MQ below (va_Qf (fun (x : UInt32) (_ : Unit) => x = F.1) (fun _ t => (GM D kc ad) A F.2 t.heap) A) args s 0 0 A) 1 A (ZG D vwCl (wM kc ad) (fun _ tl => tl = []) A) q 15 [(0, .ref (ad 0))] [.int s0, .ref (ad 0)] := by
    intro q s0 hok hF
    refine z_put (v := .int s0) (q' := (sI q 0 s0)) S hK inX11 tyX11 tyX11_ok nmX11 0 (fun _ => rfl) rfl 0 (by decide) q6_97 rfl rfl rfl rfl (Nat.le_of_ble_eq_true rfl) dX11_usedShare_15 (wMp0 kc ad _ _) (fun _ h => h) ?_
    refine z_aload_n (j := 0) hx hb dX11_usedShare_18 rfl rfl ?_
    refine z_get (v := .int s0) S hK inX11 0 (fun _ => rfl) rfl 0 (by decide) q6_97 rfl rfl dX11_usedShare_19 ?_
    refine z_if_ne (tgt := 39) hx hb dX11_usedShare_22 (by decide) (fun g22 => ?_) (fun g22 => ?_)
    · have hF := hF.trans (if_neg g22)
      have hok := And.right hok g22
      refine z_fconst0 hx hb dX11_usedShare_39 ?_
      refine z_sub [] rfl ?_
      exact b40 (sI q 0 s0) FP.fconst0 hok hF
    · have hF := hF.trans (if_pos g22)
      have hok := And.left hok g22
      refine z_aload_n (j := 0) hx hb dX11_usedShare_25 rfl rfl ?_
      refine z_get (v := .long (gL q 22)) S hK inX11 0 (fun _ => rfl) rfl 22 (by decide) q6_119 rfl rfl dX11_usedShare_26 ?_
      refine z_l2f hx hb dX11_usedShare_29 ?_
      refine z_aload_n (j := 0) hx hb dX11_usedShare_30 rfl rfl ?_
      refine z_get (v := .long (gL q 21)) S hK inX11 0 (fun _ => rfl) rfl 21 (by decide) q6_118 rfl rfl dX11_usedShare_31 ?_
      refine z_l2f hx hb dX11_usedShare_34 ?_
      have h35 := And.left hok
      have hok := And.right hok
      refine z_fdiv hx hb dX11_usedShare_35 h35 ?_
      refine z_goto (tgt := 40) hx hb dX11_usedShare_36 (by decide) ?_
      refine z_sub [] rfl ?_
      exact b40 (sI q 0 s0) (FP.fdiv (FP.l2f (gL q 22)) (FP.l2f (gL q 21))) hok hF
  refine z_aload_n (j := 0) hx hb dX11_usedShare_0 rfl rfl ?_
  refine z_aload_n (j := 0) hx hb dX11_usedShare_1 rfl rfl ?_
  refine z_get (v := .long (gL q 21)) S hK inX11 0 (fun _ => rfl) rfl 21 (by decide) q6_118 rfl rfl dX11_usedShare_2 ?_
  refine z_lconst (v := 0) hx hb dX11_usedShare_5 (by decide) ?_
  refine z_lcmp hx hb dX11_usedShare_6 ?_
  refine z_if_ne (tgt := 14) hx hb dX11_usedShare_7 (by decide) (fun g7 => ?_) (fun g7 => ?_)
  · have hF := hF.trans (if_neg g7)
    have hok := And.right hok g7
    refine z_iconst (v := 0) hx hb dX11_usedShare_14 (by decide) ?_
    exact b15 q 0 hok hF
  · have hF := hF.trans (if_pos g7)
    have hok := And.left hok g7
    refine z_iconst (v := 1) hx hb dX11_usedShare_10 (by decide) ?_
    refine z_goto (tgt := 15) hx hb dX11_usedShare_11 (by decide) ?_
    exact b15 q 1 hok hF
theorem hX11_usedShare : yX11_usedShare.cls = RX11 ∧ yX11_usedShare.cls ≠ "java/lang/invoke/MethodHandle" ∧ yX11_usedShare.cls ≠ "java/lang/invoke/VarHandle" ∧ (parseMethodDescriptor yX11_usedShare.desc).map (fun d => d.parameters.length) = some 0 := by decide +kernel
def fX11_meanCycles_38 (q : SS) (s0 : UInt64) : UInt64 × SS := (s0, q)
def kX11_meanCycles_38 (q : SS) (s0 : UInt64) : Prop := True
def fX11_meanCycles_13 (q : SS) (s0 : Int32) : UInt64 × SS := (if s0 = 0 then fX11_meanCycles_38 (sI q 0 s0) (FP.ddiv (FP.l2d (gL q 22)) (FP.i2d (gI q 10))) else fX11_meanCycles_38 (sI q 0 s0) FP.dconst0)
def kX11_meanCycles_13 (q : SS) (s0 : Int32) : Prop := ((s0 = 0 → vf_n64 (FP.ddiv (FP.l2d (gL q 22)) (FP.i2d (gI q 10))) ∧ kX11_meanCycles_38 (sI q 0 s0) (FP.ddiv (FP.l2d (gL q 22)) (FP.i2d (gI q 10)))) ∧ (¬ s0 = 0 → kX11_meanCycles_38 (sI q 0 s0) FP.dconst0))
def fX11_meanCycles (q : SS) : UInt64 × SS := (if (gI q 10) = 0 then fX11_meanCycles_13 q 1 else fX11_meanCycles_13 q 0)
def kX11_meanCycles (q : SS) : Prop := (((gI q 10) = 0 → kX11_meanCycles_13 q 1) ∧ (¬ (gI q 10) = 0 → kX11_meanCycles_13 q 0))
set_option maxHeartbeats 4000000 in
set_option maxRecDepth 100000 in
theorem ctX11_meanCycles (l : Launch) (D : va_G) (kc : Nat → ClassId) (ad : Nat → Nat) (q : SS) (hok : kX11_meanCycles q) : Cd l yX11_meanCycles (Cond.code yX11_meanCycles cX11_meanCycles 1 (some .double) :: lw_G) (zr 0 0 0) 0 0 (PM D kc) (GM D kc ad) (GM D kc ad) [.ref (ad 0)] q (fX11_meanCycles q) := by
  refine Cd.of (cc := cX11_meanCycles) (maxL := 1) (ret := (some .double)) (by decide) rfl (Nat.le_of_ble_eq_true rfl) ?_
  intro p e s m args below meth c A S hr hlocks hin hA hK
  have hx := S.1
  have hb := S.2.1
  have hK : va_K D vwCl (tysK kc) s := hK
  generalize hFe : fX11_meanCycles q = F
  have hF : F = fX11_meanCycles q := hFe.symm
  have b38 : ∀ (q : SS) (s0 : UInt64), kX11_meanCycles_38 q s0 → F = fX11_meanCycles_38 q s0 → Z p l e (zr 0 0 0) s m args below meth c 0 0 (MQ below (va_Qd (fun (x : UInt64) (_ : Unit) => x = F.1) (fun _ t => (GM D kc ad) A F.2 t.heap) A) args s 0 0 A) 1 A (ZG D vwCl (wM kc ad) (fun _ tl => tl = []) A) q 38 [] [.double s0] := by
    intro q s0 hok hF
    exact z_dret hx hb hlocks hr hF dX11_meanCycles_38
  have b13 : ∀ (q : SS) (s0 : Int32), kX11_meanCycles_13 q s0 → F = fX11_meanCycles_13 q s0 → Z p l e (zr 0 0 0) s m args below meth c 0 0 (MQ below (va_Qd (fun (x : UInt64) (_ : Unit) => x = F.1) (fun _ t => (GM D kc ad) A F.2 t.heap) A) args s 0 0 A) 1 A (ZG D vwCl (wM kc ad) (fun _ tl => tl = []) A) q 13 [(0, .ref (ad 0))] [.int s0, .ref (ad 0)] := by
    intro q s0 hok hF
    refine z_put (v := .int s0) (q' := (sI q 0 s0)) S hK inX11 tyX11 tyX11_ok nmX11 0 (fun _ => rfl) rfl 0 (by decide) q6_97 rfl rfl rfl rfl (Nat.le_of_ble_eq_true rfl) dX11_meanCycles_13 (wMp0 kc ad _ _) (fun _ h => h) ?_
    refine z_aload_n (j := 0) hx hb dX11_meanCycles_16 rfl rfl ?_
    refine z_get (v := .int s0) S hK inX11 0 (fun _ => rfl) rfl 0 (by decide) q6_97 rfl rfl dX11_meanCycles_17 ?_
    refine z_if_ne (tgt := 37) hx hb dX11_meanCycles_20 (by decide) (fun g20 => ?_) (fun g20 => ?_)
    · have hF := hF.trans (if_neg g20)
      have hok := And.right hok g20
      refine z_dconst0 hx hb dX11_meanCycles_37 ?_
      refine z_sub [] rfl ?_
      exact b38 (sI q 0 s0) FP.dconst0 hok hF
    · have hF := hF.trans (if_pos g20)
      have hok := And.left hok g20
      refine z_aload_n (j := 0) hx hb dX11_meanCycles_23 rfl rfl ?_
      refine z_get (v := .long (gL q 22)) S hK inX11 0 (fun _ => rfl) rfl 22 (by decide) q6_119 rfl rfl dX11_meanCycles_24 ?_
      refine z_l2d hx hb dX11_meanCycles_27 ?_
      refine z_aload_n (j := 0) hx hb dX11_meanCycles_28 rfl rfl ?_
      refine z_get (v := .int (gI q 10)) S hK inX11 0 (fun _ => rfl) rfl 10 (by decide) q6_107 rfl rfl dX11_meanCycles_29 ?_
      refine z_i2d hx hb dX11_meanCycles_32 ?_
      have h33 := And.left hok
      have hok := And.right hok
      refine z_ddiv hx hb dX11_meanCycles_33 h33 ?_
      refine z_goto (tgt := 38) hx hb dX11_meanCycles_34 (by decide) ?_
      refine z_sub [] rfl ?_
      exact b38 (sI q 0 s0) (FP.ddiv (FP.l2d (gL q 22)) (FP.i2d (gI q 10))) hok hF
  refine z_aload_n (j := 0) hx hb dX11_meanCycles_0 rfl rfl ?_
  refine z_aload_n (j := 0) hx hb dX11_meanCycles_1 rfl rfl ?_
  refine z_get (v := .int (gI q 10)) S hK inX11 0 (fun _ => rfl) rfl 10 (by decide) q6_107 rfl rfl dX11_meanCycles_2 ?_
  refine z_if_ne (tgt := 12) hx hb dX11_meanCycles_5 (by decide) (fun g5 => ?_) (fun g5 => ?_)
  · have hF := hF.trans (if_neg g5)
    have hok := And.right hok g5
    refine z_iconst (v := 0) hx hb dX11_meanCycles_12 (by decide) ?_
    exact b13 q 0 hok hF
  · have hF := hF.trans (if_pos g5)
    have hok := And.left hok g5
    refine z_iconst (v := 1) hx hb dX11_meanCycles_8 (by decide) ?_
    refine z_goto (tgt := 13) hx hb dX11_meanCycles_9 (by decide) ?_
    exact b13 q 1 hok hF
theorem hX11_meanCycles : yX11_meanCycles.cls = RX11 ∧ yX11_meanCycles.cls ≠ "java/lang/invoke/MethodHandle" ∧ yX11_meanCycles.cls ≠ "java/lang/invoke/VarHandle" ∧ (parseMethodDescriptor yX11_meanCycles.desc).map (fun d => d.parameters.length) = some 0 := by decide +kernel
def fX11_defined_33 (q : SS) : Int32 × SS := ((fX11_refuse q 1).1, (fX11_refuse q 1).2)
def kX11_defined_33 (q : SS) : Prop := kX11_refuse q 1 ∧ True
def fX11_defined_43 (q : SS) (v2 : Int32) : Int32 × SS := (if (gI q 27) = 0 then ((fX11_refuse q 2).1, (fX11_refuse q 2).2) else (((gA q 20) (v2 : Int32).toNatClampNeg), (sI q 0 0)))
def kX11_defined_43 (q : SS) (v2 : Int32) : Prop := (((gI q 27) = 0 → kX11_refuse q 2 ∧ True) ∧ (¬ (gI q 27) = 0 → vp_in v2 16 ∧ True))
def fX11_defined_22 (q : SS) (s0 : Int32) : Int32 × SS := (if s0 < 0 then fX11_defined_33 q else (if s0 < 10 then fX11_defined_43 (fX11_defines q) s0 else fX11_defined_33 q))
def kX11_defined_22 (q : SS) (s0 : Int32) : Prop := ((s0 < 0 → kX11_defined_33 q) ∧ (¬ s0 < 0 → ((s0 < 10 → kX11_defines q ∧ kX11_defined_43 (fX11_defines q) s0) ∧ (¬ s0 < 10 → kX11_defined_33 q))))
def fX11_defined_8 (q : SS) (v1 : Int32) (s0 : Int32) : Int32 × SS := (if s0 = 0 then fX11_defined_22 (fX11_place q v1).2 (fX11_place q v1).1 else fX11_defined_22 q (v1 - 48))
def kX11_defined_8 (q : SS) (v1 : Int32) (s0 : Int32) : Prop := ((s0 = 0 → kX11_place q v1 ∧ kX11_defined_22 (fX11_place q v1).2 (fX11_place q v1).1) ∧ (¬ s0 = 0 → kX11_defined_22 q (v1 - 48)))
def fX11_defined (q : SS) (v1 : Int32) : Int32 × SS := fX11_defined_8 (fX11_isIn q v1 48 51).2 v1 (fX11_isIn q v1 48 51).1
def kX11_defined (q : SS) (v1 : Int32) : Prop := kX11_isIn q v1 48 51 ∧ kX11_defined_8 (fX11_isIn q v1 48 51).2 v1 (fX11_isIn q v1 48 51).1
set_option maxHeartbeats 4000000 in
set_option maxRecDepth 100000 in
theorem ctX11_defined (l : Launch) (D : va_G) (kc : Nat → ClassId) (ad : Nat → Nat) (q : SS) (v1 : Int32) (hok : kX11_defined q v1) : Ci l yX11_defined (Cond.code yX11_defined cX11_defined 3 (some .int) :: lw_G) (zr 4 0 0) 0 0 (PM D kc) (GM D kc ad) (GM D kc ad) [.ref (ad 0), .int v1] q (fX11_defined q v1) := by
  refine Ci.of (cc := cX11_defined) (maxL := 3) (ret := (some .int)) (by decide) rfl (Nat.le_of_ble_eq_true rfl) ?_
  intro p e s m args below meth c A S hr hlocks hin hA hK
  have hx := S.1
  have hb := S.2.1
  have hK : va_K D vwCl (tysK kc) s := hK
  generalize hFe : fX11_defined q v1 = F
  have hF : F = fX11_defined q v1 := hFe.symm
  have b33 : ∀ (q : SS), kX11_defined_33 q → F = fX11_defined_33 q → Z p l e (zr 4 0 0) s m args below meth c 0 0 (MQ below (va_Qi (fun (x : Int32) (_ : Unit) => x = F.1) (fun _ t => (GM D kc ad) A F.2 t.heap) A) args s 0 0 A) 3 A (ZG D vwCl (wM kc ad) (fun _ tl => tl = []) A) q 33 [(0, .ref (ad 0))] [] := by
    intro q hok hF
    refine z_aload_n (j := 0) hx hb dX11_defined_33 rfl rfl ?_
    refine z_iconst (v := 1) hx hb dX11_defined_34 (by decide) ?_
    have h35 := And.left hok
    have hok := And.right hok
    refine z_callVi (As := [.int 1]) S (ctX11_refuse l D kc ad q 1 h35) (cwV 1 S.2.2.2.2 (gV q7_30 q7_32 qp2_8 q1_12 q7_33) rfl rfl rfl hX11_refuse ⟨Nat.le_of_ble_eq_true rfl, Nat.le_of_ble_eq_true rfl⟩) hA (pbM D kc) (psM hK) (z_recv hK 0 (fun _ => rfl) rfl) rfl rfl (Nat.le_of_ble_eq_true rfl) dX11_defined_35 ⟨Nat.le_of_ble_eq_true rfl, Nat.le_of_ble_eq_true rfl⟩ ?_
    exact z_iret hx hb hlocks hr rfl hF dX11_defined_38
  have b43 : ∀ (q : SS) (v2 : Int32), kX11_defined_43 q v2 → F = fX11_defined_43 q v2 → Z p l e (zr 4 0 0) s m args below meth c 0 0 (MQ below (va_Qi (fun (x : Int32) (_ : Unit) => x = F.1) (fun _ t => (GM D kc ad) A F.2 t.heap) A) args s 0 0 A) 3 A (ZG D vwCl (wM kc ad) (fun _ tl => tl = []) A) q 43 [(0, .ref (ad 0)), (2, .int v2)] [] := by
    intro q v2 hok hF
    refine z_aload_n (j := 0) hx hb dX11_defined_43 rfl rfl ?_
    refine z_get (v := .int (gI q 27)) S hK inX11 0 (fun _ => rfl) rfl 27 (by decide) q6_124 rfl rfl dX11_defined_44 ?_
    refine z_if_ne (tgt := 56) hx hb dX11_defined_47 (by decide) (fun g47 => ?_) (fun g47 => ?_)
    · have hF := hF.trans (if_neg g47)
      have hok := And.right hok g47
      refine z_aload_n (j := 0) hx hb dX11_defined_56 rfl rfl ?_
      refine z_iconst (v := 0) hx hb dX11_defined_57 (by decide) ?_
      refine z_put (v := .int 0) (q' := (sI q 0 0)) S hK inX11 tyX11 tyX11_ok nmX11 0 (fun _ => rfl) rfl 0 (by decide) q6_97 rfl rfl rfl rfl (Nat.le_of_ble_eq_true rfl) dX11_defined_58 (wMp0 kc ad _ _) (fun _ h => h) ?_
      refine z_aload_n (j := 0) hx hb dX11_defined_61 rfl rfl ?_
      refine z_get (v := .ref (ad 20)) S hK inX11 0 (fun _ => rfl) rfl 47 (by decide) q6_144 rfl rfl dX11_defined_62 ?_
      refine z_iload_n (j := 1) hx hb dX11_defined_65 rfl rfl ?_
      have h66 := And.left hok
      have hok := And.right hok
      refine z_iald (f := (gA q 20)) S hK 20 0 (fun _ => rfl) rfl h66 dX11_defined_66 ?_
      exact z_iret hx hb hlocks hr rfl hF dX11_defined_67
    · have hF := hF.trans (if_pos g47)
      have hok := And.left hok g47
      refine z_aload_n (j := 0) hx hb dX11_defined_50 rfl rfl ?_
      refine z_iconst (v := 2) hx hb dX11_defined_51 (by decide) ?_
      have h52 := And.left hok
      have hok := And.right hok
      refine z_callVi (As := [.int 2]) S (ctX11_refuse l D kc ad q 2 h52) (cwV 1 S.2.2.2.2 (gV q7_30 q7_32 qp2_8 q1_12 q7_33) rfl rfl rfl hX11_refuse ⟨Nat.le_of_ble_eq_true rfl, Nat.le_of_ble_eq_true rfl⟩) hA (pbM D kc) (psM hK) (z_recv hK 0 (fun _ => rfl) rfl) rfl rfl (Nat.le_of_ble_eq_true rfl) dX11_defined_52 ⟨Nat.le_of_ble_eq_true rfl, Nat.le_of_ble_eq_true rfl⟩ ?_
      exact z_iret hx hb hlocks hr rfl hF dX11_defined_55
  have b22 : ∀ (q : SS) (s0 : Int32), kX11_defined_22 q s0 → F = fX11_defined_22 q s0 → Z p l e (zr 4 0 0) s m args below meth c 0 0 (MQ below (va_Qi (fun (x : Int32) (_ : Unit) => x = F.1) (fun _ t => (GM D kc ad) A F.2 t.heap) A) args s 0 0 A) 3 A (ZG D vwCl (wM kc ad) (fun _ tl => tl = []) A) q 22 [(0, .ref (ad 0))] [.int s0] := by
    intro q s0 hok hF
    refine z_istore_n (lv' := [(2, .int s0), (0, .ref (ad 0))]) hx hb dX11_defined_22 rfl (by decide) rfl ?_
    refine z_iload_n (j := 0) hx hb dX11_defined_23 rfl rfl ?_
    refine z_if_lt (tgt := 33) hx hb dX11_defined_24 (by decide) (fun g24 => ?_) (fun g24 => ?_)
    · have hF := hF.trans (if_pos g24)
      have hok := And.left hok g24
      refine z_sub [1] rfl ?_
      exact b33 q hok hF
    · have hF := hF.trans (if_neg g24)
      have hok := And.right hok g24
      refine z_iload_n (j := 0) hx hb dX11_defined_27 rfl rfl ?_
      refine z_bipush (v := 10) hx hb dX11_defined_28 (by decide) ?_
      refine z_icmp_lt (tgt := 39) hx hb dX11_defined_30 (by decide) (fun g30 => ?_) (fun g30 => ?_)
      · have hF := hF.trans (if_pos g30)
        have hok := And.left hok g30
        refine z_aload_n (j := 1) hx hb dX11_defined_39 rfl rfl ?_
        have h40 := And.left hok
        have hok := And.right hok
        refine z_callVv (As := []) S (ctX11_defines l D kc ad q h40) (cwV 0 S.2.2.2.2 (gV q7_175 q7_177 qp3_10 q1_12 q7_178) rfl rfl rfl hX11_defines ⟨Nat.le_of_ble_eq_true rfl, Nat.le_of_ble_eq_true rfl⟩) hA (pbM D kc) (psM hK) (z_recv hK 0 (fun _ => rfl) rfl) rfl rfl (Nat.le_of_ble_eq_true rfl) dX11_defined_40 ⟨Nat.le_of_ble_eq_true rfl, Nat.le_of_ble_eq_true rfl⟩ ?_
        refine z_sub [1, 0] rfl ?_
        exact b43 (fX11_defines q) s0 hok hF
      · have hF := hF.trans (if_neg g30)
        have hok := And.right hok g30
        refine z_sub [1] rfl ?_
        exact b33 q hok hF
  have b8 : ∀ (q : SS) (v1 : Int32) (s0 : Int32), kX11_defined_8 q v1 s0 → F = fX11_defined_8 q v1 s0 → Z p l e (zr 4 0 0) s m args below meth c 0 0 (MQ below (va_Qi (fun (x : Int32) (_ : Unit) => x = F.1) (fun _ t => (GM D kc ad) A F.2 t.heap) A) args s 0 0 A) 3 A (ZG D vwCl (wM kc ad) (fun _ tl => tl = []) A) q 8 [(0, .ref (ad 0)), (1, .int v1)] [.int s0] := by
    intro q v1 s0 hok hF
    refine z_if_eq (tgt := 18) hx hb dX11_defined_8 (by decide) (fun g8 => ?_) (fun g8 => ?_)
    · have hF := hF.trans (if_pos g8)
      have hok := And.left hok g8
      refine z_iload_n (j := 1) hx hb dX11_defined_18 rfl rfl ?_
      have h19 := And.left hok
      have hok := And.right hok
      refine z_callSi (As := [.int v1]) S (ctX11_place l D kc ad q v1 h19) (va_cwS 1 S.2.2.2.2 (gS q7_211 q7_212 q1_12 q7_213) rfl rfl rfl hX11_place ⟨Nat.le_of_ble_eq_true rfl, Nat.le_of_ble_eq_true rfl⟩) hA (pbM D kc) (psM hK) rfl rfl (Nat.le_of_ble_eq_true rfl) dX11_defined_19 ⟨Nat.le_of_ble_eq_true rfl, Nat.le_of_ble_eq_true rfl⟩ ?_
      refine z_sub [0] rfl ?_
      exact b22 (fX11_place q v1).2 (fX11_place q v1).1 hok hF
    · have hF := hF.trans (if_neg g8)
      have hok := And.right hok g8
      refine z_iload_n (j := 1) hx hb dX11_defined_11 rfl rfl ?_
      refine z_bipush (v := 48) hx hb dX11_defined_12 (by decide) ?_
      refine z_isub hx hb dX11_defined_14 ?_
      refine z_goto (tgt := 22) hx hb dX11_defined_15 (by decide) ?_
      refine z_sub [0] rfl ?_
      exact b22 q (v1 - 48) hok hF
  refine z_iload_n (j := 1) hx hb dX11_defined_0 rfl rfl ?_
  refine z_bipush (v := 48) hx hb dX11_defined_1 (by decide) ?_
  refine z_bipush (v := 51) hx hb dX11_defined_3 (by decide) ?_
  have h5 := And.left hok
  have hok := And.right hok
  refine z_callSi (As := [.int v1, .int 48, .int 51]) S (ctX11_isIn l D kc ad q v1 48 51 h5) (va_cwS 3 S.2.2.2.2 (gS q7_21 q7_22 q1_12 q7_23) rfl rfl rfl hX11_isIn ⟨Nat.le_of_ble_eq_true rfl, Nat.le_of_ble_eq_true rfl⟩) hA (pbM D kc) (psM hK) rfl rfl (Nat.le_of_ble_eq_true rfl) dX11_defined_5 ⟨Nat.le_of_ble_eq_true rfl, Nat.le_of_ble_eq_true rfl⟩ ?_
  exact b8 (fX11_isIn q v1 48 51).2 v1 (fX11_isIn q v1 48 51).1 hok hF
theorem hX11_defined : yX11_defined.cls = RX11 ∧ yX11_defined.cls ≠ "java/lang/invoke/MethodHandle" ∧ yX11_defined.cls ≠ "java/lang/invoke/VarHandle" ∧ (parseMethodDescriptor yX11_defined.desc).map (fun d => d.parameters.length) = some 1 := by decide +kernel
