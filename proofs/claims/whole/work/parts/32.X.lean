def fJ6_bitCount_0f7a4_36 (q : SS) (s0 : Int32) (s1 : Int32) : Int32 × SS := ((((s1 + (((s0).toUInt32 >>> ((8 : Int32).toUInt32 &&& Int32.toUInt32 31)).toInt32)) + ((((s1 + (((s0).toUInt32 >>> ((8 : Int32).toUInt32 &&& Int32.toUInt32 31)).toInt32))).toUInt32 >>> ((16 : Int32).toUInt32 &&& Int32.toUInt32 31)).toInt32)) &&& 63), q)
def kJ6_bitCount_0f7a4_36 (q : SS) (s0 : Int32) (s1 : Int32) : Prop := True
def fJ6_bitCount_0f7a4 (q : SS) (v0 : Int32) : Int32 × SS := fJ6_bitCount_0f7a4_36 q (((((v0 - ((((v0).toUInt32 >>> ((1 : Int32).toUInt32 &&& Int32.toUInt32 31)).toInt32) &&& 1431655765)) &&& 858993459) + (((((v0 - ((((v0).toUInt32 >>> ((1 : Int32).toUInt32 &&& Int32.toUInt32 31)).toInt32) &&& 1431655765))).toUInt32 >>> ((2 : Int32).toUInt32 &&& Int32.toUInt32 31)).toInt32) &&& 858993459)) + ((((((v0 - ((((v0).toUInt32 >>> ((1 : Int32).toUInt32 &&& Int32.toUInt32 31)).toInt32) &&& 1431655765)) &&& 858993459) + (((((v0 - ((((v0).toUInt32 >>> ((1 : Int32).toUInt32 &&& Int32.toUInt32 31)).toInt32) &&& 1431655765))).toUInt32 >>> ((2 : Int32).toUInt32 &&& Int32.toUInt32 31)).toInt32) &&& 858993459))).toUInt32 >>> ((4 : Int32).toUInt32 &&& Int32.toUInt32 31)).toInt32)) &&& 252645135) (((((v0 - ((((v0).toUInt32 >>> ((1 : Int32).toUInt32 &&& Int32.toUInt32 31)).toInt32) &&& 1431655765)) &&& 858993459) + (((((v0 - ((((v0).toUInt32 >>> ((1 : Int32).toUInt32 &&& Int32.toUInt32 31)).toInt32) &&& 1431655765))).toUInt32 >>> ((2 : Int32).toUInt32 &&& Int32.toUInt32 31)).toInt32) &&& 858993459)) + ((((((v0 - ((((v0).toUInt32 >>> ((1 : Int32).toUInt32 &&& Int32.toUInt32 31)).toInt32) &&& 1431655765)) &&& 858993459) + (((((v0 - ((((v0).toUInt32 >>> ((1 : Int32).toUInt32 &&& Int32.toUInt32 31)).toInt32) &&& 1431655765))).toUInt32 >>> ((2 : Int32).toUInt32 &&& Int32.toUInt32 31)).toInt32) &&& 858993459))).toUInt32 >>> ((4 : Int32).toUInt32 &&& Int32.toUInt32 31)).toInt32)) &&& 252645135)
def kJ6_bitCount_0f7a4 (q : SS) (v0 : Int32) : Prop := kJ6_bitCount_0f7a4_36 q (((((v0 - ((((v0).toUInt32 >>> ((1 : Int32).toUInt32 &&& Int32.toUInt32 31)).toInt32) &&& 1431655765)) &&& 858993459) + (((((v0 - ((((v0).toUInt32 >>> ((1 : Int32).toUInt32 &&& Int32.toUInt32 31)).toInt32) &&& 1431655765))).toUInt32 >>> ((2 : Int32).toUInt32 &&& Int32.toUInt32 31)).toInt32) &&& 858993459)) + ((((((v0 - ((((v0).toUInt32 >>> ((1 : Int32).toUInt32 &&& Int32.toUInt32 31)).toInt32) &&& 1431655765)) &&& 858993459) + (((((v0 - ((((v0).toUInt32 >>> ((1 : Int32).toUInt32 &&& Int32.toUInt32 31)).toInt32) &&& 1431655765))).toUInt32 >>> ((2 : Int32).toUInt32 &&& Int32.toUInt32 31)).toInt32) &&& 858993459))).toUInt32 >>> ((4 : Int32).toUInt32 &&& Int32.toUInt32 31)).toInt32)) &&& 252645135) (((((v0 - ((((v0).toUInt32 >>> ((1 : Int32).toUInt32 &&& Int32.toUInt32 31)).toInt32) &&& 1431655765)) &&& 858993459) + (((((v0 - ((((v0).toUInt32 >>> ((1 : Int32).toUInt32 &&& Int32.toUInt32 31)).toInt32) &&& 1431655765))).toUInt32 >>> ((2 : Int32).toUInt32 &&& Int32.toUInt32 31)).toInt32) &&& 858993459)) + ((((((v0 - ((((v0).toUInt32 >>> ((1 : Int32).toUInt32 &&& Int32.toUInt32 31)).toInt32) &&& 1431655765)) &&& 858993459) + (((((v0 - ((((v0).toUInt32 >>> ((1 : Int32).toUInt32 &&& Int32.toUInt32 31)).toInt32) &&& 1431655765))).toUInt32 >>> ((2 : Int32).toUInt32 &&& Int32.toUInt32 31)).toInt32) &&& 858993459))).toUInt32 >>> ((4 : Int32).toUInt32 &&& Int32.toUInt32 31)).toInt32)) &&& 252645135)
set_option maxHeartbeats 4000000 in
set_option maxRecDepth 100000 in
theorem ctJ6_bitCount_0f7a4 (l : Launch) (hl : l.stackTraces = false) (D : va_G) (kc : Nat → ClassId) (ad wad : Nat → Nat) (q : SS) (v0 : Int32) (hok : kJ6_bitCount_0f7a4 q v0) : Ci l yJ6_bitCount_0f7a4 (Cond.code yJ6_bitCount_0f7a4 cJ6_bitCount_0f7a4 1 (some .int) :: lw_G) (zr 0 0 0) 0 0 (PX D kc) (GX D kc ad wad) (GX D kc ad wad) [.int v0] q (fJ6_bitCount_0f7a4 q v0) := by
  refine Ci.of (cc := cJ6_bitCount_0f7a4) (maxL := 1) (ret := (some .int)) (by decide) rfl (Nat.le_of_ble_eq_true rfl) ?_
  intro p e s m args below meth c A S hr hlocks hin hA hK
  have hx := S.1
  have hb := S.2.1
  have hE : EV A s s.heap := hK.2
  have hK : va_K D vwCl (tysK kc) s := hK.1
  generalize hFe : fJ6_bitCount_0f7a4 q v0 = F
  have hF : F = fJ6_bitCount_0f7a4 q v0 := hFe.symm
  have b36 : ∀ (q : SS) (s0 : Int32) (s1 : Int32), kJ6_bitCount_0f7a4_36 q s0 s1 → F = fJ6_bitCount_0f7a4_36 q s0 s1 → Z p l e (zr 0 0 0) s m args below meth c 0 0 (MQ below (va_Qi (fun (x : Int32) (_ : Unit) => x = F.1) (fun _ t => (GX D kc ad wad) A F.2 t.heap) A) args s 0 0 A) 1 A (ZG D vwCl (wX kc ad wad) (PLX wad) A) q 36 [] [.int s0, .int s1] := by
    intro q s0 s1 hok hF
    refine z_bipush (v := 8) hx hb dJ6_bitCount_0f7a4_36 (by decide) ?_
    refine z_iushr hx hb dJ6_bitCount_0f7a4_38 ?_
    refine z_iadd hx hb dJ6_bitCount_0f7a4_39 ?_
    refine z_istore_n (lv' := [(0, .int (s1 + (((s0).toUInt32 >>> ((8 : Int32).toUInt32 &&& Int32.toUInt32 31)).toInt32)))]) hx hb dJ6_bitCount_0f7a4_40 rfl (by decide) rfl ?_
    refine z_iload_n (j := 0) hx hb dJ6_bitCount_0f7a4_41 rfl rfl ?_
    refine z_iload_n (j := 0) hx hb dJ6_bitCount_0f7a4_42 rfl rfl ?_
    refine z_bipush (v := 16) hx hb dJ6_bitCount_0f7a4_43 (by decide) ?_
    refine z_iushr hx hb dJ6_bitCount_0f7a4_45 ?_
    refine z_iadd hx hb dJ6_bitCount_0f7a4_46 ?_
    refine z_istore_n (lv' := [(0, .int ((s1 + (((s0).toUInt32 >>> ((8 : Int32).toUInt32 &&& Int32.toUInt32 31)).toInt32)) + ((((s1 + (((s0).toUInt32 >>> ((8 : Int32).toUInt32 &&& Int32.toUInt32 31)).toInt32))).toUInt32 >>> ((16 : Int32).toUInt32 &&& Int32.toUInt32 31)).toInt32)))]) hx hb dJ6_bitCount_0f7a4_47 rfl (by decide) rfl ?_
    refine z_iload_n (j := 0) hx hb dJ6_bitCount_0f7a4_48 rfl rfl ?_
    refine z_bipush (v := 63) hx hb dJ6_bitCount_0f7a4_49 (by decide) ?_
    refine z_iand hx hb dJ6_bitCount_0f7a4_51 ?_
    exact z_iret hx hb hlocks hr rfl hF dJ6_bitCount_0f7a4_52
  refine z_iload_n (j := 0) hx hb dJ6_bitCount_0f7a4_0 rfl rfl ?_
  refine z_iload_n (j := 0) hx hb dJ6_bitCount_0f7a4_1 rfl rfl ?_
  refine z_iconst (v := 1) hx hb dJ6_bitCount_0f7a4_2 (by decide) ?_
  refine z_iushr hx hb dJ6_bitCount_0f7a4_3 ?_
  refine z_ldcw (v := 1431655765) hx hb S.2.2.2.1 (S.2.2.2.2 _ q5_53) dJ6_bitCount_0f7a4_4 ?_
  refine z_iand hx hb dJ6_bitCount_0f7a4_7 ?_
  refine z_isub hx hb dJ6_bitCount_0f7a4_8 ?_
  refine z_istore_n (lv' := [(0, .int (v0 - ((((v0).toUInt32 >>> ((1 : Int32).toUInt32 &&& Int32.toUInt32 31)).toInt32) &&& 1431655765)))]) hx hb dJ6_bitCount_0f7a4_9 rfl (by decide) rfl ?_
  refine z_iload_n (j := 0) hx hb dJ6_bitCount_0f7a4_10 rfl rfl ?_
  refine z_ldcw (v := 858993459) hx hb S.2.2.2.1 (S.2.2.2.2 _ q5_54) dJ6_bitCount_0f7a4_11 ?_
  refine z_iand hx hb dJ6_bitCount_0f7a4_14 ?_
  refine z_iload_n (j := 0) hx hb dJ6_bitCount_0f7a4_15 rfl rfl ?_
  refine z_iconst (v := 2) hx hb dJ6_bitCount_0f7a4_16 (by decide) ?_
  refine z_iushr hx hb dJ6_bitCount_0f7a4_17 ?_
  refine z_ldcw (v := 858993459) hx hb S.2.2.2.1 (S.2.2.2.2 _ q5_54) dJ6_bitCount_0f7a4_18 ?_
  refine z_iand hx hb dJ6_bitCount_0f7a4_21 ?_
  refine z_iadd hx hb dJ6_bitCount_0f7a4_22 ?_
  refine z_istore_n (lv' := [(0, .int (((v0 - ((((v0).toUInt32 >>> ((1 : Int32).toUInt32 &&& Int32.toUInt32 31)).toInt32) &&& 1431655765)) &&& 858993459) + (((((v0 - ((((v0).toUInt32 >>> ((1 : Int32).toUInt32 &&& Int32.toUInt32 31)).toInt32) &&& 1431655765))).toUInt32 >>> ((2 : Int32).toUInt32 &&& Int32.toUInt32 31)).toInt32) &&& 858993459)))]) hx hb dJ6_bitCount_0f7a4_23 rfl (by decide) rfl ?_
  refine z_iload_n (j := 0) hx hb dJ6_bitCount_0f7a4_24 rfl rfl ?_
  refine z_iload_n (j := 0) hx hb dJ6_bitCount_0f7a4_25 rfl rfl ?_
  refine z_iconst (v := 4) hx hb dJ6_bitCount_0f7a4_26 (by decide) ?_
  refine z_iushr hx hb dJ6_bitCount_0f7a4_27 ?_
  refine z_iadd hx hb dJ6_bitCount_0f7a4_28 ?_
  refine z_ldcw (v := 252645135) hx hb S.2.2.2.1 (S.2.2.2.2 _ q5_55) dJ6_bitCount_0f7a4_29 ?_
  refine z_iand hx hb dJ6_bitCount_0f7a4_32 ?_
  refine z_istore_n (lv' := [(0, .int (((((v0 - ((((v0).toUInt32 >>> ((1 : Int32).toUInt32 &&& Int32.toUInt32 31)).toInt32) &&& 1431655765)) &&& 858993459) + (((((v0 - ((((v0).toUInt32 >>> ((1 : Int32).toUInt32 &&& Int32.toUInt32 31)).toInt32) &&& 1431655765))).toUInt32 >>> ((2 : Int32).toUInt32 &&& Int32.toUInt32 31)).toInt32) &&& 858993459)) + ((((((v0 - ((((v0).toUInt32 >>> ((1 : Int32).toUInt32 &&& Int32.toUInt32 31)).toInt32) &&& 1431655765)) &&& 858993459) + (((((v0 - ((((v0).toUInt32 >>> ((1 : Int32).toUInt32 &&& Int32.toUInt32 31)).toInt32) &&& 1431655765))).toUInt32 >>> ((2 : Int32).toUInt32 &&& Int32.toUInt32 31)).toInt32) &&& 858993459))).toUInt32 >>> ((4 : Int32).toUInt32 &&& Int32.toUInt32 31)).toInt32)) &&& 252645135))]) hx hb dJ6_bitCount_0f7a4_33 rfl (by decide) rfl ?_
  refine z_iload_n (j := 0) hx hb dJ6_bitCount_0f7a4_34 rfl rfl ?_
  refine z_iload_n (j := 0) hx hb dJ6_bitCount_0f7a4_35 rfl rfl ?_
  refine z_sub [] rfl ?_
  exact b36 q (((((v0 - ((((v0).toUInt32 >>> ((1 : Int32).toUInt32 &&& Int32.toUInt32 31)).toInt32) &&& 1431655765)) &&& 858993459) + (((((v0 - ((((v0).toUInt32 >>> ((1 : Int32).toUInt32 &&& Int32.toUInt32 31)).toInt32) &&& 1431655765))).toUInt32 >>> ((2 : Int32).toUInt32 &&& Int32.toUInt32 31)).toInt32) &&& 858993459)) + ((((((v0 - ((((v0).toUInt32 >>> ((1 : Int32).toUInt32 &&& Int32.toUInt32 31)).toInt32) &&& 1431655765)) &&& 858993459) + (((((v0 - ((((v0).toUInt32 >>> ((1 : Int32).toUInt32 &&& Int32.toUInt32 31)).toInt32) &&& 1431655765))).toUInt32 >>> ((2 : Int32).toUInt32 &&& Int32.toUInt32 31)).toInt32) &&& 858993459))).toUInt32 >>> ((4 : Int32).toUInt32 &&& Int32.toUInt32 31)).toInt32)) &&& 252645135) (((((v0 - ((((v0).toUInt32 >>> ((1 : Int32).toUInt32 &&& Int32.toUInt32 31)).toInt32) &&& 1431655765)) &&& 858993459) + (((((v0 - ((((v0).toUInt32 >>> ((1 : Int32).toUInt32 &&& Int32.toUInt32 31)).toInt32) &&& 1431655765))).toUInt32 >>> ((2 : Int32).toUInt32 &&& Int32.toUInt32 31)).toInt32) &&& 858993459)) + ((((((v0 - ((((v0).toUInt32 >>> ((1 : Int32).toUInt32 &&& Int32.toUInt32 31)).toInt32) &&& 1431655765)) &&& 858993459) + (((((v0 - ((((v0).toUInt32 >>> ((1 : Int32).toUInt32 &&& Int32.toUInt32 31)).toInt32) &&& 1431655765))).toUInt32 >>> ((2 : Int32).toUInt32 &&& Int32.toUInt32 31)).toInt32) &&& 858993459))).toUInt32 >>> ((4 : Int32).toUInt32 &&& Int32.toUInt32 31)).toInt32)) &&& 252645135) hok hF
theorem hJ6_bitCount_0f7a4 : yJ6_bitCount_0f7a4.cls ≠ "java/lang/invoke/MethodHandle" ∧ yJ6_bitCount_0f7a4.cls ≠ "java/lang/invoke/VarHandle" ∧ (parseMethodDescriptor yJ6_bitCount_0f7a4.desc).map (fun d => d.parameters.length) = some 1 := by decide +kernel
def fX6_replaceRegister (q : SS) (v1 : Int32) (v2 : Int32) : Int32 × SS := (((gA q 25) (v1 : Int32).toNatClampNeg), (sA (sA q 25 (upd (gA q 25) (v1 : Int32).toNatClampNeg v2)) 26 (upd (gA q 26) (v1 : Int32).toNatClampNeg v2)))
def kX6_replaceRegister (q : SS) (v1 : Int32) (v2 : Int32) : Prop := vp_in v1 4 ∧ vp_in v1 4 ∧ vp_in v1 4 ∧ True
set_option maxHeartbeats 4000000 in
set_option maxRecDepth 100000 in
theorem ctX6_replaceRegister (l : Launch) (hl : l.stackTraces = false) (D : va_G) (kc : Nat → ClassId) (ad wad : Nat → Nat) (q : SS) (v1 : Int32) (v2 : Int32) (hok : kX6_replaceRegister q v1 v2) : Ci l yX6_replaceRegister (Cond.code yX6_replaceRegister cX6_replaceRegister 4 (some .int) :: lw_G) (zr 0 0 0) 0 0 (PX D kc) (GX D kc ad wad) (GX D kc ad wad) [.ref (ad 4), .int v1, .int v2] q (fX6_replaceRegister q v1 v2) := by
  refine Ci.of (cc := cX6_replaceRegister) (maxL := 4) (ret := (some .int)) (by decide) rfl (Nat.le_of_ble_eq_true rfl) ?_
  intro p e s m args below meth c A S hr hlocks hin hA hK
  have hx := S.1
  have hb := S.2.1
  have hE : EV A s s.heap := hK.2
  have hK : va_K D vwCl (tysK kc) s := hK.1
  generalize hFe : fX6_replaceRegister q v1 v2 = F
  have hF : F = fX6_replaceRegister q v1 v2 := hFe.symm
  refine z_aload_n (j := 0) hx hb dX6_replaceRegister_0 rfl rfl ?_
  refine z_get (v := .ref (ad 6)) S hK inX6 4 (fun _ => rfl) rfl 3 (by decide) q2_43 rfl rfl dX6_replaceRegister_1 ?_
  refine z_get (v := .ref (ad 25)) S hK inX8 6 (fun _ => rfl) rfl 0 (by decide) q1_161 rfl rfl dX6_replaceRegister_4 ?_
  refine z_iload_n (j := 1) hx hb dX6_replaceRegister_7 rfl rfl ?_
  have h8 := And.left hok
  have hok := And.right hok
  refine z_iald (f := (gA q 25)) S hK 25 0 (fun _ => rfl) rfl h8 dX6_replaceRegister_8 ?_
  refine z_istore_n (lv' := [(3, .int ((gA q 25) (v1 : Int32).toNatClampNeg)), (0, .ref (ad 4)), (1, .int v1), (2, .int v2)]) hx hb dX6_replaceRegister_9 rfl (by decide) rfl ?_
  refine z_aload_n (j := 1) hx hb dX6_replaceRegister_10 rfl rfl ?_
  refine z_get (v := .ref (ad 6)) S hK inX6 4 (fun _ => rfl) rfl 3 (by decide) q2_43 rfl rfl dX6_replaceRegister_11 ?_
  refine z_get (v := .ref (ad 25)) S hK inX8 6 (fun _ => rfl) rfl 0 (by decide) q1_161 rfl rfl dX6_replaceRegister_14 ?_
  refine z_iload_n (j := 2) hx hb dX6_replaceRegister_17 rfl rfl ?_
  refine z_iload_n (j := 3) hx hb dX6_replaceRegister_18 rfl rfl ?_
  have h19 := And.left hok
  have hok := And.right hok
  refine z_iast (f := (gA q 25)) (q' := (sA q 25 (upd (gA q 25) (v1 : Int32).toNatClampNeg v2))) S hK 25 0 (fun _ => rfl) rfl h19 dX6_replaceRegister_19 (wXa25 kc ad wad _ _) (fun _ h => h) ?_
  refine z_aload_n (j := 1) hx hb dX6_replaceRegister_20 rfl rfl ?_
  refine z_get (v := .ref (ad 7)) S hK inX6 4 (fun _ => rfl) rfl 4 (by decide) q2_45 rfl rfl dX6_replaceRegister_21 ?_
  refine z_get (v := .ref (ad 26)) S hK inX8 7 (fun _ => rfl) rfl 0 (by decide) q1_161 rfl rfl dX6_replaceRegister_24 ?_
  refine z_iload_n (j := 2) hx hb dX6_replaceRegister_27 rfl rfl ?_
  refine z_iload_n (j := 3) hx hb dX6_replaceRegister_28 rfl rfl ?_
  have h29 := And.left hok
  have hok := And.right hok
  refine z_iast (f := (gA q 26)) (q' := (sA (sA q 25 (upd (gA q 25) (v1 : Int32).toNatClampNeg v2)) 26 (upd (gA q 26) (v1 : Int32).toNatClampNeg v2))) S hK 26 0 (fun _ => rfl) rfl h29 dX6_replaceRegister_29 (wXa26 kc ad wad _ _) (fun _ h => h) ?_
  refine z_iload_n (j := 0) hx hb dX6_replaceRegister_30 rfl rfl ?_
  exact z_iret hx hb hlocks hr rfl hF dX6_replaceRegister_31
theorem hX6_replaceRegister : yX6_replaceRegister.cls = RX6 ∧ yX6_replaceRegister.cls ≠ "java/lang/invoke/MethodHandle" ∧ yX6_replaceRegister.cls ≠ "java/lang/invoke/VarHandle" ∧ (parseMethodDescriptor yX6_replaceRegister.desc).map (fun d => d.parameters.length) = some 2 := by decide +kernel
def fX6_startAt_44 (q : SS) (v4 : Int32) : Int32 × SS := (v4, q)
def kX6_startAt_44 (q : SS) (v4 : Int32) : Prop := True
def fX6_startAt (q : SS) (v1 : Int32) (v2 : Int32) (v3 : Int32) : Int32 × SS := fX6_startAt_44 (fX8_copyFrom_keptv_now (sI (sI (sI q 701 v1) 705 v2) 706 v3)) (gI q 701)
def kX6_startAt (q : SS) (v1 : Int32) (v2 : Int32) (v3 : Int32) : Prop := kX8_copyFrom_keptv_now (sI (sI (sI q 701 v1) 705 v2) 706 v3) ∧ kX6_startAt_44 (fX8_copyFrom_keptv_now (sI (sI (sI q 701 v1) 705 v2) 706 v3)) (gI q 701)
set_option maxHeartbeats 4000000 in
set_option maxRecDepth 100000 in
theorem ctX6_startAt (l : Launch) (hl : l.stackTraces = false) (D : va_G) (kc : Nat → ClassId) (ad wad : Nat → Nat) (q : SS) (v1 : Int32) (v2 : Int32) (v3 : Int32) (hok : kX6_startAt q v1 v2 v3) : Ci l yX6_startAt (Cond.code yX6_startAt cX6_startAt 5 (some .int) :: lw_G) (zr 1 0 0) 0 0 (PX D kc) (GX D kc ad wad) (GX D kc ad wad) [.ref (ad 4), .int v1, .int v2, .int v3] q (fX6_startAt q v1 v2 v3) := by
  refine Ci.of (cc := cX6_startAt) (maxL := 5) (ret := (some .int)) (by decide) rfl (Nat.le_of_ble_eq_true rfl) ?_
  intro p e s m args below meth c A S hr hlocks hin hA hK
  have hx := S.1
  have hb := S.2.1
  have hE : EV A s s.heap := hK.2
  have hK : va_K D vwCl (tysK kc) s := hK.1
  generalize hFe : fX6_startAt q v1 v2 v3 = F
  have hF : F = fX6_startAt q v1 v2 v3 := hFe.symm
  have b44 : ∀ (q : SS) (v4 : Int32), kX6_startAt_44 q v4 → F = fX6_startAt_44 q v4 → Z p l e (zr 1 0 0) s m args below meth c 0 0 (MQ below (va_Qi (fun (x : Int32) (_ : Unit) => x = F.1) (fun _ t => (GX D kc ad wad) A F.2 t.heap) A) args s 0 0 A) 5 A (ZG D vwCl (wX kc ad wad) (PLX wad) A) q 44 [(4, .int v4)] [] := by
    intro q v4 hok hF
    refine z_iload (j := 0) hx hb dX6_startAt_44 rfl ?_
    exact z_iret hx hb hlocks hr rfl hF dX6_startAt_46
  refine z_aload_n (j := 0) hx hb dX6_startAt_0 rfl rfl ?_
  refine z_get (v := .ref (ad 6)) S hK inX6 4 (fun _ => rfl) rfl 3 (by decide) q2_43 rfl rfl dX6_startAt_1 ?_
  refine z_get (v := .int (gI q 701)) S hK inX8 6 (fun _ => rfl) rfl 1 (by decide) q1_165 rfl rfl dX6_startAt_4 ?_
  refine z_istore (lv' := [(4, .int (gI q 701)), (0, .ref (ad 4)), (1, .int v1), (2, .int v2), (3, .int v3)]) hx hb dX6_startAt_7 (by decide) rfl ?_
  refine z_aload_n (j := 1) hx hb dX6_startAt_9 rfl rfl ?_
  refine z_get (v := .ref (ad 6)) S hK inX6 4 (fun _ => rfl) rfl 3 (by decide) q2_43 rfl rfl dX6_startAt_10 ?_
  refine z_iload_n (j := 2) hx hb dX6_startAt_13 rfl rfl ?_
  refine z_put (v := .int v1) (q' := (sI q 701 v1)) S hK inX8 tyX8 tyX8_ok nmX8 6 (fun _ => rfl) rfl 1 (by decide) q1_165 rfl rfl rfl rfl (Nat.le_of_ble_eq_true rfl) dX6_startAt_14 (wXp701 kc ad wad _ _) (fun _ h => h) ?_
  refine z_aload_n (j := 1) hx hb dX6_startAt_17 rfl rfl ?_
  refine z_get (v := .ref (ad 6)) S hK inX6 4 (fun _ => rfl) rfl 3 (by decide) q2_43 rfl rfl dX6_startAt_18 ?_
  refine z_iload_n (j := 3) hx hb dX6_startAt_21 rfl rfl ?_
  refine z_put (v := .int v2) (q' := (sI (sI q 701 v1) 705 v2)) S hK inX8 tyX8 tyX8_ok nmX8 6 (fun _ => rfl) rfl 5 (by decide) q1_178 rfl rfl rfl rfl (Nat.le_of_ble_eq_true rfl) dX6_startAt_22 (wXp705 kc ad wad _ _) (fun _ h => h) ?_
  refine z_aload_n (j := 1) hx hb dX6_startAt_25 rfl rfl ?_
  refine z_get (v := .ref (ad 6)) S hK inX6 4 (fun _ => rfl) rfl 3 (by decide) q2_43 rfl rfl dX6_startAt_26 ?_
  refine z_iload_n (j := 4) hx hb dX6_startAt_29 rfl rfl ?_
  refine z_put (v := .int v3) (q' := (sI (sI (sI q 701 v1) 705 v2) 706 v3)) S hK inX8 tyX8 tyX8_ok nmX8 6 (fun _ => rfl) rfl 6 (by decide) q1_180 rfl rfl rfl rfl (Nat.le_of_ble_eq_true rfl) dX6_startAt_30 (wXp706 kc ad wad _ _) (fun _ h => h) ?_
  refine z_aload_n (j := 1) hx hb dX6_startAt_33 rfl rfl ?_
  refine z_get (v := .ref (ad 7)) S hK inX6 4 (fun _ => rfl) rfl 4 (by decide) q2_45 rfl rfl dX6_startAt_34 ?_
  refine z_aload_n (j := 1) hx hb dX6_startAt_37 rfl rfl ?_
  refine z_get (v := .ref (ad 6)) S hK inX6 4 (fun _ => rfl) rfl 3 (by decide) q2_43 rfl rfl dX6_startAt_38 ?_
  have h41 := And.left hok
  have hok := And.right hok
  refine z_callVv (As := [.ref (ad 6)]) S (ctX8_copyFrom_keptv_now l hl D kc ad wad (sI (sI (sI q 701 v1) 705 v2) 706 v3) h41) (cwV 1 S.2.2.2.2 (gV q2_175 q2_176 q2_177 q1_7 q2_178) rfl rfl rfl hX8_copyFrom ⟨Nat.le_of_ble_eq_true rfl, Nat.le_of_ble_eq_true rfl⟩) hA (pbX D kc) (psX hK hE) (z_recv hK 7 (fun _ => rfl) rfl) rfl rfl (Nat.le_of_ble_eq_true rfl) dX6_startAt_41 ⟨Nat.le_of_ble_eq_true rfl, Nat.le_of_ble_eq_true rfl⟩ ?_
  refine z_sub [0] rfl ?_
  exact b44 (fX8_copyFrom_keptv_now (sI (sI (sI q 701 v1) 705 v2) 706 v3)) (gI q 701) hok hF
theorem hX6_startAt : yX6_startAt.cls = RX6 ∧ yX6_startAt.cls ≠ "java/lang/invoke/MethodHandle" ∧ yX6_startAt.cls ≠ "java/lang/invoke/VarHandle" ∧ (parseMethodDescriptor yX6_startAt.desc).map (fun d => d.parameters.length) = some 3 := by decide +kernel
def fX6_pageCame_28 (q : SS) : SS := q
def kX6_pageCame_28 (q : SS) : Prop := True
def fX6_pageCame (q : SS) (v1 : Int32) : SS := (if (gI q 512) = 119 then (if (gI q 513) = v1 then fX6_pageCame_28 (sI (sI q 512 114) 513 (-1)) else fX6_pageCame_28 q) else fX6_pageCame_28 q)
def kX6_pageCame (q : SS) (v1 : Int32) : Prop := (((gI q 512) = 119 → (((gI q 513) = v1 → kX6_pageCame_28 (sI (sI q 512 114) 513 (-1))) ∧ (¬ (gI q 513) = v1 → kX6_pageCame_28 q))) ∧ (¬ (gI q 512) = 119 → kX6_pageCame_28 q))
set_option maxHeartbeats 4000000 in
set_option maxRecDepth 100000 in
theorem ctX6_pageCame (l : Launch) (hl : l.stackTraces = false) (D : va_G) (kc : Nat → ClassId) (ad wad : Nat → Nat) (q : SS) (v1 : Int32) (hok : kX6_pageCame q v1) : Cv l yX6_pageCame (Cond.code yX6_pageCame cX6_pageCame 2 none :: lw_G) (zr 0 0 0) 0 0 (PX D kc) (GX D kc ad wad) (GX D kc ad wad) [.ref (ad 4), .int v1] q (fX6_pageCame q v1) := by
  refine Cv.of (cc := cX6_pageCame) (maxL := 2) (ret := none) (by decide) rfl (Nat.le_of_ble_eq_true rfl) ?_
  intro p e s m args below meth c A S hr hlocks hin hA hK
  have hx := S.1
  have hb := S.2.1
  have hE : EV A s s.heap := hK.2
  have hK : va_K D vwCl (tysK kc) s := hK.1
  generalize hFe : fX6_pageCame q v1 = F
  have hF : F = fX6_pageCame q v1 := hFe.symm
  have b28 : ∀ (q : SS), kX6_pageCame_28 q → F = fX6_pageCame_28 q → Z p l e (zr 0 0 0) s m args below meth c 0 0 (MQ below (va_Qv (fun (_ : Unit) => True) (fun _ t => (GX D kc ad wad) A F t.heap) A) args s 0 0 A) 2 A (ZG D vwCl (wX kc ad wad) (PLX wad) A) q 28 [] [] := by
    intro q hok hF
    exact z_vret hx hb hlocks hr hF dX6_pageCame_28
  refine z_aload_n (j := 0) hx hb dX6_pageCame_0 rfl rfl ?_
  refine z_get (v := .int (gI q 512)) S hK inX6 4 (fun _ => rfl) rfl 12 (by decide) q2_56 rfl rfl dX6_pageCame_1 ?_
  refine z_bipush (v := 119) hx hb dX6_pageCame_4 (by decide) ?_
  refine z_icmp_ne (tgt := 28) hx hb dX6_pageCame_6 (by decide) (fun g6 => ?_) (fun g6 => ?_)
  · have hF := hF.trans (if_neg g6)
    have hok := And.right hok g6
    refine z_sub [] rfl ?_
    exact b28 q hok hF
  · have hF := hF.trans (if_pos g6)
    have hok := And.left hok g6
    refine z_aload_n (j := 0) hx hb dX6_pageCame_9 rfl rfl ?_
    refine z_get (v := .int (gI q 513)) S hK inX6 4 (fun _ => rfl) rfl 13 (by decide) q2_58 rfl rfl dX6_pageCame_10 ?_
    refine z_iload_n (j := 1) hx hb dX6_pageCame_13 rfl rfl ?_
    refine z_icmp_ne (tgt := 28) hx hb dX6_pageCame_14 (by decide) (fun g14 => ?_) (fun g14 => ?_)
    · have hF := hF.trans (if_neg g14)
      have hok := And.right hok g14
      refine z_sub [] rfl ?_
      exact b28 q hok hF
    · have hF := hF.trans (if_pos g14)
      have hok := And.left hok g14
      refine z_aload_n (j := 0) hx hb dX6_pageCame_17 rfl rfl ?_
      refine z_bipush (v := 114) hx hb dX6_pageCame_18 (by decide) ?_
      refine z_put (v := .int 114) (q' := (sI q 512 114)) S hK inX6 tyX6 tyX6_ok nmX6 4 (fun _ => rfl) rfl 12 (by decide) q2_56 rfl rfl rfl rfl (Nat.le_of_ble_eq_true rfl) dX6_pageCame_20 (wXp512 kc ad wad _ _) (fun _ h => h) ?_
      refine z_aload_n (j := 0) hx hb dX6_pageCame_23 rfl rfl ?_
      refine z_iconst (v := (-1)) hx hb dX6_pageCame_24 (by decide) ?_
      refine z_put (v := .int (-1)) (q' := (sI (sI q 512 114) 513 (-1))) S hK inX6 tyX6 tyX6_ok nmX6 4 (fun _ => rfl) rfl 13 (by decide) q2_58 rfl rfl rfl rfl (Nat.le_of_ble_eq_true rfl) dX6_pageCame_25 (wXp513 kc ad wad _ _) (fun _ h => h) ?_
      refine z_sub [] rfl ?_
      exact b28 (sI (sI q 512 114) 513 (-1)) hok hF
theorem hX6_pageCame : yX6_pageCame.cls = RX6 ∧ yX6_pageCame.cls ≠ "java/lang/invoke/MethodHandle" ∧ yX6_pageCame.cls ≠ "java/lang/invoke/VarHandle" ∧ (parseMethodDescriptor yX6_pageCame.desc).map (fun d => d.parameters.length) = some 1 := by decide +kernel
def fX6_comeBack_15 (q : SS) : SS := q
def kX6_comeBack_15 (q : SS) : Prop := True
def fX6_comeBack (q : SS) : SS := (if (gI q 512) = 108 then fX6_comeBack_15 (sI q 512 114) else fX6_comeBack_15 q)
def kX6_comeBack (q : SS) : Prop := (((gI q 512) = 108 → kX6_comeBack_15 (sI q 512 114)) ∧ (¬ (gI q 512) = 108 → kX6_comeBack_15 q))
set_option maxHeartbeats 4000000 in
set_option maxRecDepth 100000 in
theorem ctX6_comeBack (l : Launch) (hl : l.stackTraces = false) (D : va_G) (kc : Nat → ClassId) (ad wad : Nat → Nat) (q : SS) (hok : kX6_comeBack q) : Cv l yX6_comeBack (Cond.code yX6_comeBack cX6_comeBack 1 none :: lw_G) (zr 0 0 0) 0 0 (PX D kc) (GX D kc ad wad) (GX D kc ad wad) [.ref (ad 4)] q (fX6_comeBack q) := by
  refine Cv.of (cc := cX6_comeBack) (maxL := 1) (ret := none) (by decide) rfl (Nat.le_of_ble_eq_true rfl) ?_
  intro p e s m args below meth c A S hr hlocks hin hA hK
  have hx := S.1
  have hb := S.2.1
  have hE : EV A s s.heap := hK.2
  have hK : va_K D vwCl (tysK kc) s := hK.1
  generalize hFe : fX6_comeBack q = F
  have hF : F = fX6_comeBack q := hFe.symm
  have b15 : ∀ (q : SS), kX6_comeBack_15 q → F = fX6_comeBack_15 q → Z p l e (zr 0 0 0) s m args below meth c 0 0 (MQ below (va_Qv (fun (_ : Unit) => True) (fun _ t => (GX D kc ad wad) A F t.heap) A) args s 0 0 A) 1 A (ZG D vwCl (wX kc ad wad) (PLX wad) A) q 15 [] [] := by
    intro q hok hF
    exact z_vret hx hb hlocks hr hF dX6_comeBack_15
  refine z_aload_n (j := 0) hx hb dX6_comeBack_0 rfl rfl ?_
  refine z_get (v := .int (gI q 512)) S hK inX6 4 (fun _ => rfl) rfl 12 (by decide) q2_56 rfl rfl dX6_comeBack_1 ?_
  refine z_bipush (v := 108) hx hb dX6_comeBack_4 (by decide) ?_
  refine z_icmp_ne (tgt := 15) hx hb dX6_comeBack_6 (by decide) (fun g6 => ?_) (fun g6 => ?_)
  · have hF := hF.trans (if_neg g6)
    have hok := And.right hok g6
    refine z_sub [] rfl ?_
    exact b15 q hok hF
  · have hF := hF.trans (if_pos g6)
    have hok := And.left hok g6
    refine z_aload_n (j := 0) hx hb dX6_comeBack_9 rfl rfl ?_
    refine z_bipush (v := 114) hx hb dX6_comeBack_10 (by decide) ?_
    refine z_put (v := .int 114) (q' := (sI q 512 114)) S hK inX6 tyX6 tyX6_ok nmX6 4 (fun _ => rfl) rfl 12 (by decide) q2_56 rfl rfl rfl rfl (Nat.le_of_ble_eq_true rfl) dX6_comeBack_12 (wXp512 kc ad wad _ _) (fun _ h => h) ?_
    refine z_sub [] rfl ?_
    exact b15 (sI q 512 114) hok hF
theorem hX6_comeBack : yX6_comeBack.cls = RX6 ∧ yX6_comeBack.cls ≠ "java/lang/invoke/MethodHandle" ∧ yX6_comeBack.cls ≠ "java/lang/invoke/VarHandle" ∧ (parseMethodDescriptor yX6_comeBack.desc).map (fun d => d.parameters.length) = some 0 := by decide +kernel
def fX6_findFlags_52 (q : SS) : SS := q
def kX6_findFlags_52 (q : SS) : Prop := True
def fX6_findFlags_31 (q : SS) : SS := fX6_findFlags_52 (sI (sI q 1000 0) 407 ((gI q 407) + 1))
def kX6_findFlags_31 (q : SS) : Prop := kX6_findFlags_52 (sI (sI q 1000 0) 407 ((gI q 407) + 1))
def fX6_findFlags_28 (q : SS) (s0 : Int32) (s1 : Int32) : SS := fX6_findFlags_31 (fX8_setFlags_now q s1 s0)
def kX6_findFlags_28 (q : SS) (s0 : Int32) (s1 : Int32) : Prop := kX8_setFlags_now q s1 s0 ∧ kX6_findFlags_31 (fX8_setFlags_now q s1 s0)
def fX6_findFlags_21 (q : SS) (s0 : Int32) : SS := fX6_findFlags_28 (fX4_isCarry q).2 (fX4_isCarry q).1 s0
def kX6_findFlags_21 (q : SS) (s0 : Int32) : Prop := kX4_isCarry q ∧ kX6_findFlags_28 (fX4_isCarry q).2 (fX4_isCarry q).1 s0
def fX6_findFlags (q : SS) : SS := (if (gI q 1000) = 0 then fX6_findFlags_52 q else fX6_findFlags_21 (fX4_isZero q).2 (fX4_isZero q).1)
def kX6_findFlags (q : SS) : Prop := (((gI q 1000) = 0 → kX6_findFlags_52 q) ∧ (¬ (gI q 1000) = 0 → kX4_isZero q ∧ kX6_findFlags_21 (fX4_isZero q).2 (fX4_isZero q).1))
set_option maxHeartbeats 4000000 in
set_option maxRecDepth 100000 in
theorem ctX6_findFlags (l : Launch) (hl : l.stackTraces = false) (D : va_G) (kc : Nat → ClassId) (ad wad : Nat → Nat) (q : SS) (hok : kX6_findFlags q) : Cv l yX6_findFlags (Cond.code yX6_findFlags cX6_findFlags 1 none :: lw_G) (zr 2 0 0) 0 0 (PX D kc) (GX D kc ad wad) (GX D kc ad wad) [.ref (ad 4)] q (fX6_findFlags q) := by
  refine Cv.of (cc := cX6_findFlags) (maxL := 1) (ret := none) (by decide) rfl (Nat.le_of_ble_eq_true rfl) ?_
  intro p e s m args below meth c A S hr hlocks hin hA hK
  have hx := S.1
  have hb := S.2.1
  have hE : EV A s s.heap := hK.2
  have hK : va_K D vwCl (tysK kc) s := hK.1
  generalize hFe : fX6_findFlags q = F
  have hF : F = fX6_findFlags q := hFe.symm
  have b52 : ∀ (q : SS), kX6_findFlags_52 q → F = fX6_findFlags_52 q → Z p l e (zr 2 0 0) s m args below meth c 0 0 (MQ below (va_Qv (fun (_ : Unit) => True) (fun _ t => (GX D kc ad wad) A F t.heap) A) args s 0 0 A) 1 A (ZG D vwCl (wX kc ad wad) (PLX wad) A) q 52 [] [] := by
    intro q hok hF
    exact z_vret hx hb hlocks hr hF dX6_findFlags_52
  have b31 : ∀ (q : SS), kX6_findFlags_31 q → F = fX6_findFlags_31 q → Z p l e (zr 2 0 0) s m args below meth c 0 0 (MQ below (va_Qv (fun (_ : Unit) => True) (fun _ t => (GX D kc ad wad) A F t.heap) A) args s 0 0 A) 1 A (ZG D vwCl (wX kc ad wad) (PLX wad) A) q 31 [(0, .ref (ad 4))] [] := by
    intro q hok hF
    refine z_aload_n (j := 0) hx hb dX6_findFlags_31 rfl rfl ?_
    refine z_get (v := .ref (ad 9)) S hK inX6 4 (fun _ => rfl) rfl 6 (by decide) q2_47 rfl rfl dX6_findFlags_32 ?_
    refine z_iconst (v := 0) hx hb dX6_findFlags_35 (by decide) ?_
    refine z_put (v := .int 0) (q' := (sI q 1000 0)) S hK inX4 tyX4 tyX4_ok nmX4 9 (fun _ => rfl) rfl 0 (by decide) q1_231 rfl rfl rfl rfl (Nat.le_of_ble_eq_true rfl) dX6_findFlags_36 (wXp1000 kc ad wad _ _) (fun _ h => h) ?_
    refine z_aload_n (j := 0) hx hb dX6_findFlags_39 rfl rfl ?_
    refine z_get (v := .ref (ad 3)) S hK inX6 4 (fun _ => rfl) rfl 2 (by decide) q2_42 rfl rfl dX6_findFlags_40 ?_
    refine z_dup hx hb dX6_findFlags_43 rfl ?_
    refine z_get (v := .int (gI q 407)) S hK inX1 3 (fun _ => rfl) rfl 7 (by decide) q1_119 rfl rfl dX6_findFlags_44 ?_
    refine z_iconst (v := 1) hx hb dX6_findFlags_47 (by decide) ?_
    refine z_iadd hx hb dX6_findFlags_48 ?_
    refine z_put (v := .int ((gI q 407) + 1)) (q' := (sI (sI q 1000 0) 407 ((gI q 407) + 1))) S hK inX1 tyX1 tyX1_ok nmX1 3 (fun _ => rfl) rfl 7 (by decide) q1_119 rfl rfl rfl rfl (Nat.le_of_ble_eq_true rfl) dX6_findFlags_49 (wXp407 kc ad wad _ _) (fun _ h => h) ?_
    refine z_sub [] rfl ?_
    exact b52 (sI (sI q 1000 0) 407 ((gI q 407) + 1)) hok hF
  have b28 : ∀ (q : SS) (s0 : Int32) (s1 : Int32), kX6_findFlags_28 q s0 s1 → F = fX6_findFlags_28 q s0 s1 → Z p l e (zr 2 0 0) s m args below meth c 0 0 (MQ below (va_Qv (fun (_ : Unit) => True) (fun _ t => (GX D kc ad wad) A F t.heap) A) args s 0 0 A) 1 A (ZG D vwCl (wX kc ad wad) (PLX wad) A) q 28 [(0, .ref (ad 4))] [.int s0, .int s1, .ref (ad 6)] := by
    intro q s0 s1 hok hF
    have h28 := And.left hok
    have hok := And.right hok
    refine z_callVv (As := [.int s1, .int s0]) S (ctX8_setFlags_now l hl D kc ad wad q s1 s0 h28) (cwV 2 S.2.2.2.2 (gV q5_118 q5_119 q5_120 q1_7 q5_121) rfl rfl rfl hX8_setFlags ⟨Nat.le_of_ble_eq_true rfl, Nat.le_of_ble_eq_true rfl⟩) hA (pbX D kc) (psX hK hE) (z_recv hK 6 (fun _ => rfl) rfl) rfl rfl (Nat.le_of_ble_eq_true rfl) dX6_findFlags_28 ⟨Nat.le_of_ble_eq_true rfl, Nat.le_of_ble_eq_true rfl⟩ ?_
    exact b31 (fX8_setFlags_now q s1 s0) hok hF
  have b21 : ∀ (q : SS) (s0 : Int32), kX6_findFlags_21 q s0 → F = fX6_findFlags_21 q s0 → Z p l e (zr 2 0 0) s m args below meth c 0 0 (MQ below (va_Qv (fun (_ : Unit) => True) (fun _ t => (GX D kc ad wad) A F t.heap) A) args s 0 0 A) 1 A (ZG D vwCl (wX kc ad wad) (PLX wad) A) q 21 [(0, .ref (ad 4))] [.int s0, .ref (ad 6)] := by
    intro q s0 hok hF
    refine z_aload_n (j := 0) hx hb dX6_findFlags_21 rfl rfl ?_
    refine z_get (v := .ref (ad 9)) S hK inX6 4 (fun _ => rfl) rfl 6 (by decide) q2_47 rfl rfl dX6_findFlags_22 ?_
    have h25 := And.left hok
    have hok := And.right hok
    refine z_callVi (As := []) S (ctX4_isCarry l hl D kc ad wad q h25) (cwV 0 S.2.2.2.2 (gV q5_111 q5_112 q5_113 q1_9 q5_114) rfl rfl rfl hX4_isCarry ⟨Nat.le_of_ble_eq_true rfl, Nat.le_of_ble_eq_true rfl⟩) hA (pbX D kc) (psX hK hE) (z_recv hK 9 (fun _ => rfl) rfl) rfl rfl (Nat.le_of_ble_eq_true rfl) dX6_findFlags_25 ⟨Nat.le_of_ble_eq_true rfl, Nat.le_of_ble_eq_true rfl⟩ ?_
    exact b28 (fX4_isCarry q).2 (fX4_isCarry q).1 s0 hok hF
  refine z_aload_n (j := 0) hx hb dX6_findFlags_0 rfl rfl ?_
  refine z_get (v := .ref (ad 9)) S hK inX6 4 (fun _ => rfl) rfl 6 (by decide) q2_47 rfl rfl dX6_findFlags_1 ?_
  refine z_get (v := .int (gI q 1000)) S hK inX4 9 (fun _ => rfl) rfl 0 (by decide) q1_231 rfl rfl dX6_findFlags_4 ?_
  refine z_if_eq (tgt := 52) hx hb dX6_findFlags_7 (by decide) (fun g7 => ?_) (fun g7 => ?_)
  · have hF := hF.trans (if_pos g7)
    have hok := And.left hok g7
    refine z_sub [] rfl ?_
    exact b52 q hok hF
  · have hF := hF.trans (if_neg g7)
    have hok := And.right hok g7
    refine z_aload_n (j := 0) hx hb dX6_findFlags_10 rfl rfl ?_
    refine z_get (v := .ref (ad 6)) S hK inX6 4 (fun _ => rfl) rfl 3 (by decide) q2_43 rfl rfl dX6_findFlags_11 ?_
    refine z_aload_n (j := 0) hx hb dX6_findFlags_14 rfl rfl ?_
    refine z_get (v := .ref (ad 9)) S hK inX6 4 (fun _ => rfl) rfl 6 (by decide) q2_47 rfl rfl dX6_findFlags_15 ?_
    have h18 := And.left hok
    have hok := And.right hok
    refine z_callVi (As := []) S (ctX4_isZero l hl D kc ad wad q h18) (cwV 0 S.2.2.2.2 (gV q5_106 q5_107 q5_108 q1_9 q5_109) rfl rfl rfl hX4_isZero ⟨Nat.le_of_ble_eq_true rfl, Nat.le_of_ble_eq_true rfl⟩) hA (pbX D kc) (psX hK hE) (z_recv hK 9 (fun _ => rfl) rfl) rfl rfl (Nat.le_of_ble_eq_true rfl) dX6_findFlags_18 ⟨Nat.le_of_ble_eq_true rfl, Nat.le_of_ble_eq_true rfl⟩ ?_
    exact b21 (fX4_isZero q).2 (fX4_isZero q).1 hok hF
theorem hX6_findFlags : yX6_findFlags.cls = RX6 ∧ yX6_findFlags.cls ≠ "java/lang/invoke/MethodHandle" ∧ yX6_findFlags.cls ≠ "java/lang/invoke/VarHandle" ∧ (parseMethodDescriptor yX6_findFlags.desc).map (fun d => d.parameters.length) = some 0 := by decide +kernel
def fX6_testedBits_64 (q : SS) (v1 : Int32) (v2 : Int32) : Int32 × SS := ((v2 &&& v1), q)
def kX6_testedBits_64 (q : SS) (v1 : Int32) (v2 : Int32) : Prop := True
def fX6_testedBits_42 (q : SS) (v1 : Int32) (v2 : Int32) : Int32 × SS := (if (gI q 514) = 0 then fX6_testedBits_64 q v1 v2 else (if (gI q 706) = 1 then fX6_testedBits_64 q v1 (v2 ||| 4) else fX6_testedBits_64 q v1 v2))
def kX6_testedBits_42 (q : SS) (v1 : Int32) (v2 : Int32) : Prop := (((gI q 514) = 0 → kX6_testedBits_64 q v1 v2) ∧ (¬ (gI q 514) = 0 → (((gI q 706) = 1 → kX6_testedBits_64 q v1 (v2 ||| 4)) ∧ (¬ (gI q 706) = 1 → kX6_testedBits_64 q v1 v2))))
def fX6_testedBits_27 (q : SS) (v1 : Int32) (v2 : Int32) : Int32 × SS := (if (gI q 704) = 1 then fX6_testedBits_42 q v1 (v2 ||| 2) else fX6_testedBits_42 q v1 v2)
def kX6_testedBits_27 (q : SS) (v1 : Int32) (v2 : Int32) : Prop := (((gI q 704) = 1 → kX6_testedBits_42 q v1 (v2 ||| 2)) ∧ (¬ (gI q 704) = 1 → kX6_testedBits_42 q v1 v2))
def fX6_testedBits_10 (q : SS) (v1 : Int32) : Int32 × SS := (if (gI q 703) = 1 then fX6_testedBits_27 q v1 (0 ||| 1) else fX6_testedBits_27 q v1 0)
def kX6_testedBits_10 (q : SS) (v1 : Int32) : Prop := (((gI q 703) = 1 → kX6_testedBits_27 q v1 (0 ||| 1)) ∧ (¬ (gI q 703) = 1 → kX6_testedBits_27 q v1 0))
def fX6_testedBits (q : SS) (v1 : Int32) : Int32 × SS := (if (v1 &&& 3) = 0 then fX6_testedBits_10 q v1 else fX6_testedBits_10 (fX6_findFlags q) v1)
def kX6_testedBits (q : SS) (v1 : Int32) : Prop := (((v1 &&& 3) = 0 → kX6_testedBits_10 q v1) ∧ (¬ (v1 &&& 3) = 0 → kX6_findFlags q ∧ kX6_testedBits_10 (fX6_findFlags q) v1))
set_option maxHeartbeats 4000000 in
set_option maxRecDepth 100000 in
theorem ctX6_testedBits (l : Launch) (hl : l.stackTraces = false) (D : va_G) (kc : Nat → ClassId) (ad wad : Nat → Nat) (q : SS) (v1 : Int32) (hok : kX6_testedBits q v1) : Ci l yX6_testedBits (Cond.code yX6_testedBits cX6_testedBits 3 (some .int) :: lw_G) (zr 3 0 0) 0 0 (PX D kc) (GX D kc ad wad) (GX D kc ad wad) [.ref (ad 4), .int v1] q (fX6_testedBits q v1) := by
  refine Ci.of (cc := cX6_testedBits) (maxL := 3) (ret := (some .int)) (by decide) rfl (Nat.le_of_ble_eq_true rfl) ?_
  intro p e s m args below meth c A S hr hlocks hin hA hK
  have hx := S.1
  have hb := S.2.1
  have hE : EV A s s.heap := hK.2
  have hK : va_K D vwCl (tysK kc) s := hK.1
  generalize hFe : fX6_testedBits q v1 = F
  have hF : F = fX6_testedBits q v1 := hFe.symm
  have b64 : ∀ (q : SS) (v1 : Int32) (v2 : Int32), kX6_testedBits_64 q v1 v2 → F = fX6_testedBits_64 q v1 v2 → Z p l e (zr 3 0 0) s m args below meth c 0 0 (MQ below (va_Qi (fun (x : Int32) (_ : Unit) => x = F.1) (fun _ t => (GX D kc ad wad) A F.2 t.heap) A) args s 0 0 A) 3 A (ZG D vwCl (wX kc ad wad) (PLX wad) A) q 64 [(1, .int v1), (2, .int v2)] [] := by
    intro q v1 v2 hok hF
    refine z_iload_n (j := 1) hx hb dX6_testedBits_64 rfl rfl ?_
    refine z_iload_n (j := 0) hx hb dX6_testedBits_65 rfl rfl ?_
    refine z_iand hx hb dX6_testedBits_66 ?_
    exact z_iret hx hb hlocks hr rfl hF dX6_testedBits_67
  have b42 : ∀ (q : SS) (v1 : Int32) (v2 : Int32), kX6_testedBits_42 q v1 v2 → F = fX6_testedBits_42 q v1 v2 → Z p l e (zr 3 0 0) s m args below meth c 0 0 (MQ below (va_Qi (fun (x : Int32) (_ : Unit) => x = F.1) (fun _ t => (GX D kc ad wad) A F.2 t.heap) A) args s 0 0 A) 3 A (ZG D vwCl (wX kc ad wad) (PLX wad) A) q 42 [(0, .ref (ad 4)), (1, .int v1), (2, .int v2)] [] := by
    intro q v1 v2 hok hF
    refine z_aload_n (j := 0) hx hb dX6_testedBits_42 rfl rfl ?_
    refine z_get (v := .int (gI q 514)) S hK inX6 4 (fun _ => rfl) rfl 14 (by decide) q2_59 rfl rfl dX6_testedBits_43 ?_
    refine z_if_eq (tgt := 64) hx hb dX6_testedBits_46 (by decide) (fun g46 => ?_) (fun g46 => ?_)
    · have hF := hF.trans (if_pos g46)
      have hok := And.left hok g46
      refine z_sub [1, 2] rfl ?_
      exact b64 q v1 v2 hok hF
    · have hF := hF.trans (if_neg g46)
      have hok := And.right hok g46
      refine z_aload_n (j := 0) hx hb dX6_testedBits_49 rfl rfl ?_
      refine z_get (v := .ref (ad 6)) S hK inX6 4 (fun _ => rfl) rfl 3 (by decide) q2_43 rfl rfl dX6_testedBits_50 ?_
      refine z_get (v := .int (gI q 706)) S hK inX8 6 (fun _ => rfl) rfl 6 (by decide) q1_180 rfl rfl dX6_testedBits_53 ?_
      refine z_iconst (v := 1) hx hb dX6_testedBits_56 (by decide) ?_
      refine z_icmp_ne (tgt := 64) hx hb dX6_testedBits_57 (by decide) (fun g57 => ?_) (fun g57 => ?_)
      · have hF := hF.trans (if_neg g57)
        have hok := And.right hok g57
        refine z_sub [1, 2] rfl ?_
        exact b64 q v1 v2 hok hF
      · have hF := hF.trans (if_pos g57)
        have hok := And.left hok g57
        refine z_iload_n (j := 2) hx hb dX6_testedBits_60 rfl rfl ?_
        refine z_iconst (v := 4) hx hb dX6_testedBits_61 (by decide) ?_
        refine z_ior hx hb dX6_testedBits_62 ?_
        refine z_istore_n (lv' := [(2, .int (v2 ||| 4)), (0, .ref (ad 4)), (1, .int v1)]) hx hb dX6_testedBits_63 rfl (by decide) rfl ?_
        refine z_sub [2, 0] rfl ?_
        exact b64 q v1 (v2 ||| 4) hok hF
  have b27 : ∀ (q : SS) (v1 : Int32) (v2 : Int32), kX6_testedBits_27 q v1 v2 → F = fX6_testedBits_27 q v1 v2 → Z p l e (zr 3 0 0) s m args below meth c 0 0 (MQ below (va_Qi (fun (x : Int32) (_ : Unit) => x = F.1) (fun _ t => (GX D kc ad wad) A F.2 t.heap) A) args s 0 0 A) 3 A (ZG D vwCl (wX kc ad wad) (PLX wad) A) q 27 [(0, .ref (ad 4)), (1, .int v1), (2, .int v2)] [] := by
    intro q v1 v2 hok hF
    refine z_aload_n (j := 0) hx hb dX6_testedBits_27 rfl rfl ?_
    refine z_get (v := .ref (ad 6)) S hK inX6 4 (fun _ => rfl) rfl 3 (by decide) q2_43 rfl rfl dX6_testedBits_28 ?_
    refine z_get (v := .int (gI q 704)) S hK inX8 6 (fun _ => rfl) rfl 4 (by decide) q1_175 rfl rfl dX6_testedBits_31 ?_
    refine z_iconst (v := 1) hx hb dX6_testedBits_34 (by decide) ?_
    refine z_icmp_ne (tgt := 42) hx hb dX6_testedBits_35 (by decide) (fun g35 => ?_) (fun g35 => ?_)
    · have hF := hF.trans (if_neg g35)
      have hok := And.right hok g35
      exact b42 q v1 v2 hok hF
    · have hF := hF.trans (if_pos g35)
      have hok := And.left hok g35
      refine z_iload_n (j := 2) hx hb dX6_testedBits_38 rfl rfl ?_
      refine z_iconst (v := 2) hx hb dX6_testedBits_39 (by decide) ?_
      refine z_ior hx hb dX6_testedBits_40 ?_
      refine z_istore_n (lv' := [(2, .int (v2 ||| 2)), (0, .ref (ad 4)), (1, .int v1)]) hx hb dX6_testedBits_41 rfl (by decide) rfl ?_
      refine z_sub [1, 2, 0] rfl ?_
      exact b42 q v1 (v2 ||| 2) hok hF
  have b10 : ∀ (q : SS) (v1 : Int32), kX6_testedBits_10 q v1 → F = fX6_testedBits_10 q v1 → Z p l e (zr 3 0 0) s m args below meth c 0 0 (MQ below (va_Qi (fun (x : Int32) (_ : Unit) => x = F.1) (fun _ t => (GX D kc ad wad) A F.2 t.heap) A) args s 0 0 A) 3 A (ZG D vwCl (wX kc ad wad) (PLX wad) A) q 10 [(0, .ref (ad 4)), (1, .int v1)] [] := by
    intro q v1 hok hF
    refine z_iconst (v := 0) hx hb dX6_testedBits_10 (by decide) ?_
    refine z_istore_n (lv' := [(2, .int 0), (0, .ref (ad 4)), (1, .int v1)]) hx hb dX6_testedBits_11 rfl (by decide) rfl ?_
    refine z_aload_n (j := 1) hx hb dX6_testedBits_12 rfl rfl ?_
    refine z_get (v := .ref (ad 6)) S hK inX6 4 (fun _ => rfl) rfl 3 (by decide) q2_43 rfl rfl dX6_testedBits_13 ?_
    refine z_get (v := .int (gI q 703)) S hK inX8 6 (fun _ => rfl) rfl 3 (by decide) q1_172 rfl rfl dX6_testedBits_16 ?_
    refine z_iconst (v := 1) hx hb dX6_testedBits_19 (by decide) ?_
    refine z_icmp_ne (tgt := 27) hx hb dX6_testedBits_20 (by decide) (fun g20 => ?_) (fun g20 => ?_)
    · have hF := hF.trans (if_neg g20)
      have hok := And.right hok g20
      refine z_sub [1, 2, 0] rfl ?_
      exact b27 q v1 0 hok hF
    · have hF := hF.trans (if_pos g20)
      have hok := And.left hok g20
      refine z_iload_n (j := 0) hx hb dX6_testedBits_23 rfl rfl ?_
      refine z_iconst (v := 1) hx hb dX6_testedBits_24 (by decide) ?_
      refine z_ior hx hb dX6_testedBits_25 ?_
      refine z_istore_n (lv' := [(2, .int (0 ||| 1)), (0, .ref (ad 4)), (1, .int v1)]) hx hb dX6_testedBits_26 rfl (by decide) rfl ?_
      refine z_sub [1, 2, 0] rfl ?_
      exact b27 q v1 (0 ||| 1) hok hF
  refine z_iload_n (j := 1) hx hb dX6_testedBits_0 rfl rfl ?_
  refine z_iconst (v := 3) hx hb dX6_testedBits_1 (by decide) ?_
  refine z_iand hx hb dX6_testedBits_2 ?_
  refine z_if_eq (tgt := 10) hx hb dX6_testedBits_3 (by decide) (fun g3 => ?_) (fun g3 => ?_)
  · have hF := hF.trans (if_pos g3)
    have hok := And.left hok g3
    exact b10 q v1 hok hF
  · have hF := hF.trans (if_neg g3)
    have hok := And.right hok g3
    refine z_aload_n (j := 0) hx hb dX6_testedBits_6 rfl rfl ?_
    have h7 := And.left hok
    have hok := And.right hok
    refine z_callVv (As := []) S (ctX6_findFlags l hl D kc ad wad q h7) (cwV 0 S.2.2.2.2 (gV q5_102 q5_104 qp1_11 q1_6 q5_105) rfl rfl rfl hX6_findFlags ⟨Nat.le_of_ble_eq_true rfl, Nat.le_of_ble_eq_true rfl⟩) hA (pbX D kc) (psX hK hE) (z_recv hK 4 (fun _ => rfl) rfl) rfl rfl (Nat.le_of_ble_eq_true rfl) dX6_testedBits_7 ⟨Nat.le_of_ble_eq_true rfl, Nat.le_of_ble_eq_true rfl⟩ ?_
    exact b10 (fX6_findFlags q) v1 hok hF
theorem hX6_testedBits : yX6_testedBits.cls = RX6 ∧ yX6_testedBits.cls ≠ "java/lang/invoke/MethodHandle" ∧ yX6_testedBits.cls ≠ "java/lang/invoke/VarHandle" ∧ (parseMethodDescriptor yX6_testedBits.desc).map (fun d => d.parameters.length) = some 1 := by decide +kernel
def fX6_putReturn_40 (q : SS) (v1 : Int32) : SS := (sI (sA q 22 (upd (gA q 22) ((gI q 509) : Int32).toNatClampNeg v1)) 509 ((gI q 509) + 1))
def kX6_putReturn_40 (q : SS) (v1 : Int32) : Prop := vp_in (gI q 509) 4 ∧ True
def fX6_putReturn_10 : Nat → SS → Int32 → Int32 → SS
  | 0, q, _, _ => q
  | n + 1, q, v1, v2 => (if 4 ≤ v2 then fX6_putReturn_40 (sI q 509 3) v1 else fX6_putReturn_10 n (sA q 22 (upd (gA q 22) ((v2 - 1) : Int32).toNatClampNeg ((gA q 22) (v2 : Int32).toNatClampNeg))) v1 (v2 + 1))
def kX6_putReturn_10 : Nat → SS → Int32 → Int32 → Prop
  | 0, _, _, _ => False
  | n + 1, q, v1, v2 => ((4 ≤ v2 → kX6_putReturn_40 (sI q 509 3) v1) ∧ (¬ 4 ≤ v2 → vp_in v2 4 ∧ vp_in (v2 - 1) 4 ∧ kX6_putReturn_10 n (sA q 22 (upd (gA q 22) ((v2 - 1) : Int32).toNatClampNeg ((gA q 22) (v2 : Int32).toNatClampNeg))) v1 (v2 + 1)))
def fX6_putReturn (q : SS) (v1 : Int32) : SS := (if (gI q 509) < 4 then fX6_putReturn_40 q v1 else fX6_putReturn_10 10 q v1 1)
def kX6_putReturn (q : SS) (v1 : Int32) : Prop := (((gI q 509) < 4 → kX6_putReturn_40 q v1) ∧ (¬ (gI q 509) < 4 → kX6_putReturn_10 10 q v1 1))
set_option maxHeartbeats 4000000 in
set_option maxRecDepth 100000 in
theorem ctX6_putReturn (l : Launch) (hl : l.stackTraces = false) (D : va_G) (kc : Nat → ClassId) (ad wad : Nat → Nat) (q : SS) (v1 : Int32) (hok : kX6_putReturn q v1) : Cv l yX6_putReturn (Cond.code yX6_putReturn cX6_putReturn 3 none :: lw_G) (zr 0 0 0) 0 0 (PX D kc) (GX D kc ad wad) (GX D kc ad wad) [.ref (ad 4), .int v1] q (fX6_putReturn q v1) := by
  refine Cv.of (cc := cX6_putReturn) (maxL := 3) (ret := none) (by decide) rfl (Nat.le_of_ble_eq_true rfl) ?_
  intro p e s m args below meth c A S hr hlocks hin hA hK
  have hx := S.1
  have hb := S.2.1
  have hE : EV A s s.heap := hK.2
  have hK : va_K D vwCl (tysK kc) s := hK.1
  generalize hFe : fX6_putReturn q v1 = F
  have hF : F = fX6_putReturn q v1 := hFe.symm
  have b40 : ∀ (q : SS) (v1 : Int32), kX6_putReturn_40 q v1 → F = fX6_putReturn_40 q v1 → Z p l e (zr 0 0 0) s m args below meth c 0 0 (MQ below (va_Qv (fun (_ : Unit) => True) (fun _ t => (GX D kc ad wad) A F t.heap) A) args s 0 0 A) 3 A (ZG D vwCl (wX kc ad wad) (PLX wad) A) q 40 [(0, .ref (ad 4)), (1, .int v1)] [] := by
    intro q v1 hok hF
    refine z_aload_n (j := 0) hx hb dX6_putReturn_40 rfl rfl ?_
    refine z_get (v := .ref (ad 22)) S hK inX6 4 (fun _ => rfl) rfl 8 (by decide) q2_49 rfl rfl dX6_putReturn_41 ?_
    refine z_aload_n (j := 0) hx hb dX6_putReturn_44 rfl rfl ?_
    refine z_get (v := .int (gI q 509)) S hK inX6 4 (fun _ => rfl) rfl 9 (by decide) q2_50 rfl rfl dX6_putReturn_45 ?_
    refine z_iload_n (j := 1) hx hb dX6_putReturn_48 rfl rfl ?_
    have h49 := And.left hok
    have hok := And.right hok
    refine z_iast (f := (gA q 22)) (q' := (sA q 22 (upd (gA q 22) ((gI q 509) : Int32).toNatClampNeg v1))) S hK 22 0 (fun _ => rfl) rfl h49 dX6_putReturn_49 (wXa22 kc ad wad _ _) (fun _ h => h) ?_
    refine z_aload_n (j := 0) hx hb dX6_putReturn_50 rfl rfl ?_
    refine z_dup hx hb dX6_putReturn_51 rfl ?_
    refine z_get (v := .int (gI q 509)) S hK inX6 4 (fun _ => rfl) rfl 9 (by decide) q2_50 rfl rfl dX6_putReturn_52 ?_
    refine z_iconst (v := 1) hx hb dX6_putReturn_55 (by decide) ?_
    refine z_iadd hx hb dX6_putReturn_56 ?_
    refine z_put (v := .int ((gI q 509) + 1)) (q' := (sI (sA q 22 (upd (gA q 22) ((gI q 509) : Int32).toNatClampNeg v1)) 509 ((gI q 509) + 1))) S hK inX6 tyX6 tyX6_ok nmX6 4 (fun _ => rfl) rfl 9 (by decide) q2_50 rfl rfl rfl rfl (Nat.le_of_ble_eq_true rfl) dX6_putReturn_57 (wXp509 kc ad wad _ _) (fun _ h => h) ?_
    exact z_vret hx hb hlocks hr hF dX6_putReturn_60
  have b10 : ∀ (n : Nat) (q : SS) (v1 : Int32) (v2 : Int32), kX6_putReturn_10 n q v1 v2 → F = fX6_putReturn_10 n q v1 v2 → Z p l e (zr 0 0 0) s m args below meth c 0 0 (MQ below (va_Qv (fun (_ : Unit) => True) (fun _ t => (GX D kc ad wad) A F t.heap) A) args s 0 0 A) 3 A (ZG D vwCl (wX kc ad wad) (PLX wad) A) q 10 [(0, .ref (ad 4)), (1, .int v1), (2, .int v2)] [] := by
    intro n
    induction n with
    | zero => intro q v1 v2 hok hF; exact False.elim hok
    | succ n ih =>
      intro q v1 v2 hok hF
      refine z_iload_n (j := 2) hx hb dX6_putReturn_10 rfl rfl ?_
      refine z_iconst (v := 4) hx hb dX6_putReturn_11 (by decide) ?_
      refine z_icmp_ge (tgt := 35) hx hb dX6_putReturn_12 (by decide) (fun g12 => ?_) (fun g12 => ?_)
      · have hF := hF.trans (if_pos g12)
        have hok := And.left hok g12
        refine z_aload_n (j := 0) hx hb dX6_putReturn_35 rfl rfl ?_
        refine z_iconst (v := 3) hx hb dX6_putReturn_36 (by decide) ?_
        refine z_put (v := .int 3) (q' := (sI q 509 3)) S hK inX6 tyX6 tyX6_ok nmX6 4 (fun _ => rfl) rfl 9 (by decide) q2_50 rfl rfl rfl rfl (Nat.le_of_ble_eq_true rfl) dX6_putReturn_37 (wXp509 kc ad wad _ _) (fun _ h => h) ?_
        refine z_sub [0, 1] rfl ?_
        exact b40 (sI q 509 3) v1 hok hF
      · have hF := hF.trans (if_neg g12)
        have hok := And.right hok g12
        refine z_aload_n (j := 0) hx hb dX6_putReturn_15 rfl rfl ?_
        refine z_get (v := .ref (ad 22)) S hK inX6 4 (fun _ => rfl) rfl 8 (by decide) q2_49 rfl rfl dX6_putReturn_16 ?_
        refine z_iload_n (j := 2) hx hb dX6_putReturn_19 rfl rfl ?_
        refine z_iconst (v := 1) hx hb dX6_putReturn_20 (by decide) ?_
        refine z_isub hx hb dX6_putReturn_21 ?_
        refine z_aload_n (j := 0) hx hb dX6_putReturn_22 rfl rfl ?_
        refine z_get (v := .ref (ad 22)) S hK inX6 4 (fun _ => rfl) rfl 8 (by decide) q2_49 rfl rfl dX6_putReturn_23 ?_
        refine z_iload_n (j := 2) hx hb dX6_putReturn_26 rfl rfl ?_
        have h27 := And.left hok
        have hok := And.right hok
        refine z_iald (f := (gA q 22)) S hK 22 0 (fun _ => rfl) rfl h27 dX6_putReturn_27 ?_
        have h28 := And.left hok
        have hok := And.right hok
        refine z_iast (f := (gA q 22)) (q' := (sA q 22 (upd (gA q 22) ((v2 - 1) : Int32).toNatClampNeg ((gA q 22) (v2 : Int32).toNatClampNeg)))) S hK 22 0 (fun _ => rfl) rfl h28 dX6_putReturn_28 (wXa22 kc ad wad _ _) (fun _ h => h) ?_
        refine z_iinc (k := 2) (v := (v2 + 1)) (lv' := [(2, .int (v2 + 1)), (0, .ref (ad 4)), (1, .int v1)]) hx hb dX6_putReturn_29 rfl rfl (by decide) rfl ?_
        refine z_goto (tgt := 10) hx hb dX6_putReturn_32 (by decide) ?_
        refine z_sub [1, 2, 0] rfl ?_
        exact ih (sA q 22 (upd (gA q 22) ((v2 - 1) : Int32).toNatClampNeg ((gA q 22) (v2 : Int32).toNatClampNeg))) v1 (v2 + 1) hok hF
  refine z_aload_n (j := 0) hx hb dX6_putReturn_0 rfl rfl ?_
  refine z_get (v := .int (gI q 509)) S hK inX6 4 (fun _ => rfl) rfl 9 (by decide) q2_50 rfl rfl dX6_putReturn_1 ?_
  refine z_iconst (v := 4) hx hb dX6_putReturn_4 (by decide) ?_
  refine z_icmp_lt (tgt := 40) hx hb dX6_putReturn_5 (by decide) (fun g5 => ?_) (fun g5 => ?_)
  · have hF := hF.trans (if_pos g5)
    have hok := And.left hok g5
    exact b40 q v1 hok hF
  · have hF := hF.trans (if_neg g5)
    have hok := And.right hok g5
    refine z_iconst (v := 1) hx hb dX6_putReturn_8 (by decide) ?_
    refine z_istore_n (lv' := [(2, .int 1), (0, .ref (ad 4)), (1, .int v1)]) hx hb dX6_putReturn_9 rfl (by decide) rfl ?_
    refine z_sub [1, 2, 0] rfl ?_
    exact b10 10 q v1 1 hok hF
theorem hX6_putReturn : yX6_putReturn.cls = RX6 ∧ yX6_putReturn.cls ≠ "java/lang/invoke/MethodHandle" ∧ yX6_putReturn.cls ≠ "java/lang/invoke/VarHandle" ∧ (parseMethodDescriptor yX6_putReturn.desc).map (fun d => d.parameters.length) = some 1 := by decide +kernel
def fX6_takeReturn_15 (q : SS) : Int32 × SS := ((-1), q)
def kX6_takeReturn_15 (q : SS) : Prop := True
def fX6_takeReturn (q : SS) : Int32 × SS := (if (gI q 509) ≤ 0 then fX6_takeReturn_15 q else (if (gI q 509) ≤ 4 then (((gA q 22) (((gI q 509) - 1) : Int32).toNatClampNeg), (sI q 509 ((gI q 509) - 1))) else fX6_takeReturn_15 q))
def kX6_takeReturn (q : SS) : Prop := (((gI q 509) ≤ 0 → kX6_takeReturn_15 q) ∧ (¬ (gI q 509) ≤ 0 → (((gI q 509) ≤ 4 → vp_in ((gI q 509) - 1) 4 ∧ True) ∧ (¬ (gI q 509) ≤ 4 → kX6_takeReturn_15 q))))
set_option maxHeartbeats 4000000 in
set_option maxRecDepth 100000 in
theorem ctX6_takeReturn (l : Launch) (hl : l.stackTraces = false) (D : va_G) (kc : Nat → ClassId) (ad wad : Nat → Nat) (q : SS) (hok : kX6_takeReturn q) : Ci l yX6_takeReturn (Cond.code yX6_takeReturn cX6_takeReturn 1 (some .int) :: lw_G) (zr 0 0 0) 0 0 (PX D kc) (GX D kc ad wad) (GX D kc ad wad) [.ref (ad 4)] q (fX6_takeReturn q) := by
  refine Ci.of (cc := cX6_takeReturn) (maxL := 1) (ret := (some .int)) (by decide) rfl (Nat.le_of_ble_eq_true rfl) ?_
  intro p e s m args below meth c A S hr hlocks hin hA hK
  have hx := S.1
  have hb := S.2.1
  have hE : EV A s s.heap := hK.2
  have hK : va_K D vwCl (tysK kc) s := hK.1
  generalize hFe : fX6_takeReturn q = F
  have hF : F = fX6_takeReturn q := hFe.symm
  have b15 : ∀ (q : SS), kX6_takeReturn_15 q → F = fX6_takeReturn_15 q → Z p l e (zr 0 0 0) s m args below meth c 0 0 (MQ below (va_Qi (fun (x : Int32) (_ : Unit) => x = F.1) (fun _ t => (GX D kc ad wad) A F.2 t.heap) A) args s 0 0 A) 1 A (ZG D vwCl (wX kc ad wad) (PLX wad) A) q 15 [] [] := by
    intro q hok hF
    refine z_iconst (v := (-1)) hx hb dX6_takeReturn_15 (by decide) ?_
    exact z_iret hx hb hlocks hr rfl hF dX6_takeReturn_16
  refine z_aload_n (j := 0) hx hb dX6_takeReturn_0 rfl rfl ?_
  refine z_get (v := .int (gI q 509)) S hK inX6 4 (fun _ => rfl) rfl 9 (by decide) q2_50 rfl rfl dX6_takeReturn_1 ?_
  refine z_if_le (tgt := 15) hx hb dX6_takeReturn_4 (by decide) (fun g4 => ?_) (fun g4 => ?_)
  · have hF := hF.trans (if_pos g4)
    have hok := And.left hok g4
    refine z_sub [] rfl ?_
    exact b15 q hok hF
  · have hF := hF.trans (if_neg g4)
    have hok := And.right hok g4
    refine z_aload_n (j := 0) hx hb dX6_takeReturn_7 rfl rfl ?_
    refine z_get (v := .int (gI q 509)) S hK inX6 4 (fun _ => rfl) rfl 9 (by decide) q2_50 rfl rfl dX6_takeReturn_8 ?_
    refine z_iconst (v := 4) hx hb dX6_takeReturn_11 (by decide) ?_
    refine z_icmp_le (tgt := 17) hx hb dX6_takeReturn_12 (by decide) (fun g12 => ?_) (fun g12 => ?_)
    · have hF := hF.trans (if_pos g12)
      have hok := And.left hok g12
      refine z_aload_n (j := 0) hx hb dX6_takeReturn_17 rfl rfl ?_
      refine z_dup hx hb dX6_takeReturn_18 rfl ?_
      refine z_get (v := .int (gI q 509)) S hK inX6 4 (fun _ => rfl) rfl 9 (by decide) q2_50 rfl rfl dX6_takeReturn_19 ?_
      refine z_iconst (v := 1) hx hb dX6_takeReturn_22 (by decide) ?_
      refine z_isub hx hb dX6_takeReturn_23 ?_
      refine z_put (v := .int ((gI q 509) - 1)) (q' := (sI q 509 ((gI q 509) - 1))) S hK inX6 tyX6 tyX6_ok nmX6 4 (fun _ => rfl) rfl 9 (by decide) q2_50 rfl rfl rfl rfl (Nat.le_of_ble_eq_true rfl) dX6_takeReturn_24 (wXp509 kc ad wad _ _) (fun _ h => h) ?_
      refine z_aload_n (j := 0) hx hb dX6_takeReturn_27 rfl rfl ?_
      refine z_get (v := .ref (ad 22)) S hK inX6 4 (fun _ => rfl) rfl 8 (by decide) q2_49 rfl rfl dX6_takeReturn_28 ?_
      refine z_aload_n (j := 0) hx hb dX6_takeReturn_31 rfl rfl ?_
      refine z_get (v := .int ((gI q 509) - 1)) S hK inX6 4 (fun _ => rfl) rfl 9 (by decide) q2_50 rfl rfl dX6_takeReturn_32 ?_
      have h35 := And.left hok
      have hok := And.right hok
      refine z_iald (f := (gA q 22)) S hK 22 0 (fun _ => rfl) rfl h35 dX6_takeReturn_35 ?_
      exact z_iret hx hb hlocks hr rfl hF dX6_takeReturn_36
    · have hF := hF.trans (if_neg g12)
      have hok := And.right hok g12
      refine z_sub [] rfl ?_
      exact b15 q hok hF
theorem hX6_takeReturn : yX6_takeReturn.cls = RX6 ∧ yX6_takeReturn.cls ≠ "java/lang/invoke/MethodHandle" ∧ yX6_takeReturn.cls ≠ "java/lang/invoke/VarHandle" ∧ (parseMethodDescriptor yX6_takeReturn.desc).map (fun d => d.parameters.length) = some 0 := by decide +kernel
def fX6_driveBus_195 (q : SS) (v2 : Int32) (v3 : Int32) : Int32 × SS := (v3, (sI (sI q 517 v3) 518 v2))
def kX6_driveBus_195 (q : SS) (v2 : Int32) (v3 : Int32) : Prop := True
def fX6_driveBus_178 (q : SS) (v2 : Int32) (v3 : Int32) (s0 : Int32) : Int32 × SS := (if s0 ≤ 1 then fX6_driveBus_195 q v2 v3 else fX6_driveBus_195 (sI q 404 ((gI q 404) + 1)) v2 v3)
def kX6_driveBus_178 (q : SS) (v2 : Int32) (v3 : Int32) (s0 : Int32) : Prop := ((s0 ≤ 1 → kX6_driveBus_195 q v2 v3) ∧ (¬ s0 ≤ 1 → kX6_driveBus_195 (sI q 404 ((gI q 404) + 1)) v2 v3))
def fX6_driveBus_172 (q : SS) (v2 : Int32) (s0 : Int32) (s1 : Int32) : Int32 × SS := fX6_driveBus_178 (fJ6_bitCount_0f7a4 q v2).2 v2 (s1 &&& s0) (fJ6_bitCount_0f7a4 q v2).1
def kX6_driveBus_172 (q : SS) (v2 : Int32) (s0 : Int32) (s1 : Int32) : Prop := kJ6_bitCount_0f7a4 q v2 ∧ kX6_driveBus_178 (fJ6_bitCount_0f7a4 q v2).2 v2 (s1 &&& s0) (fJ6_bitCount_0f7a4 q v2).1
def fX6_driveBus_154 (q : SS) (w1 : Nat) (v2 : Int32) (s0 : Int32) (s1 : Int32) : Int32 × SS := (if (v2 &&& 64) = 0 then fX6_driveBus_172 q v2 (s1 &&& s0) (s1 &&& s0) else fX6_driveBus_172 q v2 (gA q 38 w1) (s1 &&& s0))
def kX6_driveBus_154 (q : SS) (w1 : Nat) (v2 : Int32) (s0 : Int32) (s1 : Int32) : Prop := (((v2 &&& 64) = 0 → kX6_driveBus_172 q v2 (s1 &&& s0) (s1 &&& s0)) ∧ (¬ (v2 &&& 64) = 0 → isW q w1 ∧ kX6_driveBus_172 q v2 (gA q 38 w1) (s1 &&& s0)))
def fX6_driveBus_149 (q : SS) (w1 : Nat) (v2 : Int32) (s0 : Int32) (s2 : Int32) : Int32 × SS := fX6_driveBus_154 q w1 v2 ((gA q 25) (s0 : Int32).toNatClampNeg) s2
def kX6_driveBus_149 (q : SS) (w1 : Nat) (v2 : Int32) (s0 : Int32) (s2 : Int32) : Prop := vp_in s0 4 ∧ kX6_driveBus_154 q w1 v2 ((gA q 25) (s0 : Int32).toNatClampNeg) s2
def fX6_driveBus_125 (q : SS) (w1 : Nat) (v2 : Int32) (s0 : Int32) (s1 : Int32) : Int32 × SS := (if (v2 &&& 32) = 0 then fX6_driveBus_154 q w1 v2 (s1 &&& s0) (s1 &&& s0) else fX6_driveBus_149 (fX3_second q).2 w1 v2 (fX3_second q).1 (s1 &&& s0))
def kX6_driveBus_125 (q : SS) (w1 : Nat) (v2 : Int32) (s0 : Int32) (s1 : Int32) : Prop := (((v2 &&& 32) = 0 → kX6_driveBus_154 q w1 v2 (s1 &&& s0) (s1 &&& s0)) ∧ (¬ (v2 &&& 32) = 0 → kX3_second q ∧ kX6_driveBus_149 (fX3_second q).2 w1 v2 (fX3_second q).1 (s1 &&& s0)))
def fX6_driveBus_120 (q : SS) (w1 : Nat) (v2 : Int32) (s0 : Int32) (s2 : Int32) : Int32 × SS := fX6_driveBus_125 q w1 v2 ((gA q 25) (s0 : Int32).toNatClampNeg) s2
def kX6_driveBus_120 (q : SS) (w1 : Nat) (v2 : Int32) (s0 : Int32) (s2 : Int32) : Prop := vp_in s0 4 ∧ kX6_driveBus_125 q w1 v2 ((gA q 25) (s0 : Int32).toNatClampNeg) s2
def fX6_driveBus_96 (q : SS) (w1 : Nat) (v2 : Int32) (s0 : Int32) (s1 : Int32) : Int32 × SS := (if (v2 &&& 16) = 0 then fX6_driveBus_125 q w1 v2 (s1 &&& s0) (s1 &&& s0) else fX6_driveBus_120 (fX3_first q).2 w1 v2 (fX3_first q).1 (s1 &&& s0))
def kX6_driveBus_96 (q : SS) (w1 : Nat) (v2 : Int32) (s0 : Int32) (s1 : Int32) : Prop := (((v2 &&& 16) = 0 → kX6_driveBus_125 q w1 v2 (s1 &&& s0) (s1 &&& s0)) ∧ (¬ (v2 &&& 16) = 0 → kX3_first q ∧ kX6_driveBus_120 (fX3_first q).2 w1 v2 (fX3_first q).1 (s1 &&& s0)))
def fX6_driveBus_75 (q : SS) (w1 : Nat) (v2 : Int32) (s0 : Int32) (s1 : Int32) : Int32 × SS := (if (v2 &&& 8) = 0 then fX6_driveBus_96 q w1 v2 (s1 &&& s0) (s1 &&& s0) else fX6_driveBus_96 q w1 v2 (gI q 701) (s1 &&& s0))
def kX6_driveBus_75 (q : SS) (w1 : Nat) (v2 : Int32) (s0 : Int32) (s1 : Int32) : Prop := (((v2 &&& 8) = 0 → kX6_driveBus_96 q w1 v2 (s1 &&& s0) (s1 &&& s0)) ∧ (¬ (v2 &&& 8) = 0 → kX6_driveBus_96 q w1 v2 (gI q 701) (s1 &&& s0)))
def fX6_driveBus_55 (q : SS) (w1 : Nat) (v2 : Int32) (s0 : Int32) (s1 : Int32) : Int32 × SS := (if (v2 &&& 4) = 0 then fX6_driveBus_75 q w1 v2 (s1 &&& s0) (s1 &&& s0) else fX6_driveBus_75 q w1 v2 (gI q 903) (s1 &&& s0))
def kX6_driveBus_55 (q : SS) (w1 : Nat) (v2 : Int32) (s0 : Int32) (s1 : Int32) : Prop := (((v2 &&& 4) = 0 → kX6_driveBus_75 q w1 v2 (s1 &&& s0) (s1 &&& s0)) ∧ (¬ (v2 &&& 4) = 0 → kX6_driveBus_75 q w1 v2 (gI q 903) (s1 &&& s0)))
def fX6_driveBus_35 (q : SS) (w1 : Nat) (v2 : Int32) (s0 : Int32) (s1 : Int32) : Int32 × SS := (if (v2 &&& 2) = 0 then fX6_driveBus_55 q w1 v2 (s1 &&& s0) (s1 &&& s0) else fX6_driveBus_55 q w1 v2 (gI q 901) (s1 &&& s0))
def kX6_driveBus_35 (q : SS) (w1 : Nat) (v2 : Int32) (s0 : Int32) (s1 : Int32) : Prop := (((v2 &&& 2) = 0 → kX6_driveBus_55 q w1 v2 (s1 &&& s0) (s1 &&& s0)) ∧ (¬ (v2 &&& 2) = 0 → kX6_driveBus_55 q w1 v2 (gI q 901) (s1 &&& s0)))
def fX6_driveBus_16 (q : SS) (w1 : Nat) (v2 : Int32) (s0 : Int32) : Int32 × SS := (if (v2 &&& 1) = 0 then fX6_driveBus_35 q w1 v2 s0 s0 else fX6_driveBus_35 q w1 v2 (gI q 900) s0)
def kX6_driveBus_16 (q : SS) (w1 : Nat) (v2 : Int32) (s0 : Int32) : Prop := (((v2 &&& 1) = 0 → kX6_driveBus_35 q w1 v2 s0 s0) ∧ (¬ (v2 &&& 1) = 0 → kX6_driveBus_35 q w1 v2 (gI q 900) s0))
def fX6_driveBus (q : SS) (w1 : Nat) : Int32 × SS := (if (gA q 30 w1) = 0 then fX6_driveBus_16 q w1 (gA q 30 w1) 0 else fX6_driveBus_16 q w1 (gA q 30 w1) 255)
def kX6_driveBus (q : SS) (w1 : Nat) : Prop := isW q w1 ∧ (((gA q 30 w1) = 0 → kX6_driveBus_16 q w1 (gA q 30 w1) 0) ∧ (¬ (gA q 30 w1) = 0 → kX6_driveBus_16 q w1 (gA q 30 w1) 255))
set_option maxHeartbeats 4000000 in
set_option maxRecDepth 100000 in
theorem ctX6_driveBus (l : Launch) (hl : l.stackTraces = false) (D : va_G) (kc : Nat → ClassId) (ad wad : Nat → Nat) (q : SS) (w1 : Nat) (hok : kX6_driveBus q w1) : Ci l yX6_driveBus (Cond.code yX6_driveBus cX6_driveBus 4 (some .int) :: lw_G) (zr 2 0 0) 0 0 (PX D kc) (GX D kc ad wad) (GX D kc ad wad) [.ref (ad 4), .ref (wad w1)] q (fX6_driveBus q w1) := by
  refine Ci.of (cc := cX6_driveBus) (maxL := 4) (ret := (some .int)) (by decide) rfl (Nat.le_of_ble_eq_true rfl) ?_
  intro p e s m args below meth c A S hr hlocks hin hA hK
  have hx := S.1
  have hb := S.2.1
  have hE : EV A s s.heap := hK.2
  have hK : va_K D vwCl (tysK kc) s := hK.1
  generalize hFe : fX6_driveBus q w1 = F
  have hF : F = fX6_driveBus q w1 := hFe.symm
  have b195 : ∀ (q : SS) (v2 : Int32) (v3 : Int32), kX6_driveBus_195 q v2 v3 → F = fX6_driveBus_195 q v2 v3 → Z p l e (zr 2 0 0) s m args below meth c 0 0 (MQ below (va_Qi (fun (x : Int32) (_ : Unit) => x = F.1) (fun _ t => (GX D kc ad wad) A F.2 t.heap) A) args s 0 0 A) 4 A (ZG D vwCl (wX kc ad wad) (PLX wad) A) q 195 [(0, .ref (ad 4)), (2, .int v2), (3, .int v3)] [] := by
    intro q v2 v3 hok hF
    refine z_aload_n (j := 0) hx hb dX6_driveBus_195 rfl rfl ?_
    refine z_iload_n (j := 2) hx hb dX6_driveBus_196 rfl rfl ?_
    refine z_put (v := .int v3) (q' := (sI q 517 v3)) S hK inX6 tyX6 tyX6_ok nmX6 4 (fun _ => rfl) rfl 17 (by decide) q2_65 rfl rfl rfl rfl (Nat.le_of_ble_eq_true rfl) dX6_driveBus_197 (wXp517 kc ad wad _ _) (fun _ h => h) ?_
    refine z_aload_n (j := 0) hx hb dX6_driveBus_200 rfl rfl ?_
    refine z_iload_n (j := 1) hx hb dX6_driveBus_201 rfl rfl ?_
    refine z_put (v := .int v2) (q' := (sI (sI q 517 v3) 518 v2)) S hK inX6 tyX6 tyX6_ok nmX6 4 (fun _ => rfl) rfl 18 (by decide) q2_67 rfl rfl rfl rfl (Nat.le_of_ble_eq_true rfl) dX6_driveBus_202 (wXp518 kc ad wad _ _) (fun _ h => h) ?_
    refine z_iload_n (j := 2) hx hb dX6_driveBus_205 rfl rfl ?_
    exact z_iret hx hb hlocks hr rfl hF dX6_driveBus_206
  have b178 : ∀ (q : SS) (v2 : Int32) (v3 : Int32) (s0 : Int32), kX6_driveBus_178 q v2 v3 s0 → F = fX6_driveBus_178 q v2 v3 s0 → Z p l e (zr 2 0 0) s m args below meth c 0 0 (MQ below (va_Qi (fun (x : Int32) (_ : Unit) => x = F.1) (fun _ t => (GX D kc ad wad) A F.2 t.heap) A) args s 0 0 A) 4 A (ZG D vwCl (wX kc ad wad) (PLX wad) A) q 178 [(0, .ref (ad 4)), (2, .int v2), (3, .int v3)] [.int s0] := by
    intro q v2 v3 s0 hok hF
    refine z_iconst (v := 1) hx hb dX6_driveBus_178 (by decide) ?_
    refine z_icmp_le (tgt := 195) hx hb dX6_driveBus_179 (by decide) (fun g179 => ?_) (fun g179 => ?_)
    · have hF := hF.trans (if_pos g179)
      have hok := And.left hok g179
      exact b195 q v2 v3 hok hF
    · have hF := hF.trans (if_neg g179)
      have hok := And.right hok g179
      refine z_aload_n (j := 0) hx hb dX6_driveBus_182 rfl rfl ?_
      refine z_get (v := .ref (ad 3)) S hK inX6 4 (fun _ => rfl) rfl 2 (by decide) q2_42 rfl rfl dX6_driveBus_183 ?_
      refine z_dup hx hb dX6_driveBus_186 rfl ?_
      refine z_get (v := .int (gI q 404)) S hK inX1 3 (fun _ => rfl) rfl 4 (by decide) q1_113 rfl rfl dX6_driveBus_187 ?_
      refine z_iconst (v := 1) hx hb dX6_driveBus_190 (by decide) ?_
      refine z_iadd hx hb dX6_driveBus_191 ?_
      refine z_put (v := .int ((gI q 404) + 1)) (q' := (sI q 404 ((gI q 404) + 1))) S hK inX1 tyX1 tyX1_ok nmX1 3 (fun _ => rfl) rfl 4 (by decide) q1_113 rfl rfl rfl rfl (Nat.le_of_ble_eq_true rfl) dX6_driveBus_192 (wXp404 kc ad wad _ _) (fun _ h => h) ?_
      exact b195 (sI q 404 ((gI q 404) + 1)) v2 v3 hok hF
  have b172 : ∀ (q : SS) (v2 : Int32) (s0 : Int32) (s1 : Int32), kX6_driveBus_172 q v2 s0 s1 → F = fX6_driveBus_172 q v2 s0 s1 → Z p l e (zr 2 0 0) s m args below meth c 0 0 (MQ below (va_Qi (fun (x : Int32) (_ : Unit) => x = F.1) (fun _ t => (GX D kc ad wad) A F.2 t.heap) A) args s 0 0 A) 4 A (ZG D vwCl (wX kc ad wad) (PLX wad) A) q 172 [(0, .ref (ad 4)), (2, .int v2)] [.int s0, .int s1] := by
    intro q v2 s0 s1 hok hF
    refine z_iand hx hb dX6_driveBus_172 ?_
    refine z_istore_n (lv' := [(3, .int (s1 &&& s0)), (0, .ref (ad 4)), (2, .int v2)]) hx hb dX6_driveBus_173 rfl (by decide) rfl ?_
    refine z_iload_n (j := 2) hx hb dX6_driveBus_174 rfl rfl ?_
    have h175 := And.left hok
    have hok := And.right hok
    refine z_callSi (As := [.int v2]) S (ctJ6_bitCount_0f7a4 l hl D kc ad wad q v2 h175) (va_cwS 1 S.2.2.2.2 (gS q5_50 q5_51 q1_29 q5_52) rfl rfl rfl hJ6_bitCount_0f7a4 ⟨Nat.le_of_ble_eq_true rfl, Nat.le_of_ble_eq_true rfl⟩) hA (pbX D kc) (psX hK hE) rfl rfl (Nat.le_of_ble_eq_true rfl) dX6_driveBus_175 ⟨Nat.le_of_ble_eq_true rfl, Nat.le_of_ble_eq_true rfl⟩ ?_
    refine z_sub [1, 2, 0] rfl ?_
    exact b178 (fJ6_bitCount_0f7a4 q v2).2 v2 (s1 &&& s0) (fJ6_bitCount_0f7a4 q v2).1 hok hF
  have b154 : ∀ (q : SS) (w1 : Nat) (v2 : Int32) (s0 : Int32) (s1 : Int32), kX6_driveBus_154 q w1 v2 s0 s1 → F = fX6_driveBus_154 q w1 v2 s0 s1 → Z p l e (zr 2 0 0) s m args below meth c 0 0 (MQ below (va_Qi (fun (x : Int32) (_ : Unit) => x = F.1) (fun _ t => (GX D kc ad wad) A F.2 t.heap) A) args s 0 0 A) 4 A (ZG D vwCl (wX kc ad wad) (PLX wad) A) q 154 [(0, .ref (ad 4)), (1, .ref (wad w1)), (2, .int v2)] [.int s0, .int s1] := by
    intro q w1 v2 s0 s1 hok hF
    refine z_iand hx hb dX6_driveBus_154 ?_
    refine z_istore_n (lv' := [(3, .int (s1 &&& s0)), (0, .ref (ad 4)), (1, .ref (wad w1)), (2, .int v2)]) hx hb dX6_driveBus_155 rfl (by decide) rfl ?_
    refine z_iload_n (j := 0) hx hb dX6_driveBus_156 rfl rfl ?_
    refine z_iload_n (j := 3) hx hb dX6_driveBus_157 rfl rfl ?_
    refine z_bipush (v := 64) hx hb dX6_driveBus_158 (by decide) ?_
    refine z_iand hx hb dX6_driveBus_160 ?_
    refine z_if_eq (tgt := 171) hx hb dX6_driveBus_161 (by decide) (fun g161 => ?_) (fun g161 => ?_)
    · have hF := hF.trans (if_pos g161)
      have hok := And.left hok g161
      refine z_iload_n (j := 0) hx hb dX6_driveBus_171 rfl rfl ?_
      refine z_sub [1, 3] rfl ?_
      exact b172 q v2 (s1 &&& s0) (s1 &&& s0) hok hF
    · have hF := hF.trans (if_neg g161)
      have hok := And.right hok g161
      refine z_aload_n (j := 2) hx hb dX6_driveBus_164 rfl rfl ?_
      have h165 := And.left hok
      have hok := And.right hok
      refine z_getW (v := .int (gA q 38 w1)) S hK h165 inX9 8 (by decide) q4_55 rfl rfl dX6_driveBus_165 ?_
      refine z_goto (tgt := 172) hx hb dX6_driveBus_168 (by decide) ?_
      refine z_sub [1, 3] rfl ?_
      exact b172 q v2 (gA q 38 w1) (s1 &&& s0) hok hF
  have b149 : ∀ (q : SS) (w1 : Nat) (v2 : Int32) (s0 : Int32) (s2 : Int32), kX6_driveBus_149 q w1 v2 s0 s2 → F = fX6_driveBus_149 q w1 v2 s0 s2 → Z p l e (zr 2 0 0) s m args below meth c 0 0 (MQ below (va_Qi (fun (x : Int32) (_ : Unit) => x = F.1) (fun _ t => (GX D kc ad wad) A F.2 t.heap) A) args s 0 0 A) 4 A (ZG D vwCl (wX kc ad wad) (PLX wad) A) q 149 [(0, .ref (ad 4)), (1, .ref (wad w1)), (2, .int v2)] [.int s0, .ref (ad 25), .int s2] := by
    intro q w1 v2 s0 s2 hok hF
    have h149 := And.left hok
    have hok := And.right hok
    refine z_iald (f := (gA q 25)) S hK 25 0 (fun _ => rfl) rfl h149 dX6_driveBus_149 ?_
    refine z_goto (tgt := 154) hx hb dX6_driveBus_150 (by decide) ?_
    exact b154 q w1 v2 ((gA q 25) (s0 : Int32).toNatClampNeg) s2 hok hF
  have b125 : ∀ (q : SS) (w1 : Nat) (v2 : Int32) (s0 : Int32) (s1 : Int32), kX6_driveBus_125 q w1 v2 s0 s1 → F = fX6_driveBus_125 q w1 v2 s0 s1 → Z p l e (zr 2 0 0) s m args below meth c 0 0 (MQ below (va_Qi (fun (x : Int32) (_ : Unit) => x = F.1) (fun _ t => (GX D kc ad wad) A F.2 t.heap) A) args s 0 0 A) 4 A (ZG D vwCl (wX kc ad wad) (PLX wad) A) q 125 [(0, .ref (ad 4)), (1, .ref (wad w1)), (2, .int v2)] [.int s0, .int s1] := by
    intro q w1 v2 s0 s1 hok hF
    refine z_iand hx hb dX6_driveBus_125 ?_
    refine z_istore_n (lv' := [(3, .int (s1 &&& s0)), (0, .ref (ad 4)), (1, .ref (wad w1)), (2, .int v2)]) hx hb dX6_driveBus_126 rfl (by decide) rfl ?_
    refine z_iload_n (j := 0) hx hb dX6_driveBus_127 rfl rfl ?_
    refine z_iload_n (j := 3) hx hb dX6_driveBus_128 rfl rfl ?_
    refine z_bipush (v := 32) hx hb dX6_driveBus_129 (by decide) ?_
    refine z_iand hx hb dX6_driveBus_131 ?_
    refine z_if_eq (tgt := 153) hx hb dX6_driveBus_132 (by decide) (fun g132 => ?_) (fun g132 => ?_)
    · have hF := hF.trans (if_pos g132)
      have hok := And.left hok g132
      refine z_iload_n (j := 0) hx hb dX6_driveBus_153 rfl rfl ?_
      refine z_sub [1, 2, 3] rfl ?_
      exact b154 q w1 v2 (s1 &&& s0) (s1 &&& s0) hok hF
    · have hF := hF.trans (if_neg g132)
      have hok := And.right hok g132
      refine z_aload_n (j := 1) hx hb dX6_driveBus_135 rfl rfl ?_
      refine z_get (v := .ref (ad 6)) S hK inX6 4 (fun _ => rfl) rfl 3 (by decide) q2_43 rfl rfl dX6_driveBus_136 ?_
      refine z_get (v := .ref (ad 25)) S hK inX8 6 (fun _ => rfl) rfl 0 (by decide) q1_161 rfl rfl dX6_driveBus_139 ?_
      refine z_aload_n (j := 1) hx hb dX6_driveBus_142 rfl rfl ?_
      refine z_get (v := .ref (ad 8)) S hK inX6 4 (fun _ => rfl) rfl 5 (by decide) q2_46 rfl rfl dX6_driveBus_143 ?_
      have h146 := And.left hok
      have hok := And.right hok
      refine z_callVi (As := []) S (ctX3_second l hl D kc ad wad q h146) (cwV 0 S.2.2.2.2 (gV q5_46 q5_47 q5_48 q1_8 q5_49) rfl rfl rfl hX3_second ⟨Nat.le_of_ble_eq_true rfl, Nat.le_of_ble_eq_true rfl⟩) hA (pbX D kc) (psX hK hE) (z_recv hK 8 (fun _ => rfl) rfl) rfl rfl (Nat.le_of_ble_eq_true rfl) dX6_driveBus_146 ⟨Nat.le_of_ble_eq_true rfl, Nat.le_of_ble_eq_true rfl⟩ ?_
      refine z_sub [1, 2, 3] rfl ?_
      exact b149 (fX3_second q).2 w1 v2 (fX3_second q).1 (s1 &&& s0) hok hF
  have b120 : ∀ (q : SS) (w1 : Nat) (v2 : Int32) (s0 : Int32) (s2 : Int32), kX6_driveBus_120 q w1 v2 s0 s2 → F = fX6_driveBus_120 q w1 v2 s0 s2 → Z p l e (zr 2 0 0) s m args below meth c 0 0 (MQ below (va_Qi (fun (x : Int32) (_ : Unit) => x = F.1) (fun _ t => (GX D kc ad wad) A F.2 t.heap) A) args s 0 0 A) 4 A (ZG D vwCl (wX kc ad wad) (PLX wad) A) q 120 [(0, .ref (ad 4)), (1, .ref (wad w1)), (2, .int v2)] [.int s0, .ref (ad 25), .int s2] := by
    intro q w1 v2 s0 s2 hok hF
    have h120 := And.left hok
    have hok := And.right hok
    refine z_iald (f := (gA q 25)) S hK 25 0 (fun _ => rfl) rfl h120 dX6_driveBus_120 ?_
    refine z_goto (tgt := 125) hx hb dX6_driveBus_121 (by decide) ?_
    exact b125 q w1 v2 ((gA q 25) (s0 : Int32).toNatClampNeg) s2 hok hF
  have b96 : ∀ (q : SS) (w1 : Nat) (v2 : Int32) (s0 : Int32) (s1 : Int32), kX6_driveBus_96 q w1 v2 s0 s1 → F = fX6_driveBus_96 q w1 v2 s0 s1 → Z p l e (zr 2 0 0) s m args below meth c 0 0 (MQ below (va_Qi (fun (x : Int32) (_ : Unit) => x = F.1) (fun _ t => (GX D kc ad wad) A F.2 t.heap) A) args s 0 0 A) 4 A (ZG D vwCl (wX kc ad wad) (PLX wad) A) q 96 [(0, .ref (ad 4)), (1, .ref (wad w1)), (2, .int v2)] [.int s0, .int s1] := by
    intro q w1 v2 s0 s1 hok hF
    refine z_iand hx hb dX6_driveBus_96 ?_
    refine z_istore_n (lv' := [(3, .int (s1 &&& s0)), (0, .ref (ad 4)), (1, .ref (wad w1)), (2, .int v2)]) hx hb dX6_driveBus_97 rfl (by decide) rfl ?_
    refine z_iload_n (j := 0) hx hb dX6_driveBus_98 rfl rfl ?_
    refine z_iload_n (j := 3) hx hb dX6_driveBus_99 rfl rfl ?_
    refine z_bipush (v := 16) hx hb dX6_driveBus_100 (by decide) ?_
    refine z_iand hx hb dX6_driveBus_102 ?_
    refine z_if_eq (tgt := 124) hx hb dX6_driveBus_103 (by decide) (fun g103 => ?_) (fun g103 => ?_)
    · have hF := hF.trans (if_pos g103)
      have hok := And.left hok g103
      refine z_iload_n (j := 0) hx hb dX6_driveBus_124 rfl rfl ?_
      refine z_sub [1, 2, 3] rfl ?_
      exact b125 q w1 v2 (s1 &&& s0) (s1 &&& s0) hok hF
    · have hF := hF.trans (if_neg g103)
      have hok := And.right hok g103
      refine z_aload_n (j := 1) hx hb dX6_driveBus_106 rfl rfl ?_
      refine z_get (v := .ref (ad 6)) S hK inX6 4 (fun _ => rfl) rfl 3 (by decide) q2_43 rfl rfl dX6_driveBus_107 ?_
      refine z_get (v := .ref (ad 25)) S hK inX8 6 (fun _ => rfl) rfl 0 (by decide) q1_161 rfl rfl dX6_driveBus_110 ?_
      refine z_aload_n (j := 1) hx hb dX6_driveBus_113 rfl rfl ?_
      refine z_get (v := .ref (ad 8)) S hK inX6 4 (fun _ => rfl) rfl 5 (by decide) q2_46 rfl rfl dX6_driveBus_114 ?_
      have h117 := And.left hok
      have hok := And.right hok
      refine z_callVi (As := []) S (ctX3_first l hl D kc ad wad q h117) (cwV 0 S.2.2.2.2 (gV q5_34 q5_35 q5_36 q1_8 q5_37) rfl rfl rfl hX3_first ⟨Nat.le_of_ble_eq_true rfl, Nat.le_of_ble_eq_true rfl⟩) hA (pbX D kc) (psX hK hE) (z_recv hK 8 (fun _ => rfl) rfl) rfl rfl (Nat.le_of_ble_eq_true rfl) dX6_driveBus_117 ⟨Nat.le_of_ble_eq_true rfl, Nat.le_of_ble_eq_true rfl⟩ ?_
      refine z_sub [1, 2, 3] rfl ?_
      exact b120 (fX3_first q).2 w1 v2 (fX3_first q).1 (s1 &&& s0) hok hF
  have b75 : ∀ (q : SS) (w1 : Nat) (v2 : Int32) (s0 : Int32) (s1 : Int32), kX6_driveBus_75 q w1 v2 s0 s1 → F = fX6_driveBus_75 q w1 v2 s0 s1 → Z p l e (zr 2 0 0) s m args below meth c 0 0 (MQ below (va_Qi (fun (x : Int32) (_ : Unit) => x = F.1) (fun _ t => (GX D kc ad wad) A F.2 t.heap) A) args s 0 0 A) 4 A (ZG D vwCl (wX kc ad wad) (PLX wad) A) q 75 [(0, .ref (ad 4)), (1, .ref (wad w1)), (2, .int v2)] [.int s0, .int s1] := by
    intro q w1 v2 s0 s1 hok hF
    refine z_iand hx hb dX6_driveBus_75 ?_
    refine z_istore_n (lv' := [(3, .int (s1 &&& s0)), (0, .ref (ad 4)), (1, .ref (wad w1)), (2, .int v2)]) hx hb dX6_driveBus_76 rfl (by decide) rfl ?_
    refine z_iload_n (j := 0) hx hb dX6_driveBus_77 rfl rfl ?_
    refine z_iload_n (j := 3) hx hb dX6_driveBus_78 rfl rfl ?_
    refine z_bipush (v := 8) hx hb dX6_driveBus_79 (by decide) ?_
    refine z_iand hx hb dX6_driveBus_81 ?_
    refine z_if_eq (tgt := 95) hx hb dX6_driveBus_82 (by decide) (fun g82 => ?_) (fun g82 => ?_)
    · have hF := hF.trans (if_pos g82)
      have hok := And.left hok g82
      refine z_iload_n (j := 0) hx hb dX6_driveBus_95 rfl rfl ?_
      refine z_sub [1, 2, 3] rfl ?_
      exact b96 q w1 v2 (s1 &&& s0) (s1 &&& s0) hok hF
    · have hF := hF.trans (if_neg g82)
      have hok := And.right hok g82
      refine z_aload_n (j := 1) hx hb dX6_driveBus_85 rfl rfl ?_
      refine z_get (v := .ref (ad 6)) S hK inX6 4 (fun _ => rfl) rfl 3 (by decide) q2_43 rfl rfl dX6_driveBus_86 ?_
      refine z_get (v := .int (gI q 701)) S hK inX8 6 (fun _ => rfl) rfl 1 (by decide) q1_165 rfl rfl dX6_driveBus_89 ?_
      refine z_goto (tgt := 96) hx hb dX6_driveBus_92 (by decide) ?_
      refine z_sub [1, 2, 3] rfl ?_
      exact b96 q w1 v2 (gI q 701) (s1 &&& s0) hok hF
  have b55 : ∀ (q : SS) (w1 : Nat) (v2 : Int32) (s0 : Int32) (s1 : Int32), kX6_driveBus_55 q w1 v2 s0 s1 → F = fX6_driveBus_55 q w1 v2 s0 s1 → Z p l e (zr 2 0 0) s m args below meth c 0 0 (MQ below (va_Qi (fun (x : Int32) (_ : Unit) => x = F.1) (fun _ t => (GX D kc ad wad) A F.2 t.heap) A) args s 0 0 A) 4 A (ZG D vwCl (wX kc ad wad) (PLX wad) A) q 55 [(0, .ref (ad 4)), (1, .ref (wad w1)), (2, .int v2)] [.int s0, .int s1] := by
    intro q w1 v2 s0 s1 hok hF
    refine z_iand hx hb dX6_driveBus_55 ?_
    refine z_istore_n (lv' := [(3, .int (s1 &&& s0)), (0, .ref (ad 4)), (1, .ref (wad w1)), (2, .int v2)]) hx hb dX6_driveBus_56 rfl (by decide) rfl ?_
    refine z_iload_n (j := 0) hx hb dX6_driveBus_57 rfl rfl ?_
    refine z_iload_n (j := 3) hx hb dX6_driveBus_58 rfl rfl ?_
    refine z_iconst (v := 4) hx hb dX6_driveBus_59 (by decide) ?_
    refine z_iand hx hb dX6_driveBus_60 ?_
    refine z_if_eq (tgt := 74) hx hb dX6_driveBus_61 (by decide) (fun g61 => ?_) (fun g61 => ?_)
    · have hF := hF.trans (if_pos g61)
      have hok := And.left hok g61
      refine z_iload_n (j := 0) hx hb dX6_driveBus_74 rfl rfl ?_
      refine z_sub [1, 2, 3] rfl ?_
      exact b75 q w1 v2 (s1 &&& s0) (s1 &&& s0) hok hF
    · have hF := hF.trans (if_neg g61)
      have hok := And.right hok g61
      refine z_aload_n (j := 1) hx hb dX6_driveBus_64 rfl rfl ?_
      refine z_get (v := .ref (ad 8)) S hK inX6 4 (fun _ => rfl) rfl 5 (by decide) q2_46 rfl rfl dX6_driveBus_65 ?_
      refine z_get (v := .int (gI q 903)) S hK inX3 8 (fun _ => rfl) rfl 3 (by decide) q1_206 rfl rfl dX6_driveBus_68 ?_
      refine z_goto (tgt := 75) hx hb dX6_driveBus_71 (by decide) ?_
      refine z_sub [1, 2, 3] rfl ?_
      exact b75 q w1 v2 (gI q 903) (s1 &&& s0) hok hF
  have b35 : ∀ (q : SS) (w1 : Nat) (v2 : Int32) (s0 : Int32) (s1 : Int32), kX6_driveBus_35 q w1 v2 s0 s1 → F = fX6_driveBus_35 q w1 v2 s0 s1 → Z p l e (zr 2 0 0) s m args below meth c 0 0 (MQ below (va_Qi (fun (x : Int32) (_ : Unit) => x = F.1) (fun _ t => (GX D kc ad wad) A F.2 t.heap) A) args s 0 0 A) 4 A (ZG D vwCl (wX kc ad wad) (PLX wad) A) q 35 [(0, .ref (ad 4)), (1, .ref (wad w1)), (2, .int v2)] [.int s0, .int s1] := by
    intro q w1 v2 s0 s1 hok hF
    refine z_iand hx hb dX6_driveBus_35 ?_
    refine z_istore_n (lv' := [(3, .int (s1 &&& s0)), (0, .ref (ad 4)), (1, .ref (wad w1)), (2, .int v2)]) hx hb dX6_driveBus_36 rfl (by decide) rfl ?_
    refine z_iload_n (j := 0) hx hb dX6_driveBus_37 rfl rfl ?_
    refine z_iload_n (j := 3) hx hb dX6_driveBus_38 rfl rfl ?_
    refine z_iconst (v := 2) hx hb dX6_driveBus_39 (by decide) ?_
    refine z_iand hx hb dX6_driveBus_40 ?_
    refine z_if_eq (tgt := 54) hx hb dX6_driveBus_41 (by decide) (fun g41 => ?_) (fun g41 => ?_)
    · have hF := hF.trans (if_pos g41)
      have hok := And.left hok g41
      refine z_iload_n (j := 0) hx hb dX6_driveBus_54 rfl rfl ?_
      refine z_sub [1, 2, 3] rfl ?_
      exact b55 q w1 v2 (s1 &&& s0) (s1 &&& s0) hok hF
    · have hF := hF.trans (if_neg g41)
      have hok := And.right hok g41
      refine z_aload_n (j := 1) hx hb dX6_driveBus_44 rfl rfl ?_
      refine z_get (v := .ref (ad 8)) S hK inX6 4 (fun _ => rfl) rfl 5 (by decide) q2_46 rfl rfl dX6_driveBus_45 ?_
      refine z_get (v := .int (gI q 901)) S hK inX3 8 (fun _ => rfl) rfl 1 (by decide) q1_204 rfl rfl dX6_driveBus_48 ?_
      refine z_goto (tgt := 55) hx hb dX6_driveBus_51 (by decide) ?_
      refine z_sub [1, 2, 3] rfl ?_
      exact b55 q w1 v2 (gI q 901) (s1 &&& s0) hok hF
  have b16 : ∀ (q : SS) (w1 : Nat) (v2 : Int32) (s0 : Int32), kX6_driveBus_16 q w1 v2 s0 → F = fX6_driveBus_16 q w1 v2 s0 → Z p l e (zr 2 0 0) s m args below meth c 0 0 (MQ below (va_Qi (fun (x : Int32) (_ : Unit) => x = F.1) (fun _ t => (GX D kc ad wad) A F.2 t.heap) A) args s 0 0 A) 4 A (ZG D vwCl (wX kc ad wad) (PLX wad) A) q 16 [(0, .ref (ad 4)), (1, .ref (wad w1)), (2, .int v2)] [.int s0] := by
    intro q w1 v2 s0 hok hF
    refine z_istore_n (lv' := [(3, .int s0), (0, .ref (ad 4)), (1, .ref (wad w1)), (2, .int v2)]) hx hb dX6_driveBus_16 rfl (by decide) rfl ?_
    refine z_iload_n (j := 0) hx hb dX6_driveBus_17 rfl rfl ?_
    refine z_iload_n (j := 3) hx hb dX6_driveBus_18 rfl rfl ?_
    refine z_iconst (v := 1) hx hb dX6_driveBus_19 (by decide) ?_
    refine z_iand hx hb dX6_driveBus_20 ?_
    refine z_if_eq (tgt := 34) hx hb dX6_driveBus_21 (by decide) (fun g21 => ?_) (fun g21 => ?_)
    · have hF := hF.trans (if_pos g21)
      have hok := And.left hok g21
      refine z_iload_n (j := 0) hx hb dX6_driveBus_34 rfl rfl ?_
      refine z_sub [1, 2, 3] rfl ?_
      exact b35 q w1 v2 s0 s0 hok hF
    · have hF := hF.trans (if_neg g21)
      have hok := And.right hok g21
      refine z_aload_n (j := 1) hx hb dX6_driveBus_24 rfl rfl ?_
      refine z_get (v := .ref (ad 8)) S hK inX6 4 (fun _ => rfl) rfl 5 (by decide) q2_46 rfl rfl dX6_driveBus_25 ?_
      refine z_get (v := .int (gI q 900)) S hK inX3 8 (fun _ => rfl) rfl 0 (by decide) q1_203 rfl rfl dX6_driveBus_28 ?_
      refine z_goto (tgt := 35) hx hb dX6_driveBus_31 (by decide) ?_
      refine z_sub [1, 2, 3] rfl ?_
      exact b35 q w1 v2 (gI q 900) s0 hok hF
  refine z_aload_n (j := 1) hx hb dX6_driveBus_0 rfl rfl ?_
  have h1 := And.left hok
  have hok := And.right hok
  refine z_getW (v := .int (gA q 30 w1)) S hK h1 inX9 0 (by decide) q4_28 rfl rfl dX6_driveBus_1 ?_
  refine z_istore_n (lv' := [(2, .int (gA q 30 w1)), (0, .ref (ad 4)), (1, .ref (wad w1))]) hx hb dX6_driveBus_4 rfl (by decide) rfl ?_
  refine z_iload_n (j := 0) hx hb dX6_driveBus_5 rfl rfl ?_
  refine z_if_ne (tgt := 13) hx hb dX6_driveBus_6 (by decide) (fun g6 => ?_) (fun g6 => ?_)
  · have hF := hF.trans (if_neg g6)
    have hok := And.right hok g6
    refine z_sipush (v := 255) hx hb dX6_driveBus_13 (by decide) ?_
    refine z_sub [1, 2, 0] rfl ?_
    exact b16 q w1 (gA q 30 w1) 255 hok hF
  · have hF := hF.trans (if_pos g6)
    have hok := And.left hok g6
    refine z_iconst (v := 0) hx hb dX6_driveBus_9 (by decide) ?_
    refine z_goto (tgt := 16) hx hb dX6_driveBus_10 (by decide) ?_
    refine z_sub [1, 2, 0] rfl ?_
    exact b16 q w1 (gA q 30 w1) 0 hok hF
theorem hX6_driveBus : yX6_driveBus.cls = RX6 ∧ yX6_driveBus.cls ≠ "java/lang/invoke/MethodHandle" ∧ yX6_driveBus.cls ≠ "java/lang/invoke/VarHandle" ∧ (parseMethodDescriptor yX6_driveBus.desc).map (fun d => d.parameters.length) = some 1 := by decide +kernel
def fX6_takeResult_146 (q : SS) : SS := q
def kX6_takeResult_146 (q : SS) : Prop := True
def fX6_takeResult_130 (q : SS) (v1 : Int32) (v2 : Int32) : SS := (if (v1 &&& 128) = 0 then fX6_takeResult_146 q else fX6_takeResult_146 (sI q 904 v2))
def kX6_takeResult_130 (q : SS) (v1 : Int32) (v2 : Int32) : Prop := (((v1 &&& 128) = 0 → kX6_takeResult_146 q) ∧ (¬ (v1 &&& 128) = 0 → kX6_takeResult_146 (sI q 904 v2)))
def fX6_takeResult_112 (q : SS) (v1 : Int32) (v2 : Int32) (v4 : Int32) : SS := (if (v1 &&& 64) = 0 then fX6_takeResult_130 q v1 v2 else fX6_takeResult_130 (sA q 25 (upd (gA q 25) (v4 : Int32).toNatClampNeg v2)) v1 v2)
def kX6_takeResult_112 (q : SS) (v1 : Int32) (v2 : Int32) (v4 : Int32) : Prop := (((v1 &&& 64) = 0 → kX6_takeResult_130 q v1 v2) ∧ (¬ (v1 &&& 64) = 0 → vp_in v4 4 ∧ kX6_takeResult_130 (sA q 25 (upd (gA q 25) (v4 : Int32).toNatClampNeg v2)) v1 v2))
def fX6_takeResult_95 (q : SS) (v1 : Int32) (v2 : Int32) (v3 : Int32) (v4 : Int32) : SS := (if (v1 &&& 32) = 0 then fX6_takeResult_112 q v1 v2 v4 else fX6_takeResult_112 (sA q 25 (upd (gA q 25) (v3 : Int32).toNatClampNeg v2)) v1 v2 v4)
def kX6_takeResult_95 (q : SS) (v1 : Int32) (v2 : Int32) (v3 : Int32) (v4 : Int32) : Prop := (((v1 &&& 32) = 0 → kX6_takeResult_112 q v1 v2 v4) ∧ (¬ (v1 &&& 32) = 0 → vp_in v3 4 ∧ kX6_takeResult_112 (sA q 25 (upd (gA q 25) (v3 : Int32).toNatClampNeg v2)) v1 v2 v4))
def fX6_takeResult_77 (q : SS) (v1 : Int32) (v2 : Int32) (v3 : Int32) (v4 : Int32) : SS := (if (v1 &&& 16) = 0 then fX6_takeResult_95 q v1 v2 v3 v4 else fX6_takeResult_95 (sI q 701 (v2 &&& 63)) v1 v2 v3 v4)
def kX6_takeResult_77 (q : SS) (v1 : Int32) (v2 : Int32) (v3 : Int32) (v4 : Int32) : Prop := (((v1 &&& 16) = 0 → kX6_takeResult_95 q v1 v2 v3 v4) ∧ (¬ (v1 &&& 16) = 0 → kX6_takeResult_95 (sI q 701 (v2 &&& 63)) v1 v2 v3 v4))
def fX6_takeResult_62 (q : SS) (v1 : Int32) (v2 : Int32) (v3 : Int32) (v4 : Int32) : SS := (if (v1 &&& 8) = 0 then fX6_takeResult_77 q v1 v2 v3 v4 else fX6_takeResult_77 (sI q 903 v2) v1 v2 v3 v4)
def kX6_takeResult_62 (q : SS) (v1 : Int32) (v2 : Int32) (v3 : Int32) (v4 : Int32) : Prop := (((v1 &&& 8) = 0 → kX6_takeResult_77 q v1 v2 v3 v4) ∧ (¬ (v1 &&& 8) = 0 → kX6_takeResult_77 (sI q 903 v2) v1 v2 v3 v4))
def fX6_takeResult_45 (q : SS) (v1 : Int32) (v2 : Int32) (v3 : Int32) (v4 : Int32) : SS := (if (v1 &&& 4) = 0 then fX6_takeResult_62 q v1 v2 v3 v4 else fX6_takeResult_62 (sI q 902 (v2 &&& 63)) v1 v2 v3 v4)
def kX6_takeResult_45 (q : SS) (v1 : Int32) (v2 : Int32) (v3 : Int32) (v4 : Int32) : Prop := (((v1 &&& 4) = 0 → kX6_takeResult_62 q v1 v2 v3 v4) ∧ (¬ (v1 &&& 4) = 0 → kX6_takeResult_62 (sI q 902 (v2 &&& 63)) v1 v2 v3 v4))
def fX6_takeResult_31 (q : SS) (v1 : Int32) (v2 : Int32) (v3 : Int32) (v4 : Int32) : SS := (if (v1 &&& 2) = 0 then fX6_takeResult_45 q v1 v2 v3 v4 else fX6_takeResult_45 (sI q 901 v2) v1 v2 v3 v4)
def kX6_takeResult_31 (q : SS) (v1 : Int32) (v2 : Int32) (v3 : Int32) (v4 : Int32) : Prop := (((v1 &&& 2) = 0 → kX6_takeResult_45 q v1 v2 v3 v4) ∧ (¬ (v1 &&& 2) = 0 → kX6_takeResult_45 (sI q 901 v2) v1 v2 v3 v4))
def fX6_takeResult_15 (q : SS) (v1 : Int32) (v2 : Int32) (v3 : Int32) (s0 : Int32) : SS := (if (v1 &&& 1) = 0 then fX6_takeResult_31 q v1 v2 v3 s0 else fX6_takeResult_31 (sI q 900 v2) v1 v2 v3 s0)
def kX6_takeResult_15 (q : SS) (v1 : Int32) (v2 : Int32) (v3 : Int32) (s0 : Int32) : Prop := (((v1 &&& 1) = 0 → kX6_takeResult_31 q v1 v2 v3 s0) ∧ (¬ (v1 &&& 1) = 0 → kX6_takeResult_31 (sI q 900 v2) v1 v2 v3 s0))
def fX6_takeResult_7 (q : SS) (v1 : Int32) (v2 : Int32) (s0 : Int32) : SS := fX6_takeResult_15 (fX3_second q).2 v1 v2 s0 (fX3_second q).1
def kX6_takeResult_7 (q : SS) (v1 : Int32) (v2 : Int32) (s0 : Int32) : Prop := kX3_second q ∧ kX6_takeResult_15 (fX3_second q).2 v1 v2 s0 (fX3_second q).1
def fX6_takeResult (q : SS) (v1 : Int32) (v2 : Int32) : SS := fX6_takeResult_7 (fX3_first q).2 v1 v2 (fX3_first q).1
def kX6_takeResult (q : SS) (v1 : Int32) (v2 : Int32) : Prop := kX3_first q ∧ kX6_takeResult_7 (fX3_first q).2 v1 v2 (fX3_first q).1
set_option maxHeartbeats 4000000 in
set_option maxRecDepth 100000 in
theorem ctX6_takeResult (l : Launch) (hl : l.stackTraces = false) (D : va_G) (kc : Nat → ClassId) (ad wad : Nat → Nat) (q : SS) (v1 : Int32) (v2 : Int32) (hok : kX6_takeResult q v1 v2) : Cv l yX6_takeResult (Cond.code yX6_takeResult cX6_takeResult 5 none :: lw_G) (zr 2 0 0) 0 0 (PX D kc) (GX D kc ad wad) (GX D kc ad wad) [.ref (ad 4), .int v1, .int v2] q (fX6_takeResult q v1 v2) := by
  refine Cv.of (cc := cX6_takeResult) (maxL := 5) (ret := none) (by decide) rfl (Nat.le_of_ble_eq_true rfl) ?_
  intro p e s m args below meth c A S hr hlocks hin hA hK
  have hx := S.1
  have hb := S.2.1
  have hE : EV A s s.heap := hK.2
  have hK : va_K D vwCl (tysK kc) s := hK.1
  generalize hFe : fX6_takeResult q v1 v2 = F
  have hF : F = fX6_takeResult q v1 v2 := hFe.symm
  have b146 : ∀ (q : SS), kX6_takeResult_146 q → F = fX6_takeResult_146 q → Z p l e (zr 2 0 0) s m args below meth c 0 0 (MQ below (va_Qv (fun (_ : Unit) => True) (fun _ t => (GX D kc ad wad) A F t.heap) A) args s 0 0 A) 5 A (ZG D vwCl (wX kc ad wad) (PLX wad) A) q 146 [] [] := by
    intro q hok hF
    exact z_vret hx hb hlocks hr hF dX6_takeResult_146
  have b130 : ∀ (q : SS) (v1 : Int32) (v2 : Int32), kX6_takeResult_130 q v1 v2 → F = fX6_takeResult_130 q v1 v2 → Z p l e (zr 2 0 0) s m args below meth c 0 0 (MQ below (va_Qv (fun (_ : Unit) => True) (fun _ t => (GX D kc ad wad) A F t.heap) A) args s 0 0 A) 5 A (ZG D vwCl (wX kc ad wad) (PLX wad) A) q 130 [(0, .ref (ad 4)), (1, .int v1), (2, .int v2)] [] := by
    intro q v1 v2 hok hF
    refine z_iload_n (j := 1) hx hb dX6_takeResult_130 rfl rfl ?_
    refine z_sipush (v := 128) hx hb dX6_takeResult_131 (by decide) ?_
    refine z_iand hx hb dX6_takeResult_134 ?_
    refine z_if_eq (tgt := 146) hx hb dX6_takeResult_135 (by decide) (fun g135 => ?_) (fun g135 => ?_)
    · have hF := hF.trans (if_pos g135)
      have hok := And.left hok g135
      refine z_sub [] rfl ?_
      exact b146 q hok hF
    · have hF := hF.trans (if_neg g135)
      have hok := And.right hok g135
      refine z_aload_n (j := 0) hx hb dX6_takeResult_138 rfl rfl ?_
      refine z_get (v := .ref (ad 8)) S hK inX6 4 (fun _ => rfl) rfl 5 (by decide) q2_46 rfl rfl dX6_takeResult_139 ?_
      refine z_iload_n (j := 2) hx hb dX6_takeResult_142 rfl rfl ?_
      refine z_put (v := .int v2) (q' := (sI q 904 v2)) S hK inX3 tyX3 tyX3_ok nmX3 8 (fun _ => rfl) rfl 4 (by decide) q1_208 rfl rfl rfl rfl (Nat.le_of_ble_eq_true rfl) dX6_takeResult_143 (wXp904 kc ad wad _ _) (fun _ h => h) ?_
      refine z_sub [] rfl ?_
      exact b146 (sI q 904 v2) hok hF
  have b112 : ∀ (q : SS) (v1 : Int32) (v2 : Int32) (v4 : Int32), kX6_takeResult_112 q v1 v2 v4 → F = fX6_takeResult_112 q v1 v2 v4 → Z p l e (zr 2 0 0) s m args below meth c 0 0 (MQ below (va_Qv (fun (_ : Unit) => True) (fun _ t => (GX D kc ad wad) A F t.heap) A) args s 0 0 A) 5 A (ZG D vwCl (wX kc ad wad) (PLX wad) A) q 112 [(0, .ref (ad 4)), (1, .int v1), (2, .int v2), (4, .int v4)] [] := by
    intro q v1 v2 v4 hok hF
    refine z_iload_n (j := 1) hx hb dX6_takeResult_112 rfl rfl ?_
    refine z_bipush (v := 64) hx hb dX6_takeResult_113 (by decide) ?_
    refine z_iand hx hb dX6_takeResult_115 ?_
    refine z_if_eq (tgt := 130) hx hb dX6_takeResult_116 (by decide) (fun g116 => ?_) (fun g116 => ?_)
    · have hF := hF.trans (if_pos g116)
      have hok := And.left hok g116
      refine z_sub [0, 1, 2] rfl ?_
      exact b130 q v1 v2 hok hF
    · have hF := hF.trans (if_neg g116)
      have hok := And.right hok g116
      refine z_aload_n (j := 0) hx hb dX6_takeResult_119 rfl rfl ?_
      refine z_get (v := .ref (ad 6)) S hK inX6 4 (fun _ => rfl) rfl 3 (by decide) q2_43 rfl rfl dX6_takeResult_120 ?_
      refine z_get (v := .ref (ad 25)) S hK inX8 6 (fun _ => rfl) rfl 0 (by decide) q1_161 rfl rfl dX6_takeResult_123 ?_
      refine z_iload (j := 3) hx hb dX6_takeResult_126 rfl ?_
      refine z_iload_n (j := 2) hx hb dX6_takeResult_128 rfl rfl ?_
      have h129 := And.left hok
      have hok := And.right hok
      refine z_iast (f := (gA q 25)) (q' := (sA q 25 (upd (gA q 25) (v4 : Int32).toNatClampNeg v2))) S hK 25 0 (fun _ => rfl) rfl h129 dX6_takeResult_129 (wXa25 kc ad wad _ _) (fun _ h => h) ?_
      refine z_sub [0, 1, 2] rfl ?_
      exact b130 (sA q 25 (upd (gA q 25) (v4 : Int32).toNatClampNeg v2)) v1 v2 hok hF
  have b95 : ∀ (q : SS) (v1 : Int32) (v2 : Int32) (v3 : Int32) (v4 : Int32), kX6_takeResult_95 q v1 v2 v3 v4 → F = fX6_takeResult_95 q v1 v2 v3 v4 → Z p l e (zr 2 0 0) s m args below meth c 0 0 (MQ below (va_Qv (fun (_ : Unit) => True) (fun _ t => (GX D kc ad wad) A F t.heap) A) args s 0 0 A) 5 A (ZG D vwCl (wX kc ad wad) (PLX wad) A) q 95 [(0, .ref (ad 4)), (1, .int v1), (2, .int v2), (3, .int v3), (4, .int v4)] [] := by
    intro q v1 v2 v3 v4 hok hF
    refine z_iload_n (j := 1) hx hb dX6_takeResult_95 rfl rfl ?_
    refine z_bipush (v := 32) hx hb dX6_takeResult_96 (by decide) ?_
    refine z_iand hx hb dX6_takeResult_98 ?_
    refine z_if_eq (tgt := 112) hx hb dX6_takeResult_99 (by decide) (fun g99 => ?_) (fun g99 => ?_)
    · have hF := hF.trans (if_pos g99)
      have hok := And.left hok g99
      refine z_sub [0, 1, 2, 4] rfl ?_
      exact b112 q v1 v2 v4 hok hF
    · have hF := hF.trans (if_neg g99)
      have hok := And.right hok g99
      refine z_aload_n (j := 0) hx hb dX6_takeResult_102 rfl rfl ?_
      refine z_get (v := .ref (ad 6)) S hK inX6 4 (fun _ => rfl) rfl 3 (by decide) q2_43 rfl rfl dX6_takeResult_103 ?_
      refine z_get (v := .ref (ad 25)) S hK inX8 6 (fun _ => rfl) rfl 0 (by decide) q1_161 rfl rfl dX6_takeResult_106 ?_
      refine z_iload_n (j := 3) hx hb dX6_takeResult_109 rfl rfl ?_
      refine z_iload_n (j := 2) hx hb dX6_takeResult_110 rfl rfl ?_
      have h111 := And.left hok
      have hok := And.right hok
      refine z_iast (f := (gA q 25)) (q' := (sA q 25 (upd (gA q 25) (v3 : Int32).toNatClampNeg v2))) S hK 25 0 (fun _ => rfl) rfl h111 dX6_takeResult_111 (wXa25 kc ad wad _ _) (fun _ h => h) ?_
      refine z_sub [0, 1, 2, 4] rfl ?_
      exact b112 (sA q 25 (upd (gA q 25) (v3 : Int32).toNatClampNeg v2)) v1 v2 v4 hok hF
  have b77 : ∀ (q : SS) (v1 : Int32) (v2 : Int32) (v3 : Int32) (v4 : Int32), kX6_takeResult_77 q v1 v2 v3 v4 → F = fX6_takeResult_77 q v1 v2 v3 v4 → Z p l e (zr 2 0 0) s m args below meth c 0 0 (MQ below (va_Qv (fun (_ : Unit) => True) (fun _ t => (GX D kc ad wad) A F t.heap) A) args s 0 0 A) 5 A (ZG D vwCl (wX kc ad wad) (PLX wad) A) q 77 [(0, .ref (ad 4)), (1, .int v1), (2, .int v2), (3, .int v3), (4, .int v4)] [] := by
    intro q v1 v2 v3 v4 hok hF
    refine z_iload_n (j := 1) hx hb dX6_takeResult_77 rfl rfl ?_
    refine z_bipush (v := 16) hx hb dX6_takeResult_78 (by decide) ?_
    refine z_iand hx hb dX6_takeResult_80 ?_
    refine z_if_eq (tgt := 95) hx hb dX6_takeResult_81 (by decide) (fun g81 => ?_) (fun g81 => ?_)
    · have hF := hF.trans (if_pos g81)
      have hok := And.left hok g81
      exact b95 q v1 v2 v3 v4 hok hF
    · have hF := hF.trans (if_neg g81)
      have hok := And.right hok g81
      refine z_aload_n (j := 0) hx hb dX6_takeResult_84 rfl rfl ?_
      refine z_get (v := .ref (ad 6)) S hK inX6 4 (fun _ => rfl) rfl 3 (by decide) q2_43 rfl rfl dX6_takeResult_85 ?_
      refine z_iload_n (j := 2) hx hb dX6_takeResult_88 rfl rfl ?_
      refine z_bipush (v := 63) hx hb dX6_takeResult_89 (by decide) ?_
      refine z_iand hx hb dX6_takeResult_91 ?_
      refine z_put (v := .int (v2 &&& 63)) (q' := (sI q 701 (v2 &&& 63))) S hK inX8 tyX8 tyX8_ok nmX8 6 (fun _ => rfl) rfl 1 (by decide) q1_165 rfl rfl rfl rfl (Nat.le_of_ble_eq_true rfl) dX6_takeResult_92 (wXp701 kc ad wad _ _) (fun _ h => h) ?_
      exact b95 (sI q 701 (v2 &&& 63)) v1 v2 v3 v4 hok hF
  have b62 : ∀ (q : SS) (v1 : Int32) (v2 : Int32) (v3 : Int32) (v4 : Int32), kX6_takeResult_62 q v1 v2 v3 v4 → F = fX6_takeResult_62 q v1 v2 v3 v4 → Z p l e (zr 2 0 0) s m args below meth c 0 0 (MQ below (va_Qv (fun (_ : Unit) => True) (fun _ t => (GX D kc ad wad) A F t.heap) A) args s 0 0 A) 5 A (ZG D vwCl (wX kc ad wad) (PLX wad) A) q 62 [(0, .ref (ad 4)), (1, .int v1), (2, .int v2), (3, .int v3), (4, .int v4)] [] := by
    intro q v1 v2 v3 v4 hok hF
    refine z_iload_n (j := 1) hx hb dX6_takeResult_62 rfl rfl ?_
    refine z_bipush (v := 8) hx hb dX6_takeResult_63 (by decide) ?_
    refine z_iand hx hb dX6_takeResult_65 ?_
    refine z_if_eq (tgt := 77) hx hb dX6_takeResult_66 (by decide) (fun g66 => ?_) (fun g66 => ?_)
    · have hF := hF.trans (if_pos g66)
      have hok := And.left hok g66
      exact b77 q v1 v2 v3 v4 hok hF
    · have hF := hF.trans (if_neg g66)
      have hok := And.right hok g66
      refine z_aload_n (j := 0) hx hb dX6_takeResult_69 rfl rfl ?_
      refine z_get (v := .ref (ad 8)) S hK inX6 4 (fun _ => rfl) rfl 5 (by decide) q2_46 rfl rfl dX6_takeResult_70 ?_
      refine z_iload_n (j := 2) hx hb dX6_takeResult_73 rfl rfl ?_
      refine z_put (v := .int v2) (q' := (sI q 903 v2)) S hK inX3 tyX3 tyX3_ok nmX3 8 (fun _ => rfl) rfl 3 (by decide) q1_206 rfl rfl rfl rfl (Nat.le_of_ble_eq_true rfl) dX6_takeResult_74 (wXp903 kc ad wad _ _) (fun _ h => h) ?_
      exact b77 (sI q 903 v2) v1 v2 v3 v4 hok hF
  have b45 : ∀ (q : SS) (v1 : Int32) (v2 : Int32) (v3 : Int32) (v4 : Int32), kX6_takeResult_45 q v1 v2 v3 v4 → F = fX6_takeResult_45 q v1 v2 v3 v4 → Z p l e (zr 2 0 0) s m args below meth c 0 0 (MQ below (va_Qv (fun (_ : Unit) => True) (fun _ t => (GX D kc ad wad) A F t.heap) A) args s 0 0 A) 5 A (ZG D vwCl (wX kc ad wad) (PLX wad) A) q 45 [(0, .ref (ad 4)), (1, .int v1), (2, .int v2), (3, .int v3), (4, .int v4)] [] := by
    intro q v1 v2 v3 v4 hok hF
    refine z_iload_n (j := 1) hx hb dX6_takeResult_45 rfl rfl ?_
    refine z_iconst (v := 4) hx hb dX6_takeResult_46 (by decide) ?_
    refine z_iand hx hb dX6_takeResult_47 ?_
    refine z_if_eq (tgt := 62) hx hb dX6_takeResult_48 (by decide) (fun g48 => ?_) (fun g48 => ?_)
    · have hF := hF.trans (if_pos g48)
      have hok := And.left hok g48
      exact b62 q v1 v2 v3 v4 hok hF
    · have hF := hF.trans (if_neg g48)
      have hok := And.right hok g48
      refine z_aload_n (j := 0) hx hb dX6_takeResult_51 rfl rfl ?_
      refine z_get (v := .ref (ad 8)) S hK inX6 4 (fun _ => rfl) rfl 5 (by decide) q2_46 rfl rfl dX6_takeResult_52 ?_
      refine z_iload_n (j := 2) hx hb dX6_takeResult_55 rfl rfl ?_
      refine z_bipush (v := 63) hx hb dX6_takeResult_56 (by decide) ?_
      refine z_iand hx hb dX6_takeResult_58 ?_
      refine z_put (v := .int (v2 &&& 63)) (q' := (sI q 902 (v2 &&& 63))) S hK inX3 tyX3 tyX3_ok nmX3 8 (fun _ => rfl) rfl 2 (by decide) q1_205 rfl rfl rfl rfl (Nat.le_of_ble_eq_true rfl) dX6_takeResult_59 (wXp902 kc ad wad _ _) (fun _ h => h) ?_
      exact b62 (sI q 902 (v2 &&& 63)) v1 v2 v3 v4 hok hF
  have b31 : ∀ (q : SS) (v1 : Int32) (v2 : Int32) (v3 : Int32) (v4 : Int32), kX6_takeResult_31 q v1 v2 v3 v4 → F = fX6_takeResult_31 q v1 v2 v3 v4 → Z p l e (zr 2 0 0) s m args below meth c 0 0 (MQ below (va_Qv (fun (_ : Unit) => True) (fun _ t => (GX D kc ad wad) A F t.heap) A) args s 0 0 A) 5 A (ZG D vwCl (wX kc ad wad) (PLX wad) A) q 31 [(0, .ref (ad 4)), (1, .int v1), (2, .int v2), (3, .int v3), (4, .int v4)] [] := by
    intro q v1 v2 v3 v4 hok hF
    refine z_iload_n (j := 1) hx hb dX6_takeResult_31 rfl rfl ?_
    refine z_iconst (v := 2) hx hb dX6_takeResult_32 (by decide) ?_
    refine z_iand hx hb dX6_takeResult_33 ?_
    refine z_if_eq (tgt := 45) hx hb dX6_takeResult_34 (by decide) (fun g34 => ?_) (fun g34 => ?_)
    · have hF := hF.trans (if_pos g34)
      have hok := And.left hok g34
      exact b45 q v1 v2 v3 v4 hok hF
    · have hF := hF.trans (if_neg g34)
      have hok := And.right hok g34
      refine z_aload_n (j := 0) hx hb dX6_takeResult_37 rfl rfl ?_
      refine z_get (v := .ref (ad 8)) S hK inX6 4 (fun _ => rfl) rfl 5 (by decide) q2_46 rfl rfl dX6_takeResult_38 ?_
      refine z_iload_n (j := 2) hx hb dX6_takeResult_41 rfl rfl ?_
      refine z_put (v := .int v2) (q' := (sI q 901 v2)) S hK inX3 tyX3 tyX3_ok nmX3 8 (fun _ => rfl) rfl 1 (by decide) q1_204 rfl rfl rfl rfl (Nat.le_of_ble_eq_true rfl) dX6_takeResult_42 (wXp901 kc ad wad _ _) (fun _ h => h) ?_
      exact b45 (sI q 901 v2) v1 v2 v3 v4 hok hF
  have b15 : ∀ (q : SS) (v1 : Int32) (v2 : Int32) (v3 : Int32) (s0 : Int32), kX6_takeResult_15 q v1 v2 v3 s0 → F = fX6_takeResult_15 q v1 v2 v3 s0 → Z p l e (zr 2 0 0) s m args below meth c 0 0 (MQ below (va_Qv (fun (_ : Unit) => True) (fun _ t => (GX D kc ad wad) A F t.heap) A) args s 0 0 A) 5 A (ZG D vwCl (wX kc ad wad) (PLX wad) A) q 15 [(0, .ref (ad 4)), (1, .int v1), (2, .int v2), (3, .int v3)] [.int s0] := by
    intro q v1 v2 v3 s0 hok hF
    refine z_istore (lv' := [(4, .int s0), (0, .ref (ad 4)), (1, .int v1), (2, .int v2), (3, .int v3)]) hx hb dX6_takeResult_15 (by decide) rfl ?_
    refine z_iload_n (j := 2) hx hb dX6_takeResult_17 rfl rfl ?_
    refine z_iconst (v := 1) hx hb dX6_takeResult_18 (by decide) ?_
    refine z_iand hx hb dX6_takeResult_19 ?_
    refine z_if_eq (tgt := 31) hx hb dX6_takeResult_20 (by decide) (fun g20 => ?_) (fun g20 => ?_)
    · have hF := hF.trans (if_pos g20)
      have hok := And.left hok g20
      refine z_sub [1, 2, 3, 4, 0] rfl ?_
      exact b31 q v1 v2 v3 s0 hok hF
    · have hF := hF.trans (if_neg g20)
      have hok := And.right hok g20
      refine z_aload_n (j := 1) hx hb dX6_takeResult_23 rfl rfl ?_
      refine z_get (v := .ref (ad 8)) S hK inX6 4 (fun _ => rfl) rfl 5 (by decide) q2_46 rfl rfl dX6_takeResult_24 ?_
      refine z_iload_n (j := 3) hx hb dX6_takeResult_27 rfl rfl ?_
      refine z_put (v := .int v2) (q' := (sI q 900 v2)) S hK inX3 tyX3 tyX3_ok nmX3 8 (fun _ => rfl) rfl 0 (by decide) q1_203 rfl rfl rfl rfl (Nat.le_of_ble_eq_true rfl) dX6_takeResult_28 (wXp900 kc ad wad _ _) (fun _ h => h) ?_
      refine z_sub [1, 2, 3, 4, 0] rfl ?_
      exact b31 (sI q 900 v2) v1 v2 v3 s0 hok hF
  have b7 : ∀ (q : SS) (v1 : Int32) (v2 : Int32) (s0 : Int32), kX6_takeResult_7 q v1 v2 s0 → F = fX6_takeResult_7 q v1 v2 s0 → Z p l e (zr 2 0 0) s m args below meth c 0 0 (MQ below (va_Qv (fun (_ : Unit) => True) (fun _ t => (GX D kc ad wad) A F t.heap) A) args s 0 0 A) 5 A (ZG D vwCl (wX kc ad wad) (PLX wad) A) q 7 [(0, .ref (ad 4)), (1, .int v1), (2, .int v2)] [.int s0] := by
    intro q v1 v2 s0 hok hF
    refine z_istore_n (lv' := [(3, .int s0), (0, .ref (ad 4)), (1, .int v1), (2, .int v2)]) hx hb dX6_takeResult_7 rfl (by decide) rfl ?_
    refine z_aload_n (j := 1) hx hb dX6_takeResult_8 rfl rfl ?_
    refine z_get (v := .ref (ad 8)) S hK inX6 4 (fun _ => rfl) rfl 5 (by decide) q2_46 rfl rfl dX6_takeResult_9 ?_
    have h12 := And.left hok
    have hok := And.right hok
    refine z_callVi (As := []) S (ctX3_second l hl D kc ad wad q h12) (cwV 0 S.2.2.2.2 (gV q5_46 q5_47 q5_48 q1_8 q5_49) rfl rfl rfl hX3_second ⟨Nat.le_of_ble_eq_true rfl, Nat.le_of_ble_eq_true rfl⟩) hA (pbX D kc) (psX hK hE) (z_recv hK 8 (fun _ => rfl) rfl) rfl rfl (Nat.le_of_ble_eq_true rfl) dX6_takeResult_12 ⟨Nat.le_of_ble_eq_true rfl, Nat.le_of_ble_eq_true rfl⟩ ?_
    refine z_sub [1, 2, 3, 0] rfl ?_
    exact b15 (fX3_second q).2 v1 v2 s0 (fX3_second q).1 hok hF
  refine z_aload_n (j := 0) hx hb dX6_takeResult_0 rfl rfl ?_
  refine z_get (v := .ref (ad 8)) S hK inX6 4 (fun _ => rfl) rfl 5 (by decide) q2_46 rfl rfl dX6_takeResult_1 ?_
  have h4 := And.left hok
  have hok := And.right hok
  refine z_callVi (As := []) S (ctX3_first l hl D kc ad wad q h4) (cwV 0 S.2.2.2.2 (gV q5_34 q5_35 q5_36 q1_8 q5_37) rfl rfl rfl hX3_first ⟨Nat.le_of_ble_eq_true rfl, Nat.le_of_ble_eq_true rfl⟩) hA (pbX D kc) (psX hK hE) (z_recv hK 8 (fun _ => rfl) rfl) rfl rfl (Nat.le_of_ble_eq_true rfl) dX6_takeResult_4 ⟨Nat.le_of_ble_eq_true rfl, Nat.le_of_ble_eq_true rfl⟩ ?_
  exact b7 (fX3_first q).2 v1 v2 (fX3_first q).1 hok hF
theorem hX6_takeResult : yX6_takeResult.cls = RX6 ∧ yX6_takeResult.cls ≠ "java/lang/invoke/MethodHandle" ∧ yX6_takeResult.cls ≠ "java/lang/invoke/VarHandle" ∧ (parseMethodDescriptor yX6_takeResult.desc).map (fun d => d.parameters.length) = some 2 := by decide +kernel
def fX6_reachMemory_55 (q : SS) : SS := q
def kX6_reachMemory_55 (q : SS) : Prop := True
def fX6_reachMemory_23 (q : SS) (s0 : Int32) : SS := fX6_reachMemory_55 (sI q 903 s0)
def kX6_reachMemory_23 (q : SS) (s0 : Int32) : Prop := kX6_reachMemory_55 (sI q 903 s0)
def fX6_reachMemory (q : SS) (v1 : Int32) : SS := (if v1 = 1 then fX6_reachMemory_23 (fX5_at q (gI q 902)).2 (fX5_at q (gI q 902)).1 else (if v1 = 2 then fX6_reachMemory_55 (fX5_put q (gI q 902) (gI q 903)) else fX6_reachMemory_55 q))
def kX6_reachMemory (q : SS) (v1 : Int32) : Prop := ((v1 = 1 → kX5_at q (gI q 902) ∧ kX6_reachMemory_23 (fX5_at q (gI q 902)).2 (fX5_at q (gI q 902)).1) ∧ (¬ v1 = 1 → ((v1 = 2 → kX5_put q (gI q 902) (gI q 903) ∧ kX6_reachMemory_55 (fX5_put q (gI q 902) (gI q 903))) ∧ (¬ v1 = 2 → kX6_reachMemory_55 q))))
set_option maxHeartbeats 4000000 in
set_option maxRecDepth 100000 in
theorem ctX6_reachMemory (l : Launch) (hl : l.stackTraces = false) (D : va_G) (kc : Nat → ClassId) (ad wad : Nat → Nat) (q : SS) (v1 : Int32) (hok : kX6_reachMemory q v1) : Cv l yX6_reachMemory (Cond.code yX6_reachMemory cX6_reachMemory 2 none :: lw_G) (zr 1 0 0) 0 0 (PX D kc) (GX D kc ad wad) (GX D kc ad wad) [.ref (ad 4), .int v1] q (fX6_reachMemory q v1) := by
  refine Cv.of (cc := cX6_reachMemory) (maxL := 2) (ret := none) (by decide) rfl (Nat.le_of_ble_eq_true rfl) ?_
  intro p e s m args below meth c A S hr hlocks hin hA hK
  have hx := S.1
  have hb := S.2.1
  have hE : EV A s s.heap := hK.2
  have hK : va_K D vwCl (tysK kc) s := hK.1
  generalize hFe : fX6_reachMemory q v1 = F
  have hF : F = fX6_reachMemory q v1 := hFe.symm
  have b55 : ∀ (q : SS), kX6_reachMemory_55 q → F = fX6_reachMemory_55 q → Z p l e (zr 1 0 0) s m args below meth c 0 0 (MQ below (va_Qv (fun (_ : Unit) => True) (fun _ t => (GX D kc ad wad) A F t.heap) A) args s 0 0 A) 2 A (ZG D vwCl (wX kc ad wad) (PLX wad) A) q 55 [] [] := by
    intro q hok hF
    exact z_vret hx hb hlocks hr hF dX6_reachMemory_55
  have b23 : ∀ (q : SS) (s0 : Int32), kX6_reachMemory_23 q s0 → F = fX6_reachMemory_23 q s0 → Z p l e (zr 1 0 0) s m args below meth c 0 0 (MQ below (va_Qv (fun (_ : Unit) => True) (fun _ t => (GX D kc ad wad) A F t.heap) A) args s 0 0 A) 2 A (ZG D vwCl (wX kc ad wad) (PLX wad) A) q 23 [] [.int s0, .ref (ad 8)] := by
    intro q s0 hok hF
    refine z_put (v := .int s0) (q' := (sI q 903 s0)) S hK inX3 tyX3 tyX3_ok nmX3 8 (fun _ => rfl) rfl 3 (by decide) q1_206 rfl rfl rfl rfl (Nat.le_of_ble_eq_true rfl) dX6_reachMemory_23 (wXp903 kc ad wad _ _) (fun _ h => h) ?_
    refine z_goto (tgt := 55) hx hb dX6_reachMemory_26 (by decide) ?_
    exact b55 (sI q 903 s0) hok hF
  refine z_iload_n (j := 1) hx hb dX6_reachMemory_0 rfl rfl ?_
  refine z_iconst (v := 1) hx hb dX6_reachMemory_1 (by decide) ?_
  refine z_icmp_ne (tgt := 29) hx hb dX6_reachMemory_2 (by decide) (fun g2 => ?_) (fun g2 => ?_)
  · have hF := hF.trans (if_neg g2)
    have hok := And.right hok g2
    refine z_iload_n (j := 1) hx hb dX6_reachMemory_29 rfl rfl ?_
    refine z_iconst (v := 2) hx hb dX6_reachMemory_30 (by decide) ?_
    refine z_icmp_ne (tgt := 55) hx hb dX6_reachMemory_31 (by decide) (fun g31 => ?_) (fun g31 => ?_)
    · have hF := hF.trans (if_neg g31)
      have hok := And.right hok g31
      refine z_sub [] rfl ?_
      exact b55 q hok hF
    · have hF := hF.trans (if_pos g31)
      have hok := And.left hok g31
      refine z_aload_n (j := 0) hx hb dX6_reachMemory_34 rfl rfl ?_
      refine z_get (v := .ref (ad 2)) S hK inX6 4 (fun _ => rfl) rfl 1 (by decide) q2_41 rfl rfl dX6_reachMemory_35 ?_
      refine z_aload_n (j := 0) hx hb dX6_reachMemory_38 rfl rfl ?_
      refine z_get (v := .ref (ad 8)) S hK inX6 4 (fun _ => rfl) rfl 5 (by decide) q2_46 rfl rfl dX6_reachMemory_39 ?_
      refine z_get (v := .int (gI q 902)) S hK inX3 8 (fun _ => rfl) rfl 2 (by decide) q1_205 rfl rfl dX6_reachMemory_42 ?_
      refine z_aload_n (j := 0) hx hb dX6_reachMemory_45 rfl rfl ?_
      refine z_get (v := .ref (ad 8)) S hK inX6 4 (fun _ => rfl) rfl 5 (by decide) q2_46 rfl rfl dX6_reachMemory_46 ?_
      refine z_get (v := .int (gI q 903)) S hK inX3 8 (fun _ => rfl) rfl 3 (by decide) q1_206 rfl rfl dX6_reachMemory_49 ?_
      have h52 := And.left hok
      have hok := And.right hok
      refine z_callVv (As := [.int (gI q 902), .int (gI q 903)]) S (ctX5_put l hl D kc ad wad q (gI q 902) (gI q 903) h52) (cwV 2 S.2.2.2.2 (gV q5_88 q5_89 q5_90 q1_4 q5_91) rfl rfl rfl hX5_put ⟨Nat.le_of_ble_eq_true rfl, Nat.le_of_ble_eq_true rfl⟩) hA (pbX D kc) (psX hK hE) (z_recv hK 2 (fun _ => rfl) rfl) rfl rfl (Nat.le_of_ble_eq_true rfl) dX6_reachMemory_52 ⟨Nat.le_of_ble_eq_true rfl, Nat.le_of_ble_eq_true rfl⟩ ?_
      refine z_sub [] rfl ?_
      exact b55 (fX5_put q (gI q 902) (gI q 903)) hok hF
  · have hF := hF.trans (if_pos g2)
    have hok := And.left hok g2
    refine z_aload_n (j := 0) hx hb dX6_reachMemory_5 rfl rfl ?_
    refine z_get (v := .ref (ad 8)) S hK inX6 4 (fun _ => rfl) rfl 5 (by decide) q2_46 rfl rfl dX6_reachMemory_6 ?_
    refine z_aload_n (j := 0) hx hb dX6_reachMemory_9 rfl rfl ?_
    refine z_get (v := .ref (ad 2)) S hK inX6 4 (fun _ => rfl) rfl 1 (by decide) q2_41 rfl rfl dX6_reachMemory_10 ?_
    refine z_aload_n (j := 0) hx hb dX6_reachMemory_13 rfl rfl ?_
    refine z_get (v := .ref (ad 8)) S hK inX6 4 (fun _ => rfl) rfl 5 (by decide) q2_46 rfl rfl dX6_reachMemory_14 ?_
    refine z_get (v := .int (gI q 902)) S hK inX3 8 (fun _ => rfl) rfl 2 (by decide) q1_205 rfl rfl dX6_reachMemory_17 ?_
    have h20 := And.left hok
    have hok := And.right hok
    refine z_callVi (As := [.int (gI q 902)]) S (ctX5_at l hl D kc ad wad q (gI q 902) h20) (cwV 1 S.2.2.2.2 (gV q5_84 q5_85 q5_86 q1_4 q5_87) rfl rfl rfl hX5_at ⟨Nat.le_of_ble_eq_true rfl, Nat.le_of_ble_eq_true rfl⟩) hA (pbX D kc) (psX hK hE) (z_recv hK 2 (fun _ => rfl) rfl) rfl rfl (Nat.le_of_ble_eq_true rfl) dX6_reachMemory_20 ⟨Nat.le_of_ble_eq_true rfl, Nat.le_of_ble_eq_true rfl⟩ ?_
    refine z_sub [] rfl ?_
    exact b23 (fX5_at q (gI q 902)).2 (fX5_at q (gI q 902)).1 hok hF
theorem hX6_reachMemory : yX6_reachMemory.cls = RX6 ∧ yX6_reachMemory.cls ≠ "java/lang/invoke/MethodHandle" ∧ yX6_reachMemory.cls ≠ "java/lang/invoke/VarHandle" ∧ (parseMethodDescriptor yX6_reachMemory.desc).map (fun d => d.parameters.length) = some 1 := by decide +kernel
def fX6_begin_18 (q : SS) : SS := (sI (sI (sI (sI q 905 0) 509 0) 510 0) 511 0)
def kX6_begin_18 (q : SS) : Prop := True
def fX6_begin_11 (q : SS) : SS := fX6_begin_18 (fX5_keep q)
def kX6_begin_11 (q : SS) : Prop := kX5_keep q ∧ kX6_begin_18 (fX5_keep q)
def fX6_begin (q : SS) : SS := fX6_begin_11 (fX8_copyFrom_keptv_now q)
def kX6_begin (q : SS) : Prop := kX8_copyFrom_keptv_now q ∧ kX6_begin_11 (fX8_copyFrom_keptv_now q)
set_option maxHeartbeats 4000000 in
set_option maxRecDepth 100000 in
theorem ctX6_begin (l : Launch) (hl : l.stackTraces = false) (D : va_G) (kc : Nat → ClassId) (ad wad : Nat → Nat) (q : SS) (hok : kX6_begin q) : Cv l yX6_begin (Cond.code yX6_begin cX6_begin 1 none :: lw_G) (zr 1 0 0) 0 0 (PX D kc) (GX D kc ad wad) (GX D kc ad wad) [.ref (ad 4)] q (fX6_begin q) := by
  refine Cv.of (cc := cX6_begin) (maxL := 1) (ret := none) (by decide) rfl (Nat.le_of_ble_eq_true rfl) ?_
  intro p e s m args below meth c A S hr hlocks hin hA hK
  have hx := S.1
  have hb := S.2.1
  have hE : EV A s s.heap := hK.2
  have hK : va_K D vwCl (tysK kc) s := hK.1
  generalize hFe : fX6_begin q = F
  have hF : F = fX6_begin q := hFe.symm
  have b18 : ∀ (q : SS), kX6_begin_18 q → F = fX6_begin_18 q → Z p l e (zr 1 0 0) s m args below meth c 0 0 (MQ below (va_Qv (fun (_ : Unit) => True) (fun _ t => (GX D kc ad wad) A F t.heap) A) args s 0 0 A) 1 A (ZG D vwCl (wX kc ad wad) (PLX wad) A) q 18 [(0, .ref (ad 4))] [] := by
    intro q hok hF
    refine z_aload_n (j := 0) hx hb dX6_begin_18 rfl rfl ?_
    refine z_get (v := .ref (ad 8)) S hK inX6 4 (fun _ => rfl) rfl 5 (by decide) q2_46 rfl rfl dX6_begin_19 ?_
    refine z_iconst (v := 0) hx hb dX6_begin_22 (by decide) ?_
    refine z_put (v := .int 0) (q' := (sI q 905 0)) S hK inX3 tyX3 tyX3_ok nmX3 8 (fun _ => rfl) rfl 5 (by decide) q1_210 rfl rfl rfl rfl (Nat.le_of_ble_eq_true rfl) dX6_begin_23 (wXp905 kc ad wad _ _) (fun _ h => h) ?_
    refine z_aload_n (j := 0) hx hb dX6_begin_26 rfl rfl ?_
    refine z_iconst (v := 0) hx hb dX6_begin_27 (by decide) ?_
    refine z_put (v := .int 0) (q' := (sI (sI q 905 0) 509 0)) S hK inX6 tyX6 tyX6_ok nmX6 4 (fun _ => rfl) rfl 9 (by decide) q2_50 rfl rfl rfl rfl (Nat.le_of_ble_eq_true rfl) dX6_begin_28 (wXp509 kc ad wad _ _) (fun _ h => h) ?_
    refine z_aload_n (j := 0) hx hb dX6_begin_31 rfl rfl ?_
    refine z_iconst (v := 0) hx hb dX6_begin_32 (by decide) ?_
    refine z_put (v := .int 0) (q' := (sI (sI (sI q 905 0) 509 0) 510 0)) S hK inX6 tyX6 tyX6_ok nmX6 4 (fun _ => rfl) rfl 10 (by decide) q2_52 rfl rfl rfl rfl (Nat.le_of_ble_eq_true rfl) dX6_begin_33 (wXp510 kc ad wad _ _) (fun _ h => h) ?_
    refine z_aload_n (j := 0) hx hb dX6_begin_36 rfl rfl ?_
    refine z_iconst (v := 0) hx hb dX6_begin_37 (by decide) ?_
    refine z_put (v := .int 0) (q' := (sI (sI (sI (sI q 905 0) 509 0) 510 0) 511 0)) S hK inX6 tyX6 tyX6_ok nmX6 4 (fun _ => rfl) rfl 11 (by decide) q2_54 rfl rfl rfl rfl (Nat.le_of_ble_eq_true rfl) dX6_begin_38 (wXp511 kc ad wad _ _) (fun _ h => h) ?_
    exact z_vret hx hb hlocks hr hF dX6_begin_41
  have b11 : ∀ (q : SS), kX6_begin_11 q → F = fX6_begin_11 q → Z p l e (zr 1 0 0) s m args below meth c 0 0 (MQ below (va_Qv (fun (_ : Unit) => True) (fun _ t => (GX D kc ad wad) A F t.heap) A) args s 0 0 A) 1 A (ZG D vwCl (wX kc ad wad) (PLX wad) A) q 11 [(0, .ref (ad 4))] [] := by
    intro q hok hF
    refine z_aload_n (j := 0) hx hb dX6_begin_11 rfl rfl ?_
    refine z_get (v := .ref (ad 2)) S hK inX6 4 (fun _ => rfl) rfl 1 (by decide) q2_41 rfl rfl dX6_begin_12 ?_
    have h15 := And.left hok
    have hok := And.right hok
    refine z_callVv (As := []) S (ctX5_keep l hl D kc ad wad q h15) (cwV 0 S.2.2.2.2 (gV q2_187 q2_188 q2_189 q1_4 q2_190) rfl rfl rfl hX5_keep ⟨Nat.le_of_ble_eq_true rfl, Nat.le_of_ble_eq_true rfl⟩) hA (pbX D kc) (psX hK hE) (z_recv hK 2 (fun _ => rfl) rfl) rfl rfl (Nat.le_of_ble_eq_true rfl) dX6_begin_15 ⟨Nat.le_of_ble_eq_true rfl, Nat.le_of_ble_eq_true rfl⟩ ?_
    exact b18 (fX5_keep q) hok hF
  refine z_aload_n (j := 0) hx hb dX6_begin_0 rfl rfl ?_
  refine z_get (v := .ref (ad 7)) S hK inX6 4 (fun _ => rfl) rfl 4 (by decide) q2_45 rfl rfl dX6_begin_1 ?_
  refine z_aload_n (j := 0) hx hb dX6_begin_4 rfl rfl ?_
  refine z_get (v := .ref (ad 6)) S hK inX6 4 (fun _ => rfl) rfl 3 (by decide) q2_43 rfl rfl dX6_begin_5 ?_
  have h8 := And.left hok
  have hok := And.right hok
  refine z_callVv (As := [.ref (ad 6)]) S (ctX8_copyFrom_keptv_now l hl D kc ad wad q h8) (cwV 1 S.2.2.2.2 (gV q2_175 q2_176 q2_177 q1_7 q2_178) rfl rfl rfl hX8_copyFrom ⟨Nat.le_of_ble_eq_true rfl, Nat.le_of_ble_eq_true rfl⟩) hA (pbX D kc) (psX hK hE) (z_recv hK 7 (fun _ => rfl) rfl) rfl rfl (Nat.le_of_ble_eq_true rfl) dX6_begin_8 ⟨Nat.le_of_ble_eq_true rfl, Nat.le_of_ble_eq_true rfl⟩ ?_
  exact b11 (fX8_copyFrom_keptv_now q) hok hF
theorem hX6_begin : yX6_begin.cls = RX6 ∧ yX6_begin.cls ≠ "java/lang/invoke/MethodHandle" ∧ yX6_begin.cls ≠ "java/lang/invoke/VarHandle" ∧ (parseMethodDescriptor yX6_begin.desc).map (fun d => d.parameters.length) = some 0 := by decide +kernel
def fX6_takeBack_18 (q : SS) : SS := (fX6_begin (sI q 1000 0))
def kX6_takeBack_18 (q : SS) : Prop := kX6_begin (sI q 1000 0) ∧ True
def fX6_takeBack_11 (q : SS) : SS := fX6_takeBack_18 (fX5_takeBack q)
def kX6_takeBack_11 (q : SS) : Prop := kX5_takeBack q ∧ kX6_takeBack_18 (fX5_takeBack q)
def fX6_takeBack (q : SS) : SS := fX6_takeBack_11 (fX8_copyFrom_now_keptv q)
def kX6_takeBack (q : SS) : Prop := kX8_copyFrom_now_keptv q ∧ kX6_takeBack_11 (fX8_copyFrom_now_keptv q)
set_option maxHeartbeats 4000000 in
set_option maxRecDepth 100000 in
theorem ctX6_takeBack (l : Launch) (hl : l.stackTraces = false) (D : va_G) (kc : Nat → ClassId) (ad wad : Nat → Nat) (q : SS) (hok : kX6_takeBack q) : Cv l yX6_takeBack (Cond.code yX6_takeBack cX6_takeBack 1 none :: lw_G) (zr 2 0 0) 0 0 (PX D kc) (GX D kc ad wad) (GX D kc ad wad) [.ref (ad 4)] q (fX6_takeBack q) := by
  refine Cv.of (cc := cX6_takeBack) (maxL := 1) (ret := none) (by decide) rfl (Nat.le_of_ble_eq_true rfl) ?_
  intro p e s m args below meth c A S hr hlocks hin hA hK
  have hx := S.1
  have hb := S.2.1
  have hE : EV A s s.heap := hK.2
  have hK : va_K D vwCl (tysK kc) s := hK.1
  generalize hFe : fX6_takeBack q = F
  have hF : F = fX6_takeBack q := hFe.symm
  have b18 : ∀ (q : SS), kX6_takeBack_18 q → F = fX6_takeBack_18 q → Z p l e (zr 2 0 0) s m args below meth c 0 0 (MQ below (va_Qv (fun (_ : Unit) => True) (fun _ t => (GX D kc ad wad) A F t.heap) A) args s 0 0 A) 1 A (ZG D vwCl (wX kc ad wad) (PLX wad) A) q 18 [(0, .ref (ad 4))] [] := by
    intro q hok hF
    refine z_aload_n (j := 0) hx hb dX6_takeBack_18 rfl rfl ?_
    refine z_get (v := .ref (ad 9)) S hK inX6 4 (fun _ => rfl) rfl 6 (by decide) q2_47 rfl rfl dX6_takeBack_19 ?_
    refine z_iconst (v := 0) hx hb dX6_takeBack_22 (by decide) ?_
    refine z_put (v := .int 0) (q' := (sI q 1000 0)) S hK inX4 tyX4 tyX4_ok nmX4 9 (fun _ => rfl) rfl 0 (by decide) q1_231 rfl rfl rfl rfl (Nat.le_of_ble_eq_true rfl) dX6_takeBack_23 (wXp1000 kc ad wad _ _) (fun _ h => h) ?_
    refine z_aload_n (j := 0) hx hb dX6_takeBack_26 rfl rfl ?_
    have h27 := And.left hok
    have hok := And.right hok
    refine z_callVv (As := []) S (ctX6_begin l hl D kc ad wad (sI q 1000 0) h27) (cwV 0 S.2.2.2.2 (gV q2_183 q2_185 qp1_0 q1_6 q2_186) rfl rfl rfl hX6_begin ⟨Nat.le_of_ble_eq_true rfl, Nat.le_of_ble_eq_true rfl⟩) hA (pbX D kc) (psX hK hE) (z_recv hK 4 (fun _ => rfl) rfl) rfl rfl (Nat.le_of_ble_eq_true rfl) dX6_takeBack_27 ⟨Nat.le_of_ble_eq_true rfl, Nat.le_of_ble_eq_true rfl⟩ ?_
    exact z_vret hx hb hlocks hr hF dX6_takeBack_30
  have b11 : ∀ (q : SS), kX6_takeBack_11 q → F = fX6_takeBack_11 q → Z p l e (zr 2 0 0) s m args below meth c 0 0 (MQ below (va_Qv (fun (_ : Unit) => True) (fun _ t => (GX D kc ad wad) A F t.heap) A) args s 0 0 A) 1 A (ZG D vwCl (wX kc ad wad) (PLX wad) A) q 11 [(0, .ref (ad 4))] [] := by
    intro q hok hF
    refine z_aload_n (j := 0) hx hb dX6_takeBack_11 rfl rfl ?_
    refine z_get (v := .ref (ad 2)) S hK inX6 4 (fun _ => rfl) rfl 1 (by decide) q2_41 rfl rfl dX6_takeBack_12 ?_
    have h15 := And.left hok
    have hok := And.right hok
    refine z_callVv (As := []) S (ctX5_takeBack l hl D kc ad wad q h15) (cwV 0 S.2.2.2.2 (gV q2_179 q2_180 q2_181 q1_4 q2_182) rfl rfl rfl hX5_takeBack ⟨Nat.le_of_ble_eq_true rfl, Nat.le_of_ble_eq_true rfl⟩) hA (pbX D kc) (psX hK hE) (z_recv hK 2 (fun _ => rfl) rfl) rfl rfl (Nat.le_of_ble_eq_true rfl) dX6_takeBack_15 ⟨Nat.le_of_ble_eq_true rfl, Nat.le_of_ble_eq_true rfl⟩ ?_
    exact b18 (fX5_takeBack q) hok hF
  refine z_aload_n (j := 0) hx hb dX6_takeBack_0 rfl rfl ?_
  refine z_get (v := .ref (ad 6)) S hK inX6 4 (fun _ => rfl) rfl 3 (by decide) q2_43 rfl rfl dX6_takeBack_1 ?_
  refine z_aload_n (j := 0) hx hb dX6_takeBack_4 rfl rfl ?_
  refine z_get (v := .ref (ad 7)) S hK inX6 4 (fun _ => rfl) rfl 4 (by decide) q2_45 rfl rfl dX6_takeBack_5 ?_
  have h8 := And.left hok
  have hok := And.right hok
  refine z_callVv (As := [.ref (ad 7)]) S (ctX8_copyFrom_now_keptv l hl D kc ad wad q h8) (cwV 1 S.2.2.2.2 (gV q2_175 q2_176 q2_177 q1_7 q2_178) rfl rfl rfl hX8_copyFrom ⟨Nat.le_of_ble_eq_true rfl, Nat.le_of_ble_eq_true rfl⟩) hA (pbX D kc) (psX hK hE) (z_recv hK 6 (fun _ => rfl) rfl) rfl rfl (Nat.le_of_ble_eq_true rfl) dX6_takeBack_8 ⟨Nat.le_of_ble_eq_true rfl, Nat.le_of_ble_eq_true rfl⟩ ?_
  exact b11 (fX8_copyFrom_now_keptv q) hok hF
theorem hX6_takeBack : yX6_takeBack.cls = RX6 ∧ yX6_takeBack.cls ≠ "java/lang/invoke/MethodHandle" ∧ yX6_takeBack.cls ≠ "java/lang/invoke/VarHandle" ∧ (parseMethodDescriptor yX6_takeBack.desc).map (fun d => d.parameters.length) = some 0 := by decide +kernel
def fX6_fault_34 (q : SS) (s0 : Int32) : SS := (fX6_takeBack (sI q 513 s0))
def kX6_fault_34 (q : SS) (s0 : Int32) : Prop := kX6_takeBack (sI q 513 s0) ∧ True
def fX6_fault (q : SS) : SS := fX6_fault_34 (fX5_pageOf (sI (sI q 405 ((gI q 405) + 1)) 512 119) (gI q 902)).2 (fX5_pageOf (sI (sI q 405 ((gI q 405) + 1)) 512 119) (gI q 902)).1
def kX6_fault (q : SS) : Prop := kX5_pageOf (sI (sI q 405 ((gI q 405) + 1)) 512 119) (gI q 902) ∧ kX6_fault_34 (fX5_pageOf (sI (sI q 405 ((gI q 405) + 1)) 512 119) (gI q 902)).2 (fX5_pageOf (sI (sI q 405 ((gI q 405) + 1)) 512 119) (gI q 902)).1
set_option maxHeartbeats 4000000 in
set_option maxRecDepth 100000 in
theorem ctX6_fault (l : Launch) (hl : l.stackTraces = false) (D : va_G) (kc : Nat → ClassId) (ad wad : Nat → Nat) (q : SS) (hok : kX6_fault q) : Cv l yX6_fault (Cond.code yX6_fault cX6_fault 1 none :: lw_G) (zr 3 0 0) 0 0 (PX D kc) (GX D kc ad wad) (GX D kc ad wad) [.ref (ad 4)] q (fX6_fault q) := by
  refine Cv.of (cc := cX6_fault) (maxL := 1) (ret := none) (by decide) rfl (Nat.le_of_ble_eq_true rfl) ?_
  intro p e s m args below meth c A S hr hlocks hin hA hK
  have hx := S.1
  have hb := S.2.1
  have hE : EV A s s.heap := hK.2
  have hK : va_K D vwCl (tysK kc) s := hK.1
  generalize hFe : fX6_fault q = F
  have hF : F = fX6_fault q := hFe.symm
  have b34 : ∀ (q : SS) (s0 : Int32), kX6_fault_34 q s0 → F = fX6_fault_34 q s0 → Z p l e (zr 3 0 0) s m args below meth c 0 0 (MQ below (va_Qv (fun (_ : Unit) => True) (fun _ t => (GX D kc ad wad) A F t.heap) A) args s 0 0 A) 1 A (ZG D vwCl (wX kc ad wad) (PLX wad) A) q 34 [(0, .ref (ad 4))] [.int s0, .ref (ad 4)] := by
    intro q s0 hok hF
    refine z_put (v := .int s0) (q' := (sI q 513 s0)) S hK inX6 tyX6 tyX6_ok nmX6 4 (fun _ => rfl) rfl 13 (by decide) q2_58 rfl rfl rfl rfl (Nat.le_of_ble_eq_true rfl) dX6_fault_34 (wXp513 kc ad wad _ _) (fun _ h => h) ?_
    refine z_aload_n (j := 0) hx hb dX6_fault_37 rfl rfl ?_
    have h38 := And.left hok
    have hok := And.right hok
    refine z_callVv (As := []) S (ctX6_takeBack l hl D kc ad wad (sI q 513 s0) h38) (cwV 0 S.2.2.2.2 (gV q5_29 q2_172 q2_173 q1_6 q2_174) rfl rfl rfl hX6_takeBack ⟨Nat.le_of_ble_eq_true rfl, Nat.le_of_ble_eq_true rfl⟩) hA (pbX D kc) (psX hK hE) (z_recv hK 4 (fun _ => rfl) rfl) rfl rfl (Nat.le_of_ble_eq_true rfl) dX6_fault_38 ⟨Nat.le_of_ble_eq_true rfl, Nat.le_of_ble_eq_true rfl⟩ ?_
    exact z_vret hx hb hlocks hr hF dX6_fault_41
  refine z_aload_n (j := 0) hx hb dX6_fault_0 rfl rfl ?_
  refine z_get (v := .ref (ad 3)) S hK inX6 4 (fun _ => rfl) rfl 2 (by decide) q2_42 rfl rfl dX6_fault_1 ?_
  refine z_dup hx hb dX6_fault_4 rfl ?_
  refine z_get (v := .int (gI q 405)) S hK inX1 3 (fun _ => rfl) rfl 5 (by decide) q1_115 rfl rfl dX6_fault_5 ?_
  refine z_iconst (v := 1) hx hb dX6_fault_8 (by decide) ?_
  refine z_iadd hx hb dX6_fault_9 ?_
  refine z_put (v := .int ((gI q 405) + 1)) (q' := (sI q 405 ((gI q 405) + 1))) S hK inX1 tyX1 tyX1_ok nmX1 3 (fun _ => rfl) rfl 5 (by decide) q1_115 rfl rfl rfl rfl (Nat.le_of_ble_eq_true rfl) dX6_fault_10 (wXp405 kc ad wad _ _) (fun _ h => h) ?_
  refine z_aload_n (j := 0) hx hb dX6_fault_13 rfl rfl ?_
  refine z_bipush (v := 119) hx hb dX6_fault_14 (by decide) ?_
  refine z_put (v := .int 119) (q' := (sI (sI q 405 ((gI q 405) + 1)) 512 119)) S hK inX6 tyX6 tyX6_ok nmX6 4 (fun _ => rfl) rfl 12 (by decide) q2_56 rfl rfl rfl rfl (Nat.le_of_ble_eq_true rfl) dX6_fault_16 (wXp512 kc ad wad _ _) (fun _ h => h) ?_
  refine z_aload_n (j := 0) hx hb dX6_fault_19 rfl rfl ?_
  refine z_aload_n (j := 0) hx hb dX6_fault_20 rfl rfl ?_
  refine z_get (v := .ref (ad 2)) S hK inX6 4 (fun _ => rfl) rfl 1 (by decide) q2_41 rfl rfl dX6_fault_21 ?_
  refine z_aload_n (j := 0) hx hb dX6_fault_24 rfl rfl ?_
  refine z_get (v := .ref (ad 8)) S hK inX6 4 (fun _ => rfl) rfl 5 (by decide) q2_46 rfl rfl dX6_fault_25 ?_
  refine z_get (v := .int (gI q 902)) S hK inX3 8 (fun _ => rfl) rfl 2 (by decide) q1_205 rfl rfl dX6_fault_28 ?_
  have h31 := And.left hok
  have hok := And.right hok
  refine z_callVi (As := [.int (gI q 902)]) S (ctX5_pageOf l hl D kc ad wad (sI (sI q 405 ((gI q 405) + 1)) 512 119) (gI q 902) h31) (cwV 1 S.2.2.2.2 (gV q5_79 q5_72 q5_73 q1_4 q5_74) rfl rfl rfl hX5_pageOf ⟨Nat.le_of_ble_eq_true rfl, Nat.le_of_ble_eq_true rfl⟩) hA (pbX D kc) (psX hK hE) (z_recv hK 2 (fun _ => rfl) rfl) rfl rfl (Nat.le_of_ble_eq_true rfl) dX6_fault_31 ⟨Nat.le_of_ble_eq_true rfl, Nat.le_of_ble_eq_true rfl⟩ ?_
  exact b34 (fX5_pageOf (sI (sI q 405 ((gI q 405) + 1)) 512 119) (gI q 902)).2 (fX5_pageOf (sI (sI q 405 ((gI q 405) + 1)) 512 119) (gI q 902)).1 hok hF
theorem hX6_fault : yX6_fault.cls = RX6 ∧ yX6_fault.cls ≠ "java/lang/invoke/MethodHandle" ∧ yX6_fault.cls ≠ "java/lang/invoke/VarHandle" ∧ (parseMethodDescriptor yX6_fault.desc).map (fun d => d.parameters.length) = some 0 := by decide +kernel
def fX6_takeInterrupt_18 (q : SS) : SS := q
def kX6_takeInterrupt_18 (q : SS) : Prop := True
def fX6_takeInterrupt_71 (q : SS) : SS := (sI (sI q 514 0) 406 ((gI q 406) + 1))
def kX6_takeInterrupt_71 (q : SS) : Prop := True
def fX6_takeInterrupt (q : SS) : SS := (if (gI q 514) = 0 then fX6_takeInterrupt_18 q else (if (gI q 706) = 1 then fX6_takeInterrupt_71 (fX8_copyFrom_keptv_now (sI (sI (sI (sI q 702 (gI q 701)) 701 (gI q 515)) 705 0) 706 0)) else fX6_takeInterrupt_18 q))
def kX6_takeInterrupt (q : SS) : Prop := (((gI q 514) = 0 → kX6_takeInterrupt_18 q) ∧ (¬ (gI q 514) = 0 → (((gI q 706) = 1 → kX8_copyFrom_keptv_now (sI (sI (sI (sI q 702 (gI q 701)) 701 (gI q 515)) 705 0) 706 0) ∧ kX6_takeInterrupt_71 (fX8_copyFrom_keptv_now (sI (sI (sI (sI q 702 (gI q 701)) 701 (gI q 515)) 705 0) 706 0))) ∧ (¬ (gI q 706) = 1 → kX6_takeInterrupt_18 q))))
set_option maxHeartbeats 4000000 in
set_option maxRecDepth 100000 in
theorem ctX6_takeInterrupt (l : Launch) (hl : l.stackTraces = false) (D : va_G) (kc : Nat → ClassId) (ad wad : Nat → Nat) (q : SS) (hok : kX6_takeInterrupt q) : Cv l yX6_takeInterrupt (Cond.code yX6_takeInterrupt cX6_takeInterrupt 1 none :: lw_G) (zr 1 0 0) 0 0 (PX D kc) (GX D kc ad wad) (GX D kc ad wad) [.ref (ad 4)] q (fX6_takeInterrupt q) := by
  refine Cv.of (cc := cX6_takeInterrupt) (maxL := 1) (ret := none) (by decide) rfl (Nat.le_of_ble_eq_true rfl) ?_
  intro p e s m args below meth c A S hr hlocks hin hA hK
  have hx := S.1
  have hb := S.2.1
  have hE : EV A s s.heap := hK.2
  have hK : va_K D vwCl (tysK kc) s := hK.1
  generalize hFe : fX6_takeInterrupt q = F
  have hF : F = fX6_takeInterrupt q := hFe.symm
  have b18 : ∀ (q : SS), kX6_takeInterrupt_18 q → F = fX6_takeInterrupt_18 q → Z p l e (zr 1 0 0) s m args below meth c 0 0 (MQ below (va_Qv (fun (_ : Unit) => True) (fun _ t => (GX D kc ad wad) A F t.heap) A) args s 0 0 A) 1 A (ZG D vwCl (wX kc ad wad) (PLX wad) A) q 18 [] [] := by
    intro q hok hF
    exact z_vret hx hb hlocks hr hF dX6_takeInterrupt_18
  have b71 : ∀ (q : SS), kX6_takeInterrupt_71 q → F = fX6_takeInterrupt_71 q → Z p l e (zr 1 0 0) s m args below meth c 0 0 (MQ below (va_Qv (fun (_ : Unit) => True) (fun _ t => (GX D kc ad wad) A F t.heap) A) args s 0 0 A) 1 A (ZG D vwCl (wX kc ad wad) (PLX wad) A) q 71 [(0, .ref (ad 4))] [] := by
    intro q hok hF
    refine z_aload_n (j := 0) hx hb dX6_takeInterrupt_71 rfl rfl ?_
    refine z_iconst (v := 0) hx hb dX6_takeInterrupt_72 (by decide) ?_
    refine z_put (v := .int 0) (q' := (sI q 514 0)) S hK inX6 tyX6 tyX6_ok nmX6 4 (fun _ => rfl) rfl 14 (by decide) q2_59 rfl rfl rfl rfl (Nat.le_of_ble_eq_true rfl) dX6_takeInterrupt_73 (wXp514 kc ad wad _ _) (fun _ h => h) ?_
    refine z_aload_n (j := 0) hx hb dX6_takeInterrupt_76 rfl rfl ?_
    refine z_get (v := .ref (ad 3)) S hK inX6 4 (fun _ => rfl) rfl 2 (by decide) q2_42 rfl rfl dX6_takeInterrupt_77 ?_
    refine z_dup hx hb dX6_takeInterrupt_80 rfl ?_
    refine z_get (v := .int (gI q 406)) S hK inX1 3 (fun _ => rfl) rfl 6 (by decide) q1_117 rfl rfl dX6_takeInterrupt_81 ?_
    refine z_iconst (v := 1) hx hb dX6_takeInterrupt_84 (by decide) ?_
    refine z_iadd hx hb dX6_takeInterrupt_85 ?_
    refine z_put (v := .int ((gI q 406) + 1)) (q' := (sI (sI q 514 0) 406 ((gI q 406) + 1))) S hK inX1 tyX1 tyX1_ok nmX1 3 (fun _ => rfl) rfl 6 (by decide) q1_117 rfl rfl rfl rfl (Nat.le_of_ble_eq_true rfl) dX6_takeInterrupt_86 (wXp406 kc ad wad _ _) (fun _ h => h) ?_
    exact z_vret hx hb hlocks hr hF dX6_takeInterrupt_89
  refine z_aload_n (j := 0) hx hb dX6_takeInterrupt_0 rfl rfl ?_
  refine z_get (v := .int (gI q 514)) S hK inX6 4 (fun _ => rfl) rfl 14 (by decide) q2_59 rfl rfl dX6_takeInterrupt_1 ?_
  refine z_if_eq (tgt := 18) hx hb dX6_takeInterrupt_4 (by decide) (fun g4 => ?_) (fun g4 => ?_)
  · have hF := hF.trans (if_pos g4)
    have hok := And.left hok g4
    refine z_sub [] rfl ?_
    exact b18 q hok hF
  · have hF := hF.trans (if_neg g4)
    have hok := And.right hok g4
    refine z_aload_n (j := 0) hx hb dX6_takeInterrupt_7 rfl rfl ?_
    refine z_get (v := .ref (ad 6)) S hK inX6 4 (fun _ => rfl) rfl 3 (by decide) q2_43 rfl rfl dX6_takeInterrupt_8 ?_
    refine z_get (v := .int (gI q 706)) S hK inX8 6 (fun _ => rfl) rfl 6 (by decide) q1_180 rfl rfl dX6_takeInterrupt_11 ?_
    refine z_iconst (v := 1) hx hb dX6_takeInterrupt_14 (by decide) ?_
    refine z_icmp_eq (tgt := 19) hx hb dX6_takeInterrupt_15 (by decide) (fun g15 => ?_) (fun g15 => ?_)
    · have hF := hF.trans (if_pos g15)
      have hok := And.left hok g15
      refine z_aload_n (j := 0) hx hb dX6_takeInterrupt_19 rfl rfl ?_
      refine z_get (v := .ref (ad 6)) S hK inX6 4 (fun _ => rfl) rfl 3 (by decide) q2_43 rfl rfl dX6_takeInterrupt_20 ?_
      refine z_aload_n (j := 0) hx hb dX6_takeInterrupt_23 rfl rfl ?_
      refine z_get (v := .ref (ad 6)) S hK inX6 4 (fun _ => rfl) rfl 3 (by decide) q2_43 rfl rfl dX6_takeInterrupt_24 ?_
      refine z_get (v := .int (gI q 701)) S hK inX8 6 (fun _ => rfl) rfl 1 (by decide) q1_165 rfl rfl dX6_takeInterrupt_27 ?_
      refine z_put (v := .int (gI q 701)) (q' := (sI q 702 (gI q 701))) S hK inX8 tyX8 tyX8_ok nmX8 6 (fun _ => rfl) rfl 2 (by decide) q1_169 rfl rfl rfl rfl (Nat.le_of_ble_eq_true rfl) dX6_takeInterrupt_30 (wXp702 kc ad wad _ _) (fun _ h => h) ?_
      refine z_aload_n (j := 0) hx hb dX6_takeInterrupt_33 rfl rfl ?_
      refine z_get (v := .ref (ad 6)) S hK inX6 4 (fun _ => rfl) rfl 3 (by decide) q2_43 rfl rfl dX6_takeInterrupt_34 ?_
      refine z_aload_n (j := 0) hx hb dX6_takeInterrupt_37 rfl rfl ?_
      refine z_get (v := .int (gI q 515)) S hK inX6 4 (fun _ => rfl) rfl 15 (by decide) q2_61 rfl rfl dX6_takeInterrupt_38 ?_
      refine z_put (v := .int (gI q 515)) (q' := (sI (sI q 702 (gI q 701)) 701 (gI q 515))) S hK inX8 tyX8 tyX8_ok nmX8 6 (fun _ => rfl) rfl 1 (by decide) q1_165 rfl rfl rfl rfl (Nat.le_of_ble_eq_true rfl) dX6_takeInterrupt_41 (wXp701 kc ad wad _ _) (fun _ h => h) ?_
      refine z_aload_n (j := 0) hx hb dX6_takeInterrupt_44 rfl rfl ?_
      refine z_get (v := .ref (ad 6)) S hK inX6 4 (fun _ => rfl) rfl 3 (by decide) q2_43 rfl rfl dX6_takeInterrupt_45 ?_
      refine z_iconst (v := 0) hx hb dX6_takeInterrupt_48 (by decide) ?_
      refine z_put (v := .int 0) (q' := (sI (sI (sI q 702 (gI q 701)) 701 (gI q 515)) 705 0)) S hK inX8 tyX8 tyX8_ok nmX8 6 (fun _ => rfl) rfl 5 (by decide) q1_178 rfl rfl rfl rfl (Nat.le_of_ble_eq_true rfl) dX6_takeInterrupt_49 (wXp705 kc ad wad _ _) (fun _ h => h) ?_
      refine z_aload_n (j := 0) hx hb dX6_takeInterrupt_52 rfl rfl ?_
      refine z_get (v := .ref (ad 6)) S hK inX6 4 (fun _ => rfl) rfl 3 (by decide) q2_43 rfl rfl dX6_takeInterrupt_53 ?_
      refine z_iconst (v := 0) hx hb dX6_takeInterrupt_56 (by decide) ?_
      refine z_put (v := .int 0) (q' := (sI (sI (sI (sI q 702 (gI q 701)) 701 (gI q 515)) 705 0) 706 0)) S hK inX8 tyX8 tyX8_ok nmX8 6 (fun _ => rfl) rfl 6 (by decide) q1_180 rfl rfl rfl rfl (Nat.le_of_ble_eq_true rfl) dX6_takeInterrupt_57 (wXp706 kc ad wad _ _) (fun _ h => h) ?_
      refine z_aload_n (j := 0) hx hb dX6_takeInterrupt_60 rfl rfl ?_
      refine z_get (v := .ref (ad 7)) S hK inX6 4 (fun _ => rfl) rfl 4 (by decide) q2_45 rfl rfl dX6_takeInterrupt_61 ?_
      refine z_aload_n (j := 0) hx hb dX6_takeInterrupt_64 rfl rfl ?_
      refine z_get (v := .ref (ad 6)) S hK inX6 4 (fun _ => rfl) rfl 3 (by decide) q2_43 rfl rfl dX6_takeInterrupt_65 ?_
      have h68 := And.left hok
      have hok := And.right hok
      refine z_callVv (As := [.ref (ad 6)]) S (ctX8_copyFrom_keptv_now l hl D kc ad wad (sI (sI (sI (sI q 702 (gI q 701)) 701 (gI q 515)) 705 0) 706 0) h68) (cwV 1 S.2.2.2.2 (gV q2_175 q2_176 q2_177 q1_7 q2_178) rfl rfl rfl hX8_copyFrom ⟨Nat.le_of_ble_eq_true rfl, Nat.le_of_ble_eq_true rfl⟩) hA (pbX D kc) (psX hK hE) (z_recv hK 7 (fun _ => rfl) rfl) rfl rfl (Nat.le_of_ble_eq_true rfl) dX6_takeInterrupt_68 ⟨Nat.le_of_ble_eq_true rfl, Nat.le_of_ble_eq_true rfl⟩ ?_
      exact b71 (fX8_copyFrom_keptv_now (sI (sI (sI (sI q 702 (gI q 701)) 701 (gI q 515)) 705 0) 706 0)) hok hF
    · have hF := hF.trans (if_neg g15)
      have hok := And.right hok g15
      refine z_sub [] rfl ?_
      exact b18 q hok hF
theorem hX6_takeInterrupt : yX6_takeInterrupt.cls = RX6 ∧ yX6_takeInterrupt.cls ≠ "java/lang/invoke/MethodHandle" ∧ yX6_takeInterrupt.cls ≠ "java/lang/invoke/VarHandle" ∧ (parseMethodDescriptor yX6_takeInterrupt.desc).map (fun d => d.parameters.length) = some 0 := by decide +kernel
def fX6_changeAtEnd_93 (q : SS) : SS := q
def kX6_changeAtEnd_93 (q : SS) : Prop := True
def fX6_changeAtEnd (q : SS) (v1 : Int32) (v2 : Int32) : SS := (if v1 = 103 then fX6_changeAtEnd_93 (sI q 706 (v2 &&& 1)) else (if v1 = 107 then fX6_changeAtEnd_93 (sI (sI q 701 (gI q 702)) 706 1) else (if v1 = 115 then fX6_changeAtEnd_93 (sI q 705 (1 - (gI q 705))) else fX6_changeAtEnd_93 q)))
def kX6_changeAtEnd (q : SS) (v1 : Int32) (v2 : Int32) : Prop := ((v1 = 103 → kX6_changeAtEnd_93 (sI q 706 (v2 &&& 1))) ∧ (¬ v1 = 103 → ((v1 = 107 → kX6_changeAtEnd_93 (sI (sI q 701 (gI q 702)) 706 1)) ∧ (¬ v1 = 107 → ((v1 = 115 → kX6_changeAtEnd_93 (sI q 705 (1 - (gI q 705)))) ∧ (¬ v1 = 115 → kX6_changeAtEnd_93 q))))))
set_option maxHeartbeats 4000000 in
set_option maxRecDepth 100000 in
theorem ctX6_changeAtEnd (l : Launch) (hl : l.stackTraces = false) (D : va_G) (kc : Nat → ClassId) (ad wad : Nat → Nat) (q : SS) (v1 : Int32) (v2 : Int32) (hok : kX6_changeAtEnd q v1 v2) : Cv l yX6_changeAtEnd (Cond.code yX6_changeAtEnd cX6_changeAtEnd 3 none :: lw_G) (zr 0 0 0) 0 0 (PX D kc) (GX D kc ad wad) (GX D kc ad wad) [.ref (ad 4), .int v1, .int v2] q (fX6_changeAtEnd q v1 v2) := by
  refine Cv.of (cc := cX6_changeAtEnd) (maxL := 3) (ret := none) (by decide) rfl (Nat.le_of_ble_eq_true rfl) ?_
  intro p e s m args below meth c A S hr hlocks hin hA hK
  have hx := S.1
  have hb := S.2.1
  have hE : EV A s s.heap := hK.2
  have hK : va_K D vwCl (tysK kc) s := hK.1
  generalize hFe : fX6_changeAtEnd q v1 v2 = F
  have hF : F = fX6_changeAtEnd q v1 v2 := hFe.symm
  have b93 : ∀ (q : SS), kX6_changeAtEnd_93 q → F = fX6_changeAtEnd_93 q → Z p l e (zr 0 0 0) s m args below meth c 0 0 (MQ below (va_Qv (fun (_ : Unit) => True) (fun _ t => (GX D kc ad wad) A F t.heap) A) args s 0 0 A) 3 A (ZG D vwCl (wX kc ad wad) (PLX wad) A) q 93 [] [] := by
    intro q hok hF
    exact z_vret hx hb hlocks hr hF dX6_changeAtEnd_93
  refine z_iload_n (j := 1) hx hb dX6_changeAtEnd_0 rfl rfl ?_
  by_cases g1_103 : v1 = 103
  · have hF := hF.trans (if_pos g1_103)
    have hok := And.left hok g1_103
    refine z_lookup (tgt := 80) hx hb dX6_changeAtEnd_1 (by decide) (by rw [g1_103]) (by decide) ?_
    refine z_aload_n (j := 0) hx hb dX6_changeAtEnd_80 rfl rfl ?_
    refine z_get (v := .ref (ad 6)) S hK inX6 4 (fun _ => rfl) rfl 3 (by decide) q2_43 rfl rfl dX6_changeAtEnd_81 ?_
    refine z_iload_n (j := 2) hx hb dX6_changeAtEnd_84 rfl rfl ?_
    refine z_iconst (v := 1) hx hb dX6_changeAtEnd_85 (by decide) ?_
    refine z_iand hx hb dX6_changeAtEnd_86 ?_
    refine z_put (v := .int (v2 &&& 1)) (q' := (sI q 706 (v2 &&& 1))) S hK inX8 tyX8 tyX8_ok nmX8 6 (fun _ => rfl) rfl 6 (by decide) q1_180 rfl rfl rfl rfl (Nat.le_of_ble_eq_true rfl) dX6_changeAtEnd_87 (wXp706 kc ad wad _ _) (fun _ h => h) ?_
    refine z_goto (tgt := 93) hx hb dX6_changeAtEnd_90 (by decide) ?_
    refine z_sub [] rfl ?_
    exact b93 (sI q 706 (v2 &&& 1)) hok hF
  have hF := hF.trans (if_neg g1_103)
  have hok := And.right hok g1_103
  by_cases g1_107 : v1 = 107
  · have hF := hF.trans (if_pos g1_107)
    have hok := And.left hok g1_107
    refine z_lookup (tgt := 55) hx hb dX6_changeAtEnd_1 (by decide) (by rw [g1_107]) (by decide) ?_
    refine z_aload_n (j := 0) hx hb dX6_changeAtEnd_55 rfl rfl ?_
    refine z_get (v := .ref (ad 6)) S hK inX6 4 (fun _ => rfl) rfl 3 (by decide) q2_43 rfl rfl dX6_changeAtEnd_56 ?_
    refine z_aload_n (j := 0) hx hb dX6_changeAtEnd_59 rfl rfl ?_
    refine z_get (v := .ref (ad 6)) S hK inX6 4 (fun _ => rfl) rfl 3 (by decide) q2_43 rfl rfl dX6_changeAtEnd_60 ?_
    refine z_get (v := .int (gI q 702)) S hK inX8 6 (fun _ => rfl) rfl 2 (by decide) q1_169 rfl rfl dX6_changeAtEnd_63 ?_
    refine z_put (v := .int (gI q 702)) (q' := (sI q 701 (gI q 702))) S hK inX8 tyX8 tyX8_ok nmX8 6 (fun _ => rfl) rfl 1 (by decide) q1_165 rfl rfl rfl rfl (Nat.le_of_ble_eq_true rfl) dX6_changeAtEnd_66 (wXp701 kc ad wad _ _) (fun _ h => h) ?_
    refine z_aload_n (j := 0) hx hb dX6_changeAtEnd_69 rfl rfl ?_
    refine z_get (v := .ref (ad 6)) S hK inX6 4 (fun _ => rfl) rfl 3 (by decide) q2_43 rfl rfl dX6_changeAtEnd_70 ?_
    refine z_iconst (v := 1) hx hb dX6_changeAtEnd_73 (by decide) ?_
    refine z_put (v := .int 1) (q' := (sI (sI q 701 (gI q 702)) 706 1)) S hK inX8 tyX8 tyX8_ok nmX8 6 (fun _ => rfl) rfl 6 (by decide) q1_180 rfl rfl rfl rfl (Nat.le_of_ble_eq_true rfl) dX6_changeAtEnd_74 (wXp706 kc ad wad _ _) (fun _ h => h) ?_
    refine z_goto (tgt := 93) hx hb dX6_changeAtEnd_77 (by decide) ?_
    refine z_sub [] rfl ?_
    exact b93 (sI (sI q 701 (gI q 702)) 706 1) hok hF
  have hF := hF.trans (if_neg g1_107)
  have hok := And.right hok g1_107
  by_cases g1_115 : v1 = 115
  · have hF := hF.trans (if_pos g1_115)
    have hok := And.left hok g1_115
    refine z_lookup (tgt := 36) hx hb dX6_changeAtEnd_1 (by decide) (by rw [g1_115]) (by decide) ?_
    refine z_aload_n (j := 0) hx hb dX6_changeAtEnd_36 rfl rfl ?_
    refine z_get (v := .ref (ad 6)) S hK inX6 4 (fun _ => rfl) rfl 3 (by decide) q2_43 rfl rfl dX6_changeAtEnd_37 ?_
    refine z_iconst (v := 1) hx hb dX6_changeAtEnd_40 (by decide) ?_
    refine z_aload_n (j := 0) hx hb dX6_changeAtEnd_41 rfl rfl ?_
    refine z_get (v := .ref (ad 6)) S hK inX6 4 (fun _ => rfl) rfl 3 (by decide) q2_43 rfl rfl dX6_changeAtEnd_42 ?_
    refine z_get (v := .int (gI q 705)) S hK inX8 6 (fun _ => rfl) rfl 5 (by decide) q1_178 rfl rfl dX6_changeAtEnd_45 ?_
    refine z_isub hx hb dX6_changeAtEnd_48 ?_
    refine z_put (v := .int (1 - (gI q 705))) (q' := (sI q 705 (1 - (gI q 705)))) S hK inX8 tyX8 tyX8_ok nmX8 6 (fun _ => rfl) rfl 5 (by decide) q1_178 rfl rfl rfl rfl (Nat.le_of_ble_eq_true rfl) dX6_changeAtEnd_49 (wXp705 kc ad wad _ _) (fun _ h => h) ?_
    refine z_goto (tgt := 93) hx hb dX6_changeAtEnd_52 (by decide) ?_
    refine z_sub [] rfl ?_
    exact b93 (sI q 705 (1 - (gI q 705))) hok hF
  have hF := hF.trans (if_neg g1_115)
  have hok := And.right hok g1_115
  refine z_lookup (off := 92) (tgt := 93) hx hb dX6_changeAtEnd_1 (by decide) ((lv_osw g1_103 (by decide)).trans ((lv_osw g1_107 (by decide)).trans ((lv_osw g1_115 (by decide)).trans (rfl)))) (by decide) ?_
  refine z_sub [] rfl ?_
  exact b93 q hok hF
theorem hX6_changeAtEnd : yX6_changeAtEnd.cls = RX6 ∧ yX6_changeAtEnd.cls ≠ "java/lang/invoke/MethodHandle" ∧ yX6_changeAtEnd.cls ≠ "java/lang/invoke/VarHandle" ∧ (parseMethodDescriptor yX6_changeAtEnd.desc).map (fun d => d.parameters.length) = some 2 := by decide +kernel
def fX6_define_42 (q : SS) : SS := q
def kX6_define_42 (q : SS) : Prop := True
def fX6_define_18 (q : SS) : SS := (if (gI q 1101) = 0 then fX6_define_42 q else fX6_define_42 (fX2_carryOut q))
def kX6_define_18 (q : SS) : Prop := (((gI q 1101) = 0 → kX6_define_42 q) ∧ (¬ (gI q 1101) = 0 → kX2_carryOut q ∧ kX6_define_42 (fX2_carryOut q)))
def fX6_define (q : SS) : SS := fX6_define_18 (fX2_decode q)
def kX6_define (q : SS) : Prop := kX2_decode q ∧ kX6_define_18 (fX2_decode q)
set_option maxHeartbeats 4000000 in
set_option maxRecDepth 100000 in
theorem ctX6_define (l : Launch) (hl : l.stackTraces = false) (D : va_G) (kc : Nat → ClassId) (ad wad : Nat → Nat) (q : SS) (hok : kX6_define q) : Cq l yX6_define (Cond.code yX6_define cX6_define 1 (some (.object "MicrostoreWorks$Definition")) :: lw_G) (zr 3 0 0) 0 0 (PX D kc) (GX D kc ad wad) (GX D kc ad wad) [.ref (ad 4)] q ((some (ad 10), fX6_define q) : Option Nat × SS) := by
  refine Cq.of (cc := cX6_define) (maxL := 1) (ret := (some (.object "MicrostoreWorks$Definition"))) (by decide) rfl (Nat.le_of_ble_eq_true rfl) ?_
  intro p e s m args below meth c A S hr hlocks hin hA hK
  have hx := S.1
  have hb := S.2.1
  have hE : EV A s s.heap := hK.2
  have hK : va_K D vwCl (tysK kc) s := hK.1
  generalize hFe : fX6_define q = F
  have hF : F = fX6_define q := hFe.symm
  have b42 : ∀ (q : SS), kX6_define_42 q → F = fX6_define_42 q → Z p l e (zr 3 0 0) s m args below meth c 0 0 (MQ below (va_Qq (fun (x : Option Nat) (_ : Unit) => x = ((some (ad 10), F) : Option Nat × SS).1) (fun _ t => (GX D kc ad wad) A ((some (ad 10), F) : Option Nat × SS).2 t.heap) A) args s 0 0 A) 1 A (ZG D vwCl (wX kc ad wad) (PLX wad) A) q 42 [(0, .ref (ad 4))] [] := by
    intro q hok hF
    refine z_aload_n (j := 0) hx hb dX6_define_42 rfl rfl ?_
    refine z_get (v := .ref (ad 10)) S hK inX6 4 (fun _ => rfl) rfl 7 (by decide) q2_48 rfl rfl dX6_define_43 ?_
    exact z_qret (v := some (ad 10)) (F := (some (ad 10), F)) hx hb hlocks hr (congrArg (Prod.mk _) hF) dX6_define_46
  have b18 : ∀ (q : SS), kX6_define_18 q → F = fX6_define_18 q → Z p l e (zr 3 0 0) s m args below meth c 0 0 (MQ below (va_Qq (fun (x : Option Nat) (_ : Unit) => x = ((some (ad 10), F) : Option Nat × SS).1) (fun _ t => (GX D kc ad wad) A ((some (ad 10), F) : Option Nat × SS).2 t.heap) A) args s 0 0 A) 1 A (ZG D vwCl (wX kc ad wad) (PLX wad) A) q 18 [(0, .ref (ad 4))] [] := by
    intro q hok hF
    refine z_aload_n (j := 0) hx hb dX6_define_18 rfl rfl ?_
    refine z_get (v := .ref (ad 10)) S hK inX6 4 (fun _ => rfl) rfl 7 (by decide) q2_48 rfl rfl dX6_define_19 ?_
    refine z_get (v := .int (gI q 1101)) S hK inX2 10 (fun _ => rfl) rfl 1 (by decide) q2_16 rfl rfl dX6_define_22 ?_
    refine z_if_eq (tgt := 42) hx hb dX6_define_25 (by decide) (fun g25 => ?_) (fun g25 => ?_)
    · have hF := hF.trans (if_pos g25)
      have hok := And.left hok g25
      exact b42 q hok hF
    · have hF := hF.trans (if_neg g25)
      have hok := And.right hok g25
      refine z_aload_n (j := 0) hx hb dX6_define_28 rfl rfl ?_
      refine z_get (v := .ref (ad 10)) S hK inX6 4 (fun _ => rfl) rfl 7 (by decide) q2_48 rfl rfl dX6_define_29 ?_
      refine z_aload_n (j := 0) hx hb dX6_define_32 rfl rfl ?_
      refine z_get (v := .ref (ad 2)) S hK inX6 4 (fun _ => rfl) rfl 1 (by decide) q2_41 rfl rfl dX6_define_33 ?_
      refine z_get (v := .ref (ad 17)) S hK inX5 2 (fun _ => rfl) rfl 1 (by decide) q1_81 rfl rfl dX6_define_36 ?_
      have h39 := And.left hok
      have hok := And.right hok
      refine z_callVv (As := [.ref (ad 17)]) S (ctX2_carryOut l hl D kc ad wad q h39) (cwV 1 S.2.2.2.2 (gV q5_135 q5_136 q5_137 q1_10 q5_138) rfl rfl rfl hX2_carryOut ⟨Nat.le_of_ble_eq_true rfl, Nat.le_of_ble_eq_true rfl⟩) hA (pbX D kc) (psX hK hE) (z_recv hK 10 (fun _ => rfl) rfl) rfl rfl (Nat.le_of_ble_eq_true rfl) dX6_define_39 ⟨Nat.le_of_ble_eq_true rfl, Nat.le_of_ble_eq_true rfl⟩ ?_
      exact b42 (fX2_carryOut q) hok hF
  refine z_aload_n (j := 0) hx hb dX6_define_0 rfl rfl ?_
  refine z_get (v := .ref (ad 10)) S hK inX6 4 (fun _ => rfl) rfl 7 (by decide) q2_48 rfl rfl dX6_define_1 ?_
  refine z_aload_n (j := 0) hx hb dX6_define_4 rfl rfl ?_
  refine z_get (v := .ref (ad 7)) S hK inX6 4 (fun _ => rfl) rfl 4 (by decide) q2_45 rfl rfl dX6_define_5 ?_
  refine z_aload_n (j := 0) hx hb dX6_define_8 rfl rfl ?_
  refine z_get (v := .ref (ad 2)) S hK inX6 4 (fun _ => rfl) rfl 1 (by decide) q2_41 rfl rfl dX6_define_9 ?_
  refine z_get (v := .ref (ad 17)) S hK inX5 2 (fun _ => rfl) rfl 1 (by decide) q1_81 rfl rfl dX6_define_12 ?_
  have h15 := And.left hok
  have hok := And.right hok
  refine z_callVv (As := [.ref (ad 7), .ref (ad 17)]) S (ctX2_decode l hl D kc ad wad q h15) (cwV 2 S.2.2.2.2 (gV q5_126 q5_127 q5_128 q1_10 q5_129) rfl rfl rfl hX2_decode ⟨Nat.le_of_ble_eq_true rfl, Nat.le_of_ble_eq_true rfl⟩) hA (pbX D kc) (psX hK hE) (z_recv hK 10 (fun _ => rfl) rfl) rfl rfl (Nat.le_of_ble_eq_true rfl) dX6_define_15 ⟨Nat.le_of_ble_eq_true rfl, Nat.le_of_ble_eq_true rfl⟩ ?_
  exact b18 (fX2_decode q) hok hF
theorem hX6_define : yX6_define.cls = RX6 ∧ yX6_define.cls ≠ "java/lang/invoke/MethodHandle" ∧ yX6_define.cls ≠ "java/lang/invoke/VarHandle" ∧ (parseMethodDescriptor yX6_define.desc).map (fun d => d.parameters.length) = some 0 := by decide +kernel
def fX6_endInstruction_109 (q : SS) : SS := (fX6_takeInterrupt q)
def kX6_endInstruction_109 (q : SS) : Prop := kX6_takeInterrupt q ∧ True
def fX6_endInstruction_105 (q : SS) : SS := fX6_endInstruction_109 (fX6_begin q)
def kX6_endInstruction_105 (q : SS) : Prop := kX6_begin q ∧ kX6_endInstruction_109 (fX6_begin q)
def fX6_endInstruction_102 (q : SS) (s0 : Int32) (s1 : Int32) : SS := fX6_endInstruction_105 (fX1_countEnd q s1 s0)
def kX6_endInstruction_102 (q : SS) (s0 : Int32) (s1 : Int32) : Prop := kX1_countEnd q s1 s0 ∧ kX6_endInstruction_105 (fX1_countEnd q s1 s0)
def fX6_endInstruction_84 (q : SS) : SS := fX6_endInstruction_102 (fX3_operation q).2 (fX3_operation q).1 (gI q 805)
def kX6_endInstruction_84 (q : SS) : Prop := kX3_operation q ∧ kX6_endInstruction_102 (fX3_operation q).2 (fX3_operation q).1 (gI q 805)
def fX6_endInstruction_65 (q : SS) (s0 : Int32) : SS := (if s0 = 0 then fX6_endInstruction_84 (fX1_countWrong q (gI q 801)) else fX6_endInstruction_84 q)
def kX6_endInstruction_65 (q : SS) (s0 : Int32) : Prop := ((s0 = 0 → kX1_countWrong q (gI q 801) ∧ kX6_endInstruction_84 (fX1_countWrong q (gI q 801))) ∧ (¬ s0 = 0 → kX6_endInstruction_84 q))
def fX6_endInstruction_64 (q : SS) : SS := fX6_endInstruction_65 q 0
def kX6_endInstruction_64 (q : SS) : Prop := kX6_endInstruction_65 q 0
def fX6_endInstruction_57 (q : SS) (s0 : Int32) : SS := (if s0 = 0 then fX6_endInstruction_64 q else fX6_endInstruction_65 q 1)
def kX6_endInstruction_57 (q : SS) (s0 : Int32) : Prop := ((s0 = 0 → kX6_endInstruction_64 q) ∧ (¬ s0 = 0 → kX6_endInstruction_65 q 1))
def fX6_endInstruction_33 (q : SS) (s0 : Int32) : SS := (if s0 = 0 then fX6_endInstruction_64 q else fX6_endInstruction_57 (fX5_isKeptBut q (gI q 1105) (gI q 1106)).2 (fX5_isKeptBut q (gI q 1105) (gI q 1106)).1)
def kX6_endInstruction_33 (q : SS) (s0 : Int32) : Prop := ((s0 = 0 → kX6_endInstruction_64 q) ∧ (¬ s0 = 0 → kX5_isKeptBut q (gI q 1105) (gI q 1106) ∧ kX6_endInstruction_57 (fX5_isKeptBut q (gI q 1105) (gI q 1106)).2 (fX5_isKeptBut q (gI q 1105) (gI q 1106)).1))
def fX6_endInstruction_8 (q : SS) : SS := (if (gI q 1101) = 0 then fX6_endInstruction_64 q else fX6_endInstruction_33 (fX8_isAs_now_after q).2 (fX8_isAs_now_after q).1)
def kX6_endInstruction_8 (q : SS) : Prop := (((gI q 1101) = 0 → kX6_endInstruction_64 q) ∧ (¬ (gI q 1101) = 0 → kX8_isAs_now_after q ∧ kX6_endInstruction_33 (fX8_isAs_now_after q).2 (fX8_isAs_now_after q).1))
def fX6_endInstruction_4 (q : SS) : SS := fX6_endInstruction_8 (fX6_define q)
def kX6_endInstruction_4 (q : SS) : Prop := kX6_define q ∧ kX6_endInstruction_8 (fX6_define q)
def fX6_endInstruction (q : SS) : SS := fX6_endInstruction_4 (fX6_findFlags q)
def kX6_endInstruction (q : SS) : Prop := kX6_findFlags q ∧ kX6_endInstruction_4 (fX6_findFlags q)
set_option maxHeartbeats 4000000 in
set_option maxRecDepth 100000 in
theorem ctX6_endInstruction (l : Launch) (hl : l.stackTraces = false) (D : va_G) (kc : Nat → ClassId) (ad wad : Nat → Nat) (q : SS) (hok : kX6_endInstruction q) : Cv l yX6_endInstruction (Cond.code yX6_endInstruction cX6_endInstruction 2 none :: lw_G) (zr 4 0 0) 0 0 (PX D kc) (GX D kc ad wad) (GX D kc ad wad) [.ref (ad 4)] q (fX6_endInstruction q) := by
  refine Cv.of (cc := cX6_endInstruction) (maxL := 2) (ret := none) (by decide) rfl (Nat.le_of_ble_eq_true rfl) ?_
  intro p e s m args below meth c A S hr hlocks hin hA hK
  have hx := S.1
  have hb := S.2.1
  have hE : EV A s s.heap := hK.2
  have hK : va_K D vwCl (tysK kc) s := hK.1
  generalize hFe : fX6_endInstruction q = F
  have hF : F = fX6_endInstruction q := hFe.symm
  have b109 : ∀ (q : SS), kX6_endInstruction_109 q → F = fX6_endInstruction_109 q → Z p l e (zr 4 0 0) s m args below meth c 0 0 (MQ below (va_Qv (fun (_ : Unit) => True) (fun _ t => (GX D kc ad wad) A F t.heap) A) args s 0 0 A) 2 A (ZG D vwCl (wX kc ad wad) (PLX wad) A) q 109 [(0, .ref (ad 4))] [] := by
    intro q hok hF
    refine z_aload_n (j := 0) hx hb dX6_endInstruction_109 rfl rfl ?_
    have h110 := And.left hok
    have hok := And.right hok
    refine z_callVv (As := []) S (ctX6_takeInterrupt l hl D kc ad wad q h110) (cwV 0 S.2.2.2.2 (gV q5_167 q5_169 qp1_15 q1_6 q5_170) rfl rfl rfl hX6_takeInterrupt ⟨Nat.le_of_ble_eq_true rfl, Nat.le_of_ble_eq_true rfl⟩) hA (pbX D kc) (psX hK hE) (z_recv hK 4 (fun _ => rfl) rfl) rfl rfl (Nat.le_of_ble_eq_true rfl) dX6_endInstruction_110 ⟨Nat.le_of_ble_eq_true rfl, Nat.le_of_ble_eq_true rfl⟩ ?_
    exact z_vret hx hb hlocks hr hF dX6_endInstruction_113
  have b105 : ∀ (q : SS), kX6_endInstruction_105 q → F = fX6_endInstruction_105 q → Z p l e (zr 4 0 0) s m args below meth c 0 0 (MQ below (va_Qv (fun (_ : Unit) => True) (fun _ t => (GX D kc ad wad) A F t.heap) A) args s 0 0 A) 2 A (ZG D vwCl (wX kc ad wad) (PLX wad) A) q 105 [(0, .ref (ad 4))] [] := by
    intro q hok hF
    refine z_aload_n (j := 0) hx hb dX6_endInstruction_105 rfl rfl ?_
    have h106 := And.left hok
    have hok := And.right hok
    refine z_callVv (As := []) S (ctX6_begin l hl D kc ad wad q h106) (cwV 0 S.2.2.2.2 (gV q2_183 q2_185 qp1_0 q1_6 q2_186) rfl rfl rfl hX6_begin ⟨Nat.le_of_ble_eq_true rfl, Nat.le_of_ble_eq_true rfl⟩) hA (pbX D kc) (psX hK hE) (z_recv hK 4 (fun _ => rfl) rfl) rfl rfl (Nat.le_of_ble_eq_true rfl) dX6_endInstruction_106 ⟨Nat.le_of_ble_eq_true rfl, Nat.le_of_ble_eq_true rfl⟩ ?_
    exact b109 (fX6_begin q) hok hF
  have b102 : ∀ (q : SS) (s0 : Int32) (s1 : Int32), kX6_endInstruction_102 q s0 s1 → F = fX6_endInstruction_102 q s0 s1 → Z p l e (zr 4 0 0) s m args below meth c 0 0 (MQ below (va_Qv (fun (_ : Unit) => True) (fun _ t => (GX D kc ad wad) A F t.heap) A) args s 0 0 A) 2 A (ZG D vwCl (wX kc ad wad) (PLX wad) A) q 102 [(0, .ref (ad 4))] [.int s0, .int s1, .ref (ad 3)] := by
    intro q s0 s1 hok hF
    have h102 := And.left hok
    have hok := And.right hok
    refine z_callVv (As := [.int s1, .int s0]) S (ctX1_countEnd l hl D kc ad wad q s1 s0 h102) (cwV 2 S.2.2.2.2 (gV q5_163 q5_164 q5_165 q1_5 q5_166) rfl rfl rfl hX1_countEnd ⟨Nat.le_of_ble_eq_true rfl, Nat.le_of_ble_eq_true rfl⟩) hA (pbX D kc) (psX hK hE) (z_recv hK 3 (fun _ => rfl) rfl) rfl rfl (Nat.le_of_ble_eq_true rfl) dX6_endInstruction_102 ⟨Nat.le_of_ble_eq_true rfl, Nat.le_of_ble_eq_true rfl⟩ ?_
    exact b105 (fX1_countEnd q s1 s0) hok hF
  have b84 : ∀ (q : SS), kX6_endInstruction_84 q → F = fX6_endInstruction_84 q → Z p l e (zr 4 0 0) s m args below meth c 0 0 (MQ below (va_Qv (fun (_ : Unit) => True) (fun _ t => (GX D kc ad wad) A F t.heap) A) args s 0 0 A) 2 A (ZG D vwCl (wX kc ad wad) (PLX wad) A) q 84 [(0, .ref (ad 4))] [] := by
    intro q hok hF
    refine z_aload_n (j := 0) hx hb dX6_endInstruction_84 rfl rfl ?_
    refine z_get (v := .ref (ad 3)) S hK inX6 4 (fun _ => rfl) rfl 2 (by decide) q2_42 rfl rfl dX6_endInstruction_85 ?_
    refine z_aload_n (j := 0) hx hb dX6_endInstruction_88 rfl rfl ?_
    refine z_get (v := .ref (ad 7)) S hK inX6 4 (fun _ => rfl) rfl 4 (by decide) q2_45 rfl rfl dX6_endInstruction_89 ?_
    refine z_get (v := .int (gI q 805)) S hK inX8 7 (fun _ => rfl) rfl 5 (by decide) q1_178 rfl rfl dX6_endInstruction_92 ?_
    refine z_aload_n (j := 0) hx hb dX6_endInstruction_95 rfl rfl ?_
    refine z_get (v := .ref (ad 8)) S hK inX6 4 (fun _ => rfl) rfl 5 (by decide) q2_46 rfl rfl dX6_endInstruction_96 ?_
    have h99 := And.left hok
    have hok := And.right hok
    refine z_callVi (As := []) S (ctX3_operation l hl D kc ad wad q h99) (cwV 0 S.2.2.2.2 (gV q5_159 q5_160 q5_161 q1_8 q5_162) rfl rfl rfl hX3_operation ⟨Nat.le_of_ble_eq_true rfl, Nat.le_of_ble_eq_true rfl⟩) hA (pbX D kc) (psX hK hE) (z_recv hK 8 (fun _ => rfl) rfl) rfl rfl (Nat.le_of_ble_eq_true rfl) dX6_endInstruction_99 ⟨Nat.le_of_ble_eq_true rfl, Nat.le_of_ble_eq_true rfl⟩ ?_
    exact b102 (fX3_operation q).2 (fX3_operation q).1 (gI q 805) hok hF
  have b65 : ∀ (q : SS) (s0 : Int32), kX6_endInstruction_65 q s0 → F = fX6_endInstruction_65 q s0 → Z p l e (zr 4 0 0) s m args below meth c 0 0 (MQ below (va_Qv (fun (_ : Unit) => True) (fun _ t => (GX D kc ad wad) A F t.heap) A) args s 0 0 A) 2 A (ZG D vwCl (wX kc ad wad) (PLX wad) A) q 65 [(0, .ref (ad 4))] [.int s0] := by
    intro q s0 hok hF
    refine z_istore_n (lv' := [(1, .int s0), (0, .ref (ad 4))]) hx hb dX6_endInstruction_65 rfl (by decide) rfl ?_
    refine z_iload_n (j := 0) hx hb dX6_endInstruction_66 rfl rfl ?_
    refine z_if_ne (tgt := 84) hx hb dX6_endInstruction_67 (by decide) (fun g67 => ?_) (fun g67 => ?_)
    · have hF := hF.trans (if_neg g67)
      have hok := And.right hok g67
      refine z_sub [1] rfl ?_
      exact b84 q hok hF
    · have hF := hF.trans (if_pos g67)
      have hok := And.left hok g67
      refine z_aload_n (j := 1) hx hb dX6_endInstruction_70 rfl rfl ?_
      refine z_get (v := .ref (ad 3)) S hK inX6 4 (fun _ => rfl) rfl 2 (by decide) q2_42 rfl rfl dX6_endInstruction_71 ?_
      refine z_aload_n (j := 1) hx hb dX6_endInstruction_74 rfl rfl ?_
      refine z_get (v := .ref (ad 7)) S hK inX6 4 (fun _ => rfl) rfl 4 (by decide) q2_45 rfl rfl dX6_endInstruction_75 ?_
      refine z_get (v := .int (gI q 801)) S hK inX8 7 (fun _ => rfl) rfl 1 (by decide) q1_165 rfl rfl dX6_endInstruction_78 ?_
      have h81 := And.left hok
      have hok := And.right hok
      refine z_callVv (As := [.int (gI q 801)]) S (ctX1_countWrong l hl D kc ad wad q (gI q 801) h81) (cwV 1 S.2.2.2.2 (gV q5_155 q5_156 q5_157 q1_5 q5_158) rfl rfl rfl hX1_countWrong ⟨Nat.le_of_ble_eq_true rfl, Nat.le_of_ble_eq_true rfl⟩) hA (pbX D kc) (psX hK hE) (z_recv hK 3 (fun _ => rfl) rfl) rfl rfl (Nat.le_of_ble_eq_true rfl) dX6_endInstruction_81 ⟨Nat.le_of_ble_eq_true rfl, Nat.le_of_ble_eq_true rfl⟩ ?_
      refine z_sub [1] rfl ?_
      exact b84 (fX1_countWrong q (gI q 801)) hok hF
  have b64 : ∀ (q : SS), kX6_endInstruction_64 q → F = fX6_endInstruction_64 q → Z p l e (zr 4 0 0) s m args below meth c 0 0 (MQ below (va_Qv (fun (_ : Unit) => True) (fun _ t => (GX D kc ad wad) A F t.heap) A) args s 0 0 A) 2 A (ZG D vwCl (wX kc ad wad) (PLX wad) A) q 64 [(0, .ref (ad 4))] [] := by
    intro q hok hF
    refine z_iconst (v := 0) hx hb dX6_endInstruction_64 (by decide) ?_
    exact b65 q 0 hok hF
  have b57 : ∀ (q : SS) (s0 : Int32), kX6_endInstruction_57 q s0 → F = fX6_endInstruction_57 q s0 → Z p l e (zr 4 0 0) s m args below meth c 0 0 (MQ below (va_Qv (fun (_ : Unit) => True) (fun _ t => (GX D kc ad wad) A F t.heap) A) args s 0 0 A) 2 A (ZG D vwCl (wX kc ad wad) (PLX wad) A) q 57 [(0, .ref (ad 4))] [.int s0] := by
    intro q s0 hok hF
    refine z_if_eq (tgt := 64) hx hb dX6_endInstruction_57 (by decide) (fun g57 => ?_) (fun g57 => ?_)
    · have hF := hF.trans (if_pos g57)
      have hok := And.left hok g57
      exact b64 q hok hF
    · have hF := hF.trans (if_neg g57)
      have hok := And.right hok g57
      refine z_iconst (v := 1) hx hb dX6_endInstruction_60 (by decide) ?_
      refine z_goto (tgt := 65) hx hb dX6_endInstruction_61 (by decide) ?_
      exact b65 q 1 hok hF
  have b33 : ∀ (q : SS) (s0 : Int32), kX6_endInstruction_33 q s0 → F = fX6_endInstruction_33 q s0 → Z p l e (zr 4 0 0) s m args below meth c 0 0 (MQ below (va_Qv (fun (_ : Unit) => True) (fun _ t => (GX D kc ad wad) A F t.heap) A) args s 0 0 A) 2 A (ZG D vwCl (wX kc ad wad) (PLX wad) A) q 33 [(0, .ref (ad 4))] [.int s0] := by
    intro q s0 hok hF
    refine z_if_eq (tgt := 64) hx hb dX6_endInstruction_33 (by decide) (fun g33 => ?_) (fun g33 => ?_)
    · have hF := hF.trans (if_pos g33)
      have hok := And.left hok g33
      exact b64 q hok hF
    · have hF := hF.trans (if_neg g33)
      have hok := And.right hok g33
      refine z_aload_n (j := 0) hx hb dX6_endInstruction_36 rfl rfl ?_
      refine z_get (v := .ref (ad 2)) S hK inX6 4 (fun _ => rfl) rfl 1 (by decide) q2_41 rfl rfl dX6_endInstruction_37 ?_
      refine z_aload_n (j := 0) hx hb dX6_endInstruction_40 rfl rfl ?_
      refine z_get (v := .ref (ad 10)) S hK inX6 4 (fun _ => rfl) rfl 7 (by decide) q2_48 rfl rfl dX6_endInstruction_41 ?_
      refine z_get (v := .int (gI q 1105)) S hK inX2 10 (fun _ => rfl) rfl 5 (by decide) q2_22 rfl rfl dX6_endInstruction_44 ?_
      refine z_aload_n (j := 0) hx hb dX6_endInstruction_47 rfl rfl ?_
      refine z_get (v := .ref (ad 10)) S hK inX6 4 (fun _ => rfl) rfl 7 (by decide) q2_48 rfl rfl dX6_endInstruction_48 ?_
      refine z_get (v := .int (gI q 1106)) S hK inX2 10 (fun _ => rfl) rfl 6 (by decide) q2_24 rfl rfl dX6_endInstruction_51 ?_
      have h54 := And.left hok
      have hok := And.right hok
      refine z_callVi (As := [.int (gI q 1105), .int (gI q 1106)]) S (ctX5_isKeptBut l hl D kc ad wad q (gI q 1105) (gI q 1106) h54) (cwV 2 S.2.2.2.2 (gV q5_150 q5_151 q5_152 q1_4 q5_153) rfl rfl rfl hX5_isKeptBut ⟨Nat.le_of_ble_eq_true rfl, Nat.le_of_ble_eq_true rfl⟩) hA (pbX D kc) (psX hK hE) (z_recv hK 2 (fun _ => rfl) rfl) rfl rfl (Nat.le_of_ble_eq_true rfl) dX6_endInstruction_54 ⟨Nat.le_of_ble_eq_true rfl, Nat.le_of_ble_eq_true rfl⟩ ?_
      exact b57 (fX5_isKeptBut q (gI q 1105) (gI q 1106)).2 (fX5_isKeptBut q (gI q 1105) (gI q 1106)).1 hok hF
  have b8 : ∀ (q : SS), kX6_endInstruction_8 q → F = fX6_endInstruction_8 q → Z p l e (zr 4 0 0) s m args below meth c 0 0 (MQ below (va_Qv (fun (_ : Unit) => True) (fun _ t => (GX D kc ad wad) A F t.heap) A) args s 0 0 A) 2 A (ZG D vwCl (wX kc ad wad) (PLX wad) A) q 8 [(0, .ref (ad 4))] [.ref (ad 10)] := by
    intro q hok hF
    refine z_pop hx hb dX6_endInstruction_8 rfl ?_
    refine z_aload_n (j := 0) hx hb dX6_endInstruction_9 rfl rfl ?_
    refine z_get (v := .ref (ad 10)) S hK inX6 4 (fun _ => rfl) rfl 7 (by decide) q2_48 rfl rfl dX6_endInstruction_10 ?_
    refine z_get (v := .int (gI q 1101)) S hK inX2 10 (fun _ => rfl) rfl 1 (by decide) q2_16 rfl rfl dX6_endInstruction_13 ?_
    refine z_if_eq (tgt := 64) hx hb dX6_endInstruction_16 (by decide) (fun g16 => ?_) (fun g16 => ?_)
    · have hF := hF.trans (if_pos g16)
      have hok := And.left hok g16
      exact b64 q hok hF
    · have hF := hF.trans (if_neg g16)
      have hok := And.right hok g16
      refine z_aload_n (j := 0) hx hb dX6_endInstruction_19 rfl rfl ?_
      refine z_get (v := .ref (ad 6)) S hK inX6 4 (fun _ => rfl) rfl 3 (by decide) q2_43 rfl rfl dX6_endInstruction_20 ?_
      refine z_aload_n (j := 0) hx hb dX6_endInstruction_23 rfl rfl ?_
      refine z_get (v := .ref (ad 10)) S hK inX6 4 (fun _ => rfl) rfl 7 (by decide) q2_48 rfl rfl dX6_endInstruction_24 ?_
      refine z_get (v := .ref (ad 11)) S hK inX2 10 (fun _ => rfl) rfl 0 (by decide) q2_13 rfl rfl dX6_endInstruction_27 ?_
      have h30 := And.left hok
      have hok := And.right hok
      refine z_callVi (As := [.ref (ad 11)]) S (ctX8_isAs_now_after l hl D kc ad wad q h30) (cwV 1 S.2.2.2.2 (gV q3_18 q3_19 q3_20 q1_7 q3_21) rfl rfl rfl hX8_isAs ⟨Nat.le_of_ble_eq_true rfl, Nat.le_of_ble_eq_true rfl⟩) hA (pbX D kc) (psX hK hE) (z_recv hK 6 (fun _ => rfl) rfl) rfl rfl (Nat.le_of_ble_eq_true rfl) dX6_endInstruction_30 ⟨Nat.le_of_ble_eq_true rfl, Nat.le_of_ble_eq_true rfl⟩ ?_
      exact b33 (fX8_isAs_now_after q).2 (fX8_isAs_now_after q).1 hok hF
  have b4 : ∀ (q : SS), kX6_endInstruction_4 q → F = fX6_endInstruction_4 q → Z p l e (zr 4 0 0) s m args below meth c 0 0 (MQ below (va_Qv (fun (_ : Unit) => True) (fun _ t => (GX D kc ad wad) A F t.heap) A) args s 0 0 A) 2 A (ZG D vwCl (wX kc ad wad) (PLX wad) A) q 4 [(0, .ref (ad 4))] [] := by
    intro q hok hF
    refine z_aload_n (j := 0) hx hb dX6_endInstruction_4 rfl rfl ?_
    have h5 := And.left hok
    have hok := And.right hok
    refine z_callVq (As := []) S (ctX6_define l hl D kc ad wad q h5) (cwV 0 S.2.2.2.2 (gV q5_122 q5_123 q5_124 q1_6 q5_125) rfl rfl rfl hX6_define ⟨Nat.le_of_ble_eq_true rfl, Nat.le_of_ble_eq_true rfl⟩) hA (pbX D kc) (psX hK hE) (z_recv hK 4 (fun _ => rfl) rfl) rfl rfl (Nat.le_of_ble_eq_true rfl) dX6_endInstruction_5 ⟨Nat.le_of_ble_eq_true rfl, Nat.le_of_ble_eq_true rfl⟩ ?_
    exact b8 (fX6_define q) hok hF
  refine z_aload_n (j := 0) hx hb dX6_endInstruction_0 rfl rfl ?_
  have h1 := And.left hok
  have hok := And.right hok
  refine z_callVv (As := []) S (ctX6_findFlags l hl D kc ad wad q h1) (cwV 0 S.2.2.2.2 (gV q5_102 q5_104 qp1_11 q1_6 q5_105) rfl rfl rfl hX6_findFlags ⟨Nat.le_of_ble_eq_true rfl, Nat.le_of_ble_eq_true rfl⟩) hA (pbX D kc) (psX hK hE) (z_recv hK 4 (fun _ => rfl) rfl) rfl rfl (Nat.le_of_ble_eq_true rfl) dX6_endInstruction_1 ⟨Nat.le_of_ble_eq_true rfl, Nat.le_of_ble_eq_true rfl⟩ ?_
  exact b4 (fX6_findFlags q) hok hF
theorem hX6_endInstruction : yX6_endInstruction.cls = RX6 ∧ yX6_endInstruction.cls ≠ "java/lang/invoke/MethodHandle" ∧ yX6_endInstruction.cls ≠ "java/lang/invoke/VarHandle" ∧ (parseMethodDescriptor yX6_endInstruction.desc).map (fun d => d.parameters.length) = some 0 := by decide +kernel
def fX6_obey_252 (q : SS) : SS := q
def kX6_obey_252 (q : SS) : Prop := True
def fX6_obey_151 (q : SS) (s0 : Int32) : SS := fX6_obey_252 (sI q 510 s0)
def kX6_obey_151 (q : SS) (s0 : Int32) : Prop := kX6_obey_252 (sI q 510 s0)
def fX6_obey_139 (q : SS) (w1 : Nat) : SS := fX6_obey_151 (fX7_followed q (gA q 35 w1)).2 (fX7_followed q (gA q 35 w1)).1
def kX6_obey_139 (q : SS) (w1 : Nat) : Prop := isW q w1 ∧ kX7_followed q (gA q 35 w1) ∧ kX6_obey_151 (fX7_followed q (gA q 35 w1)).2 (fX7_followed q (gA q 35 w1)).1
def fX6_obey_204 (q : SS) (s0 : Int32) : SS := fX6_obey_252 (sI q 510 s0)
def kX6_obey_204 (q : SS) (s0 : Int32) : Prop := kX6_obey_252 (sI q 510 s0)
def fX6_obey_201 (q : SS) (s0 : Int32) : SS := fX6_obey_204 (fX7_followed q s0).2 (fX7_followed q s0).1
def kX6_obey_201 (q : SS) (s0 : Int32) : Prop := kX7_followed q s0 ∧ kX6_obey_204 (fX7_followed q s0).2 (fX7_followed q s0).1
def fX6_obey_198 (q : SS) (s0 : Int32) (s1 : Int32) : SS := fX6_obey_201 (fX7_entryOf q s1 s0).2 (fX7_entryOf q s1 s0).1
def kX6_obey_198 (q : SS) (s0 : Int32) (s1 : Int32) : Prop := kX7_entryOf q s1 s0 ∧ kX6_obey_201 (fX7_entryOf q s1 s0).2 (fX7_entryOf q s1 s0).1
def fX6_obey_96 (q : SS) (s0 : Int32) : SS := fX6_obey_252 (sI q 510 s0)
def kX6_obey_96 (q : SS) (s0 : Int32) : Prop := kX6_obey_252 (sI q 510 s0)
def fX6_obey_123 (q : SS) (s0 : Int32) : SS := fX6_obey_252 (sI q 510 s0)
def kX6_obey_123 (q : SS) (s0 : Int32) : Prop := kX6_obey_252 (sI q 510 s0)
def fX6_obey_119 (q : SS) (s0 : Int32) (s1 : Int32) : SS := fX6_obey_123 (fX7_followed q (s1 ||| s0)).2 (fX7_followed q (s1 ||| s0)).1
def kX6_obey_119 (q : SS) (s0 : Int32) (s1 : Int32) : Prop := kX7_followed q (s1 ||| s0) ∧ kX6_obey_123 (fX7_followed q (s1 ||| s0)).2 (fX7_followed q (s1 ||| s0)).1
def fX6_obey_235 (q : SS) (s0 : Int32) : SS := fX6_obey_252 (sI q 510 s0)
def kX6_obey_235 (q : SS) (s0 : Int32) : Prop := kX6_obey_252 (sI q 510 s0)
def fX6_obey_249 (q : SS) : SS := fX6_obey_252 q
def kX6_obey_249 (q : SS) : Prop := kX6_obey_252 q
def fX6_obey_245 (q : SS) : SS := fX6_obey_249 (fX6_takeInterrupt q)
def kX6_obey_245 (q : SS) : Prop := kX6_takeInterrupt q ∧ kX6_obey_249 (fX6_takeInterrupt q)
def fX6_obey_169 (q : SS) (s0 : Int32) : SS := fX6_obey_252 (sI q 510 s0)
def kX6_obey_169 (q : SS) (s0 : Int32) : Prop := kX6_obey_252 (sI q 510 s0)
def fX6_obey_166 (q : SS) (s0 : Int32) : SS := fX6_obey_169 (fX7_followed q s0).2 (fX7_followed q s0).1
def kX6_obey_166 (q : SS) (s0 : Int32) : Prop := kX7_followed q s0 ∧ kX6_obey_169 (fX7_followed q s0).2 (fX7_followed q s0).1
def fX6_obey (q : SS) (w1 : Nat) : SS := (if (gA q 34 w1) = 99 then fX6_obey_139 (fX6_putReturn q ((gI q 510) + 1)) w1 else (if (gA q 34 w1) = 100 then fX6_obey_198 (fX3_operation q).2 (fX3_operation q).1 (gI q 705) else (if (gA q 34 w1) = 110 then fX6_obey_96 (fX7_followed q (gA q 35 w1)).2 (fX7_followed q (gA q 35 w1)).1 else (if (gA q 34 w1) = 111 then fX6_obey_119 (fX6_testedBits q (gA q 36 w1)).2 (fX6_testedBits q (gA q 36 w1)).1 (gA q 35 w1) else (if (gA q 34 w1) = 112 then fX6_obey_235 (fX7_followed (sI q 905 (1 - (gI q 905))) 0).2 (fX7_followed (sI q 905 (1 - (gI q 905))) 0).1 else (if (gA q 34 w1) = 113 then fX6_obey_245 (fX6_takeBack q) else (if (gA q 34 w1) = 114 then fX6_obey_166 (fX6_takeReturn q).2 (fX6_takeReturn q).1 else fX6_obey_252 q)))))))
def kX6_obey (q : SS) (w1 : Nat) : Prop := isW q w1 ∧ (((gA q 34 w1) = 99 → kX6_putReturn q ((gI q 510) + 1) ∧ kX6_obey_139 (fX6_putReturn q ((gI q 510) + 1)) w1) ∧ (¬ (gA q 34 w1) = 99 → (((gA q 34 w1) = 100 → kX3_operation q ∧ kX6_obey_198 (fX3_operation q).2 (fX3_operation q).1 (gI q 705)) ∧ (¬ (gA q 34 w1) = 100 → (((gA q 34 w1) = 110 → isW q w1 ∧ kX7_followed q (gA q 35 w1) ∧ kX6_obey_96 (fX7_followed q (gA q 35 w1)).2 (fX7_followed q (gA q 35 w1)).1) ∧ (¬ (gA q 34 w1) = 110 → (((gA q 34 w1) = 111 → isW q w1 ∧ isW q w1 ∧ kX6_testedBits q (gA q 36 w1) ∧ kX6_obey_119 (fX6_testedBits q (gA q 36 w1)).2 (fX6_testedBits q (gA q 36 w1)).1 (gA q 35 w1)) ∧ (¬ (gA q 34 w1) = 111 → (((gA q 34 w1) = 112 → kX7_followed (sI q 905 (1 - (gI q 905))) 0 ∧ kX6_obey_235 (fX7_followed (sI q 905 (1 - (gI q 905))) 0).2 (fX7_followed (sI q 905 (1 - (gI q 905))) 0).1) ∧ (¬ (gA q 34 w1) = 112 → (((gA q 34 w1) = 113 → kX6_takeBack q ∧ kX6_obey_245 (fX6_takeBack q)) ∧ (¬ (gA q 34 w1) = 113 → (((gA q 34 w1) = 114 → kX6_takeReturn q ∧ kX6_obey_166 (fX6_takeReturn q).2 (fX6_takeReturn q).1) ∧ (¬ (gA q 34 w1) = 114 → kX6_obey_252 q))))))))))))))
set_option maxHeartbeats 4000000 in
set_option maxRecDepth 100000 in
theorem ctX6_obey (l : Launch) (hl : l.stackTraces = false) (D : va_G) (kc : Nat → ClassId) (ad wad : Nat → Nat) (q : SS) (w1 : Nat) (hok : kX6_obey q w1) : Cv l yX6_obey (Cond.code yX6_obey cX6_obey 2 none :: lw_G) (zr 4 0 0) 0 0 (PX D kc) (GX D kc ad wad) (GX D kc ad wad) [.ref (ad 4), .ref (wad w1)] q (fX6_obey q w1) := by
  refine Cv.of (cc := cX6_obey) (maxL := 2) (ret := none) (by decide) rfl (Nat.le_of_ble_eq_true rfl) ?_
  intro p e s m args below meth c A S hr hlocks hin hA hK
  have hx := S.1
  have hb := S.2.1
  have hE : EV A s s.heap := hK.2
  have hK : va_K D vwCl (tysK kc) s := hK.1
  generalize hFe : fX6_obey q w1 = F
  have hF : F = fX6_obey q w1 := hFe.symm
  have b252 : ∀ (q : SS), kX6_obey_252 q → F = fX6_obey_252 q → Z p l e (zr 4 0 0) s m args below meth c 0 0 (MQ below (va_Qv (fun (_ : Unit) => True) (fun _ t => (GX D kc ad wad) A F t.heap) A) args s 0 0 A) 2 A (ZG D vwCl (wX kc ad wad) (PLX wad) A) q 252 [] [] := by
    intro q hok hF
    exact z_vret hx hb hlocks hr hF dX6_obey_252
  have b151 : ∀ (q : SS) (s0 : Int32), kX6_obey_151 q s0 → F = fX6_obey_151 q s0 → Z p l e (zr 4 0 0) s m args below meth c 0 0 (MQ below (va_Qv (fun (_ : Unit) => True) (fun _ t => (GX D kc ad wad) A F t.heap) A) args s 0 0 A) 2 A (ZG D vwCl (wX kc ad wad) (PLX wad) A) q 151 [] [.int s0, .ref (ad 4)] := by
    intro q s0 hok hF
    refine z_put (v := .int s0) (q' := (sI q 510 s0)) S hK inX6 tyX6 tyX6_ok nmX6 4 (fun _ => rfl) rfl 10 (by decide) q2_52 rfl rfl rfl rfl (Nat.le_of_ble_eq_true rfl) dX6_obey_151 (wXp510 kc ad wad _ _) (fun _ h => h) ?_
    refine z_goto (tgt := 252) hx hb dX6_obey_154 (by decide) ?_
    exact b252 (sI q 510 s0) hok hF
  have b139 : ∀ (q : SS) (w1 : Nat), kX6_obey_139 q w1 → F = fX6_obey_139 q w1 → Z p l e (zr 4 0 0) s m args below meth c 0 0 (MQ below (va_Qv (fun (_ : Unit) => True) (fun _ t => (GX D kc ad wad) A F t.heap) A) args s 0 0 A) 2 A (ZG D vwCl (wX kc ad wad) (PLX wad) A) q 139 [(0, .ref (ad 4)), (1, .ref (wad w1))] [] := by
    intro q w1 hok hF
    refine z_aload_n (j := 0) hx hb dX6_obey_139 rfl rfl ?_
    refine z_aload_n (j := 0) hx hb dX6_obey_140 rfl rfl ?_
    refine z_get (v := .ref (ad 1)) S hK inX6 4 (fun _ => rfl) rfl 0 (by decide) q2_40 rfl rfl dX6_obey_141 ?_
    refine z_aload_n (j := 1) hx hb dX6_obey_144 rfl rfl ?_
    have h145 := And.left hok
    have hok := And.right hok
    refine z_getW (v := .int (gA q 35 w1)) S hK h145 inX9 5 (by decide) q4_45 rfl rfl dX6_obey_145 ?_
    have h148 := And.left hok
    have hok := And.right hok
    refine z_callVi (As := [.int (gA q 35 w1)]) S (ctX7_followed l hl D kc ad wad q (gA q 35 w1) h148) (cwV 1 S.2.2.2.2 (gV q5_175 q5_176 q5_177 q1_2 q5_178) rfl rfl rfl hX7_followed ⟨Nat.le_of_ble_eq_true rfl, Nat.le_of_ble_eq_true rfl⟩) hA (pbX D kc) (psX hK hE) (z_recv hK 1 (fun _ => rfl) rfl) rfl rfl (Nat.le_of_ble_eq_true rfl) dX6_obey_148 ⟨Nat.le_of_ble_eq_true rfl, Nat.le_of_ble_eq_true rfl⟩ ?_
    refine z_sub [] rfl ?_
    exact b151 (fX7_followed q (gA q 35 w1)).2 (fX7_followed q (gA q 35 w1)).1 hok hF
  have b204 : ∀ (q : SS) (s0 : Int32), kX6_obey_204 q s0 → F = fX6_obey_204 q s0 → Z p l e (zr 4 0 0) s m args below meth c 0 0 (MQ below (va_Qv (fun (_ : Unit) => True) (fun _ t => (GX D kc ad wad) A F t.heap) A) args s 0 0 A) 2 A (ZG D vwCl (wX kc ad wad) (PLX wad) A) q 204 [] [.int s0, .ref (ad 4)] := by
    intro q s0 hok hF
    refine z_put (v := .int s0) (q' := (sI q 510 s0)) S hK inX6 tyX6 tyX6_ok nmX6 4 (fun _ => rfl) rfl 10 (by decide) q2_52 rfl rfl rfl rfl (Nat.le_of_ble_eq_true rfl) dX6_obey_204 (wXp510 kc ad wad _ _) (fun _ h => h) ?_
    refine z_goto (tgt := 252) hx hb dX6_obey_207 (by decide) ?_
    exact b252 (sI q 510 s0) hok hF
  have b201 : ∀ (q : SS) (s0 : Int32), kX6_obey_201 q s0 → F = fX6_obey_201 q s0 → Z p l e (zr 4 0 0) s m args below meth c 0 0 (MQ below (va_Qv (fun (_ : Unit) => True) (fun _ t => (GX D kc ad wad) A F t.heap) A) args s 0 0 A) 2 A (ZG D vwCl (wX kc ad wad) (PLX wad) A) q 201 [] [.int s0, .ref (ad 1), .ref (ad 4)] := by
    intro q s0 hok hF
    have h201 := And.left hok
    have hok := And.right hok
    refine z_callVi (As := [.int s0]) S (ctX7_followed l hl D kc ad wad q s0 h201) (cwV 1 S.2.2.2.2 (gV q5_175 q5_176 q5_177 q1_2 q5_178) rfl rfl rfl hX7_followed ⟨Nat.le_of_ble_eq_true rfl, Nat.le_of_ble_eq_true rfl⟩) hA (pbX D kc) (psX hK hE) (z_recv hK 1 (fun _ => rfl) rfl) rfl rfl (Nat.le_of_ble_eq_true rfl) dX6_obey_201 ⟨Nat.le_of_ble_eq_true rfl, Nat.le_of_ble_eq_true rfl⟩ ?_
    exact b204 (fX7_followed q s0).2 (fX7_followed q s0).1 hok hF
  have b198 : ∀ (q : SS) (s0 : Int32) (s1 : Int32), kX6_obey_198 q s0 s1 → F = fX6_obey_198 q s0 s1 → Z p l e (zr 4 0 0) s m args below meth c 0 0 (MQ below (va_Qv (fun (_ : Unit) => True) (fun _ t => (GX D kc ad wad) A F t.heap) A) args s 0 0 A) 2 A (ZG D vwCl (wX kc ad wad) (PLX wad) A) q 198 [] [.int s0, .int s1, .ref (ad 1), .ref (ad 1), .ref (ad 4)] := by
    intro q s0 s1 hok hF
    have h198 := And.left hok
    have hok := And.right hok
    refine z_callVi (As := [.int s1, .int s0]) S (ctX7_entryOf l hl D kc ad wad q s1 s0 h198) (cwV 2 S.2.2.2.2 (gV q5_191 q4_169 q4_170 q1_2 q4_171) rfl rfl rfl hX7_entryOf ⟨Nat.le_of_ble_eq_true rfl, Nat.le_of_ble_eq_true rfl⟩) hA (pbX D kc) (psX hK hE) (z_recv hK 1 (fun _ => rfl) rfl) rfl rfl (Nat.le_of_ble_eq_true rfl) dX6_obey_198 ⟨Nat.le_of_ble_eq_true rfl, Nat.le_of_ble_eq_true rfl⟩ ?_
    exact b201 (fX7_entryOf q s1 s0).2 (fX7_entryOf q s1 s0).1 hok hF
  have b96 : ∀ (q : SS) (s0 : Int32), kX6_obey_96 q s0 → F = fX6_obey_96 q s0 → Z p l e (zr 4 0 0) s m args below meth c 0 0 (MQ below (va_Qv (fun (_ : Unit) => True) (fun _ t => (GX D kc ad wad) A F t.heap) A) args s 0 0 A) 2 A (ZG D vwCl (wX kc ad wad) (PLX wad) A) q 96 [] [.int s0, .ref (ad 4)] := by
    intro q s0 hok hF
    refine z_put (v := .int s0) (q' := (sI q 510 s0)) S hK inX6 tyX6 tyX6_ok nmX6 4 (fun _ => rfl) rfl 10 (by decide) q2_52 rfl rfl rfl rfl (Nat.le_of_ble_eq_true rfl) dX6_obey_96 (wXp510 kc ad wad _ _) (fun _ h => h) ?_
    refine z_goto (tgt := 252) hx hb dX6_obey_99 (by decide) ?_
    exact b252 (sI q 510 s0) hok hF
  have b123 : ∀ (q : SS) (s0 : Int32), kX6_obey_123 q s0 → F = fX6_obey_123 q s0 → Z p l e (zr 4 0 0) s m args below meth c 0 0 (MQ below (va_Qv (fun (_ : Unit) => True) (fun _ t => (GX D kc ad wad) A F t.heap) A) args s 0 0 A) 2 A (ZG D vwCl (wX kc ad wad) (PLX wad) A) q 123 [] [.int s0, .ref (ad 4)] := by
    intro q s0 hok hF
    refine z_put (v := .int s0) (q' := (sI q 510 s0)) S hK inX6 tyX6 tyX6_ok nmX6 4 (fun _ => rfl) rfl 10 (by decide) q2_52 rfl rfl rfl rfl (Nat.le_of_ble_eq_true rfl) dX6_obey_123 (wXp510 kc ad wad _ _) (fun _ h => h) ?_
    refine z_goto (tgt := 252) hx hb dX6_obey_126 (by decide) ?_
    exact b252 (sI q 510 s0) hok hF
  have b119 : ∀ (q : SS) (s0 : Int32) (s1 : Int32), kX6_obey_119 q s0 s1 → F = fX6_obey_119 q s0 s1 → Z p l e (zr 4 0 0) s m args below meth c 0 0 (MQ below (va_Qv (fun (_ : Unit) => True) (fun _ t => (GX D kc ad wad) A F t.heap) A) args s 0 0 A) 2 A (ZG D vwCl (wX kc ad wad) (PLX wad) A) q 119 [] [.int s0, .int s1, .ref (ad 1), .ref (ad 4)] := by
    intro q s0 s1 hok hF
    refine z_ior hx hb dX6_obey_119 ?_
    have h120 := And.left hok
    have hok := And.right hok
    refine z_callVi (As := [.int (s1 ||| s0)]) S (ctX7_followed l hl D kc ad wad q (s1 ||| s0) h120) (cwV 1 S.2.2.2.2 (gV q5_175 q5_176 q5_177 q1_2 q5_178) rfl rfl rfl hX7_followed ⟨Nat.le_of_ble_eq_true rfl, Nat.le_of_ble_eq_true rfl⟩) hA (pbX D kc) (psX hK hE) (z_recv hK 1 (fun _ => rfl) rfl) rfl rfl (Nat.le_of_ble_eq_true rfl) dX6_obey_120 ⟨Nat.le_of_ble_eq_true rfl, Nat.le_of_ble_eq_true rfl⟩ ?_
    exact b123 (fX7_followed q (s1 ||| s0)).2 (fX7_followed q (s1 ||| s0)).1 hok hF
  have b235 : ∀ (q : SS) (s0 : Int32), kX6_obey_235 q s0 → F = fX6_obey_235 q s0 → Z p l e (zr 4 0 0) s m args below meth c 0 0 (MQ below (va_Qv (fun (_ : Unit) => True) (fun _ t => (GX D kc ad wad) A F t.heap) A) args s 0 0 A) 2 A (ZG D vwCl (wX kc ad wad) (PLX wad) A) q 235 [] [.int s0, .ref (ad 4)] := by
    intro q s0 hok hF
    refine z_put (v := .int s0) (q' := (sI q 510 s0)) S hK inX6 tyX6 tyX6_ok nmX6 4 (fun _ => rfl) rfl 10 (by decide) q2_52 rfl rfl rfl rfl (Nat.le_of_ble_eq_true rfl) dX6_obey_235 (wXp510 kc ad wad _ _) (fun _ h => h) ?_
    refine z_goto (tgt := 252) hx hb dX6_obey_238 (by decide) ?_
    exact b252 (sI q 510 s0) hok hF
  have b249 : ∀ (q : SS), kX6_obey_249 q → F = fX6_obey_249 q → Z p l e (zr 4 0 0) s m args below meth c 0 0 (MQ below (va_Qv (fun (_ : Unit) => True) (fun _ t => (GX D kc ad wad) A F t.heap) A) args s 0 0 A) 2 A (ZG D vwCl (wX kc ad wad) (PLX wad) A) q 249 [] [] := by
    intro q hok hF
    refine z_goto (tgt := 252) hx hb dX6_obey_249 (by decide) ?_
    exact b252 q hok hF
  have b245 : ∀ (q : SS), kX6_obey_245 q → F = fX6_obey_245 q → Z p l e (zr 4 0 0) s m args below meth c 0 0 (MQ below (va_Qv (fun (_ : Unit) => True) (fun _ t => (GX D kc ad wad) A F t.heap) A) args s 0 0 A) 2 A (ZG D vwCl (wX kc ad wad) (PLX wad) A) q 245 [(0, .ref (ad 4))] [] := by
    intro q hok hF
    refine z_aload_n (j := 0) hx hb dX6_obey_245 rfl rfl ?_
    have h246 := And.left hok
    have hok := And.right hok
    refine z_callVv (As := []) S (ctX6_takeInterrupt l hl D kc ad wad q h246) (cwV 0 S.2.2.2.2 (gV q5_167 q5_169 qp1_15 q1_6 q5_170) rfl rfl rfl hX6_takeInterrupt ⟨Nat.le_of_ble_eq_true rfl, Nat.le_of_ble_eq_true rfl⟩) hA (pbX D kc) (psX hK hE) (z_recv hK 4 (fun _ => rfl) rfl) rfl rfl (Nat.le_of_ble_eq_true rfl) dX6_obey_246 ⟨Nat.le_of_ble_eq_true rfl, Nat.le_of_ble_eq_true rfl⟩ ?_
    refine z_sub [] rfl ?_
    exact b249 (fX6_takeInterrupt q) hok hF
  have b169 : ∀ (q : SS) (s0 : Int32), kX6_obey_169 q s0 → F = fX6_obey_169 q s0 → Z p l e (zr 4 0 0) s m args below meth c 0 0 (MQ below (va_Qv (fun (_ : Unit) => True) (fun _ t => (GX D kc ad wad) A F t.heap) A) args s 0 0 A) 2 A (ZG D vwCl (wX kc ad wad) (PLX wad) A) q 169 [] [.int s0, .ref (ad 4)] := by
    intro q s0 hok hF
    refine z_put (v := .int s0) (q' := (sI q 510 s0)) S hK inX6 tyX6 tyX6_ok nmX6 4 (fun _ => rfl) rfl 10 (by decide) q2_52 rfl rfl rfl rfl (Nat.le_of_ble_eq_true rfl) dX6_obey_169 (wXp510 kc ad wad _ _) (fun _ h => h) ?_
    refine z_goto (tgt := 252) hx hb dX6_obey_172 (by decide) ?_
    exact b252 (sI q 510 s0) hok hF
  have b166 : ∀ (q : SS) (s0 : Int32), kX6_obey_166 q s0 → F = fX6_obey_166 q s0 → Z p l e (zr 4 0 0) s m args below meth c 0 0 (MQ below (va_Qv (fun (_ : Unit) => True) (fun _ t => (GX D kc ad wad) A F t.heap) A) args s 0 0 A) 2 A (ZG D vwCl (wX kc ad wad) (PLX wad) A) q 166 [] [.int s0, .ref (ad 1), .ref (ad 4)] := by
    intro q s0 hok hF
    have h166 := And.left hok
    have hok := And.right hok
    refine z_callVi (As := [.int s0]) S (ctX7_followed l hl D kc ad wad q s0 h166) (cwV 1 S.2.2.2.2 (gV q5_175 q5_176 q5_177 q1_2 q5_178) rfl rfl rfl hX7_followed ⟨Nat.le_of_ble_eq_true rfl, Nat.le_of_ble_eq_true rfl⟩) hA (pbX D kc) (psX hK hE) (z_recv hK 1 (fun _ => rfl) rfl) rfl rfl (Nat.le_of_ble_eq_true rfl) dX6_obey_166 ⟨Nat.le_of_ble_eq_true rfl, Nat.le_of_ble_eq_true rfl⟩ ?_
    exact b169 (fX7_followed q s0).2 (fX7_followed q s0).1 hok hF
  refine z_aload_n (j := 1) hx hb dX6_obey_0 rfl rfl ?_
  have h1 := And.left hok
  have hok := And.right hok
  refine z_getW (v := .int (gA q 34 w1)) S hK h1 inX9 4 (by decide) q4_41 rfl rfl dX6_obey_1 ?_
  by_cases g4_99 : (gA q 34 w1) = 99
  · have hF := hF.trans (if_pos g4_99)
    have hok := And.left hok g4_99
    refine z_tableIn (off := 125) (tgt := 129) hx hb dX6_obey_4 (by rw [g4_99]; decide) (by rw [g4_99]; decide) (by rw [g4_99]; rfl) (by decide) ?_
    refine z_aload_n (j := 0) hx hb dX6_obey_129 rfl rfl ?_
    refine z_aload_n (j := 0) hx hb dX6_obey_130 rfl rfl ?_
    refine z_get (v := .int (gI q 510)) S hK inX6 4 (fun _ => rfl) rfl 10 (by decide) q2_52 rfl rfl dX6_obey_131 ?_
    refine z_iconst (v := 1) hx hb dX6_obey_134 (by decide) ?_
    refine z_iadd hx hb dX6_obey_135 ?_
    have h136 := And.left hok
    have hok := And.right hok
    refine z_callVv (As := [.int ((gI q 510) + 1)]) S (ctX6_putReturn l hl D kc ad wad q ((gI q 510) + 1) h136) (cwV 1 S.2.2.2.2 (gV q5_183 q5_185 qp2_2 q1_6 q5_186) rfl rfl rfl hX6_putReturn ⟨Nat.le_of_ble_eq_true rfl, Nat.le_of_ble_eq_true rfl⟩) hA (pbX D kc) (psX hK hE) (z_recv hK 4 (fun _ => rfl) rfl) rfl rfl (Nat.le_of_ble_eq_true rfl) dX6_obey_136 ⟨Nat.le_of_ble_eq_true rfl, Nat.le_of_ble_eq_true rfl⟩ ?_
    exact b139 (fX6_putReturn q ((gI q 510) + 1)) w1 hok hF
  have hF := hF.trans (if_neg g4_99)
  have hok := And.right hok g4_99
  by_cases g4_100 : (gA q 34 w1) = 100
  · have hF := hF.trans (if_pos g4_100)
    have hok := And.left hok g4_100
    refine z_tableIn (off := 171) (tgt := 175) hx hb dX6_obey_4 (by rw [g4_100]; decide) (by rw [g4_100]; decide) (by rw [g4_100]; rfl) (by decide) ?_
    refine z_aload_n (j := 0) hx hb dX6_obey_175 rfl rfl ?_
    refine z_aload_n (j := 0) hx hb dX6_obey_176 rfl rfl ?_
    refine z_get (v := .ref (ad 1)) S hK inX6 4 (fun _ => rfl) rfl 0 (by decide) q2_40 rfl rfl dX6_obey_177 ?_
    refine z_aload_n (j := 0) hx hb dX6_obey_180 rfl rfl ?_
    refine z_get (v := .ref (ad 1)) S hK inX6 4 (fun _ => rfl) rfl 0 (by decide) q2_40 rfl rfl dX6_obey_181 ?_
    refine z_aload_n (j := 0) hx hb dX6_obey_184 rfl rfl ?_
    refine z_get (v := .ref (ad 6)) S hK inX6 4 (fun _ => rfl) rfl 3 (by decide) q2_43 rfl rfl dX6_obey_185 ?_
    refine z_get (v := .int (gI q 705)) S hK inX8 6 (fun _ => rfl) rfl 5 (by decide) q1_178 rfl rfl dX6_obey_188 ?_
    refine z_aload_n (j := 0) hx hb dX6_obey_191 rfl rfl ?_
    refine z_get (v := .ref (ad 8)) S hK inX6 4 (fun _ => rfl) rfl 5 (by decide) q2_46 rfl rfl dX6_obey_192 ?_
    have h195 := And.left hok
    have hok := And.right hok
    refine z_callVi (As := []) S (ctX3_operation l hl D kc ad wad q h195) (cwV 0 S.2.2.2.2 (gV q5_159 q5_160 q5_161 q1_8 q5_162) rfl rfl rfl hX3_operation ⟨Nat.le_of_ble_eq_true rfl, Nat.le_of_ble_eq_true rfl⟩) hA (pbX D kc) (psX hK hE) (z_recv hK 8 (fun _ => rfl) rfl) rfl rfl (Nat.le_of_ble_eq_true rfl) dX6_obey_195 ⟨Nat.le_of_ble_eq_true rfl, Nat.le_of_ble_eq_true rfl⟩ ?_
    refine z_sub [] rfl ?_
    exact b198 (fX3_operation q).2 (fX3_operation q).1 (gI q 705) hok hF
  have hF := hF.trans (if_neg g4_100)
  have hok := And.right hok g4_100
  by_cases g4_110 : (gA q 34 w1) = 110
  · have hF := hF.trans (if_pos g4_110)
    have hok := And.left hok g4_110
    refine z_tableIn (off := 80) (tgt := 84) hx hb dX6_obey_4 (by rw [g4_110]; decide) (by rw [g4_110]; decide) (by rw [g4_110]; rfl) (by decide) ?_
    refine z_aload_n (j := 0) hx hb dX6_obey_84 rfl rfl ?_
    refine z_aload_n (j := 0) hx hb dX6_obey_85 rfl rfl ?_
    refine z_get (v := .ref (ad 1)) S hK inX6 4 (fun _ => rfl) rfl 0 (by decide) q2_40 rfl rfl dX6_obey_86 ?_
    refine z_aload_n (j := 1) hx hb dX6_obey_89 rfl rfl ?_
    have h90 := And.left hok
    have hok := And.right hok
    refine z_getW (v := .int (gA q 35 w1)) S hK h90 inX9 5 (by decide) q4_45 rfl rfl dX6_obey_90 ?_
    have h93 := And.left hok
    have hok := And.right hok
    refine z_callVi (As := [.int (gA q 35 w1)]) S (ctX7_followed l hl D kc ad wad q (gA q 35 w1) h93) (cwV 1 S.2.2.2.2 (gV q5_175 q5_176 q5_177 q1_2 q5_178) rfl rfl rfl hX7_followed ⟨Nat.le_of_ble_eq_true rfl, Nat.le_of_ble_eq_true rfl⟩) hA (pbX D kc) (psX hK hE) (z_recv hK 1 (fun _ => rfl) rfl) rfl rfl (Nat.le_of_ble_eq_true rfl) dX6_obey_93 ⟨Nat.le_of_ble_eq_true rfl, Nat.le_of_ble_eq_true rfl⟩ ?_
    refine z_sub [] rfl ?_
    exact b96 (fX7_followed q (gA q 35 w1)).2 (fX7_followed q (gA q 35 w1)).1 hok hF
  have hF := hF.trans (if_neg g4_110)
  have hok := And.right hok g4_110
  by_cases g4_111 : (gA q 34 w1) = 111
  · have hF := hF.trans (if_pos g4_111)
    have hok := And.left hok g4_111
    refine z_tableIn (off := 98) (tgt := 102) hx hb dX6_obey_4 (by rw [g4_111]; decide) (by rw [g4_111]; decide) (by rw [g4_111]; rfl) (by decide) ?_
    refine z_aload_n (j := 0) hx hb dX6_obey_102 rfl rfl ?_
    refine z_aload_n (j := 0) hx hb dX6_obey_103 rfl rfl ?_
    refine z_get (v := .ref (ad 1)) S hK inX6 4 (fun _ => rfl) rfl 0 (by decide) q2_40 rfl rfl dX6_obey_104 ?_
    refine z_aload_n (j := 1) hx hb dX6_obey_107 rfl rfl ?_
    have h108 := And.left hok
    have hok := And.right hok
    refine z_getW (v := .int (gA q 35 w1)) S hK h108 inX9 5 (by decide) q4_45 rfl rfl dX6_obey_108 ?_
    refine z_aload_n (j := 0) hx hb dX6_obey_111 rfl rfl ?_
    refine z_aload_n (j := 1) hx hb dX6_obey_112 rfl rfl ?_
    have h113 := And.left hok
    have hok := And.right hok
    refine z_getW (v := .int (gA q 36 w1)) S hK h113 inX9 6 (by decide) q4_49 rfl rfl dX6_obey_113 ?_
    have h116 := And.left hok
    have hok := And.right hok
    refine z_callVi (As := [.int (gA q 36 w1)]) S (ctX6_testedBits l hl D kc ad wad q (gA q 36 w1) h116) (cwV 1 S.2.2.2.2 (gV q5_179 q5_181 qp2_1 q1_6 q5_182) rfl rfl rfl hX6_testedBits ⟨Nat.le_of_ble_eq_true rfl, Nat.le_of_ble_eq_true rfl⟩) hA (pbX D kc) (psX hK hE) (z_recv hK 4 (fun _ => rfl) rfl) rfl rfl (Nat.le_of_ble_eq_true rfl) dX6_obey_116 ⟨Nat.le_of_ble_eq_true rfl, Nat.le_of_ble_eq_true rfl⟩ ?_
    refine z_sub [] rfl ?_
    exact b119 (fX6_testedBits q (gA q 36 w1)).2 (fX6_testedBits q (gA q 36 w1)).1 (gA q 35 w1) hok hF
  have hF := hF.trans (if_neg g4_111)
  have hok := And.right hok g4_111
  by_cases g4_112 : (gA q 34 w1) = 112
  · have hF := hF.trans (if_pos g4_112)
    have hok := And.left hok g4_112
    refine z_tableIn (off := 206) (tgt := 210) hx hb dX6_obey_4 (by rw [g4_112]; decide) (by rw [g4_112]; decide) (by rw [g4_112]; rfl) (by decide) ?_
    refine z_aload_n (j := 0) hx hb dX6_obey_210 rfl rfl ?_
    refine z_get (v := .ref (ad 8)) S hK inX6 4 (fun _ => rfl) rfl 5 (by decide) q2_46 rfl rfl dX6_obey_211 ?_
    refine z_iconst (v := 1) hx hb dX6_obey_214 (by decide) ?_
    refine z_aload_n (j := 0) hx hb dX6_obey_215 rfl rfl ?_
    refine z_get (v := .ref (ad 8)) S hK inX6 4 (fun _ => rfl) rfl 5 (by decide) q2_46 rfl rfl dX6_obey_216 ?_
    refine z_get (v := .int (gI q 905)) S hK inX3 8 (fun _ => rfl) rfl 5 (by decide) q1_210 rfl rfl dX6_obey_219 ?_
    refine z_isub hx hb dX6_obey_222 ?_
    refine z_put (v := .int (1 - (gI q 905))) (q' := (sI q 905 (1 - (gI q 905)))) S hK inX3 tyX3 tyX3_ok nmX3 8 (fun _ => rfl) rfl 5 (by decide) q1_210 rfl rfl rfl rfl (Nat.le_of_ble_eq_true rfl) dX6_obey_223 (wXp905 kc ad wad _ _) (fun _ h => h) ?_
    refine z_aload_n (j := 0) hx hb dX6_obey_226 rfl rfl ?_
    refine z_aload_n (j := 0) hx hb dX6_obey_227 rfl rfl ?_
    refine z_get (v := .ref (ad 1)) S hK inX6 4 (fun _ => rfl) rfl 0 (by decide) q2_40 rfl rfl dX6_obey_228 ?_
    refine z_iconst (v := 0) hx hb dX6_obey_231 (by decide) ?_
    have h232 := And.left hok
    have hok := And.right hok
    refine z_callVi (As := [.int 0]) S (ctX7_followed l hl D kc ad wad (sI q 905 (1 - (gI q 905))) 0 h232) (cwV 1 S.2.2.2.2 (gV q5_175 q5_176 q5_177 q1_2 q5_178) rfl rfl rfl hX7_followed ⟨Nat.le_of_ble_eq_true rfl, Nat.le_of_ble_eq_true rfl⟩) hA (pbX D kc) (psX hK hE) (z_recv hK 1 (fun _ => rfl) rfl) rfl rfl (Nat.le_of_ble_eq_true rfl) dX6_obey_232 ⟨Nat.le_of_ble_eq_true rfl, Nat.le_of_ble_eq_true rfl⟩ ?_
    refine z_sub [] rfl ?_
    exact b235 (fX7_followed (sI q 905 (1 - (gI q 905))) 0).2 (fX7_followed (sI q 905 (1 - (gI q 905))) 0).1 hok hF
  have hF := hF.trans (if_neg g4_112)
  have hok := And.right hok g4_112
  by_cases g4_113 : (gA q 34 w1) = 113
  · have hF := hF.trans (if_pos g4_113)
    have hok := And.left hok g4_113
    refine z_tableIn (off := 237) (tgt := 241) hx hb dX6_obey_4 (by rw [g4_113]; decide) (by rw [g4_113]; decide) (by rw [g4_113]; rfl) (by decide) ?_
    refine z_aload_n (j := 0) hx hb dX6_obey_241 rfl rfl ?_
    have h242 := And.left hok
    have hok := And.right hok
    refine z_callVv (As := []) S (ctX6_takeBack l hl D kc ad wad q h242) (cwV 0 S.2.2.2.2 (gV q5_29 q2_172 q2_173 q1_6 q2_174) rfl rfl rfl hX6_takeBack ⟨Nat.le_of_ble_eq_true rfl, Nat.le_of_ble_eq_true rfl⟩) hA (pbX D kc) (psX hK hE) (z_recv hK 4 (fun _ => rfl) rfl) rfl rfl (Nat.le_of_ble_eq_true rfl) dX6_obey_242 ⟨Nat.le_of_ble_eq_true rfl, Nat.le_of_ble_eq_true rfl⟩ ?_
    refine z_sub [0] rfl ?_
    exact b245 (fX6_takeBack q) hok hF
  have hF := hF.trans (if_neg g4_113)
  have hok := And.right hok g4_113
  by_cases g4_114 : (gA q 34 w1) = 114
  · have hF := hF.trans (if_pos g4_114)
    have hok := And.left hok g4_114
    refine z_tableIn (off := 153) (tgt := 157) hx hb dX6_obey_4 (by rw [g4_114]; decide) (by rw [g4_114]; decide) (by rw [g4_114]; rfl) (by decide) ?_
    refine z_aload_n (j := 0) hx hb dX6_obey_157 rfl rfl ?_
    refine z_aload_n (j := 0) hx hb dX6_obey_158 rfl rfl ?_
    refine z_get (v := .ref (ad 1)) S hK inX6 4 (fun _ => rfl) rfl 0 (by decide) q2_40 rfl rfl dX6_obey_159 ?_
    refine z_aload_n (j := 0) hx hb dX6_obey_162 rfl rfl ?_
    have h163 := And.left hok
    have hok := And.right hok
    refine z_callVi (As := []) S (ctX6_takeReturn l hl D kc ad wad q h163) (cwV 0 S.2.2.2.2 (gV q5_187 q5_189 qp2_3 q1_6 q5_190) rfl rfl rfl hX6_takeReturn ⟨Nat.le_of_ble_eq_true rfl, Nat.le_of_ble_eq_true rfl⟩) hA (pbX D kc) (psX hK hE) (z_recv hK 4 (fun _ => rfl) rfl) rfl rfl (Nat.le_of_ble_eq_true rfl) dX6_obey_163 ⟨Nat.le_of_ble_eq_true rfl, Nat.le_of_ble_eq_true rfl⟩ ?_
    refine z_sub [] rfl ?_
    exact b166 (fX6_takeReturn q).2 (fX6_takeReturn q).1 hok hF
  have hF := hF.trans (if_neg g4_114)
  have hok := And.right hok g4_114
  by_cases g4_101 : (gA q 34 w1) = 101
  · refine z_tableIn (off := 248) (tgt := 252) hx hb dX6_obey_4 (by rw [g4_101]; decide) (by rw [g4_101]; decide) (by rw [g4_101]; rfl) (by decide) ?_
    refine z_sub [] rfl ?_
    exact b252 q hok hF
  by_cases g4_102 : (gA q 34 w1) = 102
  · refine z_tableIn (off := 248) (tgt := 252) hx hb dX6_obey_4 (by rw [g4_102]; decide) (by rw [g4_102]; decide) (by rw [g4_102]; rfl) (by decide) ?_
    refine z_sub [] rfl ?_
    exact b252 q hok hF
  by_cases g4_103 : (gA q 34 w1) = 103
  · refine z_tableIn (off := 248) (tgt := 252) hx hb dX6_obey_4 (by rw [g4_103]; decide) (by rw [g4_103]; decide) (by rw [g4_103]; rfl) (by decide) ?_
    refine z_sub [] rfl ?_
    exact b252 q hok hF
  by_cases g4_104 : (gA q 34 w1) = 104
  · refine z_tableIn (off := 248) (tgt := 252) hx hb dX6_obey_4 (by rw [g4_104]; decide) (by rw [g4_104]; decide) (by rw [g4_104]; rfl) (by decide) ?_
    refine z_sub [] rfl ?_
    exact b252 q hok hF
  by_cases g4_105 : (gA q 34 w1) = 105
  · refine z_tableIn (off := 248) (tgt := 252) hx hb dX6_obey_4 (by rw [g4_105]; decide) (by rw [g4_105]; decide) (by rw [g4_105]; rfl) (by decide) ?_
    refine z_sub [] rfl ?_
    exact b252 q hok hF
  by_cases g4_106 : (gA q 34 w1) = 106
  · refine z_tableIn (off := 248) (tgt := 252) hx hb dX6_obey_4 (by rw [g4_106]; decide) (by rw [g4_106]; decide) (by rw [g4_106]; rfl) (by decide) ?_
    refine z_sub [] rfl ?_
    exact b252 q hok hF
  by_cases g4_107 : (gA q 34 w1) = 107
  · refine z_tableIn (off := 248) (tgt := 252) hx hb dX6_obey_4 (by rw [g4_107]; decide) (by rw [g4_107]; decide) (by rw [g4_107]; rfl) (by decide) ?_
    refine z_sub [] rfl ?_
    exact b252 q hok hF
  by_cases g4_108 : (gA q 34 w1) = 108
  · refine z_tableIn (off := 248) (tgt := 252) hx hb dX6_obey_4 (by rw [g4_108]; decide) (by rw [g4_108]; decide) (by rw [g4_108]; rfl) (by decide) ?_
    refine z_sub [] rfl ?_
    exact b252 q hok hF
  by_cases g4_109 : (gA q 34 w1) = 109
  · refine z_tableIn (off := 248) (tgt := 252) hx hb dX6_obey_4 (by rw [g4_109]; decide) (by rw [g4_109]; decide) (by rw [g4_109]; rfl) (by decide) ?_
    refine z_sub [] rfl ?_
    exact b252 q hok hF
  have hsw : ((gA q 34 w1) : Int32).toInt < 99 ∨ 114 < ((gA q 34 w1) : Int32).toInt := by
    have n0 := (lv_neT g4_99 (by decide) : ¬ _ = (99 : Int))
    have n1 := (lv_neT g4_100 (by decide) : ¬ _ = (100 : Int))
    have n2 := (lv_neT g4_101 (by decide) : ¬ _ = (101 : Int))
    have n3 := (lv_neT g4_102 (by decide) : ¬ _ = (102 : Int))
    have n4 := (lv_neT g4_103 (by decide) : ¬ _ = (103 : Int))
    have n5 := (lv_neT g4_104 (by decide) : ¬ _ = (104 : Int))
    have n6 := (lv_neT g4_105 (by decide) : ¬ _ = (105 : Int))
    have n7 := (lv_neT g4_106 (by decide) : ¬ _ = (106 : Int))
    have n8 := (lv_neT g4_107 (by decide) : ¬ _ = (107 : Int))
    have n9 := (lv_neT g4_108 (by decide) : ¬ _ = (108 : Int))
    have n10 := (lv_neT g4_109 (by decide) : ¬ _ = (109 : Int))
    have n11 := (lv_neT g4_110 (by decide) : ¬ _ = (110 : Int))
    have n12 := (lv_neT g4_111 (by decide) : ¬ _ = (111 : Int))
    have n13 := (lv_neT g4_112 (by decide) : ¬ _ = (112 : Int))
    have n14 := (lv_neT g4_113 (by decide) : ¬ _ = (113 : Int))
    have n15 := (lv_neT g4_114 (by decide) : ¬ _ = (114 : Int))
    omega
  refine z_tableOut (tgt := 252) hx hb dX6_obey_4 hsw (by decide) ?_
  refine z_sub [] rfl ?_
  exact b252 q hok hF
theorem hX6_obey : yX6_obey.cls = RX6 ∧ yX6_obey.cls ≠ "java/lang/invoke/MethodHandle" ∧ yX6_obey.cls ≠ "java/lang/invoke/VarHandle" ∧ (parseMethodDescriptor yX6_obey.desc).map (fun d => d.parameters.length) = some 1 := by decide +kernel
def fX6_advance_31 (q : SS) : Int32 × SS := (0, (sI q 512 108))
def kX6_advance_31 (q : SS) : Prop := True
def fX6_advance_202 (q : SS) : Int32 × SS := (1, q)
def kX6_advance_202 (q : SS) : Prop := True
def fX6_advance_194 (q : SS) : Int32 × SS := fX6_advance_202 q
def kX6_advance_194 (q : SS) : Prop := kX6_advance_202 q
def fX6_advance_190 (q : SS) : Int32 × SS := fX6_advance_194 (fX6_endInstruction q)
def kX6_advance_190 (q : SS) : Prop := kX6_endInstruction q ∧ kX6_advance_194 (fX6_endInstruction q)
def fX6_advance_178 (q : SS) (w1 : Nat) (v3 : Int32) (s0 : Int32) : Int32 × SS := (if s0 < 0 then fX6_advance_202 (fX6_obey q w1) else fX6_advance_190 (fX6_changeAtEnd q (gA q 34 w1) v3))
def kX6_advance_178 (q : SS) (w1 : Nat) (v3 : Int32) (s0 : Int32) : Prop := ((s0 < 0 → kX6_obey q w1 ∧ kX6_advance_202 (fX6_obey q w1)) ∧ (¬ s0 < 0 → isW q w1 ∧ kX6_changeAtEnd q (gA q 34 w1) v3 ∧ kX6_advance_190 (fX6_changeAtEnd q (gA q 34 w1) v3)))
def fX6_advance_169 (q : SS) (w1 : Nat) (v3 : Int32) : Int32 × SS := fX6_advance_178 (fJ0_indexOf_0f7a4_t1 q (gA q 34 w1)).2 w1 v3 (fJ0_indexOf_0f7a4_t1 q (gA q 34 w1)).1
def kX6_advance_169 (q : SS) (w1 : Nat) (v3 : Int32) : Prop := isW q w1 ∧ kJ0_indexOf_0f7a4_t1 q (gA q 34 w1) ∧ kX6_advance_178 (fJ0_indexOf_0f7a4_t1 q (gA q 34 w1)).2 w1 v3 (fJ0_indexOf_0f7a4_t1 q (gA q 34 w1)).1
def fX6_advance_161 (q : SS) (w1 : Nat) (v3 : Int32) : Int32 × SS := fX6_advance_169 (fX6_reachMemory q (gA q 33 w1)) w1 v3
def kX6_advance_161 (q : SS) (w1 : Nat) (v3 : Int32) : Prop := isW q w1 ∧ kX6_reachMemory q (gA q 33 w1) ∧ kX6_advance_169 (fX6_reachMemory q (gA q 33 w1)) w1 v3
def fX6_advance_159 (q : SS) : Int32 × SS := (1, q)
def kX6_advance_159 (q : SS) : Prop := True
def fX6_advance_152 (q : SS) (w1 : Nat) (v3 : Int32) (s0 : Int32) : Int32 × SS := (if s0 = 0 then fX6_advance_161 q w1 v3 else fX6_advance_159 (fX6_fault q))
def kX6_advance_152 (q : SS) (w1 : Nat) (v3 : Int32) (s0 : Int32) : Prop := ((s0 = 0 → kX6_advance_161 q w1 v3) ∧ (¬ s0 = 0 → kX6_fault q ∧ kX6_advance_159 (fX6_fault q)))
def fX6_advance_127 (q : SS) (w1 : Nat) (v3 : Int32) (s0 : Int64) (s1 : Int64) : Int32 × SS := (if (gA (sL q 408 (s1 + s0)) 33 w1) = 0 then fX6_advance_161 (sL q 408 (s1 + s0)) w1 v3 else fX6_advance_152 (fX5_isAbsentAt (sL q 408 (s1 + s0)) (gI q 902)).2 w1 v3 (fX5_isAbsentAt (sL q 408 (s1 + s0)) (gI q 902)).1)
def kX6_advance_127 (q : SS) (w1 : Nat) (v3 : Int32) (s0 : Int64) (s1 : Int64) : Prop := isW (sL q 408 (s1 + s0)) w1 ∧ (((gA (sL q 408 (s1 + s0)) 33 w1) = 0 → kX6_advance_161 (sL q 408 (s1 + s0)) w1 v3) ∧ (¬ (gA (sL q 408 (s1 + s0)) 33 w1) = 0 → kX5_isAbsentAt (sL q 408 (s1 + s0)) (gI q 902) ∧ kX6_advance_152 (fX5_isAbsentAt (sL q 408 (s1 + s0)) (gI q 902)).2 w1 v3 (fX5_isAbsentAt (sL q 408 (s1 + s0)) (gI q 902)).1))
def fX6_advance_101 (q : SS) (w1 : Nat) (v3 : Int32) : Int32 × SS := (if (gA q 33 w1) = 0 then fX6_advance_127 q w1 v3 1 (gL q 408) else fX6_advance_127 q w1 v3 (((1 + (gI q 516)) : Int32).toInt64) (gL q 408))
def kX6_advance_101 (q : SS) (w1 : Nat) (v3 : Int32) : Prop := isW q w1 ∧ (((gA q 33 w1) = 0 → kX6_advance_127 q w1 v3 1 (gL q 408)) ∧ (¬ (gA q 33 w1) = 0 → kX6_advance_127 q w1 v3 (((1 + (gI q 516)) : Int32).toInt64) (gL q 408)))
def fX6_advance_92 (q : SS) (w1 : Nat) (v3 : Int32) : Int32 × SS := fX6_advance_101 (fX6_takeResult q (gA q 32 w1) v3) w1 v3
def kX6_advance_92 (q : SS) (w1 : Nat) (v3 : Int32) : Prop := isW q w1 ∧ kX6_takeResult q (gA q 32 w1) v3 ∧ kX6_advance_101 (fX6_takeResult q (gA q 32 w1) v3) w1 v3
def fX6_advance_65 (q : SS) (w1 : Nat) (v2 : Int32) (s0 : Int32) : Int32 × SS := (if (gA q 37 w1) = 0 then fX6_advance_92 q w1 s0 else fX6_advance_92 (fX4_tell q (gA q 31 w1) (gI q 900) v2) w1 s0)
def kX6_advance_65 (q : SS) (w1 : Nat) (v2 : Int32) (s0 : Int32) : Prop := isW q w1 ∧ (((gA q 37 w1) = 0 → kX6_advance_92 q w1 s0) ∧ (¬ (gA q 37 w1) = 0 → isW q w1 ∧ kX4_tell q (gA q 31 w1) (gI q 900) v2 ∧ kX6_advance_92 (fX4_tell q (gA q 31 w1) (gI q 900) v2) w1 s0))
def fX6_advance_49 (q : SS) (w1 : Nat) (s0 : Int32) : Int32 × SS := fX6_advance_65 (fX10_resultOf q (gA q 31 w1) (gI q 900) s0).2 w1 s0 (fX10_resultOf q (gA q 31 w1) (gI q 900) s0).1
def kX6_advance_49 (q : SS) (w1 : Nat) (s0 : Int32) : Prop := isW q w1 ∧ kX10_resultOf q (gA q 31 w1) (gI q 900) s0 ∧ kX6_advance_65 (fX10_resultOf q (gA q 31 w1) (gI q 900) s0).2 w1 s0 (fX10_resultOf q (gA q 31 w1) (gI q 900) s0).1
def fX6_advance (q : SS) : Int32 × SS := (if (gI q 512) = 114 then (oc (fX7_wordAt q (gI q 510)).1 (fX6_advance_31 (fX6_takeBack (fX7_wordAt q (gI q 510)).2)) (fun w19 => fX6_advance_49 (fX6_driveBus (sI (fX7_wordAt q (gI q 510)).2 511 1) w19).2 w19 (fX6_driveBus (sI (fX7_wordAt q (gI q 510)).2 511 1) w19).1)) else (0, q))
def kX6_advance (q : SS) : Prop := (((gI q 512) = 114 → kX7_wordAt q (gI q 510) ∧ (((fX7_wordAt q (gI q 510)).1 = none → kX6_takeBack (fX7_wordAt q (gI q 510)).2 ∧ kX6_advance_31 (fX6_takeBack (fX7_wordAt q (gI q 510)).2)) ∧ (∀ w19, (fX7_wordAt q (gI q 510)).1 = some w19 → kX6_driveBus (sI (fX7_wordAt q (gI q 510)).2 511 1) w19 ∧ kX6_advance_49 (fX6_driveBus (sI (fX7_wordAt q (gI q 510)).2 511 1) w19).2 w19 (fX6_driveBus (sI (fX7_wordAt q (gI q 510)).2 511 1) w19).1))) ∧ (¬ (gI q 512) = 114 → True))
set_option maxHeartbeats 4000000 in
set_option maxRecDepth 100000 in
theorem ctX6_advance (l : Launch) (hl : l.stackTraces = false) (D : va_G) (kc : Nat → ClassId) (ad wad : Nat → Nat) (q : SS) (hok : kX6_advance q) : Ci l yX6_advance (Cond.code yX6_advance cX6_advance 4 (some .boolean) :: lw_G) (zr 5 0 0) 0 0 (PX D kc) (GX D kc ad wad) (GX D kc ad wad) [.ref (ad 4)] q (fX6_advance q) := by
  refine Ci.of (cc := cX6_advance) (maxL := 4) (ret := (some .boolean)) (by decide) rfl (Nat.le_of_ble_eq_true rfl) ?_
  intro p e s m args below meth c A S hr hlocks hin hA hK
  have hx := S.1
  have hb := S.2.1
  have hE : EV A s s.heap := hK.2
  have hK : va_K D vwCl (tysK kc) s := hK.1
  obtain ⟨⟨adK, adV, hS4, hr0, hr1, hr2, hr3⟩, -⟩ := id hE
  generalize hFe : fX6_advance q = F
  have hF : F = fX6_advance q := hFe.symm
  have b31 : ∀ (q : SS), kX6_advance_31 q → F = fX6_advance_31 q → Z p l e (zr 5 0 0) s m args below meth c 0 0 (MQ below (va_Qi (fun (x : Int32) (_ : Unit) => x = F.1) (fun _ t => (GX D kc ad wad) A F.2 t.heap) A) args s 0 0 A) 4 A (ZG D vwCl (wX kc ad wad) (PLX wad) A) q 31 [(0, .ref (ad 4))] [] := by
    intro q hok hF
    refine z_aload_n (j := 0) hx hb dX6_advance_31 rfl rfl ?_
    refine z_bipush (v := 108) hx hb dX6_advance_32 (by decide) ?_
    refine z_put (v := .int 108) (q' := (sI q 512 108)) S hK inX6 tyX6 tyX6_ok nmX6 4 (fun _ => rfl) rfl 12 (by decide) q2_56 rfl rfl rfl rfl (Nat.le_of_ble_eq_true rfl) dX6_advance_34 (wXp512 kc ad wad _ _) (fun _ h => h) ?_
    refine z_iconst (v := 0) hx hb dX6_advance_37 (by decide) ?_
    exact z_iret hx hb hlocks hr (by decide) hF dX6_advance_38
  have b202 : ∀ (q : SS), kX6_advance_202 q → F = fX6_advance_202 q → Z p l e (zr 5 0 0) s m args below meth c 0 0 (MQ below (va_Qi (fun (x : Int32) (_ : Unit) => x = F.1) (fun _ t => (GX D kc ad wad) A F.2 t.heap) A) args s 0 0 A) 4 A (ZG D vwCl (wX kc ad wad) (PLX wad) A) q 202 [] [] := by
    intro q hok hF
    refine z_iconst (v := 1) hx hb dX6_advance_202 (by decide) ?_
    exact z_iret hx hb hlocks hr (by decide) hF dX6_advance_203
  have b194 : ∀ (q : SS), kX6_advance_194 q → F = fX6_advance_194 q → Z p l e (zr 5 0 0) s m args below meth c 0 0 (MQ below (va_Qi (fun (x : Int32) (_ : Unit) => x = F.1) (fun _ t => (GX D kc ad wad) A F.2 t.heap) A) args s 0 0 A) 4 A (ZG D vwCl (wX kc ad wad) (PLX wad) A) q 194 [] [] := by
    intro q hok hF
    refine z_goto (tgt := 202) hx hb dX6_advance_194 (by decide) ?_
    exact b202 q hok hF
  have b190 : ∀ (q : SS), kX6_advance_190 q → F = fX6_advance_190 q → Z p l e (zr 5 0 0) s m args below meth c 0 0 (MQ below (va_Qi (fun (x : Int32) (_ : Unit) => x = F.1) (fun _ t => (GX D kc ad wad) A F.2 t.heap) A) args s 0 0 A) 4 A (ZG D vwCl (wX kc ad wad) (PLX wad) A) q 190 [(0, .ref (ad 4))] [] := by
    intro q hok hF
    refine z_aload_n (j := 0) hx hb dX6_advance_190 rfl rfl ?_
    have h191 := And.left hok
    have hok := And.right hok
    refine z_callVv (As := []) S (ctX6_endInstruction l hl D kc ad wad q h191) (cwV 0 S.2.2.2.2 (gV q5_98 q5_100 qp1_10 q1_6 q5_101) rfl rfl rfl hX6_endInstruction ⟨Nat.le_of_ble_eq_true rfl, Nat.le_of_ble_eq_true rfl⟩) hA (pbX D kc) (psX hK hE) (z_recv hK 4 (fun _ => rfl) rfl) rfl rfl (Nat.le_of_ble_eq_true rfl) dX6_advance_191 ⟨Nat.le_of_ble_eq_true rfl, Nat.le_of_ble_eq_true rfl⟩ ?_
    refine z_sub [] rfl ?_
    exact b194 (fX6_endInstruction q) hok hF
  have b178 : ∀ (q : SS) (w1 : Nat) (v3 : Int32) (s0 : Int32), kX6_advance_178 q w1 v3 s0 → F = fX6_advance_178 q w1 v3 s0 → Z p l e (zr 5 0 0) s m args below meth c 0 0 (MQ below (va_Qi (fun (x : Int32) (_ : Unit) => x = F.1) (fun _ t => (GX D kc ad wad) A F.2 t.heap) A) args s 0 0 A) 4 A (ZG D vwCl (wX kc ad wad) (PLX wad) A) q 178 [(0, .ref (ad 4)), (1, .ref (wad w1)), (3, .int v3)] [.int s0] := by
    intro q w1 v3 s0 hok hF
    refine z_if_lt (tgt := 197) hx hb dX6_advance_178 (by decide) (fun g178 => ?_) (fun g178 => ?_)
    · have hF := hF.trans (if_pos g178)
      have hok := And.left hok g178
      refine z_aload_n (j := 0) hx hb dX6_advance_197 rfl rfl ?_
      refine z_aload_n (j := 1) hx hb dX6_advance_198 rfl rfl ?_
      have h199 := And.left hok
      have hok := And.right hok
      refine z_callVv (As := [.ref (wad w1)]) S (ctX6_obey l hl D kc ad wad q w1 h199) (cwV 1 S.2.2.2.2 (gV q5_171 q5_173 qp2_0 q1_6 q5_174) rfl rfl rfl hX6_obey ⟨Nat.le_of_ble_eq_true rfl, Nat.le_of_ble_eq_true rfl⟩) hA (pbX D kc) (psX hK hE) (z_recv hK 4 (fun _ => rfl) rfl) rfl rfl (Nat.le_of_ble_eq_true rfl) dX6_advance_199 ⟨Nat.le_of_ble_eq_true rfl, Nat.le_of_ble_eq_true rfl⟩ ?_
      refine z_sub [] rfl ?_
      exact b202 (fX6_obey q w1) hok hF
    · have hF := hF.trans (if_neg g178)
      have hok := And.right hok g178
      refine z_aload_n (j := 0) hx hb dX6_advance_181 rfl rfl ?_
      refine z_aload_n (j := 1) hx hb dX6_advance_182 rfl rfl ?_
      have h183 := And.left hok
      have hok := And.right hok
      refine z_getW (v := .int (gA q 34 w1)) S hK h183 inX9 4 (by decide) q4_41 rfl rfl dX6_advance_183 ?_
      refine z_iload_n (j := 2) hx hb dX6_advance_186 rfl rfl ?_
      have h187 := And.left hok
      have hok := And.right hok
      refine z_callVv (As := [.int (gA q 34 w1), .int v3]) S (ctX6_changeAtEnd l hl D kc ad wad q (gA q 34 w1) v3 h187) (cwV 2 S.2.2.2.2 (gV q5_94 q5_96 qp1_9 q1_6 q5_97) rfl rfl rfl hX6_changeAtEnd ⟨Nat.le_of_ble_eq_true rfl, Nat.le_of_ble_eq_true rfl⟩) hA (pbX D kc) (psX hK hE) (z_recv hK 4 (fun _ => rfl) rfl) rfl rfl (Nat.le_of_ble_eq_true rfl) dX6_advance_187 ⟨Nat.le_of_ble_eq_true rfl, Nat.le_of_ble_eq_true rfl⟩ ?_
      refine z_sub [0] rfl ?_
      exact b190 (fX6_changeAtEnd q (gA q 34 w1) v3) hok hF
  have b169 : ∀ (q : SS) (w1 : Nat) (v3 : Int32), kX6_advance_169 q w1 v3 → F = fX6_advance_169 q w1 v3 → Z p l e (zr 5 0 0) s m args below meth c 0 0 (MQ below (va_Qi (fun (x : Int32) (_ : Unit) => x = F.1) (fun _ t => (GX D kc ad wad) A F.2 t.heap) A) args s 0 0 A) 4 A (ZG D vwCl (wX kc ad wad) (PLX wad) A) q 169 [(0, .ref (ad 4)), (1, .ref (wad w1)), (3, .int v3)] [] := by
    intro q w1 v3 hok hF
    refine z_ldcS hx hb S.2.2.2.1 hr1 dX6_advance_169 ?_
    refine z_aload_n (j := 1) hx hb dX6_advance_171 rfl rfl ?_
    have h172 := And.left hok
    have hok := And.right hok
    refine z_getW (v := .int (gA q 34 w1)) S hK h172 inX9 4 (by decide) q4_41 rfl rfl dX6_advance_172 ?_
    have h175 := And.left hok
    have hok := And.right hok
    refine z_callVi_ (As := [.int (gA q 34 w1)]) S (ctJ0_indexOf_0f7a4_t1 l (GX D kc ad wad) (adK 1) (adV 1) q (gA q 34 w1) h175) (cwV 1 S.2.2.2.2 (gV q5_93 q3_152 q3_153 q1_18 q3_154) rfl rfl rfl hJ0_indexOf_0f7a4 ⟨Nat.le_of_ble_eq_true rfl, Nat.le_of_ble_eq_true rfl⟩) hA (pbJ (adK 1) (adV 1) 1) (psJ (PJ.of hS4 (by decide) hE.2.2.1)) (rvJ (hS4.1 1 (by decide)).1) rfl rfl (Nat.le_of_ble_eq_true rfl) dX6_advance_175 ⟨Nat.le_of_ble_eq_true rfl, Nat.le_of_ble_eq_true rfl⟩ ?_
    exact b178 (fJ0_indexOf_0f7a4_t1 q (gA q 34 w1)).2 w1 v3 (fJ0_indexOf_0f7a4_t1 q (gA q 34 w1)).1 hok hF
  have b161 : ∀ (q : SS) (w1 : Nat) (v3 : Int32), kX6_advance_161 q w1 v3 → F = fX6_advance_161 q w1 v3 → Z p l e (zr 5 0 0) s m args below meth c 0 0 (MQ below (va_Qi (fun (x : Int32) (_ : Unit) => x = F.1) (fun _ t => (GX D kc ad wad) A F.2 t.heap) A) args s 0 0 A) 4 A (ZG D vwCl (wX kc ad wad) (PLX wad) A) q 161 [(0, .ref (ad 4)), (1, .ref (wad w1)), (3, .int v3)] [] := by
    intro q w1 v3 hok hF
    refine z_aload_n (j := 0) hx hb dX6_advance_161 rfl rfl ?_
    refine z_aload_n (j := 1) hx hb dX6_advance_162 rfl rfl ?_
    have h163 := And.left hok
    have hok := And.right hok
    refine z_getW (v := .int (gA q 33 w1)) S hK h163 inX9 3 (by decide) q4_37 rfl rfl dX6_advance_163 ?_
    have h166 := And.left hok
    have hok := And.right hok
    refine z_callVv (As := [.int (gA q 33 w1)]) S (ctX6_reachMemory l hl D kc ad wad q (gA q 33 w1) h166) (cwV 1 S.2.2.2.2 (gV q5_80 q5_82 qp1_8 q1_6 q5_83) rfl rfl rfl hX6_reachMemory ⟨Nat.le_of_ble_eq_true rfl, Nat.le_of_ble_eq_true rfl⟩) hA (pbX D kc) (psX hK hE) (z_recv hK 4 (fun _ => rfl) rfl) rfl rfl (Nat.le_of_ble_eq_true rfl) dX6_advance_166 ⟨Nat.le_of_ble_eq_true rfl, Nat.le_of_ble_eq_true rfl⟩ ?_
    exact b169 (fX6_reachMemory q (gA q 33 w1)) w1 v3 hok hF
  have b159 : ∀ (q : SS), kX6_advance_159 q → F = fX6_advance_159 q → Z p l e (zr 5 0 0) s m args below meth c 0 0 (MQ below (va_Qi (fun (x : Int32) (_ : Unit) => x = F.1) (fun _ t => (GX D kc ad wad) A F.2 t.heap) A) args s 0 0 A) 4 A (ZG D vwCl (wX kc ad wad) (PLX wad) A) q 159 [] [] := by
    intro q hok hF
    refine z_iconst (v := 1) hx hb dX6_advance_159 (by decide) ?_
    exact z_iret hx hb hlocks hr (by decide) hF dX6_advance_160
  have b152 : ∀ (q : SS) (w1 : Nat) (v3 : Int32) (s0 : Int32), kX6_advance_152 q w1 v3 s0 → F = fX6_advance_152 q w1 v3 s0 → Z p l e (zr 5 0 0) s m args below meth c 0 0 (MQ below (va_Qi (fun (x : Int32) (_ : Unit) => x = F.1) (fun _ t => (GX D kc ad wad) A F.2 t.heap) A) args s 0 0 A) 4 A (ZG D vwCl (wX kc ad wad) (PLX wad) A) q 152 [(0, .ref (ad 4)), (1, .ref (wad w1)), (3, .int v3)] [.int s0] := by
    intro q w1 v3 s0 hok hF
    refine z_if_eq (tgt := 161) hx hb dX6_advance_152 (by decide) (fun g152 => ?_) (fun g152 => ?_)
    · have hF := hF.trans (if_pos g152)
      have hok := And.left hok g152
      exact b161 q w1 v3 hok hF
    · have hF := hF.trans (if_neg g152)
      have hok := And.right hok g152
      refine z_aload_n (j := 0) hx hb dX6_advance_155 rfl rfl ?_
      have h156 := And.left hok
      have hok := And.right hok
      refine z_callVv (As := []) S (ctX6_fault l hl D kc ad wad q h156) (cwV 0 S.2.2.2.2 (gV q5_75 q5_77 qp1_7 q1_6 q5_78) rfl rfl rfl hX6_fault ⟨Nat.le_of_ble_eq_true rfl, Nat.le_of_ble_eq_true rfl⟩) hA (pbX D kc) (psX hK hE) (z_recv hK 4 (fun _ => rfl) rfl) rfl rfl (Nat.le_of_ble_eq_true rfl) dX6_advance_156 ⟨Nat.le_of_ble_eq_true rfl, Nat.le_of_ble_eq_true rfl⟩ ?_
      refine z_sub [] rfl ?_
      exact b159 (fX6_fault q) hok hF
  have b127 : ∀ (q : SS) (w1 : Nat) (v3 : Int32) (s0 : Int64) (s1 : Int64), kX6_advance_127 q w1 v3 s0 s1 → F = fX6_advance_127 q w1 v3 s0 s1 → Z p l e (zr 5 0 0) s m args below meth c 0 0 (MQ below (va_Qi (fun (x : Int32) (_ : Unit) => x = F.1) (fun _ t => (GX D kc ad wad) A F.2 t.heap) A) args s 0 0 A) 4 A (ZG D vwCl (wX kc ad wad) (PLX wad) A) q 127 [(0, .ref (ad 4)), (1, .ref (wad w1)), (3, .int v3)] [.long s0, .long s1, .ref (ad 3)] := by
    intro q w1 v3 s0 s1 hok hF
    refine z_ladd hx hb dX6_advance_127 ?_
    refine z_put (v := .long (s1 + s0)) (q' := (sL q 408 (s1 + s0))) S hK inX1 tyX1 tyX1_ok nmX1 3 (fun _ => rfl) rfl 8 (by decide) q1_122 rfl rfl rfl rfl (Nat.le_of_ble_eq_true rfl) dX6_advance_128 (wXp408 kc ad wad _ _) (fun _ h => h) ?_
    refine z_aload_n (j := 1) hx hb dX6_advance_131 rfl rfl ?_
    have h132 := And.left hok
    have hok := And.right hok
    refine z_getW (v := .int (gA (sL q 408 (s1 + s0)) 33 w1)) S hK h132 inX9 3 (by decide) q4_37 rfl rfl dX6_advance_132 ?_
    refine z_if_eq (tgt := 161) hx hb dX6_advance_135 (by decide) (fun g135 => ?_) (fun g135 => ?_)
    · have hF := hF.trans (if_pos g135)
      have hok := And.left hok g135
      exact b161 (sL q 408 (s1 + s0)) w1 v3 hok hF
    · have hF := hF.trans (if_neg g135)
      have hok := And.right hok g135
      refine z_aload_n (j := 0) hx hb dX6_advance_138 rfl rfl ?_
      refine z_get (v := .ref (ad 2)) S hK inX6 4 (fun _ => rfl) rfl 1 (by decide) q2_41 rfl rfl dX6_advance_139 ?_
      refine z_aload_n (j := 0) hx hb dX6_advance_142 rfl rfl ?_
      refine z_get (v := .ref (ad 8)) S hK inX6 4 (fun _ => rfl) rfl 5 (by decide) q2_46 rfl rfl dX6_advance_143 ?_
      refine z_get (v := .int (gI q 902)) S hK inX3 8 (fun _ => rfl) rfl 2 (by decide) q1_205 rfl rfl dX6_advance_146 ?_
      have h149 := And.left hok
      have hok := And.right hok
      refine z_callVi (As := [.int (gI q 902)]) S (ctX5_isAbsentAt l hl D kc ad wad (sL q 408 (s1 + s0)) (gI q 902) h149) (cwV 1 S.2.2.2.2 (gV q5_67 q5_68 q5_69 q1_4 q5_70) rfl rfl rfl hX5_isAbsentAt ⟨Nat.le_of_ble_eq_true rfl, Nat.le_of_ble_eq_true rfl⟩) hA (pbX D kc) (psX hK hE) (z_recv hK 2 (fun _ => rfl) rfl) rfl rfl (Nat.le_of_ble_eq_true rfl) dX6_advance_149 ⟨Nat.le_of_ble_eq_true rfl, Nat.le_of_ble_eq_true rfl⟩ ?_
      exact b152 (fX5_isAbsentAt (sL q 408 (s1 + s0)) (gI q 902)).2 w1 v3 (fX5_isAbsentAt (sL q 408 (s1 + s0)) (gI q 902)).1 hok hF
  have b101 : ∀ (q : SS) (w1 : Nat) (v3 : Int32), kX6_advance_101 q w1 v3 → F = fX6_advance_101 q w1 v3 → Z p l e (zr 5 0 0) s m args below meth c 0 0 (MQ below (va_Qi (fun (x : Int32) (_ : Unit) => x = F.1) (fun _ t => (GX D kc ad wad) A F.2 t.heap) A) args s 0 0 A) 4 A (ZG D vwCl (wX kc ad wad) (PLX wad) A) q 101 [(0, .ref (ad 4)), (1, .ref (wad w1)), (3, .int v3)] [] := by
    intro q w1 v3 hok hF
    refine z_aload_n (j := 0) hx hb dX6_advance_101 rfl rfl ?_
    refine z_get (v := .ref (ad 3)) S hK inX6 4 (fun _ => rfl) rfl 2 (by decide) q2_42 rfl rfl dX6_advance_102 ?_
    refine z_dup hx hb dX6_advance_105 rfl ?_
    refine z_get (v := .long (gL q 408)) S hK inX1 3 (fun _ => rfl) rfl 8 (by decide) q1_122 rfl rfl dX6_advance_106 ?_
    refine z_aload_n (j := 1) hx hb dX6_advance_109 rfl rfl ?_
    have h110 := And.left hok
    have hok := And.right hok
    refine z_getW (v := .int (gA q 33 w1)) S hK h110 inX9 3 (by decide) q4_37 rfl rfl dX6_advance_110 ?_
    refine z_if_ne (tgt := 120) hx hb dX6_advance_113 (by decide) (fun g113 => ?_) (fun g113 => ?_)
    · have hF := hF.trans (if_neg g113)
      have hok := And.right hok g113
      refine z_iconst (v := 1) hx hb dX6_advance_120 (by decide) ?_
      refine z_aload_n (j := 0) hx hb dX6_advance_121 rfl rfl ?_
      refine z_get (v := .int (gI q 516)) S hK inX6 4 (fun _ => rfl) rfl 16 (by decide) q2_63 rfl rfl dX6_advance_122 ?_
      refine z_iadd hx hb dX6_advance_125 ?_
      refine z_i2l hx hb dX6_advance_126 ?_
      exact b127 q w1 v3 (((1 + (gI q 516)) : Int32).toInt64) (gL q 408) hok hF
    · have hF := hF.trans (if_pos g113)
      have hok := And.left hok g113
      refine z_lconst (v := 1) hx hb dX6_advance_116 (by decide) ?_
      refine z_goto (tgt := 127) hx hb dX6_advance_117 (by decide) ?_
      exact b127 q w1 v3 1 (gL q 408) hok hF
  have b92 : ∀ (q : SS) (w1 : Nat) (v3 : Int32), kX6_advance_92 q w1 v3 → F = fX6_advance_92 q w1 v3 → Z p l e (zr 5 0 0) s m args below meth c 0 0 (MQ below (va_Qi (fun (x : Int32) (_ : Unit) => x = F.1) (fun _ t => (GX D kc ad wad) A F.2 t.heap) A) args s 0 0 A) 4 A (ZG D vwCl (wX kc ad wad) (PLX wad) A) q 92 [(0, .ref (ad 4)), (1, .ref (wad w1)), (3, .int v3)] [] := by
    intro q w1 v3 hok hF
    refine z_aload_n (j := 0) hx hb dX6_advance_92 rfl rfl ?_
    refine z_aload_n (j := 1) hx hb dX6_advance_93 rfl rfl ?_
    have h94 := And.left hok
    have hok := And.right hok
    refine z_getW (v := .int (gA q 32 w1)) S hK h94 inX9 2 (by decide) q4_34 rfl rfl dX6_advance_94 ?_
    refine z_iload_n (j := 2) hx hb dX6_advance_97 rfl rfl ?_
    have h98 := And.left hok
    have hok := And.right hok
    refine z_callVv (As := [.int (gA q 32 w1), .int v3]) S (ctX6_takeResult l hl D kc ad wad q (gA q 32 w1) v3 h98) (cwV 2 S.2.2.2.2 (gV q5_63 q5_65 qp1_6 q1_6 q5_66) rfl rfl rfl hX6_takeResult ⟨Nat.le_of_ble_eq_true rfl, Nat.le_of_ble_eq_true rfl⟩) hA (pbX D kc) (psX hK hE) (z_recv hK 4 (fun _ => rfl) rfl) rfl rfl (Nat.le_of_ble_eq_true rfl) dX6_advance_98 ⟨Nat.le_of_ble_eq_true rfl, Nat.le_of_ble_eq_true rfl⟩ ?_
    exact b101 (fX6_takeResult q (gA q 32 w1) v3) w1 v3 hok hF
  have b65 : ∀ (q : SS) (w1 : Nat) (v2 : Int32) (s0 : Int32), kX6_advance_65 q w1 v2 s0 → F = fX6_advance_65 q w1 v2 s0 → Z p l e (zr 5 0 0) s m args below meth c 0 0 (MQ below (va_Qi (fun (x : Int32) (_ : Unit) => x = F.1) (fun _ t => (GX D kc ad wad) A F.2 t.heap) A) args s 0 0 A) 4 A (ZG D vwCl (wX kc ad wad) (PLX wad) A) q 65 [(0, .ref (ad 4)), (1, .ref (wad w1)), (2, .int v2)] [.int s0] := by
    intro q w1 v2 s0 hok hF
    refine z_istore_n (lv' := [(3, .int s0), (0, .ref (ad 4)), (1, .ref (wad w1)), (2, .int v2)]) hx hb dX6_advance_65 rfl (by decide) rfl ?_
    refine z_aload_n (j := 2) hx hb dX6_advance_66 rfl rfl ?_
    have h67 := And.left hok
    have hok := And.right hok
    refine z_getW (v := .int (gA q 37 w1)) S hK h67 inX9 7 (by decide) q4_52 rfl rfl dX6_advance_67 ?_
    refine z_if_eq (tgt := 92) hx hb dX6_advance_70 (by decide) (fun g70 => ?_) (fun g70 => ?_)
    · have hF := hF.trans (if_pos g70)
      have hok := And.left hok g70
      refine z_sub [1, 2, 0] rfl ?_
      exact b92 q w1 s0 hok hF
    · have hF := hF.trans (if_neg g70)
      have hok := And.right hok g70
      refine z_aload_n (j := 1) hx hb dX6_advance_73 rfl rfl ?_
      refine z_get (v := .ref (ad 9)) S hK inX6 4 (fun _ => rfl) rfl 6 (by decide) q2_47 rfl rfl dX6_advance_74 ?_
      refine z_aload_n (j := 2) hx hb dX6_advance_77 rfl rfl ?_
      have h78 := And.left hok
      have hok := And.right hok
      refine z_getW (v := .int (gA q 31 w1)) S hK h78 inX9 1 (by decide) q4_31 rfl rfl dX6_advance_78 ?_
      refine z_aload_n (j := 1) hx hb dX6_advance_81 rfl rfl ?_
      refine z_get (v := .ref (ad 8)) S hK inX6 4 (fun _ => rfl) rfl 5 (by decide) q2_46 rfl rfl dX6_advance_82 ?_
      refine z_get (v := .int (gI q 900)) S hK inX3 8 (fun _ => rfl) rfl 0 (by decide) q1_203 rfl rfl dX6_advance_85 ?_
      refine z_iload_n (j := 3) hx hb dX6_advance_88 rfl rfl ?_
      have h89 := And.left hok
      have hok := And.right hok
      refine z_callVv (As := [.int (gA q 31 w1), .int (gI q 900), .int v2]) S (ctX4_tell l hl D kc ad wad q (gA q 31 w1) (gI q 900) v2 h89) (cwV 3 S.2.2.2.2 (gV q5_59 q5_60 q5_61 q1_9 q5_62) rfl rfl rfl hX4_tell ⟨Nat.le_of_ble_eq_true rfl, Nat.le_of_ble_eq_true rfl⟩) hA (pbX D kc) (psX hK hE) (z_recv hK 9 (fun _ => rfl) rfl) rfl rfl (Nat.le_of_ble_eq_true rfl) dX6_advance_89 ⟨Nat.le_of_ble_eq_true rfl, Nat.le_of_ble_eq_true rfl⟩ ?_
      refine z_sub [1, 2, 0] rfl ?_
      exact b92 (fX4_tell q (gA q 31 w1) (gI q 900) v2) w1 s0 hok hF
  have b49 : ∀ (q : SS) (w1 : Nat) (s0 : Int32), kX6_advance_49 q w1 s0 → F = fX6_advance_49 q w1 s0 → Z p l e (zr 5 0 0) s m args below meth c 0 0 (MQ below (va_Qi (fun (x : Int32) (_ : Unit) => x = F.1) (fun _ t => (GX D kc ad wad) A F.2 t.heap) A) args s 0 0 A) 4 A (ZG D vwCl (wX kc ad wad) (PLX wad) A) q 49 [(0, .ref (ad 4)), (1, .ref (wad w1))] [.int s0] := by
    intro q w1 s0 hok hF
    refine z_istore_n (lv' := [(2, .int s0), (0, .ref (ad 4)), (1, .ref (wad w1))]) hx hb dX6_advance_49 rfl (by decide) rfl ?_
    refine z_aload_n (j := 2) hx hb dX6_advance_50 rfl rfl ?_
    have h51 := And.left hok
    have hok := And.right hok
    refine z_getW (v := .int (gA q 31 w1)) S hK h51 inX9 1 (by decide) q4_31 rfl rfl dX6_advance_51 ?_
    refine z_aload_n (j := 1) hx hb dX6_advance_54 rfl rfl ?_
    refine z_get (v := .ref (ad 8)) S hK inX6 4 (fun _ => rfl) rfl 5 (by decide) q2_46 rfl rfl dX6_advance_55 ?_
    refine z_get (v := .int (gI q 900)) S hK inX3 8 (fun _ => rfl) rfl 0 (by decide) q1_203 rfl rfl dX6_advance_58 ?_
    refine z_iload_n (j := 0) hx hb dX6_advance_61 rfl rfl ?_
    have h62 := And.left hok
    have hok := And.right hok
    refine z_callSNi (As := [.int (gA q 31 w1), .int (gI q 900), .int s0]) S (ctX10_resultOf l hl D kc ad wad q (gA q 31 w1) (gI q 900) s0 h62) ⟨va_cnB 3 S.2.2.2.2 (gW q5_58) rfl rfl rfl (hE.2.2.2.2.2.1 (RX6, 113, yX10_resultOf) (List.mem_of_getElem? (i := 12) rfl)) (S.2.2.2.2 _ q1_1) hX10_resultOf ⟨Nat.le_of_ble_eq_true rfl, Nat.le_of_ble_eq_true rfl⟩, S.2.2.2.2 _ q5_57, trivial⟩ hA (pbX D kc) (psX hK hE) rfl rfl (Nat.le_of_ble_eq_true rfl) dX6_advance_62 ⟨Nat.le_of_ble_eq_true rfl, Nat.le_of_ble_eq_true rfl⟩ ?_
    refine z_sub [1, 2, 0] rfl ?_
    exact b65 (fX10_resultOf q (gA q 31 w1) (gI q 900) s0).2 w1 s0 (fX10_resultOf q (gA q 31 w1) (gI q 900) s0).1 hok hF
  refine z_aload_n (j := 0) hx hb dX6_advance_0 rfl rfl ?_
  refine z_get (v := .int (gI q 512)) S hK inX6 4 (fun _ => rfl) rfl 12 (by decide) q2_56 rfl rfl dX6_advance_1 ?_
  refine z_bipush (v := 114) hx hb dX6_advance_4 (by decide) ?_
  refine z_icmp_eq (tgt := 11) hx hb dX6_advance_6 (by decide) (fun g6 => ?_) (fun g6 => ?_)
  · have hF := hF.trans (if_pos g6)
    have hok := And.left hok g6
    refine z_aload_n (j := 0) hx hb dX6_advance_11 rfl rfl ?_
    refine z_get (v := .ref (ad 1)) S hK inX6 4 (fun _ => rfl) rfl 0 (by decide) q2_40 rfl rfl dX6_advance_12 ?_
    refine z_aload_n (j := 0) hx hb dX6_advance_15 rfl rfl ?_
    refine z_get (v := .int (gI q 510)) S hK inX6 4 (fun _ => rfl) rfl 10 (by decide) q2_52 rfl rfl dX6_advance_16 ?_
    have h19 := And.left hok
    have hok := And.right hok
    refine z_callVw (As := [.int (gI q 510)]) S (ctX7_wordAt l hl D kc ad wad q (gI q 510) h19) (cwV 1 S.2.2.2.2 (gV q5_28 q4_85 q4_86 q1_2 q4_87) rfl rfl rfl hX7_wordAt ⟨Nat.le_of_ble_eq_true rfl, Nat.le_of_ble_eq_true rfl⟩) hA (pbX D kc) (psX hK hE) (z_recv hK 1 (fun _ => rfl) rfl) rfl rfl (Nat.le_of_ble_eq_true rfl) dX6_advance_19 ⟨Nat.le_of_ble_eq_true rfl, Nat.le_of_ble_eq_true rfl⟩ (fun g19 => ?_) (fun w19 g19 => ?_)
    · have hF := hF.trans (oc_n g19)
      have hok := And.left hok g19
      refine z_astore_nN (lv' := [(1, .null), (0, .ref (ad 4))]) hx hb dX6_advance_22 rfl (by decide) rfl ?_
      refine z_aload_nN (j := 0) hx hb dX6_advance_23 rfl rfl ?_
      refine z_ifnonnullN hx hb dX6_advance_24 ?_
      refine z_aload_n (j := 1) hx hb dX6_advance_27 rfl rfl ?_
      have h28 := And.left hok
      have hok := And.right hok
      refine z_callVv (As := []) S (ctX6_takeBack l hl D kc ad wad (fX7_wordAt q (gI q 510)).2 h28) (cwV 0 S.2.2.2.2 (gV q5_29 q2_172 q2_173 q1_6 q2_174) rfl rfl rfl hX6_takeBack ⟨Nat.le_of_ble_eq_true rfl, Nat.le_of_ble_eq_true rfl⟩) hA (pbX D kc) (psX hK hE) (z_recv hK 4 (fun _ => rfl) rfl) rfl rfl (Nat.le_of_ble_eq_true rfl) dX6_advance_28 ⟨Nat.le_of_ble_eq_true rfl, Nat.le_of_ble_eq_true rfl⟩ ?_
      refine z_sub [1] rfl ?_
      exact b31 (fX6_takeBack (fX7_wordAt q (gI q 510)).2) hok hF
    · have hF := hF.trans (oc_s g19)
      have hok := And.right hok w19 g19
      refine z_astore_n (lv' := [(1, .ref (wad w19)), (0, .ref (ad 4))]) hx hb dX6_advance_22 rfl (by decide) rfl ?_
      refine z_aload_n (j := 0) hx hb dX6_advance_23 rfl rfl ?_
      refine z_ifnonnull (tgt := 39) hx hb dX6_advance_24 (by decide) ?_
      refine z_aload_n (j := 1) hx hb dX6_advance_39 rfl rfl ?_
      refine z_iconst (v := 1) hx hb dX6_advance_40 (by decide) ?_
      refine z_put (v := .int 1) (q' := (sI (fX7_wordAt q (gI q 510)).2 511 1)) S hK inX6 tyX6 tyX6_ok nmX6 4 (fun _ => rfl) rfl 11 (by decide) q2_54 rfl rfl rfl rfl (Nat.le_of_ble_eq_true rfl) dX6_advance_41 (wXp511 kc ad wad _ _) (fun _ h => h) ?_
      refine z_aload_n (j := 1) hx hb dX6_advance_44 rfl rfl ?_
      refine z_aload_n (j := 0) hx hb dX6_advance_45 rfl rfl ?_
      have h46 := And.left hok
      have hok := And.right hok
      refine z_callVi (As := [.ref (wad w19)]) S (ctX6_driveBus l hl D kc ad wad (sI (fX7_wordAt q (gI q 510)).2 511 1) w19 h46) (cwV 1 S.2.2.2.2 (gV q5_30 q5_32 qp1_3 q1_6 q5_33) rfl rfl rfl hX6_driveBus ⟨Nat.le_of_ble_eq_true rfl, Nat.le_of_ble_eq_true rfl⟩) hA (pbX D kc) (psX hK hE) (z_recv hK 4 (fun _ => rfl) rfl) rfl rfl (Nat.le_of_ble_eq_true rfl) dX6_advance_46 ⟨Nat.le_of_ble_eq_true rfl, Nat.le_of_ble_eq_true rfl⟩ ?_
      refine z_sub [1, 0] rfl ?_
      exact b49 (fX6_driveBus (sI (fX7_wordAt q (gI q 510)).2 511 1) w19).2 w19 (fX6_driveBus (sI (fX7_wordAt q (gI q 510)).2 511 1) w19).1 hok hF
  · have hF := hF.trans (if_neg g6)
    have hok := And.right hok g6
    refine z_iconst (v := 0) hx hb dX6_advance_9 (by decide) ?_
    exact z_iret hx hb hlocks hr (by decide) hF dX6_advance_10
theorem hX6_advance : yX6_advance.cls = RX6 ∧ yX6_advance.cls ≠ "java/lang/invoke/MethodHandle" ∧ yX6_advance.cls ≠ "java/lang/invoke/VarHandle" ∧ (parseMethodDescriptor yX6_advance.desc).map (fun d => d.parameters.length) = some 0 := by decide +kernel
def fX6_valueOf_172 (q : SS) (v1 : Int32) : Int32 × SS := ((fX8_valueOf_now q v1).1, (fX8_valueOf_now q v1).2)
def kX6_valueOf_172 (q : SS) (v1 : Int32) : Prop := kX8_valueOf_now q v1 ∧ True
def fX6_valueOf_168 (q : SS) (v1 : Int32) : Int32 × SS := fX6_valueOf_172 (fX6_findFlags q) v1
def kX6_valueOf_168 (q : SS) (v1 : Int32) : Prop := kX6_findFlags q ∧ kX6_valueOf_172 (fX6_findFlags q) v1
def fX6_valueOf_181 (q : SS) (v1 : Int32) : Int32 × SS := ((fX8_valueOf_now q v1).1, (fX8_valueOf_now q v1).2)
def kX6_valueOf_181 (q : SS) (v1 : Int32) : Prop := kX8_valueOf_now q v1 ∧ True
def fX6_valueOf (q : SS) (v1 : Int32) : Int32 × SS := (if v1 = 65 then ((gI q 902), q) else (if v1 = 67 then fX6_valueOf_168 q v1 else (if v1 = 68 then ((gI q 903), q) else (if v1 = 69 then ((gI q 905), q) else (if v1 = 84 then ((gI q 900), q) else (if v1 = 85 then ((gI q 901), q) else (if v1 = 88 then ((gI q 904), q) else (if v1 = 90 then fX6_valueOf_168 q v1 else fX6_valueOf_181 q v1))))))))
def kX6_valueOf (q : SS) (v1 : Int32) : Prop := ((v1 = 65 → True) ∧ (¬ v1 = 65 → ((v1 = 67 → kX6_valueOf_168 q v1) ∧ (¬ v1 = 67 → ((v1 = 68 → True) ∧ (¬ v1 = 68 → ((v1 = 69 → True) ∧ (¬ v1 = 69 → ((v1 = 84 → True) ∧ (¬ v1 = 84 → ((v1 = 85 → True) ∧ (¬ v1 = 85 → ((v1 = 88 → True) ∧ (¬ v1 = 88 → ((v1 = 90 → kX6_valueOf_168 q v1) ∧ (¬ v1 = 90 → kX6_valueOf_181 q v1))))))))))))))))
set_option maxHeartbeats 4000000 in
set_option maxRecDepth 100000 in
theorem ctX6_valueOf (l : Launch) (hl : l.stackTraces = false) (D : va_G) (kc : Nat → ClassId) (ad wad : Nat → Nat) (q : SS) (v1 : Int32) (hok : kX6_valueOf q v1) : Ci l yX6_valueOf (Cond.code yX6_valueOf cX6_valueOf 2 (some .int) :: lw_G) (zr 3 0 0) 0 0 (PX D kc) (GX D kc ad wad) (GX D kc ad wad) [.ref (ad 4), .int v1] q (fX6_valueOf q v1) := by
  refine Ci.of (cc := cX6_valueOf) (maxL := 2) (ret := (some .int)) (by decide) rfl (Nat.le_of_ble_eq_true rfl) ?_
  intro p e s m args below meth c A S hr hlocks hin hA hK
  have hx := S.1
  have hb := S.2.1
  have hE : EV A s s.heap := hK.2
  have hK : va_K D vwCl (tysK kc) s := hK.1
  generalize hFe : fX6_valueOf q v1 = F
  have hF : F = fX6_valueOf q v1 := hFe.symm
  have b172 : ∀ (q : SS) (v1 : Int32), kX6_valueOf_172 q v1 → F = fX6_valueOf_172 q v1 → Z p l e (zr 3 0 0) s m args below meth c 0 0 (MQ below (va_Qi (fun (x : Int32) (_ : Unit) => x = F.1) (fun _ t => (GX D kc ad wad) A F.2 t.heap) A) args s 0 0 A) 2 A (ZG D vwCl (wX kc ad wad) (PLX wad) A) q 172 [(0, .ref (ad 4)), (1, .int v1)] [] := by
    intro q v1 hok hF
    refine z_aload_n (j := 0) hx hb dX6_valueOf_172 rfl rfl ?_
    refine z_get (v := .ref (ad 6)) S hK inX6 4 (fun _ => rfl) rfl 3 (by decide) q2_43 rfl rfl dX6_valueOf_173 ?_
    refine z_iload_n (j := 1) hx hb dX6_valueOf_176 rfl rfl ?_
    have h177 := And.left hok
    have hok := And.right hok
    refine z_callVi (As := [.int v1]) S (ctX8_valueOf_now l hl D kc ad wad q v1 h177) (cwV 1 S.2.2.2.2 (gV q5_227 q5_228 q5_229 q1_7 q5_230) rfl rfl rfl hX8_valueOf ⟨Nat.le_of_ble_eq_true rfl, Nat.le_of_ble_eq_true rfl⟩) hA (pbX D kc) (psX hK hE) (z_recv hK 6 (fun _ => rfl) rfl) rfl rfl (Nat.le_of_ble_eq_true rfl) dX6_valueOf_177 ⟨Nat.le_of_ble_eq_true rfl, Nat.le_of_ble_eq_true rfl⟩ ?_
    exact z_iret hx hb hlocks hr rfl hF dX6_valueOf_180
  have b168 : ∀ (q : SS) (v1 : Int32), kX6_valueOf_168 q v1 → F = fX6_valueOf_168 q v1 → Z p l e (zr 3 0 0) s m args below meth c 0 0 (MQ below (va_Qi (fun (x : Int32) (_ : Unit) => x = F.1) (fun _ t => (GX D kc ad wad) A F.2 t.heap) A) args s 0 0 A) 2 A (ZG D vwCl (wX kc ad wad) (PLX wad) A) q 168 [(0, .ref (ad 4)), (1, .int v1)] [] := by
    intro q v1 hok hF
    refine z_aload_n (j := 0) hx hb dX6_valueOf_168 rfl rfl ?_
    have h169 := And.left hok
    have hok := And.right hok
    refine z_callVv (As := []) S (ctX6_findFlags l hl D kc ad wad q h169) (cwV 0 S.2.2.2.2 (gV q5_102 q5_104 qp1_11 q1_6 q5_105) rfl rfl rfl hX6_findFlags ⟨Nat.le_of_ble_eq_true rfl, Nat.le_of_ble_eq_true rfl⟩) hA (pbX D kc) (psX hK hE) (z_recv hK 4 (fun _ => rfl) rfl) rfl rfl (Nat.le_of_ble_eq_true rfl) dX6_valueOf_169 ⟨Nat.le_of_ble_eq_true rfl, Nat.le_of_ble_eq_true rfl⟩ ?_
    exact b172 (fX6_findFlags q) v1 hok hF
  have b181 : ∀ (q : SS) (v1 : Int32), kX6_valueOf_181 q v1 → F = fX6_valueOf_181 q v1 → Z p l e (zr 3 0 0) s m args below meth c 0 0 (MQ below (va_Qi (fun (x : Int32) (_ : Unit) => x = F.1) (fun _ t => (GX D kc ad wad) A F.2 t.heap) A) args s 0 0 A) 2 A (ZG D vwCl (wX kc ad wad) (PLX wad) A) q 181 [(0, .ref (ad 4)), (1, .int v1)] [] := by
    intro q v1 hok hF
    refine z_aload_n (j := 0) hx hb dX6_valueOf_181 rfl rfl ?_
    refine z_get (v := .ref (ad 6)) S hK inX6 4 (fun _ => rfl) rfl 3 (by decide) q2_43 rfl rfl dX6_valueOf_182 ?_
    refine z_iload_n (j := 1) hx hb dX6_valueOf_185 rfl rfl ?_
    have h186 := And.left hok
    have hok := And.right hok
    refine z_callVi (As := [.int v1]) S (ctX8_valueOf_now l hl D kc ad wad q v1 h186) (cwV 1 S.2.2.2.2 (gV q5_227 q5_228 q5_229 q1_7 q5_230) rfl rfl rfl hX8_valueOf ⟨Nat.le_of_ble_eq_true rfl, Nat.le_of_ble_eq_true rfl⟩) hA (pbX D kc) (psX hK hE) (z_recv hK 6 (fun _ => rfl) rfl) rfl rfl (Nat.le_of_ble_eq_true rfl) dX6_valueOf_186 ⟨Nat.le_of_ble_eq_true rfl, Nat.le_of_ble_eq_true rfl⟩ ?_
    exact z_iret hx hb hlocks hr rfl hF dX6_valueOf_189
  refine z_iload_n (j := 1) hx hb dX6_valueOf_0 rfl rfl ?_
  by_cases g1_65 : v1 = 65
  · have hF := hF.trans (if_pos g1_65)
    have hok := And.left hok g1_65
    refine z_tableIn (off := 135) (tgt := 136) hx hb dX6_valueOf_1 (by rw [g1_65]; decide) (by rw [g1_65]; decide) (by rw [g1_65]; rfl) (by decide) ?_
    refine z_aload_n (j := 0) hx hb dX6_valueOf_136 rfl rfl ?_
    refine z_get (v := .ref (ad 8)) S hK inX6 4 (fun _ => rfl) rfl 5 (by decide) q2_46 rfl rfl dX6_valueOf_137 ?_
    refine z_get (v := .int (gI q 902)) S hK inX3 8 (fun _ => rfl) rfl 2 (by decide) q1_205 rfl rfl dX6_valueOf_140 ?_
    exact z_iret hx hb hlocks hr rfl hF dX6_valueOf_143
  have hF := hF.trans (if_neg g1_65)
  have hok := And.right hok g1_65
  by_cases g1_67 : v1 = 67
  · have hF := hF.trans (if_pos g1_67)
    have hok := And.left hok g1_67
    refine z_tableIn (off := 167) (tgt := 168) hx hb dX6_valueOf_1 (by rw [g1_67]; decide) (by rw [g1_67]; decide) (by rw [g1_67]; rfl) (by decide) ?_
    exact b168 q v1 hok hF
  have hF := hF.trans (if_neg g1_67)
  have hok := And.right hok g1_67
  by_cases g1_68 : v1 = 68
  · have hF := hF.trans (if_pos g1_68)
    have hok := And.left hok g1_68
    refine z_tableIn (off := 143) (tgt := 144) hx hb dX6_valueOf_1 (by rw [g1_68]; decide) (by rw [g1_68]; decide) (by rw [g1_68]; rfl) (by decide) ?_
    refine z_aload_n (j := 0) hx hb dX6_valueOf_144 rfl rfl ?_
    refine z_get (v := .ref (ad 8)) S hK inX6 4 (fun _ => rfl) rfl 5 (by decide) q2_46 rfl rfl dX6_valueOf_145 ?_
    refine z_get (v := .int (gI q 903)) S hK inX3 8 (fun _ => rfl) rfl 3 (by decide) q1_206 rfl rfl dX6_valueOf_148 ?_
    exact z_iret hx hb hlocks hr rfl hF dX6_valueOf_151
  have hF := hF.trans (if_neg g1_68)
  have hok := And.right hok g1_68
  by_cases g1_69 : v1 = 69
  · have hF := hF.trans (if_pos g1_69)
    have hok := And.left hok g1_69
    refine z_tableIn (off := 159) (tgt := 160) hx hb dX6_valueOf_1 (by rw [g1_69]; decide) (by rw [g1_69]; decide) (by rw [g1_69]; rfl) (by decide) ?_
    refine z_aload_n (j := 0) hx hb dX6_valueOf_160 rfl rfl ?_
    refine z_get (v := .ref (ad 8)) S hK inX6 4 (fun _ => rfl) rfl 5 (by decide) q2_46 rfl rfl dX6_valueOf_161 ?_
    refine z_get (v := .int (gI q 905)) S hK inX3 8 (fun _ => rfl) rfl 5 (by decide) q1_210 rfl rfl dX6_valueOf_164 ?_
    exact z_iret hx hb hlocks hr rfl hF dX6_valueOf_167
  have hF := hF.trans (if_neg g1_69)
  have hok := And.right hok g1_69
  by_cases g1_84 : v1 = 84
  · have hF := hF.trans (if_pos g1_84)
    have hok := And.left hok g1_84
    refine z_tableIn (off := 119) (tgt := 120) hx hb dX6_valueOf_1 (by rw [g1_84]; decide) (by rw [g1_84]; decide) (by rw [g1_84]; rfl) (by decide) ?_
    refine z_aload_n (j := 0) hx hb dX6_valueOf_120 rfl rfl ?_
    refine z_get (v := .ref (ad 8)) S hK inX6 4 (fun _ => rfl) rfl 5 (by decide) q2_46 rfl rfl dX6_valueOf_121 ?_
    refine z_get (v := .int (gI q 900)) S hK inX3 8 (fun _ => rfl) rfl 0 (by decide) q1_203 rfl rfl dX6_valueOf_124 ?_
    exact z_iret hx hb hlocks hr rfl hF dX6_valueOf_127
  have hF := hF.trans (if_neg g1_84)
  have hok := And.right hok g1_84
  by_cases g1_85 : v1 = 85
  · have hF := hF.trans (if_pos g1_85)
    have hok := And.left hok g1_85
    refine z_tableIn (off := 127) (tgt := 128) hx hb dX6_valueOf_1 (by rw [g1_85]; decide) (by rw [g1_85]; decide) (by rw [g1_85]; rfl) (by decide) ?_
    refine z_aload_n (j := 0) hx hb dX6_valueOf_128 rfl rfl ?_
    refine z_get (v := .ref (ad 8)) S hK inX6 4 (fun _ => rfl) rfl 5 (by decide) q2_46 rfl rfl dX6_valueOf_129 ?_
    refine z_get (v := .int (gI q 901)) S hK inX3 8 (fun _ => rfl) rfl 1 (by decide) q1_204 rfl rfl dX6_valueOf_132 ?_
    exact z_iret hx hb hlocks hr rfl hF dX6_valueOf_135
  have hF := hF.trans (if_neg g1_85)
  have hok := And.right hok g1_85
  by_cases g1_88 : v1 = 88
  · have hF := hF.trans (if_pos g1_88)
    have hok := And.left hok g1_88
    refine z_tableIn (off := 151) (tgt := 152) hx hb dX6_valueOf_1 (by rw [g1_88]; decide) (by rw [g1_88]; decide) (by rw [g1_88]; rfl) (by decide) ?_
    refine z_aload_n (j := 0) hx hb dX6_valueOf_152 rfl rfl ?_
    refine z_get (v := .ref (ad 8)) S hK inX6 4 (fun _ => rfl) rfl 5 (by decide) q2_46 rfl rfl dX6_valueOf_153 ?_
    refine z_get (v := .int (gI q 904)) S hK inX3 8 (fun _ => rfl) rfl 4 (by decide) q1_208 rfl rfl dX6_valueOf_156 ?_
    exact z_iret hx hb hlocks hr rfl hF dX6_valueOf_159
  have hF := hF.trans (if_neg g1_88)
  have hok := And.right hok g1_88
  by_cases g1_90 : v1 = 90
  · have hF := hF.trans (if_pos g1_90)
    have hok := And.left hok g1_90
    refine z_tableIn (off := 167) (tgt := 168) hx hb dX6_valueOf_1 (by rw [g1_90]; decide) (by rw [g1_90]; decide) (by rw [g1_90]; rfl) (by decide) ?_
    exact b168 q v1 hok hF
  have hF := hF.trans (if_neg g1_90)
  have hok := And.right hok g1_90
  by_cases g1_66 : v1 = 66
  · refine z_tableIn (off := 180) (tgt := 181) hx hb dX6_valueOf_1 (by rw [g1_66]; decide) (by rw [g1_66]; decide) (by rw [g1_66]; rfl) (by decide) ?_
    exact b181 q v1 hok hF
  by_cases g1_70 : v1 = 70
  · refine z_tableIn (off := 180) (tgt := 181) hx hb dX6_valueOf_1 (by rw [g1_70]; decide) (by rw [g1_70]; decide) (by rw [g1_70]; rfl) (by decide) ?_
    exact b181 q v1 hok hF
  by_cases g1_71 : v1 = 71
  · refine z_tableIn (off := 180) (tgt := 181) hx hb dX6_valueOf_1 (by rw [g1_71]; decide) (by rw [g1_71]; decide) (by rw [g1_71]; rfl) (by decide) ?_
    exact b181 q v1 hok hF
  by_cases g1_72 : v1 = 72
  · refine z_tableIn (off := 180) (tgt := 181) hx hb dX6_valueOf_1 (by rw [g1_72]; decide) (by rw [g1_72]; decide) (by rw [g1_72]; rfl) (by decide) ?_
    exact b181 q v1 hok hF
  by_cases g1_73 : v1 = 73
  · refine z_tableIn (off := 180) (tgt := 181) hx hb dX6_valueOf_1 (by rw [g1_73]; decide) (by rw [g1_73]; decide) (by rw [g1_73]; rfl) (by decide) ?_
    exact b181 q v1 hok hF
  by_cases g1_74 : v1 = 74
  · refine z_tableIn (off := 180) (tgt := 181) hx hb dX6_valueOf_1 (by rw [g1_74]; decide) (by rw [g1_74]; decide) (by rw [g1_74]; rfl) (by decide) ?_
    exact b181 q v1 hok hF
  by_cases g1_75 : v1 = 75
  · refine z_tableIn (off := 180) (tgt := 181) hx hb dX6_valueOf_1 (by rw [g1_75]; decide) (by rw [g1_75]; decide) (by rw [g1_75]; rfl) (by decide) ?_
    exact b181 q v1 hok hF
  by_cases g1_76 : v1 = 76
  · refine z_tableIn (off := 180) (tgt := 181) hx hb dX6_valueOf_1 (by rw [g1_76]; decide) (by rw [g1_76]; decide) (by rw [g1_76]; rfl) (by decide) ?_
    exact b181 q v1 hok hF
  by_cases g1_77 : v1 = 77
  · refine z_tableIn (off := 180) (tgt := 181) hx hb dX6_valueOf_1 (by rw [g1_77]; decide) (by rw [g1_77]; decide) (by rw [g1_77]; rfl) (by decide) ?_
    exact b181 q v1 hok hF
  by_cases g1_78 : v1 = 78
  · refine z_tableIn (off := 180) (tgt := 181) hx hb dX6_valueOf_1 (by rw [g1_78]; decide) (by rw [g1_78]; decide) (by rw [g1_78]; rfl) (by decide) ?_
    exact b181 q v1 hok hF
  by_cases g1_79 : v1 = 79
  · refine z_tableIn (off := 180) (tgt := 181) hx hb dX6_valueOf_1 (by rw [g1_79]; decide) (by rw [g1_79]; decide) (by rw [g1_79]; rfl) (by decide) ?_
    exact b181 q v1 hok hF
  by_cases g1_80 : v1 = 80
  · refine z_tableIn (off := 180) (tgt := 181) hx hb dX6_valueOf_1 (by rw [g1_80]; decide) (by rw [g1_80]; decide) (by rw [g1_80]; rfl) (by decide) ?_
    exact b181 q v1 hok hF
  by_cases g1_81 : v1 = 81
  · refine z_tableIn (off := 180) (tgt := 181) hx hb dX6_valueOf_1 (by rw [g1_81]; decide) (by rw [g1_81]; decide) (by rw [g1_81]; rfl) (by decide) ?_
    exact b181 q v1 hok hF
  by_cases g1_82 : v1 = 82
  · refine z_tableIn (off := 180) (tgt := 181) hx hb dX6_valueOf_1 (by rw [g1_82]; decide) (by rw [g1_82]; decide) (by rw [g1_82]; rfl) (by decide) ?_
    exact b181 q v1 hok hF
  by_cases g1_83 : v1 = 83
  · refine z_tableIn (off := 180) (tgt := 181) hx hb dX6_valueOf_1 (by rw [g1_83]; decide) (by rw [g1_83]; decide) (by rw [g1_83]; rfl) (by decide) ?_
    exact b181 q v1 hok hF
  by_cases g1_86 : v1 = 86
  · refine z_tableIn (off := 180) (tgt := 181) hx hb dX6_valueOf_1 (by rw [g1_86]; decide) (by rw [g1_86]; decide) (by rw [g1_86]; rfl) (by decide) ?_
    exact b181 q v1 hok hF
  by_cases g1_87 : v1 = 87
  · refine z_tableIn (off := 180) (tgt := 181) hx hb dX6_valueOf_1 (by rw [g1_87]; decide) (by rw [g1_87]; decide) (by rw [g1_87]; rfl) (by decide) ?_
    exact b181 q v1 hok hF
  by_cases g1_89 : v1 = 89
  · refine z_tableIn (off := 180) (tgt := 181) hx hb dX6_valueOf_1 (by rw [g1_89]; decide) (by rw [g1_89]; decide) (by rw [g1_89]; rfl) (by decide) ?_
    exact b181 q v1 hok hF
  have hsw : (v1 : Int32).toInt < 65 ∨ 90 < (v1 : Int32).toInt := by
    have n0 := (lv_neT g1_65 (by decide) : ¬ _ = (65 : Int))
    have n1 := (lv_neT g1_66 (by decide) : ¬ _ = (66 : Int))
    have n2 := (lv_neT g1_67 (by decide) : ¬ _ = (67 : Int))
    have n3 := (lv_neT g1_68 (by decide) : ¬ _ = (68 : Int))
    have n4 := (lv_neT g1_69 (by decide) : ¬ _ = (69 : Int))
    have n5 := (lv_neT g1_70 (by decide) : ¬ _ = (70 : Int))
    have n6 := (lv_neT g1_71 (by decide) : ¬ _ = (71 : Int))
    have n7 := (lv_neT g1_72 (by decide) : ¬ _ = (72 : Int))
    have n8 := (lv_neT g1_73 (by decide) : ¬ _ = (73 : Int))
    have n9 := (lv_neT g1_74 (by decide) : ¬ _ = (74 : Int))
    have n10 := (lv_neT g1_75 (by decide) : ¬ _ = (75 : Int))
    have n11 := (lv_neT g1_76 (by decide) : ¬ _ = (76 : Int))
    have n12 := (lv_neT g1_77 (by decide) : ¬ _ = (77 : Int))
    have n13 := (lv_neT g1_78 (by decide) : ¬ _ = (78 : Int))
    have n14 := (lv_neT g1_79 (by decide) : ¬ _ = (79 : Int))
    have n15 := (lv_neT g1_80 (by decide) : ¬ _ = (80 : Int))
    have n16 := (lv_neT g1_81 (by decide) : ¬ _ = (81 : Int))
    have n17 := (lv_neT g1_82 (by decide) : ¬ _ = (82 : Int))
    have n18 := (lv_neT g1_83 (by decide) : ¬ _ = (83 : Int))
    have n19 := (lv_neT g1_84 (by decide) : ¬ _ = (84 : Int))
    have n20 := (lv_neT g1_85 (by decide) : ¬ _ = (85 : Int))
    have n21 := (lv_neT g1_86 (by decide) : ¬ _ = (86 : Int))
    have n22 := (lv_neT g1_87 (by decide) : ¬ _ = (87 : Int))
    have n23 := (lv_neT g1_88 (by decide) : ¬ _ = (88 : Int))
    have n24 := (lv_neT g1_89 (by decide) : ¬ _ = (89 : Int))
    have n25 := (lv_neT g1_90 (by decide) : ¬ _ = (90 : Int))
    omega
  refine z_tableOut (tgt := 181) hx hb dX6_valueOf_1 hsw (by decide) ?_
  exact b181 q v1 hok hF
theorem hX6_valueOf : yX6_valueOf.cls = RX6 ∧ yX6_valueOf.cls ≠ "java/lang/invoke/MethodHandle" ∧ yX6_valueOf.cls ≠ "java/lang/invoke/VarHandle" ∧ (parseMethodDescriptor yX6_valueOf.desc).map (fun d => d.parameters.length) = some 1 := by decide +kernel
def fX6_hasSoundParts_167 (q : SS) (s0 : Int32) : Int32 × SS := (s0, q)
def kX6_hasSoundParts_167 (q : SS) (s0 : Int32) : Prop := narrow .boolean (.int s0) = .int s0 ∧ True
def fX6_hasSoundParts_166 (q : SS) : Int32 × SS := fX6_hasSoundParts_167 q 0
def kX6_hasSoundParts_166 (q : SS) : Prop := kX6_hasSoundParts_167 q 0
def fX6_hasSoundParts_153 (q : SS) (v1 : Int32) (s0 : Int32) : Int32 × SS := (if v1 = 0 then fX6_hasSoundParts_166 q else (if s0 = 0 then fX6_hasSoundParts_166 q else fX6_hasSoundParts_167 q 1))
def kX6_hasSoundParts_153 (q : SS) (v1 : Int32) (s0 : Int32) : Prop := ((v1 = 0 → kX6_hasSoundParts_166 q) ∧ (¬ v1 = 0 → ((s0 = 0 → kX6_hasSoundParts_166 q) ∧ (¬ s0 = 0 → kX6_hasSoundParts_167 q 1))))
def fX6_hasSoundParts_152 (q : SS) (v1 : Int32) : Int32 × SS := fX6_hasSoundParts_153 q v1 0
def kX6_hasSoundParts_152 (q : SS) (v1 : Int32) : Prop := kX6_hasSoundParts_153 q v1 0
def fX6_hasSoundParts_145 (q : SS) (v1 : Int32) (s0 : Int32) : Int32 × SS := (if s0 = 0 then fX6_hasSoundParts_153 q v1 1 else fX6_hasSoundParts_152 q v1)
def kX6_hasSoundParts_145 (q : SS) (v1 : Int32) (s0 : Int32) : Prop := ((s0 = 0 → kX6_hasSoundParts_153 q v1 1) ∧ (¬ s0 = 0 → kX6_hasSoundParts_152 q v1))
def fX6_hasSoundParts_129 (q : SS) (v1 : Int32) (s0 : Int32) : Int32 × SS := (if s0 = 0 then fX6_hasSoundParts_145 (fX10_isOutside q (gI q 904) 256).2 v1 (fX10_isOutside q (gI q 904) 256).1 else fX6_hasSoundParts_152 q v1)
def kX6_hasSoundParts_129 (q : SS) (v1 : Int32) (s0 : Int32) : Prop := ((s0 = 0 → kX10_isOutside q (gI q 904) 256 ∧ kX6_hasSoundParts_145 (fX10_isOutside q (gI q 904) 256).2 v1 (fX10_isOutside q (gI q 904) 256).1) ∧ (¬ s0 = 0 → kX6_hasSoundParts_152 q v1))
def fX6_hasSoundParts_113 (q : SS) (v1 : Int32) (s0 : Int32) : Int32 × SS := (if s0 = 0 then fX6_hasSoundParts_129 (fX10_isOutside q (gI q 903) 256).2 v1 (fX10_isOutside q (gI q 903) 256).1 else fX6_hasSoundParts_152 q v1)
def kX6_hasSoundParts_113 (q : SS) (v1 : Int32) (s0 : Int32) : Prop := ((s0 = 0 → kX10_isOutside q (gI q 903) 256 ∧ kX6_hasSoundParts_129 (fX10_isOutside q (gI q 903) 256).2 v1 (fX10_isOutside q (gI q 903) 256).1) ∧ (¬ s0 = 0 → kX6_hasSoundParts_152 q v1))
def fX6_hasSoundParts_97 (q : SS) (v1 : Int32) (s0 : Int32) : Int32 × SS := (if s0 = 0 then fX6_hasSoundParts_113 (fX10_isOutside q (gI q 901) 256).2 v1 (fX10_isOutside q (gI q 901) 256).1 else fX6_hasSoundParts_152 q v1)
def kX6_hasSoundParts_97 (q : SS) (v1 : Int32) (s0 : Int32) : Prop := ((s0 = 0 → kX10_isOutside q (gI q 901) 256 ∧ kX6_hasSoundParts_113 (fX10_isOutside q (gI q 901) 256).2 v1 (fX10_isOutside q (gI q 901) 256).1) ∧ (¬ s0 = 0 → kX6_hasSoundParts_152 q v1))
def fX6_hasSoundParts_83 (q : SS) (s0 : Int32) : Int32 × SS := fX6_hasSoundParts_97 (fX10_isOutside q (gI q 900) 256).2 s0 (fX10_isOutside q (gI q 900) 256).1
def kX6_hasSoundParts_83 (q : SS) (s0 : Int32) : Prop := kX10_isOutside q (gI q 900) 256 ∧ kX6_hasSoundParts_97 (fX10_isOutside q (gI q 900) 256).2 s0 (fX10_isOutside q (gI q 900) 256).1
def fX6_hasSoundParts_82 (q : SS) : Int32 × SS := fX6_hasSoundParts_83 q 0
def kX6_hasSoundParts_82 (q : SS) : Prop := kX6_hasSoundParts_83 q 0
def fX6_hasSoundParts_75 (q : SS) (s0 : Int32) : Int32 × SS := (if s0 = 0 then fX6_hasSoundParts_83 q 1 else fX6_hasSoundParts_82 q)
def kX6_hasSoundParts_75 (q : SS) (s0 : Int32) : Prop := ((s0 = 0 → kX6_hasSoundParts_83 q 1) ∧ (¬ s0 = 0 → kX6_hasSoundParts_82 q))
def fX6_hasSoundParts_60 (q : SS) (s0 : Int32) : Int32 × SS := (if s0 = 0 then fX6_hasSoundParts_75 (fX10_isOutside q (gI q 702) 64).2 (fX10_isOutside q (gI q 702) 64).1 else fX6_hasSoundParts_82 q)
def kX6_hasSoundParts_60 (q : SS) (s0 : Int32) : Prop := ((s0 = 0 → kX10_isOutside q (gI q 702) 64 ∧ kX6_hasSoundParts_75 (fX10_isOutside q (gI q 702) 64).2 (fX10_isOutside q (gI q 702) 64).1) ∧ (¬ s0 = 0 → kX6_hasSoundParts_82 q))
def fX6_hasSoundParts_45 (q : SS) (s0 : Int32) : Int32 × SS := (if s0 = 0 then fX6_hasSoundParts_60 (fX10_isOutside q (gI q 902) 64).2 (fX10_isOutside q (gI q 902) 64).1 else fX6_hasSoundParts_82 q)
def kX6_hasSoundParts_45 (q : SS) (s0 : Int32) : Prop := ((s0 = 0 → kX10_isOutside q (gI q 902) 64 ∧ kX6_hasSoundParts_60 (fX10_isOutside q (gI q 902) 64).2 (fX10_isOutside q (gI q 902) 64).1) ∧ (¬ s0 = 0 → kX6_hasSoundParts_82 q))
def fX6_hasSoundParts_22 (k2 : SS → Int32 → Int32 × SS) (q : SS) (v1 : Int32) (s0 : Int32) : Int32 × SS := (if s0 = 0 then k2 q (v1 + 1) else (0, q))
def kX6_hasSoundParts_22 (kk2 : SS → Int32 → Prop) (q : SS) (v1 : Int32) (s0 : Int32) : Prop := ((s0 = 0 → kk2 q (v1 + 1)) ∧ (¬ s0 = 0 → True))
def fX6_hasSoundParts_2 : Nat → SS → Int32 → Int32 × SS
  | 0, q, _ => (0, q)
  | n + 1, q, v1 => (if 4 ≤ v1 then fX6_hasSoundParts_45 (fX10_isOutside q (gI q 701) 64).2 (fX10_isOutside q (gI q 701) 64).1 else fX6_hasSoundParts_22 (fX6_hasSoundParts_2 n) (fX10_isOutside q ((gA q 25) (v1 : Int32).toNatClampNeg) 256).2 v1 (fX10_isOutside q ((gA q 25) (v1 : Int32).toNatClampNeg) 256).1)
def kX6_hasSoundParts_2 : Nat → SS → Int32 → Prop
  | 0, _, _ => False
  | n + 1, q, v1 => ((4 ≤ v1 → kX10_isOutside q (gI q 701) 64 ∧ kX6_hasSoundParts_45 (fX10_isOutside q (gI q 701) 64).2 (fX10_isOutside q (gI q 701) 64).1) ∧ (¬ 4 ≤ v1 → vp_in v1 4 ∧ kX10_isOutside q ((gA q 25) (v1 : Int32).toNatClampNeg) 256 ∧ kX6_hasSoundParts_22 (kX6_hasSoundParts_2 n) (fX10_isOutside q ((gA q 25) (v1 : Int32).toNatClampNeg) 256).2 v1 (fX10_isOutside q ((gA q 25) (v1 : Int32).toNatClampNeg) 256).1))
def fX6_hasSoundParts (q : SS) : Int32 × SS := fX6_hasSoundParts_2 10 q 0
def kX6_hasSoundParts (q : SS) : Prop := kX6_hasSoundParts_2 10 q 0
set_option maxHeartbeats 4000000 in
set_option maxRecDepth 100000 in
theorem ctX6_hasSoundParts (l : Launch) (hl : l.stackTraces = false) (D : va_G) (kc : Nat → ClassId) (ad wad : Nat → Nat) (q : SS) (hok : kX6_hasSoundParts q) : Ci l yX6_hasSoundParts (Cond.code yX6_hasSoundParts cX6_hasSoundParts 3 (some .boolean) :: lw_G) (zr 1 0 0) 0 0 (PX D kc) (GX D kc ad wad) (GX D kc ad wad) [.ref (ad 4)] q (fX6_hasSoundParts q) := by
  refine Ci.of (cc := cX6_hasSoundParts) (maxL := 3) (ret := (some .boolean)) (by decide) rfl (Nat.le_of_ble_eq_true rfl) ?_
  intro p e s m args below meth c A S hr hlocks hin hA hK
  have hx := S.1
  have hb := S.2.1
  have hE : EV A s s.heap := hK.2
  have hK : va_K D vwCl (tysK kc) s := hK.1
  generalize hFe : fX6_hasSoundParts q = F
  have hF : F = fX6_hasSoundParts q := hFe.symm
  have b167 : ∀ (q : SS) (s0 : Int32), kX6_hasSoundParts_167 q s0 → F = fX6_hasSoundParts_167 q s0 → Z p l e (zr 1 0 0) s m args below meth c 0 0 (MQ below (va_Qi (fun (x : Int32) (_ : Unit) => x = F.1) (fun _ t => (GX D kc ad wad) A F.2 t.heap) A) args s 0 0 A) 3 A (ZG D vwCl (wX kc ad wad) (PLX wad) A) q 167 [] [.int s0] := by
    intro q s0 hok hF
    have h167 := And.left hok
    have hok := And.right hok
    exact z_iret hx hb hlocks hr h167 hF dX6_hasSoundParts_167
  have b166 : ∀ (q : SS), kX6_hasSoundParts_166 q → F = fX6_hasSoundParts_166 q → Z p l e (zr 1 0 0) s m args below meth c 0 0 (MQ below (va_Qi (fun (x : Int32) (_ : Unit) => x = F.1) (fun _ t => (GX D kc ad wad) A F.2 t.heap) A) args s 0 0 A) 3 A (ZG D vwCl (wX kc ad wad) (PLX wad) A) q 166 [] [] := by
    intro q hok hF
    refine z_iconst (v := 0) hx hb dX6_hasSoundParts_166 (by decide) ?_
    exact b167 q 0 hok hF
  have b153 : ∀ (q : SS) (v1 : Int32) (s0 : Int32), kX6_hasSoundParts_153 q v1 s0 → F = fX6_hasSoundParts_153 q v1 s0 → Z p l e (zr 1 0 0) s m args below meth c 0 0 (MQ below (va_Qi (fun (x : Int32) (_ : Unit) => x = F.1) (fun _ t => (GX D kc ad wad) A F.2 t.heap) A) args s 0 0 A) 3 A (ZG D vwCl (wX kc ad wad) (PLX wad) A) q 153 [(1, .int v1)] [.int s0] := by
    intro q v1 s0 hok hF
    refine z_istore_n (lv' := [(2, .int s0), (1, .int v1)]) hx hb dX6_hasSoundParts_153 rfl (by decide) rfl ?_
    refine z_iload_n (j := 1) hx hb dX6_hasSoundParts_154 rfl rfl ?_
    refine z_if_eq (tgt := 166) hx hb dX6_hasSoundParts_155 (by decide) (fun g155 => ?_) (fun g155 => ?_)
    · have hF := hF.trans (if_pos g155)
      have hok := And.left hok g155
      refine z_sub [] rfl ?_
      exact b166 q hok hF
    · have hF := hF.trans (if_neg g155)
      have hok := And.right hok g155
      refine z_iload_n (j := 0) hx hb dX6_hasSoundParts_158 rfl rfl ?_
      refine z_if_eq (tgt := 166) hx hb dX6_hasSoundParts_159 (by decide) (fun g159 => ?_) (fun g159 => ?_)
      · have hF := hF.trans (if_pos g159)
        have hok := And.left hok g159
        refine z_sub [] rfl ?_
        exact b166 q hok hF
      · have hF := hF.trans (if_neg g159)
        have hok := And.right hok g159
        refine z_iconst (v := 1) hx hb dX6_hasSoundParts_162 (by decide) ?_
        refine z_goto (tgt := 167) hx hb dX6_hasSoundParts_163 (by decide) ?_
        refine z_sub [] rfl ?_
        exact b167 q 1 hok hF
  have b152 : ∀ (q : SS) (v1 : Int32), kX6_hasSoundParts_152 q v1 → F = fX6_hasSoundParts_152 q v1 → Z p l e (zr 1 0 0) s m args below meth c 0 0 (MQ below (va_Qi (fun (x : Int32) (_ : Unit) => x = F.1) (fun _ t => (GX D kc ad wad) A F.2 t.heap) A) args s 0 0 A) 3 A (ZG D vwCl (wX kc ad wad) (PLX wad) A) q 152 [(1, .int v1)] [] := by
    intro q v1 hok hF
    refine z_iconst (v := 0) hx hb dX6_hasSoundParts_152 (by decide) ?_
    exact b153 q v1 0 hok hF
  have b145 : ∀ (q : SS) (v1 : Int32) (s0 : Int32), kX6_hasSoundParts_145 q v1 s0 → F = fX6_hasSoundParts_145 q v1 s0 → Z p l e (zr 1 0 0) s m args below meth c 0 0 (MQ below (va_Qi (fun (x : Int32) (_ : Unit) => x = F.1) (fun _ t => (GX D kc ad wad) A F.2 t.heap) A) args s 0 0 A) 3 A (ZG D vwCl (wX kc ad wad) (PLX wad) A) q 145 [(1, .int v1)] [.int s0] := by
    intro q v1 s0 hok hF
    refine z_if_ne (tgt := 152) hx hb dX6_hasSoundParts_145 (by decide) (fun g145 => ?_) (fun g145 => ?_)
    · have hF := hF.trans (if_neg g145)
      have hok := And.right hok g145
      exact b152 q v1 hok hF
    · have hF := hF.trans (if_pos g145)
      have hok := And.left hok g145
      refine z_iconst (v := 1) hx hb dX6_hasSoundParts_148 (by decide) ?_
      refine z_goto (tgt := 153) hx hb dX6_hasSoundParts_149 (by decide) ?_
      exact b153 q v1 1 hok hF
  have b129 : ∀ (q : SS) (v1 : Int32) (s0 : Int32), kX6_hasSoundParts_129 q v1 s0 → F = fX6_hasSoundParts_129 q v1 s0 → Z p l e (zr 1 0 0) s m args below meth c 0 0 (MQ below (va_Qi (fun (x : Int32) (_ : Unit) => x = F.1) (fun _ t => (GX D kc ad wad) A F.2 t.heap) A) args s 0 0 A) 3 A (ZG D vwCl (wX kc ad wad) (PLX wad) A) q 129 [(0, .ref (ad 4)), (1, .int v1)] [.int s0] := by
    intro q v1 s0 hok hF
    refine z_if_ne (tgt := 152) hx hb dX6_hasSoundParts_129 (by decide) (fun g129 => ?_) (fun g129 => ?_)
    · have hF := hF.trans (if_neg g129)
      have hok := And.right hok g129
      refine z_sub [1] rfl ?_
      exact b152 q v1 hok hF
    · have hF := hF.trans (if_pos g129)
      have hok := And.left hok g129
      refine z_aload_n (j := 0) hx hb dX6_hasSoundParts_132 rfl rfl ?_
      refine z_get (v := .ref (ad 8)) S hK inX6 4 (fun _ => rfl) rfl 5 (by decide) q2_46 rfl rfl dX6_hasSoundParts_133 ?_
      refine z_get (v := .int (gI q 904)) S hK inX3 8 (fun _ => rfl) rfl 4 (by decide) q1_208 rfl rfl dX6_hasSoundParts_136 ?_
      refine z_sipush (v := 256) hx hb dX6_hasSoundParts_139 (by decide) ?_
      have h142 := And.left hok
      have hok := And.right hok
      refine z_callSNi (As := [.int (gI q 904), .int 256]) S (ctX10_isOutside l hl D kc ad wad q (gI q 904) 256 h142) ⟨va_cnB 2 S.2.2.2.2 (gW q3_13) rfl rfl rfl (hE.2.2.2.2.2.1 (RX6, 348, yX10_isOutside) (List.mem_of_getElem? (i := 13) rfl)) (S.2.2.2.2 _ q1_1) hX10_isOutside ⟨Nat.le_of_ble_eq_true rfl, Nat.le_of_ble_eq_true rfl⟩, S.2.2.2.2 _ q3_12, trivial⟩ hA (pbX D kc) (psX hK hE) rfl rfl (Nat.le_of_ble_eq_true rfl) dX6_hasSoundParts_142 ⟨Nat.le_of_ble_eq_true rfl, Nat.le_of_ble_eq_true rfl⟩ ?_
      refine z_sub [1] rfl ?_
      exact b145 (fX10_isOutside q (gI q 904) 256).2 v1 (fX10_isOutside q (gI q 904) 256).1 hok hF
  have b113 : ∀ (q : SS) (v1 : Int32) (s0 : Int32), kX6_hasSoundParts_113 q v1 s0 → F = fX6_hasSoundParts_113 q v1 s0 → Z p l e (zr 1 0 0) s m args below meth c 0 0 (MQ below (va_Qi (fun (x : Int32) (_ : Unit) => x = F.1) (fun _ t => (GX D kc ad wad) A F.2 t.heap) A) args s 0 0 A) 3 A (ZG D vwCl (wX kc ad wad) (PLX wad) A) q 113 [(0, .ref (ad 4)), (1, .int v1)] [.int s0] := by
    intro q v1 s0 hok hF
    refine z_if_ne (tgt := 152) hx hb dX6_hasSoundParts_113 (by decide) (fun g113 => ?_) (fun g113 => ?_)
    · have hF := hF.trans (if_neg g113)
      have hok := And.right hok g113
      refine z_sub [1] rfl ?_
      exact b152 q v1 hok hF
    · have hF := hF.trans (if_pos g113)
      have hok := And.left hok g113
      refine z_aload_n (j := 0) hx hb dX6_hasSoundParts_116 rfl rfl ?_
      refine z_get (v := .ref (ad 8)) S hK inX6 4 (fun _ => rfl) rfl 5 (by decide) q2_46 rfl rfl dX6_hasSoundParts_117 ?_
      refine z_get (v := .int (gI q 903)) S hK inX3 8 (fun _ => rfl) rfl 3 (by decide) q1_206 rfl rfl dX6_hasSoundParts_120 ?_
      refine z_sipush (v := 256) hx hb dX6_hasSoundParts_123 (by decide) ?_
      have h126 := And.left hok
      have hok := And.right hok
      refine z_callSNi (As := [.int (gI q 903), .int 256]) S (ctX10_isOutside l hl D kc ad wad q (gI q 903) 256 h126) ⟨va_cnB 2 S.2.2.2.2 (gW q3_13) rfl rfl rfl (hE.2.2.2.2.2.1 (RX6, 348, yX10_isOutside) (List.mem_of_getElem? (i := 13) rfl)) (S.2.2.2.2 _ q1_1) hX10_isOutside ⟨Nat.le_of_ble_eq_true rfl, Nat.le_of_ble_eq_true rfl⟩, S.2.2.2.2 _ q3_12, trivial⟩ hA (pbX D kc) (psX hK hE) rfl rfl (Nat.le_of_ble_eq_true rfl) dX6_hasSoundParts_126 ⟨Nat.le_of_ble_eq_true rfl, Nat.le_of_ble_eq_true rfl⟩ ?_
      exact b129 (fX10_isOutside q (gI q 903) 256).2 v1 (fX10_isOutside q (gI q 903) 256).1 hok hF
  have b97 : ∀ (q : SS) (v1 : Int32) (s0 : Int32), kX6_hasSoundParts_97 q v1 s0 → F = fX6_hasSoundParts_97 q v1 s0 → Z p l e (zr 1 0 0) s m args below meth c 0 0 (MQ below (va_Qi (fun (x : Int32) (_ : Unit) => x = F.1) (fun _ t => (GX D kc ad wad) A F.2 t.heap) A) args s 0 0 A) 3 A (ZG D vwCl (wX kc ad wad) (PLX wad) A) q 97 [(0, .ref (ad 4)), (1, .int v1)] [.int s0] := by
    intro q v1 s0 hok hF
    refine z_if_ne (tgt := 152) hx hb dX6_hasSoundParts_97 (by decide) (fun g97 => ?_) (fun g97 => ?_)
    · have hF := hF.trans (if_neg g97)
      have hok := And.right hok g97
      refine z_sub [1] rfl ?_
      exact b152 q v1 hok hF
    · have hF := hF.trans (if_pos g97)
      have hok := And.left hok g97
      refine z_aload_n (j := 0) hx hb dX6_hasSoundParts_100 rfl rfl ?_
      refine z_get (v := .ref (ad 8)) S hK inX6 4 (fun _ => rfl) rfl 5 (by decide) q2_46 rfl rfl dX6_hasSoundParts_101 ?_
      refine z_get (v := .int (gI q 901)) S hK inX3 8 (fun _ => rfl) rfl 1 (by decide) q1_204 rfl rfl dX6_hasSoundParts_104 ?_
      refine z_sipush (v := 256) hx hb dX6_hasSoundParts_107 (by decide) ?_
      have h110 := And.left hok
      have hok := And.right hok
      refine z_callSNi (As := [.int (gI q 901), .int 256]) S (ctX10_isOutside l hl D kc ad wad q (gI q 901) 256 h110) ⟨va_cnB 2 S.2.2.2.2 (gW q3_13) rfl rfl rfl (hE.2.2.2.2.2.1 (RX6, 348, yX10_isOutside) (List.mem_of_getElem? (i := 13) rfl)) (S.2.2.2.2 _ q1_1) hX10_isOutside ⟨Nat.le_of_ble_eq_true rfl, Nat.le_of_ble_eq_true rfl⟩, S.2.2.2.2 _ q3_12, trivial⟩ hA (pbX D kc) (psX hK hE) rfl rfl (Nat.le_of_ble_eq_true rfl) dX6_hasSoundParts_110 ⟨Nat.le_of_ble_eq_true rfl, Nat.le_of_ble_eq_true rfl⟩ ?_
      exact b113 (fX10_isOutside q (gI q 901) 256).2 v1 (fX10_isOutside q (gI q 901) 256).1 hok hF
  have b83 : ∀ (q : SS) (s0 : Int32), kX6_hasSoundParts_83 q s0 → F = fX6_hasSoundParts_83 q s0 → Z p l e (zr 1 0 0) s m args below meth c 0 0 (MQ below (va_Qi (fun (x : Int32) (_ : Unit) => x = F.1) (fun _ t => (GX D kc ad wad) A F.2 t.heap) A) args s 0 0 A) 3 A (ZG D vwCl (wX kc ad wad) (PLX wad) A) q 83 [(0, .ref (ad 4))] [.int s0] := by
    intro q s0 hok hF
    refine z_istore_n (lv' := [(1, .int s0), (0, .ref (ad 4))]) hx hb dX6_hasSoundParts_83 rfl (by decide) rfl ?_
    refine z_aload_n (j := 1) hx hb dX6_hasSoundParts_84 rfl rfl ?_
    refine z_get (v := .ref (ad 8)) S hK inX6 4 (fun _ => rfl) rfl 5 (by decide) q2_46 rfl rfl dX6_hasSoundParts_85 ?_
    refine z_get (v := .int (gI q 900)) S hK inX3 8 (fun _ => rfl) rfl 0 (by decide) q1_203 rfl rfl dX6_hasSoundParts_88 ?_
    refine z_sipush (v := 256) hx hb dX6_hasSoundParts_91 (by decide) ?_
    have h94 := And.left hok
    have hok := And.right hok
    refine z_callSNi (As := [.int (gI q 900), .int 256]) S (ctX10_isOutside l hl D kc ad wad q (gI q 900) 256 h94) ⟨va_cnB 2 S.2.2.2.2 (gW q3_13) rfl rfl rfl (hE.2.2.2.2.2.1 (RX6, 348, yX10_isOutside) (List.mem_of_getElem? (i := 13) rfl)) (S.2.2.2.2 _ q1_1) hX10_isOutside ⟨Nat.le_of_ble_eq_true rfl, Nat.le_of_ble_eq_true rfl⟩, S.2.2.2.2 _ q3_12, trivial⟩ hA (pbX D kc) (psX hK hE) rfl rfl (Nat.le_of_ble_eq_true rfl) dX6_hasSoundParts_94 ⟨Nat.le_of_ble_eq_true rfl, Nat.le_of_ble_eq_true rfl⟩ ?_
    refine z_sub [1, 0] rfl ?_
    exact b97 (fX10_isOutside q (gI q 900) 256).2 s0 (fX10_isOutside q (gI q 900) 256).1 hok hF
  have b82 : ∀ (q : SS), kX6_hasSoundParts_82 q → F = fX6_hasSoundParts_82 q → Z p l e (zr 1 0 0) s m args below meth c 0 0 (MQ below (va_Qi (fun (x : Int32) (_ : Unit) => x = F.1) (fun _ t => (GX D kc ad wad) A F.2 t.heap) A) args s 0 0 A) 3 A (ZG D vwCl (wX kc ad wad) (PLX wad) A) q 82 [(0, .ref (ad 4))] [] := by
    intro q hok hF
    refine z_iconst (v := 0) hx hb dX6_hasSoundParts_82 (by decide) ?_
    exact b83 q 0 hok hF
  have b75 : ∀ (q : SS) (s0 : Int32), kX6_hasSoundParts_75 q s0 → F = fX6_hasSoundParts_75 q s0 → Z p l e (zr 1 0 0) s m args below meth c 0 0 (MQ below (va_Qi (fun (x : Int32) (_ : Unit) => x = F.1) (fun _ t => (GX D kc ad wad) A F.2 t.heap) A) args s 0 0 A) 3 A (ZG D vwCl (wX kc ad wad) (PLX wad) A) q 75 [(0, .ref (ad 4))] [.int s0] := by
    intro q s0 hok hF
    refine z_if_ne (tgt := 82) hx hb dX6_hasSoundParts_75 (by decide) (fun g75 => ?_) (fun g75 => ?_)
    · have hF := hF.trans (if_neg g75)
      have hok := And.right hok g75
      exact b82 q hok hF
    · have hF := hF.trans (if_pos g75)
      have hok := And.left hok g75
      refine z_iconst (v := 1) hx hb dX6_hasSoundParts_78 (by decide) ?_
      refine z_goto (tgt := 83) hx hb dX6_hasSoundParts_79 (by decide) ?_
      exact b83 q 1 hok hF
  have b60 : ∀ (q : SS) (s0 : Int32), kX6_hasSoundParts_60 q s0 → F = fX6_hasSoundParts_60 q s0 → Z p l e (zr 1 0 0) s m args below meth c 0 0 (MQ below (va_Qi (fun (x : Int32) (_ : Unit) => x = F.1) (fun _ t => (GX D kc ad wad) A F.2 t.heap) A) args s 0 0 A) 3 A (ZG D vwCl (wX kc ad wad) (PLX wad) A) q 60 [(0, .ref (ad 4))] [.int s0] := by
    intro q s0 hok hF
    refine z_if_ne (tgt := 82) hx hb dX6_hasSoundParts_60 (by decide) (fun g60 => ?_) (fun g60 => ?_)
    · have hF := hF.trans (if_neg g60)
      have hok := And.right hok g60
      exact b82 q hok hF
    · have hF := hF.trans (if_pos g60)
      have hok := And.left hok g60
      refine z_aload_n (j := 0) hx hb dX6_hasSoundParts_63 rfl rfl ?_
      refine z_get (v := .ref (ad 6)) S hK inX6 4 (fun _ => rfl) rfl 3 (by decide) q2_43 rfl rfl dX6_hasSoundParts_64 ?_
      refine z_get (v := .int (gI q 702)) S hK inX8 6 (fun _ => rfl) rfl 2 (by decide) q1_169 rfl rfl dX6_hasSoundParts_67 ?_
      refine z_bipush (v := 64) hx hb dX6_hasSoundParts_70 (by decide) ?_
      have h72 := And.left hok
      have hok := And.right hok
      refine z_callSNi (As := [.int (gI q 702), .int 64]) S (ctX10_isOutside l hl D kc ad wad q (gI q 702) 64 h72) ⟨va_cnB 2 S.2.2.2.2 (gW q3_13) rfl rfl rfl (hE.2.2.2.2.2.1 (RX6, 348, yX10_isOutside) (List.mem_of_getElem? (i := 13) rfl)) (S.2.2.2.2 _ q1_1) hX10_isOutside ⟨Nat.le_of_ble_eq_true rfl, Nat.le_of_ble_eq_true rfl⟩, S.2.2.2.2 _ q3_12, trivial⟩ hA (pbX D kc) (psX hK hE) rfl rfl (Nat.le_of_ble_eq_true rfl) dX6_hasSoundParts_72 ⟨Nat.le_of_ble_eq_true rfl, Nat.le_of_ble_eq_true rfl⟩ ?_
      exact b75 (fX10_isOutside q (gI q 702) 64).2 (fX10_isOutside q (gI q 702) 64).1 hok hF
  have b45 : ∀ (q : SS) (s0 : Int32), kX6_hasSoundParts_45 q s0 → F = fX6_hasSoundParts_45 q s0 → Z p l e (zr 1 0 0) s m args below meth c 0 0 (MQ below (va_Qi (fun (x : Int32) (_ : Unit) => x = F.1) (fun _ t => (GX D kc ad wad) A F.2 t.heap) A) args s 0 0 A) 3 A (ZG D vwCl (wX kc ad wad) (PLX wad) A) q 45 [(0, .ref (ad 4))] [.int s0] := by
    intro q s0 hok hF
    refine z_if_ne (tgt := 82) hx hb dX6_hasSoundParts_45 (by decide) (fun g45 => ?_) (fun g45 => ?_)
    · have hF := hF.trans (if_neg g45)
      have hok := And.right hok g45
      exact b82 q hok hF
    · have hF := hF.trans (if_pos g45)
      have hok := And.left hok g45
      refine z_aload_n (j := 0) hx hb dX6_hasSoundParts_48 rfl rfl ?_
      refine z_get (v := .ref (ad 8)) S hK inX6 4 (fun _ => rfl) rfl 5 (by decide) q2_46 rfl rfl dX6_hasSoundParts_49 ?_
      refine z_get (v := .int (gI q 902)) S hK inX3 8 (fun _ => rfl) rfl 2 (by decide) q1_205 rfl rfl dX6_hasSoundParts_52 ?_
      refine z_bipush (v := 64) hx hb dX6_hasSoundParts_55 (by decide) ?_
      have h57 := And.left hok
      have hok := And.right hok
      refine z_callSNi (As := [.int (gI q 902), .int 64]) S (ctX10_isOutside l hl D kc ad wad q (gI q 902) 64 h57) ⟨va_cnB 2 S.2.2.2.2 (gW q3_13) rfl rfl rfl (hE.2.2.2.2.2.1 (RX6, 348, yX10_isOutside) (List.mem_of_getElem? (i := 13) rfl)) (S.2.2.2.2 _ q1_1) hX10_isOutside ⟨Nat.le_of_ble_eq_true rfl, Nat.le_of_ble_eq_true rfl⟩, S.2.2.2.2 _ q3_12, trivial⟩ hA (pbX D kc) (psX hK hE) rfl rfl (Nat.le_of_ble_eq_true rfl) dX6_hasSoundParts_57 ⟨Nat.le_of_ble_eq_true rfl, Nat.le_of_ble_eq_true rfl⟩ ?_
      exact b60 (fX10_isOutside q (gI q 902) 64).2 (fX10_isOutside q (gI q 902) 64).1 hok hF
  have b22 : ∀ (k2 : SS → Int32 → Int32 × SS) (kk2 : SS → Int32 → Prop) (_ : ∀ (q : SS) (v1 : Int32), kk2 q v1 → F = k2 q v1 → Z p l e (zr 1 0 0) s m args below meth c 0 0 (MQ below (va_Qi (fun (x : Int32) (_ : Unit) => x = F.1) (fun _ t => (GX D kc ad wad) A F.2 t.heap) A) args s 0 0 A) 3 A (ZG D vwCl (wX kc ad wad) (PLX wad) A) q 2 [(0, .ref (ad 4)), (1, .int v1)] []) (q : SS) (v1 : Int32) (s0 : Int32), kX6_hasSoundParts_22 kk2 q v1 s0 → F = fX6_hasSoundParts_22 k2 q v1 s0 → Z p l e (zr 1 0 0) s m args below meth c 0 0 (MQ below (va_Qi (fun (x : Int32) (_ : Unit) => x = F.1) (fun _ t => (GX D kc ad wad) A F.2 t.heap) A) args s 0 0 A) 3 A (ZG D vwCl (wX kc ad wad) (PLX wad) A) q 22 [(0, .ref (ad 4)), (1, .int v1)] [.int s0] := by
    intro k2 kk2 hk2 q v1 s0 hok hF
    refine z_if_eq (tgt := 27) hx hb dX6_hasSoundParts_22 (by decide) (fun g22 => ?_) (fun g22 => ?_)
    · have hF := hF.trans (if_pos g22)
      have hok := And.left hok g22
      refine z_iinc (k := 1) (v := (v1 + 1)) (lv' := [(1, .int (v1 + 1)), (0, .ref (ad 4))]) hx hb dX6_hasSoundParts_27 rfl rfl (by decide) rfl ?_
      refine z_goto (tgt := 2) hx hb dX6_hasSoundParts_30 (by decide) ?_
      refine z_sub [1, 0] rfl ?_
      exact hk2 q (v1 + 1) hok hF
    · have hF := hF.trans (if_neg g22)
      have hok := And.right hok g22
      refine z_iconst (v := 0) hx hb dX6_hasSoundParts_25 (by decide) ?_
      exact z_iret hx hb hlocks hr (by decide) hF dX6_hasSoundParts_26
  have b2 : ∀ (n : Nat) (q : SS) (v1 : Int32), kX6_hasSoundParts_2 n q v1 → F = fX6_hasSoundParts_2 n q v1 → Z p l e (zr 1 0 0) s m args below meth c 0 0 (MQ below (va_Qi (fun (x : Int32) (_ : Unit) => x = F.1) (fun _ t => (GX D kc ad wad) A F.2 t.heap) A) args s 0 0 A) 3 A (ZG D vwCl (wX kc ad wad) (PLX wad) A) q 2 [(0, .ref (ad 4)), (1, .int v1)] [] := by
    intro n
    induction n with
    | zero => intro q v1 hok hF; exact False.elim hok
    | succ n ih =>
      intro q v1 hok hF
      refine z_iload_n (j := 1) hx hb dX6_hasSoundParts_2 rfl rfl ?_
      refine z_iconst (v := 4) hx hb dX6_hasSoundParts_3 (by decide) ?_
      refine z_icmp_ge (tgt := 33) hx hb dX6_hasSoundParts_4 (by decide) (fun g4 => ?_) (fun g4 => ?_)
      · have hF := hF.trans (if_pos g4)
        have hok := And.left hok g4
        refine z_aload_n (j := 0) hx hb dX6_hasSoundParts_33 rfl rfl ?_
        refine z_get (v := .ref (ad 6)) S hK inX6 4 (fun _ => rfl) rfl 3 (by decide) q2_43 rfl rfl dX6_hasSoundParts_34 ?_
        refine z_get (v := .int (gI q 701)) S hK inX8 6 (fun _ => rfl) rfl 1 (by decide) q1_165 rfl rfl dX6_hasSoundParts_37 ?_
        refine z_bipush (v := 64) hx hb dX6_hasSoundParts_40 (by decide) ?_
        have h42 := And.left hok
        have hok := And.right hok
        refine z_callSNi (As := [.int (gI q 701), .int 64]) S (ctX10_isOutside l hl D kc ad wad q (gI q 701) 64 h42) ⟨va_cnB 2 S.2.2.2.2 (gW q3_13) rfl rfl rfl (hE.2.2.2.2.2.1 (RX6, 348, yX10_isOutside) (List.mem_of_getElem? (i := 13) rfl)) (S.2.2.2.2 _ q1_1) hX10_isOutside ⟨Nat.le_of_ble_eq_true rfl, Nat.le_of_ble_eq_true rfl⟩, S.2.2.2.2 _ q3_12, trivial⟩ hA (pbX D kc) (psX hK hE) rfl rfl (Nat.le_of_ble_eq_true rfl) dX6_hasSoundParts_42 ⟨Nat.le_of_ble_eq_true rfl, Nat.le_of_ble_eq_true rfl⟩ ?_
        refine z_sub [0] rfl ?_
        exact b45 (fX10_isOutside q (gI q 701) 64).2 (fX10_isOutside q (gI q 701) 64).1 hok hF
      · have hF := hF.trans (if_neg g4)
        have hok := And.right hok g4
        refine z_aload_n (j := 0) hx hb dX6_hasSoundParts_7 rfl rfl ?_
        refine z_get (v := .ref (ad 6)) S hK inX6 4 (fun _ => rfl) rfl 3 (by decide) q2_43 rfl rfl dX6_hasSoundParts_8 ?_
        refine z_get (v := .ref (ad 25)) S hK inX8 6 (fun _ => rfl) rfl 0 (by decide) q1_161 rfl rfl dX6_hasSoundParts_11 ?_
        refine z_iload_n (j := 1) hx hb dX6_hasSoundParts_14 rfl rfl ?_
        have h15 := And.left hok
        have hok := And.right hok
        refine z_iald (f := (gA q 25)) S hK 25 0 (fun _ => rfl) rfl h15 dX6_hasSoundParts_15 ?_
        refine z_sipush (v := 256) hx hb dX6_hasSoundParts_16 (by decide) ?_
        have h19 := And.left hok
        have hok := And.right hok
        refine z_callSNi (As := [.int ((gA q 25) (v1 : Int32).toNatClampNeg), .int 256]) S (ctX10_isOutside l hl D kc ad wad q ((gA q 25) (v1 : Int32).toNatClampNeg) 256 h19) ⟨va_cnB 2 S.2.2.2.2 (gW q3_13) rfl rfl rfl (hE.2.2.2.2.2.1 (RX6, 348, yX10_isOutside) (List.mem_of_getElem? (i := 13) rfl)) (S.2.2.2.2 _ q1_1) hX10_isOutside ⟨Nat.le_of_ble_eq_true rfl, Nat.le_of_ble_eq_true rfl⟩, S.2.2.2.2 _ q3_12, trivial⟩ hA (pbX D kc) (psX hK hE) rfl rfl (Nat.le_of_ble_eq_true rfl) dX6_hasSoundParts_19 ⟨Nat.le_of_ble_eq_true rfl, Nat.le_of_ble_eq_true rfl⟩ ?_
        exact b22 (fX6_hasSoundParts_2 n) (kX6_hasSoundParts_2 n) ih (fX10_isOutside q ((gA q 25) (v1 : Int32).toNatClampNeg) 256).2 v1 (fX10_isOutside q ((gA q 25) (v1 : Int32).toNatClampNeg) 256).1 hok hF
  refine z_iconst (v := 0) hx hb dX6_hasSoundParts_0 (by decide) ?_
  refine z_istore_n (lv' := [(1, .int 0), (0, .ref (ad 4))]) hx hb dX6_hasSoundParts_1 rfl (by decide) rfl ?_
  refine z_sub [1, 0] rfl ?_
  exact b2 10 q 0 hok hF
theorem hX6_hasSoundParts : yX6_hasSoundParts.cls = RX6 ∧ yX6_hasSoundParts.cls ≠ "java/lang/invoke/MethodHandle" ∧ yX6_hasSoundParts.cls ≠ "java/lang/invoke/VarHandle" ∧ (parseMethodDescriptor yX6_hasSoundParts.desc).map (fun d => d.parameters.length) = some 0 := by decide +kernel
def fX6_isKeptIfNotBegun_26 (q : SS) (s0 : Int32) : Int32 × SS := (s0, q)
def kX6_isKeptIfNotBegun_26 (q : SS) (s0 : Int32) : Prop := narrow .boolean (.int s0) = .int s0 ∧ True
def fX6_isKeptIfNotBegun_21 (q : SS) : Int32 × SS := fX6_isKeptIfNotBegun_26 q 1
def kX6_isKeptIfNotBegun_21 (q : SS) : Prop := kX6_isKeptIfNotBegun_26 q 1
def fX6_isKeptIfNotBegun_18 (q : SS) (s0 : Int32) : Int32 × SS := (if s0 = 0 then fX6_isKeptIfNotBegun_26 q 0 else fX6_isKeptIfNotBegun_21 q)
def kX6_isKeptIfNotBegun_18 (q : SS) (s0 : Int32) : Prop := ((s0 = 0 → kX6_isKeptIfNotBegun_26 q 0) ∧ (¬ s0 = 0 → kX6_isKeptIfNotBegun_21 q))
def fX6_isKeptIfNotBegun (q : SS) : Int32 × SS := (if (gI q 511) = 0 then fX6_isKeptIfNotBegun_18 (fX8_isAs_now_keptv q).2 (fX8_isAs_now_keptv q).1 else fX6_isKeptIfNotBegun_21 q)
def kX6_isKeptIfNotBegun (q : SS) : Prop := (((gI q 511) = 0 → kX8_isAs_now_keptv q ∧ kX6_isKeptIfNotBegun_18 (fX8_isAs_now_keptv q).2 (fX8_isAs_now_keptv q).1) ∧ (¬ (gI q 511) = 0 → kX6_isKeptIfNotBegun_21 q))
set_option maxHeartbeats 4000000 in
set_option maxRecDepth 100000 in
theorem ctX6_isKeptIfNotBegun (l : Launch) (hl : l.stackTraces = false) (D : va_G) (kc : Nat → ClassId) (ad wad : Nat → Nat) (q : SS) (hok : kX6_isKeptIfNotBegun q) : Ci l yX6_isKeptIfNotBegun (Cond.code yX6_isKeptIfNotBegun cX6_isKeptIfNotBegun 1 (some .boolean) :: lw_G) (zr 1 0 0) 0 0 (PX D kc) (GX D kc ad wad) (GX D kc ad wad) [.ref (ad 4)] q (fX6_isKeptIfNotBegun q) := by
  refine Ci.of (cc := cX6_isKeptIfNotBegun) (maxL := 1) (ret := (some .boolean)) (by decide) rfl (Nat.le_of_ble_eq_true rfl) ?_
  intro p e s m args below meth c A S hr hlocks hin hA hK
  have hx := S.1
  have hb := S.2.1
  have hE : EV A s s.heap := hK.2
  have hK : va_K D vwCl (tysK kc) s := hK.1
  generalize hFe : fX6_isKeptIfNotBegun q = F
  have hF : F = fX6_isKeptIfNotBegun q := hFe.symm
  have b26 : ∀ (q : SS) (s0 : Int32), kX6_isKeptIfNotBegun_26 q s0 → F = fX6_isKeptIfNotBegun_26 q s0 → Z p l e (zr 1 0 0) s m args below meth c 0 0 (MQ below (va_Qi (fun (x : Int32) (_ : Unit) => x = F.1) (fun _ t => (GX D kc ad wad) A F.2 t.heap) A) args s 0 0 A) 1 A (ZG D vwCl (wX kc ad wad) (PLX wad) A) q 26 [] [.int s0] := by
    intro q s0 hok hF
    have h26 := And.left hok
    have hok := And.right hok
    exact z_iret hx hb hlocks hr h26 hF dX6_isKeptIfNotBegun_26
  have b21 : ∀ (q : SS), kX6_isKeptIfNotBegun_21 q → F = fX6_isKeptIfNotBegun_21 q → Z p l e (zr 1 0 0) s m args below meth c 0 0 (MQ below (va_Qi (fun (x : Int32) (_ : Unit) => x = F.1) (fun _ t => (GX D kc ad wad) A F.2 t.heap) A) args s 0 0 A) 1 A (ZG D vwCl (wX kc ad wad) (PLX wad) A) q 21 [] [] := by
    intro q hok hF
    refine z_iconst (v := 1) hx hb dX6_isKeptIfNotBegun_21 (by decide) ?_
    refine z_goto (tgt := 26) hx hb dX6_isKeptIfNotBegun_22 (by decide) ?_
    exact b26 q 1 hok hF
  have b18 : ∀ (q : SS) (s0 : Int32), kX6_isKeptIfNotBegun_18 q s0 → F = fX6_isKeptIfNotBegun_18 q s0 → Z p l e (zr 1 0 0) s m args below meth c 0 0 (MQ below (va_Qi (fun (x : Int32) (_ : Unit) => x = F.1) (fun _ t => (GX D kc ad wad) A F.2 t.heap) A) args s 0 0 A) 1 A (ZG D vwCl (wX kc ad wad) (PLX wad) A) q 18 [] [.int s0] := by
    intro q s0 hok hF
    refine z_if_eq (tgt := 25) hx hb dX6_isKeptIfNotBegun_18 (by decide) (fun g18 => ?_) (fun g18 => ?_)
    · have hF := hF.trans (if_pos g18)
      have hok := And.left hok g18
      refine z_iconst (v := 0) hx hb dX6_isKeptIfNotBegun_25 (by decide) ?_
      exact b26 q 0 hok hF
    · have hF := hF.trans (if_neg g18)
      have hok := And.right hok g18
      exact b21 q hok hF
  refine z_aload_n (j := 0) hx hb dX6_isKeptIfNotBegun_0 rfl rfl ?_
  refine z_get (v := .int (gI q 511)) S hK inX6 4 (fun _ => rfl) rfl 11 (by decide) q2_54 rfl rfl dX6_isKeptIfNotBegun_1 ?_
  refine z_if_ne (tgt := 21) hx hb dX6_isKeptIfNotBegun_4 (by decide) (fun g4 => ?_) (fun g4 => ?_)
  · have hF := hF.trans (if_neg g4)
    have hok := And.right hok g4
    refine z_sub [] rfl ?_
    exact b21 q hok hF
  · have hF := hF.trans (if_pos g4)
    have hok := And.left hok g4
    refine z_aload_n (j := 0) hx hb dX6_isKeptIfNotBegun_7 rfl rfl ?_
    refine z_get (v := .ref (ad 6)) S hK inX6 4 (fun _ => rfl) rfl 3 (by decide) q2_43 rfl rfl dX6_isKeptIfNotBegun_8 ?_
    refine z_aload_n (j := 0) hx hb dX6_isKeptIfNotBegun_11 rfl rfl ?_
    refine z_get (v := .ref (ad 7)) S hK inX6 4 (fun _ => rfl) rfl 4 (by decide) q2_45 rfl rfl dX6_isKeptIfNotBegun_12 ?_
    have h15 := And.left hok
    have hok := And.right hok
    refine z_callVi (As := [.ref (ad 7)]) S (ctX8_isAs_now_keptv l hl D kc ad wad q h15) (cwV 1 S.2.2.2.2 (gV q3_18 q3_19 q3_20 q1_7 q3_21) rfl rfl rfl hX8_isAs ⟨Nat.le_of_ble_eq_true rfl, Nat.le_of_ble_eq_true rfl⟩) hA (pbX D kc) (psX hK hE) (z_recv hK 6 (fun _ => rfl) rfl) rfl rfl (Nat.le_of_ble_eq_true rfl) dX6_isKeptIfNotBegun_15 ⟨Nat.le_of_ble_eq_true rfl, Nat.le_of_ble_eq_true rfl⟩ ?_
    refine z_sub [] rfl ?_
    exact b18 (fX8_isAs_now_keptv q).2 (fX8_isAs_now_keptv q).1 hok hF
theorem hX6_isKeptIfNotBegun : yX6_isKeptIfNotBegun.cls = RX6 ∧ yX6_isKeptIfNotBegun.cls ≠ "java/lang/invoke/MethodHandle" ∧ yX6_isKeptIfNotBegun.cls ≠ "java/lang/invoke/VarHandle" ∧ (parseMethodDescriptor yX6_isKeptIfNotBegun.desc).map (fun d => d.parameters.length) = some 0 := by decide +kernel
