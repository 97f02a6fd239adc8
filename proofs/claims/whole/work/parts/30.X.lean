def fX9_partsRead_96 (q : SS) (v1 : Int32) : Int32 × SS := (v1, q)
def kX9_partsRead_96 (q : SS) (v1 : Int32) : Prop := True
def fX9_partsRead_91 (q : SS) (v1 : Int32) : Int32 × SS := fX9_partsRead_96 q (v1 ||| 8)
def kX9_partsRead_91 (q : SS) (v1 : Int32) : Prop := kX9_partsRead_96 q (v1 ||| 8)
def fX9_partsRead_64 (q : SS) (w0 : Nat) (v1 : Int32) : Int32 × SS := (if ((gA q 30 w0) &&& 4) = 0 then (if (gA q 33 w0) = 2 then (if ((gA q 32 w0) &&& 8) = 0 then fX9_partsRead_91 q v1 else fX9_partsRead_96 q v1) else fX9_partsRead_96 q v1) else fX9_partsRead_91 q v1)
def kX9_partsRead_64 (q : SS) (w0 : Nat) (v1 : Int32) : Prop := isW q w0 ∧ ((((gA q 30 w0) &&& 4) = 0 → isW q w0 ∧ (((gA q 33 w0) = 2 → isW q w0 ∧ ((((gA q 32 w0) &&& 8) = 0 → kX9_partsRead_91 q v1) ∧ (¬ ((gA q 32 w0) &&& 8) = 0 → kX9_partsRead_96 q v1))) ∧ (¬ (gA q 33 w0) = 2 → kX9_partsRead_96 q v1))) ∧ (¬ ((gA q 30 w0) &&& 4) = 0 → kX9_partsRead_91 q v1))
def fX9_partsRead_44 (q : SS) (w0 : Nat) (v1 : Int32) : Int32 × SS := (if (gA q 33 w0) = 0 then fX9_partsRead_64 q w0 v1 else (if ((gA q 32 w0) &&& 4) = 0 then fX9_partsRead_64 q w0 (v1 ||| 4) else fX9_partsRead_64 q w0 v1))
def kX9_partsRead_44 (q : SS) (w0 : Nat) (v1 : Int32) : Prop := isW q w0 ∧ (((gA q 33 w0) = 0 → kX9_partsRead_64 q w0 v1) ∧ (¬ (gA q 33 w0) = 0 → isW q w0 ∧ ((((gA q 32 w0) &&& 4) = 0 → kX9_partsRead_64 q w0 (v1 ||| 4)) ∧ (¬ ((gA q 32 w0) &&& 4) = 0 → kX9_partsRead_64 q w0 v1))))
def fX9_partsRead_31 (q : SS) (w0 : Nat) (v1 : Int32) : Int32 × SS := (if ((gA q 30 w0) &&& 2) = 0 then fX9_partsRead_44 q w0 v1 else fX9_partsRead_44 q w0 (v1 ||| 2))
def kX9_partsRead_31 (q : SS) (w0 : Nat) (v1 : Int32) : Prop := isW q w0 ∧ ((((gA q 30 w0) &&& 2) = 0 → kX9_partsRead_44 q w0 v1) ∧ (¬ ((gA q 30 w0) &&& 2) = 0 → kX9_partsRead_44 q w0 (v1 ||| 2)))
def fX9_partsRead_27 (q : SS) (w0 : Nat) (v1 : Int32) : Int32 × SS := fX9_partsRead_31 q w0 (v1 ||| 1)
def kX9_partsRead_27 (q : SS) (w0 : Nat) (v1 : Int32) : Prop := kX9_partsRead_31 q w0 (v1 ||| 1)
def fX9_partsRead (q : SS) (w0 : Nat) : Int32 × SS := (if ((gA q 30 w0) &&& 1) = 0 then (if (gA q 31 w0) < 1 then fX9_partsRead_31 q w0 0 else (if 4 < (gA q 31 w0) then fX9_partsRead_31 q w0 0 else fX9_partsRead_27 q w0 0)) else fX9_partsRead_27 q w0 0)
def kX9_partsRead (q : SS) (w0 : Nat) : Prop := isW q w0 ∧ ((((gA q 30 w0) &&& 1) = 0 → isW q w0 ∧ (((gA q 31 w0) < 1 → kX9_partsRead_31 q w0 0) ∧ (¬ (gA q 31 w0) < 1 → isW q w0 ∧ ((4 < (gA q 31 w0) → kX9_partsRead_31 q w0 0) ∧ (¬ 4 < (gA q 31 w0) → kX9_partsRead_27 q w0 0))))) ∧ (¬ ((gA q 30 w0) &&& 1) = 0 → kX9_partsRead_27 q w0 0))
set_option maxHeartbeats 4000000 in
set_option maxRecDepth 100000 in
theorem ctX9_partsRead (l : Launch) (hl : l.stackTraces = false) (D : va_G) (kc : Nat → ClassId) (ad wad : Nat → Nat) (q : SS) (w0 : Nat) (hok : kX9_partsRead q w0) : Ci l yX9_partsRead (Cond.code yX9_partsRead cX9_partsRead 2 (some .int) :: lw_G) (zr 0 0 0) 0 0 (PX D kc) (GX D kc ad wad) (GX D kc ad wad) [.ref (wad w0)] q (fX9_partsRead q w0) := by
  refine Ci.of (cc := cX9_partsRead) (maxL := 2) (ret := (some .int)) (by decide) rfl (Nat.le_of_ble_eq_true rfl) ?_
  intro p e s m args below meth c A S hr hlocks hin hA hK
  have hx := S.1
  have hb := S.2.1
  have hE : EV A s s.heap := hK.2
  have hK : va_K D vwCl (tysK kc) s := hK.1
  generalize hFe : fX9_partsRead q w0 = F
  have hF : F = fX9_partsRead q w0 := hFe.symm
  have b96 : ∀ (q : SS) (v1 : Int32), kX9_partsRead_96 q v1 → F = fX9_partsRead_96 q v1 → Z p l e (zr 0 0 0) s m args below meth c 0 0 (MQ below (va_Qi (fun (x : Int32) (_ : Unit) => x = F.1) (fun _ t => (GX D kc ad wad) A F.2 t.heap) A) args s 0 0 A) 2 A (ZG D vwCl (wX kc ad wad) (PLX wad) A) q 96 [(1, .int v1)] [] := by
    intro q v1 hok hF
    refine z_iload_n (j := 0) hx hb dX9_partsRead_96 rfl rfl ?_
    exact z_iret hx hb hlocks hr rfl hF dX9_partsRead_97
  have b91 : ∀ (q : SS) (v1 : Int32), kX9_partsRead_91 q v1 → F = fX9_partsRead_91 q v1 → Z p l e (zr 0 0 0) s m args below meth c 0 0 (MQ below (va_Qi (fun (x : Int32) (_ : Unit) => x = F.1) (fun _ t => (GX D kc ad wad) A F.2 t.heap) A) args s 0 0 A) 2 A (ZG D vwCl (wX kc ad wad) (PLX wad) A) q 91 [(1, .int v1)] [] := by
    intro q v1 hok hF
    refine z_iload_n (j := 0) hx hb dX9_partsRead_91 rfl rfl ?_
    refine z_bipush (v := 8) hx hb dX9_partsRead_92 (by decide) ?_
    refine z_ior hx hb dX9_partsRead_94 ?_
    refine z_istore_n (lv' := [(1, .int (v1 ||| 8))]) hx hb dX9_partsRead_95 rfl (by decide) rfl ?_
    exact b96 q (v1 ||| 8) hok hF
  have b64 : ∀ (q : SS) (w0 : Nat) (v1 : Int32), kX9_partsRead_64 q w0 v1 → F = fX9_partsRead_64 q w0 v1 → Z p l e (zr 0 0 0) s m args below meth c 0 0 (MQ below (va_Qi (fun (x : Int32) (_ : Unit) => x = F.1) (fun _ t => (GX D kc ad wad) A F.2 t.heap) A) args s 0 0 A) 2 A (ZG D vwCl (wX kc ad wad) (PLX wad) A) q 64 [(0, .ref (wad w0)), (1, .int v1)] [] := by
    intro q w0 v1 hok hF
    refine z_aload_n (j := 0) hx hb dX9_partsRead_64 rfl rfl ?_
    have h65 := And.left hok
    have hok := And.right hok
    refine z_getW (v := .int (gA q 30 w0)) S hK h65 inX9 0 (by decide) q4_26 rfl rfl dX9_partsRead_65 ?_
    refine z_iconst (v := 4) hx hb dX9_partsRead_68 (by decide) ?_
    refine z_iand hx hb dX9_partsRead_69 ?_
    refine z_if_ne (tgt := 91) hx hb dX9_partsRead_70 (by decide) (fun g70 => ?_) (fun g70 => ?_)
    · have hF := hF.trans (if_neg g70)
      have hok := And.right hok g70
      refine z_sub [1] rfl ?_
      exact b91 q v1 hok hF
    · have hF := hF.trans (if_pos g70)
      have hok := And.left hok g70
      refine z_aload_n (j := 0) hx hb dX9_partsRead_73 rfl rfl ?_
      have h74 := And.left hok
      have hok := And.right hok
      refine z_getW (v := .int (gA q 33 w0)) S hK h74 inX9 3 (by decide) q4_35 rfl rfl dX9_partsRead_74 ?_
      refine z_iconst (v := 2) hx hb dX9_partsRead_77 (by decide) ?_
      refine z_icmp_ne (tgt := 96) hx hb dX9_partsRead_78 (by decide) (fun g78 => ?_) (fun g78 => ?_)
      · have hF := hF.trans (if_neg g78)
        have hok := And.right hok g78
        refine z_sub [1] rfl ?_
        exact b96 q v1 hok hF
      · have hF := hF.trans (if_pos g78)
        have hok := And.left hok g78
        refine z_aload_n (j := 0) hx hb dX9_partsRead_81 rfl rfl ?_
        have h82 := And.left hok
        have hok := And.right hok
        refine z_getW (v := .int (gA q 32 w0)) S hK h82 inX9 2 (by decide) q4_32 rfl rfl dX9_partsRead_82 ?_
        refine z_bipush (v := 8) hx hb dX9_partsRead_85 (by decide) ?_
        refine z_iand hx hb dX9_partsRead_87 ?_
        refine z_if_ne (tgt := 96) hx hb dX9_partsRead_88 (by decide) (fun g88 => ?_) (fun g88 => ?_)
        · have hF := hF.trans (if_neg g88)
          have hok := And.right hok g88
          refine z_sub [1] rfl ?_
          exact b96 q v1 hok hF
        · have hF := hF.trans (if_pos g88)
          have hok := And.left hok g88
          refine z_sub [1] rfl ?_
          exact b91 q v1 hok hF
  have b44 : ∀ (q : SS) (w0 : Nat) (v1 : Int32), kX9_partsRead_44 q w0 v1 → F = fX9_partsRead_44 q w0 v1 → Z p l e (zr 0 0 0) s m args below meth c 0 0 (MQ below (va_Qi (fun (x : Int32) (_ : Unit) => x = F.1) (fun _ t => (GX D kc ad wad) A F.2 t.heap) A) args s 0 0 A) 2 A (ZG D vwCl (wX kc ad wad) (PLX wad) A) q 44 [(0, .ref (wad w0)), (1, .int v1)] [] := by
    intro q w0 v1 hok hF
    refine z_aload_n (j := 0) hx hb dX9_partsRead_44 rfl rfl ?_
    have h45 := And.left hok
    have hok := And.right hok
    refine z_getW (v := .int (gA q 33 w0)) S hK h45 inX9 3 (by decide) q4_35 rfl rfl dX9_partsRead_45 ?_
    refine z_if_eq (tgt := 64) hx hb dX9_partsRead_48 (by decide) (fun g48 => ?_) (fun g48 => ?_)
    · have hF := hF.trans (if_pos g48)
      have hok := And.left hok g48
      exact b64 q w0 v1 hok hF
    · have hF := hF.trans (if_neg g48)
      have hok := And.right hok g48
      refine z_aload_n (j := 0) hx hb dX9_partsRead_51 rfl rfl ?_
      have h52 := And.left hok
      have hok := And.right hok
      refine z_getW (v := .int (gA q 32 w0)) S hK h52 inX9 2 (by decide) q4_32 rfl rfl dX9_partsRead_52 ?_
      refine z_iconst (v := 4) hx hb dX9_partsRead_55 (by decide) ?_
      refine z_iand hx hb dX9_partsRead_56 ?_
      refine z_if_ne (tgt := 64) hx hb dX9_partsRead_57 (by decide) (fun g57 => ?_) (fun g57 => ?_)
      · have hF := hF.trans (if_neg g57)
        have hok := And.right hok g57
        exact b64 q w0 v1 hok hF
      · have hF := hF.trans (if_pos g57)
        have hok := And.left hok g57
        refine z_iload_n (j := 1) hx hb dX9_partsRead_60 rfl rfl ?_
        refine z_iconst (v := 4) hx hb dX9_partsRead_61 (by decide) ?_
        refine z_ior hx hb dX9_partsRead_62 ?_
        refine z_istore_n (lv' := [(1, .int (v1 ||| 4)), (0, .ref (wad w0))]) hx hb dX9_partsRead_63 rfl (by decide) rfl ?_
        refine z_sub [1, 0] rfl ?_
        exact b64 q w0 (v1 ||| 4) hok hF
  have b31 : ∀ (q : SS) (w0 : Nat) (v1 : Int32), kX9_partsRead_31 q w0 v1 → F = fX9_partsRead_31 q w0 v1 → Z p l e (zr 0 0 0) s m args below meth c 0 0 (MQ below (va_Qi (fun (x : Int32) (_ : Unit) => x = F.1) (fun _ t => (GX D kc ad wad) A F.2 t.heap) A) args s 0 0 A) 2 A (ZG D vwCl (wX kc ad wad) (PLX wad) A) q 31 [(0, .ref (wad w0)), (1, .int v1)] [] := by
    intro q w0 v1 hok hF
    refine z_aload_n (j := 0) hx hb dX9_partsRead_31 rfl rfl ?_
    have h32 := And.left hok
    have hok := And.right hok
    refine z_getW (v := .int (gA q 30 w0)) S hK h32 inX9 0 (by decide) q4_26 rfl rfl dX9_partsRead_32 ?_
    refine z_iconst (v := 2) hx hb dX9_partsRead_35 (by decide) ?_
    refine z_iand hx hb dX9_partsRead_36 ?_
    refine z_if_eq (tgt := 44) hx hb dX9_partsRead_37 (by decide) (fun g37 => ?_) (fun g37 => ?_)
    · have hF := hF.trans (if_pos g37)
      have hok := And.left hok g37
      exact b44 q w0 v1 hok hF
    · have hF := hF.trans (if_neg g37)
      have hok := And.right hok g37
      refine z_iload_n (j := 1) hx hb dX9_partsRead_40 rfl rfl ?_
      refine z_iconst (v := 2) hx hb dX9_partsRead_41 (by decide) ?_
      refine z_ior hx hb dX9_partsRead_42 ?_
      refine z_istore_n (lv' := [(1, .int (v1 ||| 2)), (0, .ref (wad w0))]) hx hb dX9_partsRead_43 rfl (by decide) rfl ?_
      refine z_sub [1, 0] rfl ?_
      exact b44 q w0 (v1 ||| 2) hok hF
  have b27 : ∀ (q : SS) (w0 : Nat) (v1 : Int32), kX9_partsRead_27 q w0 v1 → F = fX9_partsRead_27 q w0 v1 → Z p l e (zr 0 0 0) s m args below meth c 0 0 (MQ below (va_Qi (fun (x : Int32) (_ : Unit) => x = F.1) (fun _ t => (GX D kc ad wad) A F.2 t.heap) A) args s 0 0 A) 2 A (ZG D vwCl (wX kc ad wad) (PLX wad) A) q 27 [(0, .ref (wad w0)), (1, .int v1)] [] := by
    intro q w0 v1 hok hF
    refine z_iload_n (j := 1) hx hb dX9_partsRead_27 rfl rfl ?_
    refine z_iconst (v := 1) hx hb dX9_partsRead_28 (by decide) ?_
    refine z_ior hx hb dX9_partsRead_29 ?_
    refine z_istore_n (lv' := [(1, .int (v1 ||| 1)), (0, .ref (wad w0))]) hx hb dX9_partsRead_30 rfl (by decide) rfl ?_
    refine z_sub [1, 0] rfl ?_
    exact b31 q w0 (v1 ||| 1) hok hF
  refine z_iconst (v := 0) hx hb dX9_partsRead_0 (by decide) ?_
  refine z_istore_n (lv' := [(1, .int 0), (0, .ref (wad w0))]) hx hb dX9_partsRead_1 rfl (by decide) rfl ?_
  refine z_aload_n (j := 1) hx hb dX9_partsRead_2 rfl rfl ?_
  have h3 := And.left hok
  have hok := And.right hok
  refine z_getW (v := .int (gA q 30 w0)) S hK h3 inX9 0 (by decide) q4_26 rfl rfl dX9_partsRead_3 ?_
  refine z_iconst (v := 1) hx hb dX9_partsRead_6 (by decide) ?_
  refine z_iand hx hb dX9_partsRead_7 ?_
  refine z_if_ne (tgt := 27) hx hb dX9_partsRead_8 (by decide) (fun g8 => ?_) (fun g8 => ?_)
  · have hF := hF.trans (if_neg g8)
    have hok := And.right hok g8
    refine z_sub [1, 0] rfl ?_
    exact b27 q w0 0 hok hF
  · have hF := hF.trans (if_pos g8)
    have hok := And.left hok g8
    refine z_aload_n (j := 1) hx hb dX9_partsRead_11 rfl rfl ?_
    have h12 := And.left hok
    have hok := And.right hok
    refine z_getW (v := .int (gA q 31 w0)) S hK h12 inX9 1 (by decide) q4_29 rfl rfl dX9_partsRead_12 ?_
    refine z_iconst (v := 1) hx hb dX9_partsRead_15 (by decide) ?_
    refine z_icmp_lt (tgt := 31) hx hb dX9_partsRead_16 (by decide) (fun g16 => ?_) (fun g16 => ?_)
    · have hF := hF.trans (if_pos g16)
      have hok := And.left hok g16
      refine z_sub [1, 0] rfl ?_
      exact b31 q w0 0 hok hF
    · have hF := hF.trans (if_neg g16)
      have hok := And.right hok g16
      refine z_aload_n (j := 1) hx hb dX9_partsRead_19 rfl rfl ?_
      have h20 := And.left hok
      have hok := And.right hok
      refine z_getW (v := .int (gA q 31 w0)) S hK h20 inX9 1 (by decide) q4_29 rfl rfl dX9_partsRead_20 ?_
      refine z_iconst (v := 4) hx hb dX9_partsRead_23 (by decide) ?_
      refine z_icmp_gt (tgt := 31) hx hb dX9_partsRead_24 (by decide) (fun g24 => ?_) (fun g24 => ?_)
      · have hF := hF.trans (if_pos g24)
        have hok := And.left hok g24
        refine z_sub [1, 0] rfl ?_
        exact b31 q w0 0 hok hF
      · have hF := hF.trans (if_neg g24)
        have hok := And.right hok g24
        refine z_sub [1, 0] rfl ?_
        exact b27 q w0 0 hok hF
theorem hX9_partsRead : yX9_partsRead.cls = RX9 ∧ yX9_partsRead.cls ≠ "java/lang/invoke/MethodHandle" ∧ yX9_partsRead.cls ≠ "java/lang/invoke/VarHandle" ∧ (parseMethodDescriptor yX9_partsRead.desc).map (fun d => d.parameters.length) = some 0 := by decide +kernel
def fX9_partsSet_24 (q : SS) (s0 : Int32) : Int32 × SS := (s0, q)
def kX9_partsSet_24 (q : SS) (s0 : Int32) : Prop := True
def fX9_partsSet (q : SS) (w0 : Nat) : Int32 × SS := (if (gA q 33 w0) = 1 then fX9_partsSet_24 q (((gA q 32 w0) &&& 15) ||| 8) else fX9_partsSet_24 q ((gA q 32 w0) &&& 15))
def kX9_partsSet (q : SS) (w0 : Nat) : Prop := isW q w0 ∧ isW q w0 ∧ (((gA q 33 w0) = 1 → kX9_partsSet_24 q (((gA q 32 w0) &&& 15) ||| 8)) ∧ (¬ (gA q 33 w0) = 1 → kX9_partsSet_24 q ((gA q 32 w0) &&& 15)))
set_option maxHeartbeats 4000000 in
set_option maxRecDepth 100000 in
theorem ctX9_partsSet (l : Launch) (hl : l.stackTraces = false) (D : va_G) (kc : Nat → ClassId) (ad wad : Nat → Nat) (q : SS) (w0 : Nat) (hok : kX9_partsSet q w0) : Ci l yX9_partsSet (Cond.code yX9_partsSet cX9_partsSet 2 (some .int) :: lw_G) (zr 0 0 0) 0 0 (PX D kc) (GX D kc ad wad) (GX D kc ad wad) [.ref (wad w0)] q (fX9_partsSet q w0) := by
  refine Ci.of (cc := cX9_partsSet) (maxL := 2) (ret := (some .int)) (by decide) rfl (Nat.le_of_ble_eq_true rfl) ?_
  intro p e s m args below meth c A S hr hlocks hin hA hK
  have hx := S.1
  have hb := S.2.1
  have hE : EV A s s.heap := hK.2
  have hK : va_K D vwCl (tysK kc) s := hK.1
  generalize hFe : fX9_partsSet q w0 = F
  have hF : F = fX9_partsSet q w0 := hFe.symm
  have b24 : ∀ (q : SS) (s0 : Int32), kX9_partsSet_24 q s0 → F = fX9_partsSet_24 q s0 → Z p l e (zr 0 0 0) s m args below meth c 0 0 (MQ below (va_Qi (fun (x : Int32) (_ : Unit) => x = F.1) (fun _ t => (GX D kc ad wad) A F.2 t.heap) A) args s 0 0 A) 2 A (ZG D vwCl (wX kc ad wad) (PLX wad) A) q 24 [] [.int s0] := by
    intro q s0 hok hF
    exact z_iret hx hb hlocks hr rfl hF dX9_partsSet_24
  refine z_aload_n (j := 0) hx hb dX9_partsSet_0 rfl rfl ?_
  have h1 := And.left hok
  have hok := And.right hok
  refine z_getW (v := .int (gA q 32 w0)) S hK h1 inX9 2 (by decide) q4_32 rfl rfl dX9_partsSet_1 ?_
  refine z_bipush (v := 15) hx hb dX9_partsSet_4 (by decide) ?_
  refine z_iand hx hb dX9_partsSet_6 ?_
  refine z_istore_n (lv' := [(1, .int ((gA q 32 w0) &&& 15)), (0, .ref (wad w0))]) hx hb dX9_partsSet_7 rfl (by decide) rfl ?_
  refine z_aload_n (j := 1) hx hb dX9_partsSet_8 rfl rfl ?_
  have h9 := And.left hok
  have hok := And.right hok
  refine z_getW (v := .int (gA q 33 w0)) S hK h9 inX9 3 (by decide) q4_35 rfl rfl dX9_partsSet_9 ?_
  refine z_iconst (v := 1) hx hb dX9_partsSet_12 (by decide) ?_
  refine z_icmp_ne (tgt := 23) hx hb dX9_partsSet_13 (by decide) (fun g13 => ?_) (fun g13 => ?_)
  · have hF := hF.trans (if_neg g13)
    have hok := And.right hok g13
    refine z_iload_n (j := 0) hx hb dX9_partsSet_23 rfl rfl ?_
    refine z_sub [] rfl ?_
    exact b24 q ((gA q 32 w0) &&& 15) hok hF
  · have hF := hF.trans (if_pos g13)
    have hok := And.left hok g13
    refine z_iload_n (j := 0) hx hb dX9_partsSet_16 rfl rfl ?_
    refine z_bipush (v := 8) hx hb dX9_partsSet_17 (by decide) ?_
    refine z_ior hx hb dX9_partsSet_19 ?_
    refine z_goto (tgt := 24) hx hb dX9_partsSet_20 (by decide) ?_
    refine z_sub [] rfl ?_
    exact b24 q (((gA q 32 w0) &&& 15) ||| 8) hok hF
theorem hX9_partsSet : yX9_partsSet.cls = RX9 ∧ yX9_partsSet.cls ≠ "java/lang/invoke/MethodHandle" ∧ yX9_partsSet.cls ≠ "java/lang/invoke/VarHandle" ∧ (parseMethodDescriptor yX9_partsSet.desc).map (fun d => d.parameters.length) = some 0 := by decide +kernel
def fX9_copyFrom_56 (q : SS) (w0 : Nat) (w1 : Nat) : SS := (sA (sA q 37 (upd (gA q 37) w0 (gA q 37 w1))) 38 (upd (gA (sA q 37 (upd (gA q 37) w0 (gA q 37 w1))) 38) w0 (gA (sA q 37 (upd (gA q 37) w0 (gA q 37 w1))) 38 w1)))
def kX9_copyFrom_56 (q : SS) (w0 : Nat) (w1 : Nat) : Prop := isW q w1 ∧ isW q w0 ∧ nf .boolean (gA q 37 w1) ∧ isW (sA q 37 (upd (gA q 37) w0 (gA q 37 w1))) w1 ∧ isW (sA q 37 (upd (gA q 37) w0 (gA q 37 w1))) w0 ∧ True
def fX9_copyFrom (q : SS) (w0 : Nat) (w1 : Nat) : SS := fX9_copyFrom_56 (sA (sA (sA (sA (sA (sA (sA q 30 (upd (gA q 30) w0 (gA q 30 w1))) 31 (upd (gA (sA q 30 (upd (gA q 30) w0 (gA q 30 w1))) 31) w0 (gA (sA q 30 (upd (gA q 30) w0 (gA q 30 w1))) 31 w1))) 32 (upd (gA (sA (sA q 30 (upd (gA q 30) w0 (gA q 30 w1))) 31 (upd (gA (sA q 30 (upd (gA q 30) w0 (gA q 30 w1))) 31) w0 (gA (sA q 30 (upd (gA q 30) w0 (gA q 30 w1))) 31 w1))) 32) w0 (gA (sA (sA q 30 (upd (gA q 30) w0 (gA q 30 w1))) 31 (upd (gA (sA q 30 (upd (gA q 30) w0 (gA q 30 w1))) 31) w0 (gA (sA q 30 (upd (gA q 30) w0 (gA q 30 w1))) 31 w1))) 32 w1))) 33 (upd (gA (sA (sA (sA q 30 (upd (gA q 30) w0 (gA q 30 w1))) 31 (upd (gA (sA q 30 (upd (gA q 30) w0 (gA q 30 w1))) 31) w0 (gA (sA q 30 (upd (gA q 30) w0 (gA q 30 w1))) 31 w1))) 32 (upd (gA (sA (sA q 30 (upd (gA q 30) w0 (gA q 30 w1))) 31 (upd (gA (sA q 30 (upd (gA q 30) w0 (gA q 30 w1))) 31) w0 (gA (sA q 30 (upd (gA q 30) w0 (gA q 30 w1))) 31 w1))) 32) w0 (gA (sA (sA q 30 (upd (gA q 30) w0 (gA q 30 w1))) 31 (upd (gA (sA q 30 (upd (gA q 30) w0 (gA q 30 w1))) 31) w0 (gA (sA q 30 (upd (gA q 30) w0 (gA q 30 w1))) 31 w1))) 32 w1))) 33) w0 (gA (sA (sA (sA q 30 (upd (gA q 30) w0 (gA q 30 w1))) 31 (upd (gA (sA q 30 (upd (gA q 30) w0 (gA q 30 w1))) 31) w0 (gA (sA q 30 (upd (gA q 30) w0 (gA q 30 w1))) 31 w1))) 32 (upd (gA (sA (sA q 30 (upd (gA q 30) w0 (gA q 30 w1))) 31 (upd (gA (sA q 30 (upd (gA q 30) w0 (gA q 30 w1))) 31) w0 (gA (sA q 30 (upd (gA q 30) w0 (gA q 30 w1))) 31 w1))) 32) w0 (gA (sA (sA q 30 (upd (gA q 30) w0 (gA q 30 w1))) 31 (upd (gA (sA q 30 (upd (gA q 30) w0 (gA q 30 w1))) 31) w0 (gA (sA q 30 (upd (gA q 30) w0 (gA q 30 w1))) 31 w1))) 32 w1))) 33 w1))) 34 (upd (gA (sA (sA (sA (sA q 30 (upd (gA q 30) w0 (gA q 30 w1))) 31 (upd (gA (sA q 30 (upd (gA q 30) w0 (gA q 30 w1))) 31) w0 (gA (sA q 30 (upd (gA q 30) w0 (gA q 30 w1))) 31 w1))) 32 (upd (gA (sA (sA q 30 (upd (gA q 30) w0 (gA q 30 w1))) 31 (upd (gA (sA q 30 (upd (gA q 30) w0 (gA q 30 w1))) 31) w0 (gA (sA q 30 (upd (gA q 30) w0 (gA q 30 w1))) 31 w1))) 32) w0 (gA (sA (sA q 30 (upd (gA q 30) w0 (gA q 30 w1))) 31 (upd (gA (sA q 30 (upd (gA q 30) w0 (gA q 30 w1))) 31) w0 (gA (sA q 30 (upd (gA q 30) w0 (gA q 30 w1))) 31 w1))) 32 w1))) 33 (upd (gA (sA (sA (sA q 30 (upd (gA q 30) w0 (gA q 30 w1))) 31 (upd (gA (sA q 30 (upd (gA q 30) w0 (gA q 30 w1))) 31) w0 (gA (sA q 30 (upd (gA q 30) w0 (gA q 30 w1))) 31 w1))) 32 (upd (gA (sA (sA q 30 (upd (gA q 30) w0 (gA q 30 w1))) 31 (upd (gA (sA q 30 (upd (gA q 30) w0 (gA q 30 w1))) 31) w0 (gA (sA q 30 (upd (gA q 30) w0 (gA q 30 w1))) 31 w1))) 32) w0 (gA (sA (sA q 30 (upd (gA q 30) w0 (gA q 30 w1))) 31 (upd (gA (sA q 30 (upd (gA q 30) w0 (gA q 30 w1))) 31) w0 (gA (sA q 30 (upd (gA q 30) w0 (gA q 30 w1))) 31 w1))) 32 w1))) 33) w0 (gA (sA (sA (sA q 30 (upd (gA q 30) w0 (gA q 30 w1))) 31 (upd (gA (sA q 30 (upd (gA q 30) w0 (gA q 30 w1))) 31) w0 (gA (sA q 30 (upd (gA q 30) w0 (gA q 30 w1))) 31 w1))) 32 (upd (gA (sA (sA q 30 (upd (gA q 30) w0 (gA q 30 w1))) 31 (upd (gA (sA q 30 (upd (gA q 30) w0 (gA q 30 w1))) 31) w0 (gA (sA q 30 (upd (gA q 30) w0 (gA q 30 w1))) 31 w1))) 32) w0 (gA (sA (sA q 30 (upd (gA q 30) w0 (gA q 30 w1))) 31 (upd (gA (sA q 30 (upd (gA q 30) w0 (gA q 30 w1))) 31) w0 (gA (sA q 30 (upd (gA q 30) w0 (gA q 30 w1))) 31 w1))) 32 w1))) 33 w1))) 34) w0 (gA (sA (sA (sA (sA q 30 (upd (gA q 30) w0 (gA q 30 w1))) 31 (upd (gA (sA q 30 (upd (gA q 30) w0 (gA q 30 w1))) 31) w0 (gA (sA q 30 (upd (gA q 30) w0 (gA q 30 w1))) 31 w1))) 32 (upd (gA (sA (sA q 30 (upd (gA q 30) w0 (gA q 30 w1))) 31 (upd (gA (sA q 30 (upd (gA q 30) w0 (gA q 30 w1))) 31) w0 (gA (sA q 30 (upd (gA q 30) w0 (gA q 30 w1))) 31 w1))) 32) w0 (gA (sA (sA q 30 (upd (gA q 30) w0 (gA q 30 w1))) 31 (upd (gA (sA q 30 (upd (gA q 30) w0 (gA q 30 w1))) 31) w0 (gA (sA q 30 (upd (gA q 30) w0 (gA q 30 w1))) 31 w1))) 32 w1))) 33 (upd (gA (sA (sA (sA q 30 (upd (gA q 30) w0 (gA q 30 w1))) 31 (upd (gA (sA q 30 (upd (gA q 30) w0 (gA q 30 w1))) 31) w0 (gA (sA q 30 (upd (gA q 30) w0 (gA q 30 w1))) 31 w1))) 32 (upd (gA (sA (sA q 30 (upd (gA q 30) w0 (gA q 30 w1))) 31 (upd (gA (sA q 30 (upd (gA q 30) w0 (gA q 30 w1))) 31) w0 (gA (sA q 30 (upd (gA q 30) w0 (gA q 30 w1))) 31 w1))) 32) w0 (gA (sA (sA q 30 (upd (gA q 30) w0 (gA q 30 w1))) 31 (upd (gA (sA q 30 (upd (gA q 30) w0 (gA q 30 w1))) 31) w0 (gA (sA q 30 (upd (gA q 30) w0 (gA q 30 w1))) 31 w1))) 32 w1))) 33) w0 (gA (sA (sA (sA q 30 (upd (gA q 30) w0 (gA q 30 w1))) 31 (upd (gA (sA q 30 (upd (gA q 30) w0 (gA q 30 w1))) 31) w0 (gA (sA q 30 (upd (gA q 30) w0 (gA q 30 w1))) 31 w1))) 32 (upd (gA (sA (sA q 30 (upd (gA q 30) w0 (gA q 30 w1))) 31 (upd (gA (sA q 30 (upd (gA q 30) w0 (gA q 30 w1))) 31) w0 (gA (sA q 30 (upd (gA q 30) w0 (gA q 30 w1))) 31 w1))) 32) w0 (gA (sA (sA q 30 (upd (gA q 30) w0 (gA q 30 w1))) 31 (upd (gA (sA q 30 (upd (gA q 30) w0 (gA q 30 w1))) 31) w0 (gA (sA q 30 (upd (gA q 30) w0 (gA q 30 w1))) 31 w1))) 32 w1))) 33 w1))) 34 w1))) 35 (upd (gA (sA (sA (sA (sA (sA q 30 (upd (gA q 30) w0 (gA q 30 w1))) 31 (upd (gA (sA q 30 (upd (gA q 30) w0 (gA q 30 w1))) 31) w0 (gA (sA q 30 (upd (gA q 30) w0 (gA q 30 w1))) 31 w1))) 32 (upd (gA (sA (sA q 30 (upd (gA q 30) w0 (gA q 30 w1))) 31 (upd (gA (sA q 30 (upd (gA q 30) w0 (gA q 30 w1))) 31) w0 (gA (sA q 30 (upd (gA q 30) w0 (gA q 30 w1))) 31 w1))) 32) w0 (gA (sA (sA q 30 (upd (gA q 30) w0 (gA q 30 w1))) 31 (upd (gA (sA q 30 (upd (gA q 30) w0 (gA q 30 w1))) 31) w0 (gA (sA q 30 (upd (gA q 30) w0 (gA q 30 w1))) 31 w1))) 32 w1))) 33 (upd (gA (sA (sA (sA q 30 (upd (gA q 30) w0 (gA q 30 w1))) 31 (upd (gA (sA q 30 (upd (gA q 30) w0 (gA q 30 w1))) 31) w0 (gA (sA q 30 (upd (gA q 30) w0 (gA q 30 w1))) 31 w1))) 32 (upd (gA (sA (sA q 30 (upd (gA q 30) w0 (gA q 30 w1))) 31 (upd (gA (sA q 30 (upd (gA q 30) w0 (gA q 30 w1))) 31) w0 (gA (sA q 30 (upd (gA q 30) w0 (gA q 30 w1))) 31 w1))) 32) w0 (gA (sA (sA q 30 (upd (gA q 30) w0 (gA q 30 w1))) 31 (upd (gA (sA q 30 (upd (gA q 30) w0 (gA q 30 w1))) 31) w0 (gA (sA q 30 (upd (gA q 30) w0 (gA q 30 w1))) 31 w1))) 32 w1))) 33) w0 (gA (sA (sA (sA q 30 (upd (gA q 30) w0 (gA q 30 w1))) 31 (upd (gA (sA q 30 (upd (gA q 30) w0 (gA q 30 w1))) 31) w0 (gA (sA q 30 (upd (gA q 30) w0 (gA q 30 w1))) 31 w1))) 32 (upd (gA (sA (sA q 30 (upd (gA q 30) w0 (gA q 30 w1))) 31 (upd (gA (sA q 30 (upd (gA q 30) w0 (gA q 30 w1))) 31) w0 (gA (sA q 30 (upd (gA q 30) w0 (gA q 30 w1))) 31 w1))) 32) w0 (gA (sA (sA q 30 (upd (gA q 30) w0 (gA q 30 w1))) 31 (upd (gA (sA q 30 (upd (gA q 30) w0 (gA q 30 w1))) 31) w0 (gA (sA q 30 (upd (gA q 30) w0 (gA q 30 w1))) 31 w1))) 32 w1))) 33 w1))) 34 (upd (gA (sA (sA (sA (sA q 30 (upd (gA q 30) w0 (gA q 30 w1))) 31 (upd (gA (sA q 30 (upd (gA q 30) w0 (gA q 30 w1))) 31) w0 (gA (sA q 30 (upd (gA q 30) w0 (gA q 30 w1))) 31 w1))) 32 (upd (gA (sA (sA q 30 (upd (gA q 30) w0 (gA q 30 w1))) 31 (upd (gA (sA q 30 (upd (gA q 30) w0 (gA q 30 w1))) 31) w0 (gA (sA q 30 (upd (gA q 30) w0 (gA q 30 w1))) 31 w1))) 32) w0 (gA (sA (sA q 30 (upd (gA q 30) w0 (gA q 30 w1))) 31 (upd (gA (sA q 30 (upd (gA q 30) w0 (gA q 30 w1))) 31) w0 (gA (sA q 30 (upd (gA q 30) w0 (gA q 30 w1))) 31 w1))) 32 w1))) 33 (upd (gA (sA (sA (sA q 30 (upd (gA q 30) w0 (gA q 30 w1))) 31 (upd (gA (sA q 30 (upd (gA q 30) w0 (gA q 30 w1))) 31) w0 (gA (sA q 30 (upd (gA q 30) w0 (gA q 30 w1))) 31 w1))) 32 (upd (gA (sA (sA q 30 (upd (gA q 30) w0 (gA q 30 w1))) 31 (upd (gA (sA q 30 (upd (gA q 30) w0 (gA q 30 w1))) 31) w0 (gA (sA q 30 (upd (gA q 30) w0 (gA q 30 w1))) 31 w1))) 32) w0 (gA (sA (sA q 30 (upd (gA q 30) w0 (gA q 30 w1))) 31 (upd (gA (sA q 30 (upd (gA q 30) w0 (gA q 30 w1))) 31) w0 (gA (sA q 30 (upd (gA q 30) w0 (gA q 30 w1))) 31 w1))) 32 w1))) 33) w0 (gA (sA (sA (sA q 30 (upd (gA q 30) w0 (gA q 30 w1))) 31 (upd (gA (sA q 30 (upd (gA q 30) w0 (gA q 30 w1))) 31) w0 (gA (sA q 30 (upd (gA q 30) w0 (gA q 30 w1))) 31 w1))) 32 (upd (gA (sA (sA q 30 (upd (gA q 30) w0 (gA q 30 w1))) 31 (upd (gA (sA q 30 (upd (gA q 30) w0 (gA q 30 w1))) 31) w0 (gA (sA q 30 (upd (gA q 30) w0 (gA q 30 w1))) 31 w1))) 32) w0 (gA (sA (sA q 30 (upd (gA q 30) w0 (gA q 30 w1))) 31 (upd (gA (sA q 30 (upd (gA q 30) w0 (gA q 30 w1))) 31) w0 (gA (sA q 30 (upd (gA q 30) w0 (gA q 30 w1))) 31 w1))) 32 w1))) 33 w1))) 34) w0 (gA (sA (sA (sA (sA q 30 (upd (gA q 30) w0 (gA q 30 w1))) 31 (upd (gA (sA q 30 (upd (gA q 30) w0 (gA q 30 w1))) 31) w0 (gA (sA q 30 (upd (gA q 30) w0 (gA q 30 w1))) 31 w1))) 32 (upd (gA (sA (sA q 30 (upd (gA q 30) w0 (gA q 30 w1))) 31 (upd (gA (sA q 30 (upd (gA q 30) w0 (gA q 30 w1))) 31) w0 (gA (sA q 30 (upd (gA q 30) w0 (gA q 30 w1))) 31 w1))) 32) w0 (gA (sA (sA q 30 (upd (gA q 30) w0 (gA q 30 w1))) 31 (upd (gA (sA q 30 (upd (gA q 30) w0 (gA q 30 w1))) 31) w0 (gA (sA q 30 (upd (gA q 30) w0 (gA q 30 w1))) 31 w1))) 32 w1))) 33 (upd (gA (sA (sA (sA q 30 (upd (gA q 30) w0 (gA q 30 w1))) 31 (upd (gA (sA q 30 (upd (gA q 30) w0 (gA q 30 w1))) 31) w0 (gA (sA q 30 (upd (gA q 30) w0 (gA q 30 w1))) 31 w1))) 32 (upd (gA (sA (sA q 30 (upd (gA q 30) w0 (gA q 30 w1))) 31 (upd (gA (sA q 30 (upd (gA q 30) w0 (gA q 30 w1))) 31) w0 (gA (sA q 30 (upd (gA q 30) w0 (gA q 30 w1))) 31 w1))) 32) w0 (gA (sA (sA q 30 (upd (gA q 30) w0 (gA q 30 w1))) 31 (upd (gA (sA q 30 (upd (gA q 30) w0 (gA q 30 w1))) 31) w0 (gA (sA q 30 (upd (gA q 30) w0 (gA q 30 w1))) 31 w1))) 32 w1))) 33) w0 (gA (sA (sA (sA q 30 (upd (gA q 30) w0 (gA q 30 w1))) 31 (upd (gA (sA q 30 (upd (gA q 30) w0 (gA q 30 w1))) 31) w0 (gA (sA q 30 (upd (gA q 30) w0 (gA q 30 w1))) 31 w1))) 32 (upd (gA (sA (sA q 30 (upd (gA q 30) w0 (gA q 30 w1))) 31 (upd (gA (sA q 30 (upd (gA q 30) w0 (gA q 30 w1))) 31) w0 (gA (sA q 30 (upd (gA q 30) w0 (gA q 30 w1))) 31 w1))) 32) w0 (gA (sA (sA q 30 (upd (gA q 30) w0 (gA q 30 w1))) 31 (upd (gA (sA q 30 (upd (gA q 30) w0 (gA q 30 w1))) 31) w0 (gA (sA q 30 (upd (gA q 30) w0 (gA q 30 w1))) 31 w1))) 32 w1))) 33 w1))) 34 w1))) 35) w0 (gA (sA (sA (sA (sA (sA q 30 (upd (gA q 30) w0 (gA q 30 w1))) 31 (upd (gA (sA q 30 (upd (gA q 30) w0 (gA q 30 w1))) 31) w0 (gA (sA q 30 (upd (gA q 30) w0 (gA q 30 w1))) 31 w1))) 32 (upd (gA (sA (sA q 30 (upd (gA q 30) w0 (gA q 30 w1))) 31 (upd (gA (sA q 30 (upd (gA q 30) w0 (gA q 30 w1))) 31) w0 (gA (sA q 30 (upd (gA q 30) w0 (gA q 30 w1))) 31 w1))) 32) w0 (gA (sA (sA q 30 (upd (gA q 30) w0 (gA q 30 w1))) 31 (upd (gA (sA q 30 (upd (gA q 30) w0 (gA q 30 w1))) 31) w0 (gA (sA q 30 (upd (gA q 30) w0 (gA q 30 w1))) 31 w1))) 32 w1))) 33 (upd (gA (sA (sA (sA q 30 (upd (gA q 30) w0 (gA q 30 w1))) 31 (upd (gA (sA q 30 (upd (gA q 30) w0 (gA q 30 w1))) 31) w0 (gA (sA q 30 (upd (gA q 30) w0 (gA q 30 w1))) 31 w1))) 32 (upd (gA (sA (sA q 30 (upd (gA q 30) w0 (gA q 30 w1))) 31 (upd (gA (sA q 30 (upd (gA q 30) w0 (gA q 30 w1))) 31) w0 (gA (sA q 30 (upd (gA q 30) w0 (gA q 30 w1))) 31 w1))) 32) w0 (gA (sA (sA q 30 (upd (gA q 30) w0 (gA q 30 w1))) 31 (upd (gA (sA q 30 (upd (gA q 30) w0 (gA q 30 w1))) 31) w0 (gA (sA q 30 (upd (gA q 30) w0 (gA q 30 w1))) 31 w1))) 32 w1))) 33) w0 (gA (sA (sA (sA q 30 (upd (gA q 30) w0 (gA q 30 w1))) 31 (upd (gA (sA q 30 (upd (gA q 30) w0 (gA q 30 w1))) 31) w0 (gA (sA q 30 (upd (gA q 30) w0 (gA q 30 w1))) 31 w1))) 32 (upd (gA (sA (sA q 30 (upd (gA q 30) w0 (gA q 30 w1))) 31 (upd (gA (sA q 30 (upd (gA q 30) w0 (gA q 30 w1))) 31) w0 (gA (sA q 30 (upd (gA q 30) w0 (gA q 30 w1))) 31 w1))) 32) w0 (gA (sA (sA q 30 (upd (gA q 30) w0 (gA q 30 w1))) 31 (upd (gA (sA q 30 (upd (gA q 30) w0 (gA q 30 w1))) 31) w0 (gA (sA q 30 (upd (gA q 30) w0 (gA q 30 w1))) 31 w1))) 32 w1))) 33 w1))) 34 (upd (gA (sA (sA (sA (sA q 30 (upd (gA q 30) w0 (gA q 30 w1))) 31 (upd (gA (sA q 30 (upd (gA q 30) w0 (gA q 30 w1))) 31) w0 (gA (sA q 30 (upd (gA q 30) w0 (gA q 30 w1))) 31 w1))) 32 (upd (gA (sA (sA q 30 (upd (gA q 30) w0 (gA q 30 w1))) 31 (upd (gA (sA q 30 (upd (gA q 30) w0 (gA q 30 w1))) 31) w0 (gA (sA q 30 (upd (gA q 30) w0 (gA q 30 w1))) 31 w1))) 32) w0 (gA (sA (sA q 30 (upd (gA q 30) w0 (gA q 30 w1))) 31 (upd (gA (sA q 30 (upd (gA q 30) w0 (gA q 30 w1))) 31) w0 (gA (sA q 30 (upd (gA q 30) w0 (gA q 30 w1))) 31 w1))) 32 w1))) 33 (upd (gA (sA (sA (sA q 30 (upd (gA q 30) w0 (gA q 30 w1))) 31 (upd (gA (sA q 30 (upd (gA q 30) w0 (gA q 30 w1))) 31) w0 (gA (sA q 30 (upd (gA q 30) w0 (gA q 30 w1))) 31 w1))) 32 (upd (gA (sA (sA q 30 (upd (gA q 30) w0 (gA q 30 w1))) 31 (upd (gA (sA q 30 (upd (gA q 30) w0 (gA q 30 w1))) 31) w0 (gA (sA q 30 (upd (gA q 30) w0 (gA q 30 w1))) 31 w1))) 32) w0 (gA (sA (sA q 30 (upd (gA q 30) w0 (gA q 30 w1))) 31 (upd (gA (sA q 30 (upd (gA q 30) w0 (gA q 30 w1))) 31) w0 (gA (sA q 30 (upd (gA q 30) w0 (gA q 30 w1))) 31 w1))) 32 w1))) 33) w0 (gA (sA (sA (sA q 30 (upd (gA q 30) w0 (gA q 30 w1))) 31 (upd (gA (sA q 30 (upd (gA q 30) w0 (gA q 30 w1))) 31) w0 (gA (sA q 30 (upd (gA q 30) w0 (gA q 30 w1))) 31 w1))) 32 (upd (gA (sA (sA q 30 (upd (gA q 30) w0 (gA q 30 w1))) 31 (upd (gA (sA q 30 (upd (gA q 30) w0 (gA q 30 w1))) 31) w0 (gA (sA q 30 (upd (gA q 30) w0 (gA q 30 w1))) 31 w1))) 32) w0 (gA (sA (sA q 30 (upd (gA q 30) w0 (gA q 30 w1))) 31 (upd (gA (sA q 30 (upd (gA q 30) w0 (gA q 30 w1))) 31) w0 (gA (sA q 30 (upd (gA q 30) w0 (gA q 30 w1))) 31 w1))) 32 w1))) 33 w1))) 34) w0 (gA (sA (sA (sA (sA q 30 (upd (gA q 30) w0 (gA q 30 w1))) 31 (upd (gA (sA q 30 (upd (gA q 30) w0 (gA q 30 w1))) 31) w0 (gA (sA q 30 (upd (gA q 30) w0 (gA q 30 w1))) 31 w1))) 32 (upd (gA (sA (sA q 30 (upd (gA q 30) w0 (gA q 30 w1))) 31 (upd (gA (sA q 30 (upd (gA q 30) w0 (gA q 30 w1))) 31) w0 (gA (sA q 30 (upd (gA q 30) w0 (gA q 30 w1))) 31 w1))) 32) w0 (gA (sA (sA q 30 (upd (gA q 30) w0 (gA q 30 w1))) 31 (upd (gA (sA q 30 (upd (gA q 30) w0 (gA q 30 w1))) 31) w0 (gA (sA q 30 (upd (gA q 30) w0 (gA q 30 w1))) 31 w1))) 32 w1))) 33 (upd (gA (sA (sA (sA q 30 (upd (gA q 30) w0 (gA q 30 w1))) 31 (upd (gA (sA q 30 (upd (gA q 30) w0 (gA q 30 w1))) 31) w0 (gA (sA q 30 (upd (gA q 30) w0 (gA q 30 w1))) 31 w1))) 32 (upd (gA (sA (sA q 30 (upd (gA q 30) w0 (gA q 30 w1))) 31 (upd (gA (sA q 30 (upd (gA q 30) w0 (gA q 30 w1))) 31) w0 (gA (sA q 30 (upd (gA q 30) w0 (gA q 30 w1))) 31 w1))) 32) w0 (gA (sA (sA q 30 (upd (gA q 30) w0 (gA q 30 w1))) 31 (upd (gA (sA q 30 (upd (gA q 30) w0 (gA q 30 w1))) 31) w0 (gA (sA q 30 (upd (gA q 30) w0 (gA q 30 w1))) 31 w1))) 32 w1))) 33) w0 (gA (sA (sA (sA q 30 (upd (gA q 30) w0 (gA q 30 w1))) 31 (upd (gA (sA q 30 (upd (gA q 30) w0 (gA q 30 w1))) 31) w0 (gA (sA q 30 (upd (gA q 30) w0 (gA q 30 w1))) 31 w1))) 32 (upd (gA (sA (sA q 30 (upd (gA q 30) w0 (gA q 30 w1))) 31 (upd (gA (sA q 30 (upd (gA q 30) w0 (gA q 30 w1))) 31) w0 (gA (sA q 30 (upd (gA q 30) w0 (gA q 30 w1))) 31 w1))) 32) w0 (gA (sA (sA q 30 (upd (gA q 30) w0 (gA q 30 w1))) 31 (upd (gA (sA q 30 (upd (gA q 30) w0 (gA q 30 w1))) 31) w0 (gA (sA q 30 (upd (gA q 30) w0 (gA q 30 w1))) 31 w1))) 32 w1))) 33 w1))) 34 w1))) 35 w1))) 36 (upd (gA (sA (sA (sA (sA (sA (sA q 30 (upd (gA q 30) w0 (gA q 30 w1))) 31 (upd (gA (sA q 30 (upd (gA q 30) w0 (gA q 30 w1))) 31) w0 (gA (sA q 30 (upd (gA q 30) w0 (gA q 30 w1))) 31 w1))) 32 (upd (gA (sA (sA q 30 (upd (gA q 30) w0 (gA q 30 w1))) 31 (upd (gA (sA q 30 (upd (gA q 30) w0 (gA q 30 w1))) 31) w0 (gA (sA q 30 (upd (gA q 30) w0 (gA q 30 w1))) 31 w1))) 32) w0 (gA (sA (sA q 30 (upd (gA q 30) w0 (gA q 30 w1))) 31 (upd (gA (sA q 30 (upd (gA q 30) w0 (gA q 30 w1))) 31) w0 (gA (sA q 30 (upd (gA q 30) w0 (gA q 30 w1))) 31 w1))) 32 w1))) 33 (upd (gA (sA (sA (sA q 30 (upd (gA q 30) w0 (gA q 30 w1))) 31 (upd (gA (sA q 30 (upd (gA q 30) w0 (gA q 30 w1))) 31) w0 (gA (sA q 30 (upd (gA q 30) w0 (gA q 30 w1))) 31 w1))) 32 (upd (gA (sA (sA q 30 (upd (gA q 30) w0 (gA q 30 w1))) 31 (upd (gA (sA q 30 (upd (gA q 30) w0 (gA q 30 w1))) 31) w0 (gA (sA q 30 (upd (gA q 30) w0 (gA q 30 w1))) 31 w1))) 32) w0 (gA (sA (sA q 30 (upd (gA q 30) w0 (gA q 30 w1))) 31 (upd (gA (sA q 30 (upd (gA q 30) w0 (gA q 30 w1))) 31) w0 (gA (sA q 30 (upd (gA q 30) w0 (gA q 30 w1))) 31 w1))) 32 w1))) 33) w0 (gA (sA (sA (sA q 30 (upd (gA q 30) w0 (gA q 30 w1))) 31 (upd (gA (sA q 30 (upd (gA q 30) w0 (gA q 30 w1))) 31) w0 (gA (sA q 30 (upd (gA q 30) w0 (gA q 30 w1))) 31 w1))) 32 (upd (gA (sA (sA q 30 (upd (gA q 30) w0 (gA q 30 w1))) 31 (upd (gA (sA q 30 (upd (gA q 30) w0 (gA q 30 w1))) 31) w0 (gA (sA q 30 (upd (gA q 30) w0 (gA q 30 w1))) 31 w1))) 32) w0 (gA (sA (sA q 30 (upd (gA q 30) w0 (gA q 30 w1))) 31 (upd (gA (sA q 30 (upd (gA q 30) w0 (gA q 30 w1))) 31) w0 (gA (sA q 30 (upd (gA q 30) w0 (gA q 30 w1))) 31 w1))) 32 w1))) 33 w1))) 34 (upd (gA (sA (sA (sA (sA q 30 (upd (gA q 30) w0 (gA q 30 w1))) 31 (upd (gA (sA q 30 (upd (gA q 30) w0 (gA q 30 w1))) 31) w0 (gA (sA q 30 (upd (gA q 30) w0 (gA q 30 w1))) 31 w1))) 32 (upd (gA (sA (sA q 30 (upd (gA q 30) w0 (gA q 30 w1))) 31 (upd (gA (sA q 30 (upd (gA q 30) w0 (gA q 30 w1))) 31) w0 (gA (sA q 30 (upd (gA q 30) w0 (gA q 30 w1))) 31 w1))) 32) w0 (gA (sA (sA q 30 (upd (gA q 30) w0 (gA q 30 w1))) 31 (upd (gA (sA q 30 (upd (gA q 30) w0 (gA q 30 w1))) 31) w0 (gA (sA q 30 (upd (gA q 30) w0 (gA q 30 w1))) 31 w1))) 32 w1))) 33 (upd (gA (sA (sA (sA q 30 (upd (gA q 30) w0 (gA q 30 w1))) 31 (upd (gA (sA q 30 (upd (gA q 30) w0 (gA q 30 w1))) 31) w0 (gA (sA q 30 (upd (gA q 30) w0 (gA q 30 w1))) 31 w1))) 32 (upd (gA (sA (sA q 30 (upd (gA q 30) w0 (gA q 30 w1))) 31 (upd (gA (sA q 30 (upd (gA q 30) w0 (gA q 30 w1))) 31) w0 (gA (sA q 30 (upd (gA q 30) w0 (gA q 30 w1))) 31 w1))) 32) w0 (gA (sA (sA q 30 (upd (gA q 30) w0 (gA q 30 w1))) 31 (upd (gA (sA q 30 (upd (gA q 30) w0 (gA q 30 w1))) 31) w0 (gA (sA q 30 (upd (gA q 30) w0 (gA q 30 w1))) 31 w1))) 32 w1))) 33) w0 (gA (sA (sA (sA q 30 (upd (gA q 30) w0 (gA q 30 w1))) 31 (upd (gA (sA q 30 (upd (gA q 30) w0 (gA q 30 w1))) 31) w0 (gA (sA q 30 (upd (gA q 30) w0 (gA q 30 w1))) 31 w1))) 32 (upd (gA (sA (sA q 30 (upd (gA q 30) w0 (gA q 30 w1))) 31 (upd (gA (sA q 30 (upd (gA q 30) w0 (gA q 30 w1))) 31) w0 (gA (sA q 30 (upd (gA q 30) w0 (gA q 30 w1))) 31 w1))) 32) w0 (gA (sA (sA q 30 (upd (gA q 30) w0 (gA q 30 w1))) 31 (upd (gA (sA q 30 (upd (gA q 30) w0 (gA q 30 w1))) 31) w0 (gA (sA q 30 (upd (gA q 30) w0 (gA q 30 w1))) 31 w1))) 32 w1))) 33 w1))) 34) w0 (gA (sA (sA (sA (sA q 30 (upd (gA q 30) w0 (gA q 30 w1))) 31 (upd (gA (sA q 30 (upd (gA q 30) w0 (gA q 30 w1))) 31) w0 (gA (sA q 30 (upd (gA q 30) w0 (gA q 30 w1))) 31 w1))) 32 (upd (gA (sA (sA q 30 (upd (gA q 30) w0 (gA q 30 w1))) 31 (upd (gA (sA q 30 (upd (gA q 30) w0 (gA q 30 w1))) 31) w0 (gA (sA q 30 (upd (gA q 30) w0 (gA q 30 w1))) 31 w1))) 32) w0 (gA (sA (sA q 30 (upd (gA q 30) w0 (gA q 30 w1))) 31 (upd (gA (sA q 30 (upd (gA q 30) w0 (gA q 30 w1))) 31) w0 (gA (sA q 30 (upd (gA q 30) w0 (gA q 30 w1))) 31 w1))) 32 w1))) 33 (upd (gA (sA (sA (sA q 30 (upd (gA q 30) w0 (gA q 30 w1))) 31 (upd (gA (sA q 30 (upd (gA q 30) w0 (gA q 30 w1))) 31) w0 (gA (sA q 30 (upd (gA q 30) w0 (gA q 30 w1))) 31 w1))) 32 (upd (gA (sA (sA q 30 (upd (gA q 30) w0 (gA q 30 w1))) 31 (upd (gA (sA q 30 (upd (gA q 30) w0 (gA q 30 w1))) 31) w0 (gA (sA q 30 (upd (gA q 30) w0 (gA q 30 w1))) 31 w1))) 32) w0 (gA (sA (sA q 30 (upd (gA q 30) w0 (gA q 30 w1))) 31 (upd (gA (sA q 30 (upd (gA q 30) w0 (gA q 30 w1))) 31) w0 (gA (sA q 30 (upd (gA q 30) w0 (gA q 30 w1))) 31 w1))) 32 w1))) 33) w0 (gA (sA (sA (sA q 30 (upd (gA q 30) w0 (gA q 30 w1))) 31 (upd (gA (sA q 30 (upd (gA q 30) w0 (gA q 30 w1))) 31) w0 (gA (sA q 30 (upd (gA q 30) w0 (gA q 30 w1))) 31 w1))) 32 (upd (gA (sA (sA q 30 (upd (gA q 30) w0 (gA q 30 w1))) 31 (upd (gA (sA q 30 (upd (gA q 30) w0 (gA q 30 w1))) 31) w0 (gA (sA q 30 (upd (gA q 30) w0 (gA q 30 w1))) 31 w1))) 32) w0 (gA (sA (sA q 30 (upd (gA q 30) w0 (gA q 30 w1))) 31 (upd (gA (sA q 30 (upd (gA q 30) w0 (gA q 30 w1))) 31) w0 (gA (sA q 30 (upd (gA q 30) w0 (gA q 30 w1))) 31 w1))) 32 w1))) 33 w1))) 34 w1))) 35 (upd (gA (sA (sA (sA (sA (sA q 30 (upd (gA q 30) w0 (gA q 30 w1))) 31 (upd (gA (sA q 30 (upd (gA q 30) w0 (gA q 30 w1))) 31) w0 (gA (sA q 30 (upd (gA q 30) w0 (gA q 30 w1))) 31 w1))) 32 (upd (gA (sA (sA q 30 (upd (gA q 30) w0 (gA q 30 w1))) 31 (upd (gA (sA q 30 (upd (gA q 30) w0 (gA q 30 w1))) 31) w0 (gA (sA q 30 (upd (gA q 30) w0 (gA q 30 w1))) 31 w1))) 32) w0 (gA (sA (sA q 30 (upd (gA q 30) w0 (gA q 30 w1))) 31 (upd (gA (sA q 30 (upd (gA q 30) w0 (gA q 30 w1))) 31) w0 (gA (sA q 30 (upd (gA q 30) w0 (gA q 30 w1))) 31 w1))) 32 w1))) 33 (upd (gA (sA (sA (sA q 30 (upd (gA q 30) w0 (gA q 30 w1))) 31 (upd (gA (sA q 30 (upd (gA q 30) w0 (gA q 30 w1))) 31) w0 (gA (sA q 30 (upd (gA q 30) w0 (gA q 30 w1))) 31 w1))) 32 (upd (gA (sA (sA q 30 (upd (gA q 30) w0 (gA q 30 w1))) 31 (upd (gA (sA q 30 (upd (gA q 30) w0 (gA q 30 w1))) 31) w0 (gA (sA q 30 (upd (gA q 30) w0 (gA q 30 w1))) 31 w1))) 32) w0 (gA (sA (sA q 30 (upd (gA q 30) w0 (gA q 30 w1))) 31 (upd (gA (sA q 30 (upd (gA q 30) w0 (gA q 30 w1))) 31) w0 (gA (sA q 30 (upd (gA q 30) w0 (gA q 30 w1))) 31 w1))) 32 w1))) 33) w0 (gA (sA (sA (sA q 30 (upd (gA q 30) w0 (gA q 30 w1))) 31 (upd (gA (sA q 30 (upd (gA q 30) w0 (gA q 30 w1))) 31) w0 (gA (sA q 30 (upd (gA q 30) w0 (gA q 30 w1))) 31 w1))) 32 (upd (gA (sA (sA q 30 (upd (gA q 30) w0 (gA q 30 w1))) 31 (upd (gA (sA q 30 (upd (gA q 30) w0 (gA q 30 w1))) 31) w0 (gA (sA q 30 (upd (gA q 30) w0 (gA q 30 w1))) 31 w1))) 32) w0 (gA (sA (sA q 30 (upd (gA q 30) w0 (gA q 30 w1))) 31 (upd (gA (sA q 30 (upd (gA q 30) w0 (gA q 30 w1))) 31) w0 (gA (sA q 30 (upd (gA q 30) w0 (gA q 30 w1))) 31 w1))) 32 w1))) 33 w1))) 34 (upd (gA (sA (sA (sA (sA q 30 (upd (gA q 30) w0 (gA q 30 w1))) 31 (upd (gA (sA q 30 (upd (gA q 30) w0 (gA q 30 w1))) 31) w0 (gA (sA q 30 (upd (gA q 30) w0 (gA q 30 w1))) 31 w1))) 32 (upd (gA (sA (sA q 30 (upd (gA q 30) w0 (gA q 30 w1))) 31 (upd (gA (sA q 30 (upd (gA q 30) w0 (gA q 30 w1))) 31) w0 (gA (sA q 30 (upd (gA q 30) w0 (gA q 30 w1))) 31 w1))) 32) w0 (gA (sA (sA q 30 (upd (gA q 30) w0 (gA q 30 w1))) 31 (upd (gA (sA q 30 (upd (gA q 30) w0 (gA q 30 w1))) 31) w0 (gA (sA q 30 (upd (gA q 30) w0 (gA q 30 w1))) 31 w1))) 32 w1))) 33 (upd (gA (sA (sA (sA q 30 (upd (gA q 30) w0 (gA q 30 w1))) 31 (upd (gA (sA q 30 (upd (gA q 30) w0 (gA q 30 w1))) 31) w0 (gA (sA q 30 (upd (gA q 30) w0 (gA q 30 w1))) 31 w1))) 32 (upd (gA (sA (sA q 30 (upd (gA q 30) w0 (gA q 30 w1))) 31 (upd (gA (sA q 30 (upd (gA q 30) w0 (gA q 30 w1))) 31) w0 (gA (sA q 30 (upd (gA q 30) w0 (gA q 30 w1))) 31 w1))) 32) w0 (gA (sA (sA q 30 (upd (gA q 30) w0 (gA q 30 w1))) 31 (upd (gA (sA q 30 (upd (gA q 30) w0 (gA q 30 w1))) 31) w0 (gA (sA q 30 (upd (gA q 30) w0 (gA q 30 w1))) 31 w1))) 32 w1))) 33) w0 (gA (sA (sA (sA q 30 (upd (gA q 30) w0 (gA q 30 w1))) 31 (upd (gA (sA q 30 (upd (gA q 30) w0 (gA q 30 w1))) 31) w0 (gA (sA q 30 (upd (gA q 30) w0 (gA q 30 w1))) 31 w1))) 32 (upd (gA (sA (sA q 30 (upd (gA q 30) w0 (gA q 30 w1))) 31 (upd (gA (sA q 30 (upd (gA q 30) w0 (gA q 30 w1))) 31) w0 (gA (sA q 30 (upd (gA q 30) w0 (gA q 30 w1))) 31 w1))) 32) w0 (gA (sA (sA q 30 (upd (gA q 30) w0 (gA q 30 w1))) 31 (upd (gA (sA q 30 (upd (gA q 30) w0 (gA q 30 w1))) 31) w0 (gA (sA q 30 (upd (gA q 30) w0 (gA q 30 w1))) 31 w1))) 32 w1))) 33 w1))) 34) w0 (gA (sA (sA (sA (sA q 30 (upd (gA q 30) w0 (gA q 30 w1))) 31 (upd (gA (sA q 30 (upd (gA q 30) w0 (gA q 30 w1))) 31) w0 (gA (sA q 30 (upd (gA q 30) w0 (gA q 30 w1))) 31 w1))) 32 (upd (gA (sA (sA q 30 (upd (gA q 30) w0 (gA q 30 w1))) 31 (upd (gA (sA q 30 (upd (gA q 30) w0 (gA q 30 w1))) 31) w0 (gA (sA q 30 (upd (gA q 30) w0 (gA q 30 w1))) 31 w1))) 32) w0 (gA (sA (sA q 30 (upd (gA q 30) w0 (gA q 30 w1))) 31 (upd (gA (sA q 30 (upd (gA q 30) w0 (gA q 30 w1))) 31) w0 (gA (sA q 30 (upd (gA q 30) w0 (gA q 30 w1))) 31 w1))) 32 w1))) 33 (upd (gA (sA (sA (sA q 30 (upd (gA q 30) w0 (gA q 30 w1))) 31 (upd (gA (sA q 30 (upd (gA q 30) w0 (gA q 30 w1))) 31) w0 (gA (sA q 30 (upd (gA q 30) w0 (gA q 30 w1))) 31 w1))) 32 (upd (gA (sA (sA q 30 (upd (gA q 30) w0 (gA q 30 w1))) 31 (upd (gA (sA q 30 (upd (gA q 30) w0 (gA q 30 w1))) 31) w0 (gA (sA q 30 (upd (gA q 30) w0 (gA q 30 w1))) 31 w1))) 32) w0 (gA (sA (sA q 30 (upd (gA q 30) w0 (gA q 30 w1))) 31 (upd (gA (sA q 30 (upd (gA q 30) w0 (gA q 30 w1))) 31) w0 (gA (sA q 30 (upd (gA q 30) w0 (gA q 30 w1))) 31 w1))) 32 w1))) 33) w0 (gA (sA (sA (sA q 30 (upd (gA q 30) w0 (gA q 30 w1))) 31 (upd (gA (sA q 30 (upd (gA q 30) w0 (gA q 30 w1))) 31) w0 (gA (sA q 30 (upd (gA q 30) w0 (gA q 30 w1))) 31 w1))) 32 (upd (gA (sA (sA q 30 (upd (gA q 30) w0 (gA q 30 w1))) 31 (upd (gA (sA q 30 (upd (gA q 30) w0 (gA q 30 w1))) 31) w0 (gA (sA q 30 (upd (gA q 30) w0 (gA q 30 w1))) 31 w1))) 32) w0 (gA (sA (sA q 30 (upd (gA q 30) w0 (gA q 30 w1))) 31 (upd (gA (sA q 30 (upd (gA q 30) w0 (gA q 30 w1))) 31) w0 (gA (sA q 30 (upd (gA q 30) w0 (gA q 30 w1))) 31 w1))) 32 w1))) 33 w1))) 34 w1))) 35) w0 (gA (sA (sA (sA (sA (sA q 30 (upd (gA q 30) w0 (gA q 30 w1))) 31 (upd (gA (sA q 30 (upd (gA q 30) w0 (gA q 30 w1))) 31) w0 (gA (sA q 30 (upd (gA q 30) w0 (gA q 30 w1))) 31 w1))) 32 (upd (gA (sA (sA q 30 (upd (gA q 30) w0 (gA q 30 w1))) 31 (upd (gA (sA q 30 (upd (gA q 30) w0 (gA q 30 w1))) 31) w0 (gA (sA q 30 (upd (gA q 30) w0 (gA q 30 w1))) 31 w1))) 32) w0 (gA (sA (sA q 30 (upd (gA q 30) w0 (gA q 30 w1))) 31 (upd (gA (sA q 30 (upd (gA q 30) w0 (gA q 30 w1))) 31) w0 (gA (sA q 30 (upd (gA q 30) w0 (gA q 30 w1))) 31 w1))) 32 w1))) 33 (upd (gA (sA (sA (sA q 30 (upd (gA q 30) w0 (gA q 30 w1))) 31 (upd (gA (sA q 30 (upd (gA q 30) w0 (gA q 30 w1))) 31) w0 (gA (sA q 30 (upd (gA q 30) w0 (gA q 30 w1))) 31 w1))) 32 (upd (gA (sA (sA q 30 (upd (gA q 30) w0 (gA q 30 w1))) 31 (upd (gA (sA q 30 (upd (gA q 30) w0 (gA q 30 w1))) 31) w0 (gA (sA q 30 (upd (gA q 30) w0 (gA q 30 w1))) 31 w1))) 32) w0 (gA (sA (sA q 30 (upd (gA q 30) w0 (gA q 30 w1))) 31 (upd (gA (sA q 30 (upd (gA q 30) w0 (gA q 30 w1))) 31) w0 (gA (sA q 30 (upd (gA q 30) w0 (gA q 30 w1))) 31 w1))) 32 w1))) 33) w0 (gA (sA (sA (sA q 30 (upd (gA q 30) w0 (gA q 30 w1))) 31 (upd (gA (sA q 30 (upd (gA q 30) w0 (gA q 30 w1))) 31) w0 (gA (sA q 30 (upd (gA q 30) w0 (gA q 30 w1))) 31 w1))) 32 (upd (gA (sA (sA q 30 (upd (gA q 30) w0 (gA q 30 w1))) 31 (upd (gA (sA q 30 (upd (gA q 30) w0 (gA q 30 w1))) 31) w0 (gA (sA q 30 (upd (gA q 30) w0 (gA q 30 w1))) 31 w1))) 32) w0 (gA (sA (sA q 30 (upd (gA q 30) w0 (gA q 30 w1))) 31 (upd (gA (sA q 30 (upd (gA q 30) w0 (gA q 30 w1))) 31) w0 (gA (sA q 30 (upd (gA q 30) w0 (gA q 30 w1))) 31 w1))) 32 w1))) 33 w1))) 34 (upd (gA (sA (sA (sA (sA q 30 (upd (gA q 30) w0 (gA q 30 w1))) 31 (upd (gA (sA q 30 (upd (gA q 30) w0 (gA q 30 w1))) 31) w0 (gA (sA q 30 (upd (gA q 30) w0 (gA q 30 w1))) 31 w1))) 32 (upd (gA (sA (sA q 30 (upd (gA q 30) w0 (gA q 30 w1))) 31 (upd (gA (sA q 30 (upd (gA q 30) w0 (gA q 30 w1))) 31) w0 (gA (sA q 30 (upd (gA q 30) w0 (gA q 30 w1))) 31 w1))) 32) w0 (gA (sA (sA q 30 (upd (gA q 30) w0 (gA q 30 w1))) 31 (upd (gA (sA q 30 (upd (gA q 30) w0 (gA q 30 w1))) 31) w0 (gA (sA q 30 (upd (gA q 30) w0 (gA q 30 w1))) 31 w1))) 32 w1))) 33 (upd (gA (sA (sA (sA q 30 (upd (gA q 30) w0 (gA q 30 w1))) 31 (upd (gA (sA q 30 (upd (gA q 30) w0 (gA q 30 w1))) 31) w0 (gA (sA q 30 (upd (gA q 30) w0 (gA q 30 w1))) 31 w1))) 32 (upd (gA (sA (sA q 30 (upd (gA q 30) w0 (gA q 30 w1))) 31 (upd (gA (sA q 30 (upd (gA q 30) w0 (gA q 30 w1))) 31) w0 (gA (sA q 30 (upd (gA q 30) w0 (gA q 30 w1))) 31 w1))) 32) w0 (gA (sA (sA q 30 (upd (gA q 30) w0 (gA q 30 w1))) 31 (upd (gA (sA q 30 (upd (gA q 30) w0 (gA q 30 w1))) 31) w0 (gA (sA q 30 (upd (gA q 30) w0 (gA q 30 w1))) 31 w1))) 32 w1))) 33) w0 (gA (sA (sA (sA q 30 (upd (gA q 30) w0 (gA q 30 w1))) 31 (upd (gA (sA q 30 (upd (gA q 30) w0 (gA q 30 w1))) 31) w0 (gA (sA q 30 (upd (gA q 30) w0 (gA q 30 w1))) 31 w1))) 32 (upd (gA (sA (sA q 30 (upd (gA q 30) w0 (gA q 30 w1))) 31 (upd (gA (sA q 30 (upd (gA q 30) w0 (gA q 30 w1))) 31) w0 (gA (sA q 30 (upd (gA q 30) w0 (gA q 30 w1))) 31 w1))) 32) w0 (gA (sA (sA q 30 (upd (gA q 30) w0 (gA q 30 w1))) 31 (upd (gA (sA q 30 (upd (gA q 30) w0 (gA q 30 w1))) 31) w0 (gA (sA q 30 (upd (gA q 30) w0 (gA q 30 w1))) 31 w1))) 32 w1))) 33 w1))) 34) w0 (gA (sA (sA (sA (sA q 30 (upd (gA q 30) w0 (gA q 30 w1))) 31 (upd (gA (sA q 30 (upd (gA q 30) w0 (gA q 30 w1))) 31) w0 (gA (sA q 30 (upd (gA q 30) w0 (gA q 30 w1))) 31 w1))) 32 (upd (gA (sA (sA q 30 (upd (gA q 30) w0 (gA q 30 w1))) 31 (upd (gA (sA q 30 (upd (gA q 30) w0 (gA q 30 w1))) 31) w0 (gA (sA q 30 (upd (gA q 30) w0 (gA q 30 w1))) 31 w1))) 32) w0 (gA (sA (sA q 30 (upd (gA q 30) w0 (gA q 30 w1))) 31 (upd (gA (sA q 30 (upd (gA q 30) w0 (gA q 30 w1))) 31) w0 (gA (sA q 30 (upd (gA q 30) w0 (gA q 30 w1))) 31 w1))) 32 w1))) 33 (upd (gA (sA (sA (sA q 30 (upd (gA q 30) w0 (gA q 30 w1))) 31 (upd (gA (sA q 30 (upd (gA q 30) w0 (gA q 30 w1))) 31) w0 (gA (sA q 30 (upd (gA q 30) w0 (gA q 30 w1))) 31 w1))) 32 (upd (gA (sA (sA q 30 (upd (gA q 30) w0 (gA q 30 w1))) 31 (upd (gA (sA q 30 (upd (gA q 30) w0 (gA q 30 w1))) 31) w0 (gA (sA q 30 (upd (gA q 30) w0 (gA q 30 w1))) 31 w1))) 32) w0 (gA (sA (sA q 30 (upd (gA q 30) w0 (gA q 30 w1))) 31 (upd (gA (sA q 30 (upd (gA q 30) w0 (gA q 30 w1))) 31) w0 (gA (sA q 30 (upd (gA q 30) w0 (gA q 30 w1))) 31 w1))) 32 w1))) 33) w0 (gA (sA (sA (sA q 30 (upd (gA q 30) w0 (gA q 30 w1))) 31 (upd (gA (sA q 30 (upd (gA q 30) w0 (gA q 30 w1))) 31) w0 (gA (sA q 30 (upd (gA q 30) w0 (gA q 30 w1))) 31 w1))) 32 (upd (gA (sA (sA q 30 (upd (gA q 30) w0 (gA q 30 w1))) 31 (upd (gA (sA q 30 (upd (gA q 30) w0 (gA q 30 w1))) 31) w0 (gA (sA q 30 (upd (gA q 30) w0 (gA q 30 w1))) 31 w1))) 32) w0 (gA (sA (sA q 30 (upd (gA q 30) w0 (gA q 30 w1))) 31 (upd (gA (sA q 30 (upd (gA q 30) w0 (gA q 30 w1))) 31) w0 (gA (sA q 30 (upd (gA q 30) w0 (gA q 30 w1))) 31 w1))) 32 w1))) 33 w1))) 34 w1))) 35 w1))) 36) w0 (gA (sA (sA (sA (sA (sA (sA q 30 (upd (gA q 30) w0 (gA q 30 w1))) 31 (upd (gA (sA q 30 (upd (gA q 30) w0 (gA q 30 w1))) 31) w0 (gA (sA q 30 (upd (gA q 30) w0 (gA q 30 w1))) 31 w1))) 32 (upd (gA (sA (sA q 30 (upd (gA q 30) w0 (gA q 30 w1))) 31 (upd (gA (sA q 30 (upd (gA q 30) w0 (gA q 30 w1))) 31) w0 (gA (sA q 30 (upd (gA q 30) w0 (gA q 30 w1))) 31 w1))) 32) w0 (gA (sA (sA q 30 (upd (gA q 30) w0 (gA q 30 w1))) 31 (upd (gA (sA q 30 (upd (gA q 30) w0 (gA q 30 w1))) 31) w0 (gA (sA q 30 (upd (gA q 30) w0 (gA q 30 w1))) 31 w1))) 32 w1))) 33 (upd (gA (sA (sA (sA q 30 (upd (gA q 30) w0 (gA q 30 w1))) 31 (upd (gA (sA q 30 (upd (gA q 30) w0 (gA q 30 w1))) 31) w0 (gA (sA q 30 (upd (gA q 30) w0 (gA q 30 w1))) 31 w1))) 32 (upd (gA (sA (sA q 30 (upd (gA q 30) w0 (gA q 30 w1))) 31 (upd (gA (sA q 30 (upd (gA q 30) w0 (gA q 30 w1))) 31) w0 (gA (sA q 30 (upd (gA q 30) w0 (gA q 30 w1))) 31 w1))) 32) w0 (gA (sA (sA q 30 (upd (gA q 30) w0 (gA q 30 w1))) 31 (upd (gA (sA q 30 (upd (gA q 30) w0 (gA q 30 w1))) 31) w0 (gA (sA q 30 (upd (gA q 30) w0 (gA q 30 w1))) 31 w1))) 32 w1))) 33) w0 (gA (sA (sA (sA q 30 (upd (gA q 30) w0 (gA q 30 w1))) 31 (upd (gA (sA q 30 (upd (gA q 30) w0 (gA q 30 w1))) 31) w0 (gA (sA q 30 (upd (gA q 30) w0 (gA q 30 w1))) 31 w1))) 32 (upd (gA (sA (sA q 30 (upd (gA q 30) w0 (gA q 30 w1))) 31 (upd (gA (sA q 30 (upd (gA q 30) w0 (gA q 30 w1))) 31) w0 (gA (sA q 30 (upd (gA q 30) w0 (gA q 30 w1))) 31 w1))) 32) w0 (gA (sA (sA q 30 (upd (gA q 30) w0 (gA q 30 w1))) 31 (upd (gA (sA q 30 (upd (gA q 30) w0 (gA q 30 w1))) 31) w0 (gA (sA q 30 (upd (gA q 30) w0 (gA q 30 w1))) 31 w1))) 32 w1))) 33 w1))) 34 (upd (gA (sA (sA (sA (sA q 30 (upd (gA q 30) w0 (gA q 30 w1))) 31 (upd (gA (sA q 30 (upd (gA q 30) w0 (gA q 30 w1))) 31) w0 (gA (sA q 30 (upd (gA q 30) w0 (gA q 30 w1))) 31 w1))) 32 (upd (gA (sA (sA q 30 (upd (gA q 30) w0 (gA q 30 w1))) 31 (upd (gA (sA q 30 (upd (gA q 30) w0 (gA q 30 w1))) 31) w0 (gA (sA q 30 (upd (gA q 30) w0 (gA q 30 w1))) 31 w1))) 32) w0 (gA (sA (sA q 30 (upd (gA q 30) w0 (gA q 30 w1))) 31 (upd (gA (sA q 30 (upd (gA q 30) w0 (gA q 30 w1))) 31) w0 (gA (sA q 30 (upd (gA q 30) w0 (gA q 30 w1))) 31 w1))) 32 w1))) 33 (upd (gA (sA (sA (sA q 30 (upd (gA q 30) w0 (gA q 30 w1))) 31 (upd (gA (sA q 30 (upd (gA q 30) w0 (gA q 30 w1))) 31) w0 (gA (sA q 30 (upd (gA q 30) w0 (gA q 30 w1))) 31 w1))) 32 (upd (gA (sA (sA q 30 (upd (gA q 30) w0 (gA q 30 w1))) 31 (upd (gA (sA q 30 (upd (gA q 30) w0 (gA q 30 w1))) 31) w0 (gA (sA q 30 (upd (gA q 30) w0 (gA q 30 w1))) 31 w1))) 32) w0 (gA (sA (sA q 30 (upd (gA q 30) w0 (gA q 30 w1))) 31 (upd (gA (sA q 30 (upd (gA q 30) w0 (gA q 30 w1))) 31) w0 (gA (sA q 30 (upd (gA q 30) w0 (gA q 30 w1))) 31 w1))) 32 w1))) 33) w0 (gA (sA (sA (sA q 30 (upd (gA q 30) w0 (gA q 30 w1))) 31 (upd (gA (sA q 30 (upd (gA q 30) w0 (gA q 30 w1))) 31) w0 (gA (sA q 30 (upd (gA q 30) w0 (gA q 30 w1))) 31 w1))) 32 (upd (gA (sA (sA q 30 (upd (gA q 30) w0 (gA q 30 w1))) 31 (upd (gA (sA q 30 (upd (gA q 30) w0 (gA q 30 w1))) 31) w0 (gA (sA q 30 (upd (gA q 30) w0 (gA q 30 w1))) 31 w1))) 32) w0 (gA (sA (sA q 30 (upd (gA q 30) w0 (gA q 30 w1))) 31 (upd (gA (sA q 30 (upd (gA q 30) w0 (gA q 30 w1))) 31) w0 (gA (sA q 30 (upd (gA q 30) w0 (gA q 30 w1))) 31 w1))) 32 w1))) 33 w1))) 34) w0 (gA (sA (sA (sA (sA q 30 (upd (gA q 30) w0 (gA q 30 w1))) 31 (upd (gA (sA q 30 (upd (gA q 30) w0 (gA q 30 w1))) 31) w0 (gA (sA q 30 (upd (gA q 30) w0 (gA q 30 w1))) 31 w1))) 32 (upd (gA (sA (sA q 30 (upd (gA q 30) w0 (gA q 30 w1))) 31 (upd (gA (sA q 30 (upd (gA q 30) w0 (gA q 30 w1))) 31) w0 (gA (sA q 30 (upd (gA q 30) w0 (gA q 30 w1))) 31 w1))) 32) w0 (gA (sA (sA q 30 (upd (gA q 30) w0 (gA q 30 w1))) 31 (upd (gA (sA q 30 (upd (gA q 30) w0 (gA q 30 w1))) 31) w0 (gA (sA q 30 (upd (gA q 30) w0 (gA q 30 w1))) 31 w1))) 32 w1))) 33 (upd (gA (sA (sA (sA q 30 (upd (gA q 30) w0 (gA q 30 w1))) 31 (upd (gA (sA q 30 (upd (gA q 30) w0 (gA q 30 w1))) 31) w0 (gA (sA q 30 (upd (gA q 30) w0 (gA q 30 w1))) 31 w1))) 32 (upd (gA (sA (sA q 30 (upd (gA q 30) w0 (gA q 30 w1))) 31 (upd (gA (sA q 30 (upd (gA q 30) w0 (gA q 30 w1))) 31) w0 (gA (sA q 30 (upd (gA q 30) w0 (gA q 30 w1))) 31 w1))) 32) w0 (gA (sA (sA q 30 (upd (gA q 30) w0 (gA q 30 w1))) 31 (upd (gA (sA q 30 (upd (gA q 30) w0 (gA q 30 w1))) 31) w0 (gA (sA q 30 (upd (gA q 30) w0 (gA q 30 w1))) 31 w1))) 32 w1))) 33) w0 (gA (sA (sA (sA q 30 (upd (gA q 30) w0 (gA q 30 w1))) 31 (upd (gA (sA q 30 (upd (gA q 30) w0 (gA q 30 w1))) 31) w0 (gA (sA q 30 (upd (gA q 30) w0 (gA q 30 w1))) 31 w1))) 32 (upd (gA (sA (sA q 30 (upd (gA q 30) w0 (gA q 30 w1))) 31 (upd (gA (sA q 30 (upd (gA q 30) w0 (gA q 30 w1))) 31) w0 (gA (sA q 30 (upd (gA q 30) w0 (gA q 30 w1))) 31 w1))) 32) w0 (gA (sA (sA q 30 (upd (gA q 30) w0 (gA q 30 w1))) 31 (upd (gA (sA q 30 (upd (gA q 30) w0 (gA q 30 w1))) 31) w0 (gA (sA q 30 (upd (gA q 30) w0 (gA q 30 w1))) 31 w1))) 32 w1))) 33 w1))) 34 w1))) 35 (upd (gA (sA (sA (sA (sA (sA q 30 (upd (gA q 30) w0 (gA q 30 w1))) 31 (upd (gA (sA q 30 (upd (gA q 30) w0 (gA q 30 w1))) 31) w0 (gA (sA q 30 (upd (gA q 30) w0 (gA q 30 w1))) 31 w1))) 32 (upd (gA (sA (sA q 30 (upd (gA q 30) w0 (gA q 30 w1))) 31 (upd (gA (sA q 30 (upd (gA q 30) w0 (gA q 30 w1))) 31) w0 (gA (sA q 30 (upd (gA q 30) w0 (gA q 30 w1))) 31 w1))) 32) w0 (gA (sA (sA q 30 (upd (gA q 30) w0 (gA q 30 w1))) 31 (upd (gA (sA q 30 (upd (gA q 30) w0 (gA q 30 w1))) 31) w0 (gA (sA q 30 (upd (gA q 30) w0 (gA q 30 w1))) 31 w1))) 32 w1))) 33 (upd (gA (sA (sA (sA q 30 (upd (gA q 30) w0 (gA q 30 w1))) 31 (upd (gA (sA q 30 (upd (gA q 30) w0 (gA q 30 w1))) 31) w0 (gA (sA q 30 (upd (gA q 30) w0 (gA q 30 w1))) 31 w1))) 32 (upd (gA (sA (sA q 30 (upd (gA q 30) w0 (gA q 30 w1))) 31 (upd (gA (sA q 30 (upd (gA q 30) w0 (gA q 30 w1))) 31) w0 (gA (sA q 30 (upd (gA q 30) w0 (gA q 30 w1))) 31 w1))) 32) w0 (gA (sA (sA q 30 (upd (gA q 30) w0 (gA q 30 w1))) 31 (upd (gA (sA q 30 (upd (gA q 30) w0 (gA q 30 w1))) 31) w0 (gA (sA q 30 (upd (gA q 30) w0 (gA q 30 w1))) 31 w1))) 32 w1))) 33) w0 (gA (sA (sA (sA q 30 (upd (gA q 30) w0 (gA q 30 w1))) 31 (upd (gA (sA q 30 (upd (gA q 30) w0 (gA q 30 w1))) 31) w0 (gA (sA q 30 (upd (gA q 30) w0 (gA q 30 w1))) 31 w1))) 32 (upd (gA (sA (sA q 30 (upd (gA q 30) w0 (gA q 30 w1))) 31 (upd (gA (sA q 30 (upd (gA q 30) w0 (gA q 30 w1))) 31) w0 (gA (sA q 30 (upd (gA q 30) w0 (gA q 30 w1))) 31 w1))) 32) w0 (gA (sA (sA q 30 (upd (gA q 30) w0 (gA q 30 w1))) 31 (upd (gA (sA q 30 (upd (gA q 30) w0 (gA q 30 w1))) 31) w0 (gA (sA q 30 (upd (gA q 30) w0 (gA q 30 w1))) 31 w1))) 32 w1))) 33 w1))) 34 (upd (gA (sA (sA (sA (sA q 30 (upd (gA q 30) w0 (gA q 30 w1))) 31 (upd (gA (sA q 30 (upd (gA q 30) w0 (gA q 30 w1))) 31) w0 (gA (sA q 30 (upd (gA q 30) w0 (gA q 30 w1))) 31 w1))) 32 (upd (gA (sA (sA q 30 (upd (gA q 30) w0 (gA q 30 w1))) 31 (upd (gA (sA q 30 (upd (gA q 30) w0 (gA q 30 w1))) 31) w0 (gA (sA q 30 (upd (gA q 30) w0 (gA q 30 w1))) 31 w1))) 32) w0 (gA (sA (sA q 30 (upd (gA q 30) w0 (gA q 30 w1))) 31 (upd (gA (sA q 30 (upd (gA q 30) w0 (gA q 30 w1))) 31) w0 (gA (sA q 30 (upd (gA q 30) w0 (gA q 30 w1))) 31 w1))) 32 w1))) 33 (upd (gA (sA (sA (sA q 30 (upd (gA q 30) w0 (gA q 30 w1))) 31 (upd (gA (sA q 30 (upd (gA q 30) w0 (gA q 30 w1))) 31) w0 (gA (sA q 30 (upd (gA q 30) w0 (gA q 30 w1))) 31 w1))) 32 (upd (gA (sA (sA q 30 (upd (gA q 30) w0 (gA q 30 w1))) 31 (upd (gA (sA q 30 (upd (gA q 30) w0 (gA q 30 w1))) 31) w0 (gA (sA q 30 (upd (gA q 30) w0 (gA q 30 w1))) 31 w1))) 32) w0 (gA (sA (sA q 30 (upd (gA q 30) w0 (gA q 30 w1))) 31 (upd (gA (sA q 30 (upd (gA q 30) w0 (gA q 30 w1))) 31) w0 (gA (sA q 30 (upd (gA q 30) w0 (gA q 30 w1))) 31 w1))) 32 w1))) 33) w0 (gA (sA (sA (sA q 30 (upd (gA q 30) w0 (gA q 30 w1))) 31 (upd (gA (sA q 30 (upd (gA q 30) w0 (gA q 30 w1))) 31) w0 (gA (sA q 30 (upd (gA q 30) w0 (gA q 30 w1))) 31 w1))) 32 (upd (gA (sA (sA q 30 (upd (gA q 30) w0 (gA q 30 w1))) 31 (upd (gA (sA q 30 (upd (gA q 30) w0 (gA q 30 w1))) 31) w0 (gA (sA q 30 (upd (gA q 30) w0 (gA q 30 w1))) 31 w1))) 32) w0 (gA (sA (sA q 30 (upd (gA q 30) w0 (gA q 30 w1))) 31 (upd (gA (sA q 30 (upd (gA q 30) w0 (gA q 30 w1))) 31) w0 (gA (sA q 30 (upd (gA q 30) w0 (gA q 30 w1))) 31 w1))) 32 w1))) 33 w1))) 34) w0 (gA (sA (sA (sA (sA q 30 (upd (gA q 30) w0 (gA q 30 w1))) 31 (upd (gA (sA q 30 (upd (gA q 30) w0 (gA q 30 w1))) 31) w0 (gA (sA q 30 (upd (gA q 30) w0 (gA q 30 w1))) 31 w1))) 32 (upd (gA (sA (sA q 30 (upd (gA q 30) w0 (gA q 30 w1))) 31 (upd (gA (sA q 30 (upd (gA q 30) w0 (gA q 30 w1))) 31) w0 (gA (sA q 30 (upd (gA q 30) w0 (gA q 30 w1))) 31 w1))) 32) w0 (gA (sA (sA q 30 (upd (gA q 30) w0 (gA q 30 w1))) 31 (upd (gA (sA q 30 (upd (gA q 30) w0 (gA q 30 w1))) 31) w0 (gA (sA q 30 (upd (gA q 30) w0 (gA q 30 w1))) 31 w1))) 32 w1))) 33 (upd (gA (sA (sA (sA q 30 (upd (gA q 30) w0 (gA q 30 w1))) 31 (upd (gA (sA q 30 (upd (gA q 30) w0 (gA q 30 w1))) 31) w0 (gA (sA q 30 (upd (gA q 30) w0 (gA q 30 w1))) 31 w1))) 32 (upd (gA (sA (sA q 30 (upd (gA q 30) w0 (gA q 30 w1))) 31 (upd (gA (sA q 30 (upd (gA q 30) w0 (gA q 30 w1))) 31) w0 (gA (sA q 30 (upd (gA q 30) w0 (gA q 30 w1))) 31 w1))) 32) w0 (gA (sA (sA q 30 (upd (gA q 30) w0 (gA q 30 w1))) 31 (upd (gA (sA q 30 (upd (gA q 30) w0 (gA q 30 w1))) 31) w0 (gA (sA q 30 (upd (gA q 30) w0 (gA q 30 w1))) 31 w1))) 32 w1))) 33) w0 (gA (sA (sA (sA q 30 (upd (gA q 30) w0 (gA q 30 w1))) 31 (upd (gA (sA q 30 (upd (gA q 30) w0 (gA q 30 w1))) 31) w0 (gA (sA q 30 (upd (gA q 30) w0 (gA q 30 w1))) 31 w1))) 32 (upd (gA (sA (sA q 30 (upd (gA q 30) w0 (gA q 30 w1))) 31 (upd (gA (sA q 30 (upd (gA q 30) w0 (gA q 30 w1))) 31) w0 (gA (sA q 30 (upd (gA q 30) w0 (gA q 30 w1))) 31 w1))) 32) w0 (gA (sA (sA q 30 (upd (gA q 30) w0 (gA q 30 w1))) 31 (upd (gA (sA q 30 (upd (gA q 30) w0 (gA q 30 w1))) 31) w0 (gA (sA q 30 (upd (gA q 30) w0 (gA q 30 w1))) 31 w1))) 32 w1))) 33 w1))) 34 w1))) 35) w0 (gA (sA (sA (sA (sA (sA q 30 (upd (gA q 30) w0 (gA q 30 w1))) 31 (upd (gA (sA q 30 (upd (gA q 30) w0 (gA q 30 w1))) 31) w0 (gA (sA q 30 (upd (gA q 30) w0 (gA q 30 w1))) 31 w1))) 32 (upd (gA (sA (sA q 30 (upd (gA q 30) w0 (gA q 30 w1))) 31 (upd (gA (sA q 30 (upd (gA q 30) w0 (gA q 30 w1))) 31) w0 (gA (sA q 30 (upd (gA q 30) w0 (gA q 30 w1))) 31 w1))) 32) w0 (gA (sA (sA q 30 (upd (gA q 30) w0 (gA q 30 w1))) 31 (upd (gA (sA q 30 (upd (gA q 30) w0 (gA q 30 w1))) 31) w0 (gA (sA q 30 (upd (gA q 30) w0 (gA q 30 w1))) 31 w1))) 32 w1))) 33 (upd (gA (sA (sA (sA q 30 (upd (gA q 30) w0 (gA q 30 w1))) 31 (upd (gA (sA q 30 (upd (gA q 30) w0 (gA q 30 w1))) 31) w0 (gA (sA q 30 (upd (gA q 30) w0 (gA q 30 w1))) 31 w1))) 32 (upd (gA (sA (sA q 30 (upd (gA q 30) w0 (gA q 30 w1))) 31 (upd (gA (sA q 30 (upd (gA q 30) w0 (gA q 30 w1))) 31) w0 (gA (sA q 30 (upd (gA q 30) w0 (gA q 30 w1))) 31 w1))) 32) w0 (gA (sA (sA q 30 (upd (gA q 30) w0 (gA q 30 w1))) 31 (upd (gA (sA q 30 (upd (gA q 30) w0 (gA q 30 w1))) 31) w0 (gA (sA q 30 (upd (gA q 30) w0 (gA q 30 w1))) 31 w1))) 32 w1))) 33) w0 (gA (sA (sA (sA q 30 (upd (gA q 30) w0 (gA q 30 w1))) 31 (upd (gA (sA q 30 (upd (gA q 30) w0 (gA q 30 w1))) 31) w0 (gA (sA q 30 (upd (gA q 30) w0 (gA q 30 w1))) 31 w1))) 32 (upd (gA (sA (sA q 30 (upd (gA q 30) w0 (gA q 30 w1))) 31 (upd (gA (sA q 30 (upd (gA q 30) w0 (gA q 30 w1))) 31) w0 (gA (sA q 30 (upd (gA q 30) w0 (gA q 30 w1))) 31 w1))) 32) w0 (gA (sA (sA q 30 (upd (gA q 30) w0 (gA q 30 w1))) 31 (upd (gA (sA q 30 (upd (gA q 30) w0 (gA q 30 w1))) 31) w0 (gA (sA q 30 (upd (gA q 30) w0 (gA q 30 w1))) 31 w1))) 32 w1))) 33 w1))) 34 (upd (gA (sA (sA (sA (sA q 30 (upd (gA q 30) w0 (gA q 30 w1))) 31 (upd (gA (sA q 30 (upd (gA q 30) w0 (gA q 30 w1))) 31) w0 (gA (sA q 30 (upd (gA q 30) w0 (gA q 30 w1))) 31 w1))) 32 (upd (gA (sA (sA q 30 (upd (gA q 30) w0 (gA q 30 w1))) 31 (upd (gA (sA q 30 (upd (gA q 30) w0 (gA q 30 w1))) 31) w0 (gA (sA q 30 (upd (gA q 30) w0 (gA q 30 w1))) 31 w1))) 32) w0 (gA (sA (sA q 30 (upd (gA q 30) w0 (gA q 30 w1))) 31 (upd (gA (sA q 30 (upd (gA q 30) w0 (gA q 30 w1))) 31) w0 (gA (sA q 30 (upd (gA q 30) w0 (gA q 30 w1))) 31 w1))) 32 w1))) 33 (upd (gA (sA (sA (sA q 30 (upd (gA q 30) w0 (gA q 30 w1))) 31 (upd (gA (sA q 30 (upd (gA q 30) w0 (gA q 30 w1))) 31) w0 (gA (sA q 30 (upd (gA q 30) w0 (gA q 30 w1))) 31 w1))) 32 (upd (gA (sA (sA q 30 (upd (gA q 30) w0 (gA q 30 w1))) 31 (upd (gA (sA q 30 (upd (gA q 30) w0 (gA q 30 w1))) 31) w0 (gA (sA q 30 (upd (gA q 30) w0 (gA q 30 w1))) 31 w1))) 32) w0 (gA (sA (sA q 30 (upd (gA q 30) w0 (gA q 30 w1))) 31 (upd (gA (sA q 30 (upd (gA q 30) w0 (gA q 30 w1))) 31) w0 (gA (sA q 30 (upd (gA q 30) w0 (gA q 30 w1))) 31 w1))) 32 w1))) 33) w0 (gA (sA (sA (sA q 30 (upd (gA q 30) w0 (gA q 30 w1))) 31 (upd (gA (sA q 30 (upd (gA q 30) w0 (gA q 30 w1))) 31) w0 (gA (sA q 30 (upd (gA q 30) w0 (gA q 30 w1))) 31 w1))) 32 (upd (gA (sA (sA q 30 (upd (gA q 30) w0 (gA q 30 w1))) 31 (upd (gA (sA q 30 (upd (gA q 30) w0 (gA q 30 w1))) 31) w0 (gA (sA q 30 (upd (gA q 30) w0 (gA q 30 w1))) 31 w1))) 32) w0 (gA (sA (sA q 30 (upd (gA q 30) w0 (gA q 30 w1))) 31 (upd (gA (sA q 30 (upd (gA q 30) w0 (gA q 30 w1))) 31) w0 (gA (sA q 30 (upd (gA q 30) w0 (gA q 30 w1))) 31 w1))) 32 w1))) 33 w1))) 34) w0 (gA (sA (sA (sA (sA q 30 (upd (gA q 30) w0 (gA q 30 w1))) 31 (upd (gA (sA q 30 (upd (gA q 30) w0 (gA q 30 w1))) 31) w0 (gA (sA q 30 (upd (gA q 30) w0 (gA q 30 w1))) 31 w1))) 32 (upd (gA (sA (sA q 30 (upd (gA q 30) w0 (gA q 30 w1))) 31 (upd (gA (sA q 30 (upd (gA q 30) w0 (gA q 30 w1))) 31) w0 (gA (sA q 30 (upd (gA q 30) w0 (gA q 30 w1))) 31 w1))) 32) w0 (gA (sA (sA q 30 (upd (gA q 30) w0 (gA q 30 w1))) 31 (upd (gA (sA q 30 (upd (gA q 30) w0 (gA q 30 w1))) 31) w0 (gA (sA q 30 (upd (gA q 30) w0 (gA q 30 w1))) 31 w1))) 32 w1))) 33 (upd (gA (sA (sA (sA q 30 (upd (gA q 30) w0 (gA q 30 w1))) 31 (upd (gA (sA q 30 (upd (gA q 30) w0 (gA q 30 w1))) 31) w0 (gA (sA q 30 (upd (gA q 30) w0 (gA q 30 w1))) 31 w1))) 32 (upd (gA (sA (sA q 30 (upd (gA q 30) w0 (gA q 30 w1))) 31 (upd (gA (sA q 30 (upd (gA q 30) w0 (gA q 30 w1))) 31) w0 (gA (sA q 30 (upd (gA q 30) w0 (gA q 30 w1))) 31 w1))) 32) w0 (gA (sA (sA q 30 (upd (gA q 30) w0 (gA q 30 w1))) 31 (upd (gA (sA q 30 (upd (gA q 30) w0 (gA q 30 w1))) 31) w0 (gA (sA q 30 (upd (gA q 30) w0 (gA q 30 w1))) 31 w1))) 32 w1))) 33) w0 (gA (sA (sA (sA q 30 (upd (gA q 30) w0 (gA q 30 w1))) 31 (upd (gA (sA q 30 (upd (gA q 30) w0 (gA q 30 w1))) 31) w0 (gA (sA q 30 (upd (gA q 30) w0 (gA q 30 w1))) 31 w1))) 32 (upd (gA (sA (sA q 30 (upd (gA q 30) w0 (gA q 30 w1))) 31 (upd (gA (sA q 30 (upd (gA q 30) w0 (gA q 30 w1))) 31) w0 (gA (sA q 30 (upd (gA q 30) w0 (gA q 30 w1))) 31 w1))) 32) w0 (gA (sA (sA q 30 (upd (gA q 30) w0 (gA q 30 w1))) 31 (upd (gA (sA q 30 (upd (gA q 30) w0 (gA q 30 w1))) 31) w0 (gA (sA q 30 (upd (gA q 30) w0 (gA q 30 w1))) 31 w1))) 32 w1))) 33 w1))) 34 w1))) 35 w1))) 36 w1))) w0 w1
def kX9_copyFrom (q : SS) (w0 : Nat) (w1 : Nat) : Prop := isW q w1 ∧ isW q w0 ∧ isW (sA q 30 (upd (gA q 30) w0 (gA q 30 w1))) w1 ∧ isW (sA q 30 (upd (gA q 30) w0 (gA q 30 w1))) w0 ∧ isW (sA (sA q 30 (upd (gA q 30) w0 (gA q 30 w1))) 31 (upd (gA (sA q 30 (upd (gA q 30) w0 (gA q 30 w1))) 31) w0 (gA (sA q 30 (upd (gA q 30) w0 (gA q 30 w1))) 31 w1))) w1 ∧ isW (sA (sA q 30 (upd (gA q 30) w0 (gA q 30 w1))) 31 (upd (gA (sA q 30 (upd (gA q 30) w0 (gA q 30 w1))) 31) w0 (gA (sA q 30 (upd (gA q 30) w0 (gA q 30 w1))) 31 w1))) w0 ∧ isW (sA (sA (sA q 30 (upd (gA q 30) w0 (gA q 30 w1))) 31 (upd (gA (sA q 30 (upd (gA q 30) w0 (gA q 30 w1))) 31) w0 (gA (sA q 30 (upd (gA q 30) w0 (gA q 30 w1))) 31 w1))) 32 (upd (gA (sA (sA q 30 (upd (gA q 30) w0 (gA q 30 w1))) 31 (upd (gA (sA q 30 (upd (gA q 30) w0 (gA q 30 w1))) 31) w0 (gA (sA q 30 (upd (gA q 30) w0 (gA q 30 w1))) 31 w1))) 32) w0 (gA (sA (sA q 30 (upd (gA q 30) w0 (gA q 30 w1))) 31 (upd (gA (sA q 30 (upd (gA q 30) w0 (gA q 30 w1))) 31) w0 (gA (sA q 30 (upd (gA q 30) w0 (gA q 30 w1))) 31 w1))) 32 w1))) w1 ∧ isW (sA (sA (sA q 30 (upd (gA q 30) w0 (gA q 30 w1))) 31 (upd (gA (sA q 30 (upd (gA q 30) w0 (gA q 30 w1))) 31) w0 (gA (sA q 30 (upd (gA q 30) w0 (gA q 30 w1))) 31 w1))) 32 (upd (gA (sA (sA q 30 (upd (gA q 30) w0 (gA q 30 w1))) 31 (upd (gA (sA q 30 (upd (gA q 30) w0 (gA q 30 w1))) 31) w0 (gA (sA q 30 (upd (gA q 30) w0 (gA q 30 w1))) 31 w1))) 32) w0 (gA (sA (sA q 30 (upd (gA q 30) w0 (gA q 30 w1))) 31 (upd (gA (sA q 30 (upd (gA q 30) w0 (gA q 30 w1))) 31) w0 (gA (sA q 30 (upd (gA q 30) w0 (gA q 30 w1))) 31 w1))) 32 w1))) w0 ∧ isW (sA (sA (sA (sA q 30 (upd (gA q 30) w0 (gA q 30 w1))) 31 (upd (gA (sA q 30 (upd (gA q 30) w0 (gA q 30 w1))) 31) w0 (gA (sA q 30 (upd (gA q 30) w0 (gA q 30 w1))) 31 w1))) 32 (upd (gA (sA (sA q 30 (upd (gA q 30) w0 (gA q 30 w1))) 31 (upd (gA (sA q 30 (upd (gA q 30) w0 (gA q 30 w1))) 31) w0 (gA (sA q 30 (upd (gA q 30) w0 (gA q 30 w1))) 31 w1))) 32) w0 (gA (sA (sA q 30 (upd (gA q 30) w0 (gA q 30 w1))) 31 (upd (gA (sA q 30 (upd (gA q 30) w0 (gA q 30 w1))) 31) w0 (gA (sA q 30 (upd (gA q 30) w0 (gA q 30 w1))) 31 w1))) 32 w1))) 33 (upd (gA (sA (sA (sA q 30 (upd (gA q 30) w0 (gA q 30 w1))) 31 (upd (gA (sA q 30 (upd (gA q 30) w0 (gA q 30 w1))) 31) w0 (gA (sA q 30 (upd (gA q 30) w0 (gA q 30 w1))) 31 w1))) 32 (upd (gA (sA (sA q 30 (upd (gA q 30) w0 (gA q 30 w1))) 31 (upd (gA (sA q 30 (upd (gA q 30) w0 (gA q 30 w1))) 31) w0 (gA (sA q 30 (upd (gA q 30) w0 (gA q 30 w1))) 31 w1))) 32) w0 (gA (sA (sA q 30 (upd (gA q 30) w0 (gA q 30 w1))) 31 (upd (gA (sA q 30 (upd (gA q 30) w0 (gA q 30 w1))) 31) w0 (gA (sA q 30 (upd (gA q 30) w0 (gA q 30 w1))) 31 w1))) 32 w1))) 33) w0 (gA (sA (sA (sA q 30 (upd (gA q 30) w0 (gA q 30 w1))) 31 (upd (gA (sA q 30 (upd (gA q 30) w0 (gA q 30 w1))) 31) w0 (gA (sA q 30 (upd (gA q 30) w0 (gA q 30 w1))) 31 w1))) 32 (upd (gA (sA (sA q 30 (upd (gA q 30) w0 (gA q 30 w1))) 31 (upd (gA (sA q 30 (upd (gA q 30) w0 (gA q 30 w1))) 31) w0 (gA (sA q 30 (upd (gA q 30) w0 (gA q 30 w1))) 31 w1))) 32) w0 (gA (sA (sA q 30 (upd (gA q 30) w0 (gA q 30 w1))) 31 (upd (gA (sA q 30 (upd (gA q 30) w0 (gA q 30 w1))) 31) w0 (gA (sA q 30 (upd (gA q 30) w0 (gA q 30 w1))) 31 w1))) 32 w1))) 33 w1))) w1 ∧ isW (sA (sA (sA (sA q 30 (upd (gA q 30) w0 (gA q 30 w1))) 31 (upd (gA (sA q 30 (upd (gA q 30) w0 (gA q 30 w1))) 31) w0 (gA (sA q 30 (upd (gA q 30) w0 (gA q 30 w1))) 31 w1))) 32 (upd (gA (sA (sA q 30 (upd (gA q 30) w0 (gA q 30 w1))) 31 (upd (gA (sA q 30 (upd (gA q 30) w0 (gA q 30 w1))) 31) w0 (gA (sA q 30 (upd (gA q 30) w0 (gA q 30 w1))) 31 w1))) 32) w0 (gA (sA (sA q 30 (upd (gA q 30) w0 (gA q 30 w1))) 31 (upd (gA (sA q 30 (upd (gA q 30) w0 (gA q 30 w1))) 31) w0 (gA (sA q 30 (upd (gA q 30) w0 (gA q 30 w1))) 31 w1))) 32 w1))) 33 (upd (gA (sA (sA (sA q 30 (upd (gA q 30) w0 (gA q 30 w1))) 31 (upd (gA (sA q 30 (upd (gA q 30) w0 (gA q 30 w1))) 31) w0 (gA (sA q 30 (upd (gA q 30) w0 (gA q 30 w1))) 31 w1))) 32 (upd (gA (sA (sA q 30 (upd (gA q 30) w0 (gA q 30 w1))) 31 (upd (gA (sA q 30 (upd (gA q 30) w0 (gA q 30 w1))) 31) w0 (gA (sA q 30 (upd (gA q 30) w0 (gA q 30 w1))) 31 w1))) 32) w0 (gA (sA (sA q 30 (upd (gA q 30) w0 (gA q 30 w1))) 31 (upd (gA (sA q 30 (upd (gA q 30) w0 (gA q 30 w1))) 31) w0 (gA (sA q 30 (upd (gA q 30) w0 (gA q 30 w1))) 31 w1))) 32 w1))) 33) w0 (gA (sA (sA (sA q 30 (upd (gA q 30) w0 (gA q 30 w1))) 31 (upd (gA (sA q 30 (upd (gA q 30) w0 (gA q 30 w1))) 31) w0 (gA (sA q 30 (upd (gA q 30) w0 (gA q 30 w1))) 31 w1))) 32 (upd (gA (sA (sA q 30 (upd (gA q 30) w0 (gA q 30 w1))) 31 (upd (gA (sA q 30 (upd (gA q 30) w0 (gA q 30 w1))) 31) w0 (gA (sA q 30 (upd (gA q 30) w0 (gA q 30 w1))) 31 w1))) 32) w0 (gA (sA (sA q 30 (upd (gA q 30) w0 (gA q 30 w1))) 31 (upd (gA (sA q 30 (upd (gA q 30) w0 (gA q 30 w1))) 31) w0 (gA (sA q 30 (upd (gA q 30) w0 (gA q 30 w1))) 31 w1))) 32 w1))) 33 w1))) w0 ∧ nf .char (gA (sA (sA (sA (sA q 30 (upd (gA q 30) w0 (gA q 30 w1))) 31 (upd (gA (sA q 30 (upd (gA q 30) w0 (gA q 30 w1))) 31) w0 (gA (sA q 30 (upd (gA q 30) w0 (gA q 30 w1))) 31 w1))) 32 (upd (gA (sA (sA q 30 (upd (gA q 30) w0 (gA q 30 w1))) 31 (upd (gA (sA q 30 (upd (gA q 30) w0 (gA q 30 w1))) 31) w0 (gA (sA q 30 (upd (gA q 30) w0 (gA q 30 w1))) 31 w1))) 32) w0 (gA (sA (sA q 30 (upd (gA q 30) w0 (gA q 30 w1))) 31 (upd (gA (sA q 30 (upd (gA q 30) w0 (gA q 30 w1))) 31) w0 (gA (sA q 30 (upd (gA q 30) w0 (gA q 30 w1))) 31 w1))) 32 w1))) 33 (upd (gA (sA (sA (sA q 30 (upd (gA q 30) w0 (gA q 30 w1))) 31 (upd (gA (sA q 30 (upd (gA q 30) w0 (gA q 30 w1))) 31) w0 (gA (sA q 30 (upd (gA q 30) w0 (gA q 30 w1))) 31 w1))) 32 (upd (gA (sA (sA q 30 (upd (gA q 30) w0 (gA q 30 w1))) 31 (upd (gA (sA q 30 (upd (gA q 30) w0 (gA q 30 w1))) 31) w0 (gA (sA q 30 (upd (gA q 30) w0 (gA q 30 w1))) 31 w1))) 32) w0 (gA (sA (sA q 30 (upd (gA q 30) w0 (gA q 30 w1))) 31 (upd (gA (sA q 30 (upd (gA q 30) w0 (gA q 30 w1))) 31) w0 (gA (sA q 30 (upd (gA q 30) w0 (gA q 30 w1))) 31 w1))) 32 w1))) 33) w0 (gA (sA (sA (sA q 30 (upd (gA q 30) w0 (gA q 30 w1))) 31 (upd (gA (sA q 30 (upd (gA q 30) w0 (gA q 30 w1))) 31) w0 (gA (sA q 30 (upd (gA q 30) w0 (gA q 30 w1))) 31 w1))) 32 (upd (gA (sA (sA q 30 (upd (gA q 30) w0 (gA q 30 w1))) 31 (upd (gA (sA q 30 (upd (gA q 30) w0 (gA q 30 w1))) 31) w0 (gA (sA q 30 (upd (gA q 30) w0 (gA q 30 w1))) 31 w1))) 32) w0 (gA (sA (sA q 30 (upd (gA q 30) w0 (gA q 30 w1))) 31 (upd (gA (sA q 30 (upd (gA q 30) w0 (gA q 30 w1))) 31) w0 (gA (sA q 30 (upd (gA q 30) w0 (gA q 30 w1))) 31 w1))) 32 w1))) 33 w1))) 34 w1) ∧ isW (sA (sA (sA (sA (sA q 30 (upd (gA q 30) w0 (gA q 30 w1))) 31 (upd (gA (sA q 30 (upd (gA q 30) w0 (gA q 30 w1))) 31) w0 (gA (sA q 30 (upd (gA q 30) w0 (gA q 30 w1))) 31 w1))) 32 (upd (gA (sA (sA q 30 (upd (gA q 30) w0 (gA q 30 w1))) 31 (upd (gA (sA q 30 (upd (gA q 30) w0 (gA q 30 w1))) 31) w0 (gA (sA q 30 (upd (gA q 30) w0 (gA q 30 w1))) 31 w1))) 32) w0 (gA (sA (sA q 30 (upd (gA q 30) w0 (gA q 30 w1))) 31 (upd (gA (sA q 30 (upd (gA q 30) w0 (gA q 30 w1))) 31) w0 (gA (sA q 30 (upd (gA q 30) w0 (gA q 30 w1))) 31 w1))) 32 w1))) 33 (upd (gA (sA (sA (sA q 30 (upd (gA q 30) w0 (gA q 30 w1))) 31 (upd (gA (sA q 30 (upd (gA q 30) w0 (gA q 30 w1))) 31) w0 (gA (sA q 30 (upd (gA q 30) w0 (gA q 30 w1))) 31 w1))) 32 (upd (gA (sA (sA q 30 (upd (gA q 30) w0 (gA q 30 w1))) 31 (upd (gA (sA q 30 (upd (gA q 30) w0 (gA q 30 w1))) 31) w0 (gA (sA q 30 (upd (gA q 30) w0 (gA q 30 w1))) 31 w1))) 32) w0 (gA (sA (sA q 30 (upd (gA q 30) w0 (gA q 30 w1))) 31 (upd (gA (sA q 30 (upd (gA q 30) w0 (gA q 30 w1))) 31) w0 (gA (sA q 30 (upd (gA q 30) w0 (gA q 30 w1))) 31 w1))) 32 w1))) 33) w0 (gA (sA (sA (sA q 30 (upd (gA q 30) w0 (gA q 30 w1))) 31 (upd (gA (sA q 30 (upd (gA q 30) w0 (gA q 30 w1))) 31) w0 (gA (sA q 30 (upd (gA q 30) w0 (gA q 30 w1))) 31 w1))) 32 (upd (gA (sA (sA q 30 (upd (gA q 30) w0 (gA q 30 w1))) 31 (upd (gA (sA q 30 (upd (gA q 30) w0 (gA q 30 w1))) 31) w0 (gA (sA q 30 (upd (gA q 30) w0 (gA q 30 w1))) 31 w1))) 32) w0 (gA (sA (sA q 30 (upd (gA q 30) w0 (gA q 30 w1))) 31 (upd (gA (sA q 30 (upd (gA q 30) w0 (gA q 30 w1))) 31) w0 (gA (sA q 30 (upd (gA q 30) w0 (gA q 30 w1))) 31 w1))) 32 w1))) 33 w1))) 34 (upd (gA (sA (sA (sA (sA q 30 (upd (gA q 30) w0 (gA q 30 w1))) 31 (upd (gA (sA q 30 (upd (gA q 30) w0 (gA q 30 w1))) 31) w0 (gA (sA q 30 (upd (gA q 30) w0 (gA q 30 w1))) 31 w1))) 32 (upd (gA (sA (sA q 30 (upd (gA q 30) w0 (gA q 30 w1))) 31 (upd (gA (sA q 30 (upd (gA q 30) w0 (gA q 30 w1))) 31) w0 (gA (sA q 30 (upd (gA q 30) w0 (gA q 30 w1))) 31 w1))) 32) w0 (gA (sA (sA q 30 (upd (gA q 30) w0 (gA q 30 w1))) 31 (upd (gA (sA q 30 (upd (gA q 30) w0 (gA q 30 w1))) 31) w0 (gA (sA q 30 (upd (gA q 30) w0 (gA q 30 w1))) 31 w1))) 32 w1))) 33 (upd (gA (sA (sA (sA q 30 (upd (gA q 30) w0 (gA q 30 w1))) 31 (upd (gA (sA q 30 (upd (gA q 30) w0 (gA q 30 w1))) 31) w0 (gA (sA q 30 (upd (gA q 30) w0 (gA q 30 w1))) 31 w1))) 32 (upd (gA (sA (sA q 30 (upd (gA q 30) w0 (gA q 30 w1))) 31 (upd (gA (sA q 30 (upd (gA q 30) w0 (gA q 30 w1))) 31) w0 (gA (sA q 30 (upd (gA q 30) w0 (gA q 30 w1))) 31 w1))) 32) w0 (gA (sA (sA q 30 (upd (gA q 30) w0 (gA q 30 w1))) 31 (upd (gA (sA q 30 (upd (gA q 30) w0 (gA q 30 w1))) 31) w0 (gA (sA q 30 (upd (gA q 30) w0 (gA q 30 w1))) 31 w1))) 32 w1))) 33) w0 (gA (sA (sA (sA q 30 (upd (gA q 30) w0 (gA q 30 w1))) 31 (upd (gA (sA q 30 (upd (gA q 30) w0 (gA q 30 w1))) 31) w0 (gA (sA q 30 (upd (gA q 30) w0 (gA q 30 w1))) 31 w1))) 32 (upd (gA (sA (sA q 30 (upd (gA q 30) w0 (gA q 30 w1))) 31 (upd (gA (sA q 30 (upd (gA q 30) w0 (gA q 30 w1))) 31) w0 (gA (sA q 30 (upd (gA q 30) w0 (gA q 30 w1))) 31 w1))) 32) w0 (gA (sA (sA q 30 (upd (gA q 30) w0 (gA q 30 w1))) 31 (upd (gA (sA q 30 (upd (gA q 30) w0 (gA q 30 w1))) 31) w0 (gA (sA q 30 (upd (gA q 30) w0 (gA q 30 w1))) 31 w1))) 32 w1))) 33 w1))) 34) w0 (gA (sA (sA (sA (sA q 30 (upd (gA q 30) w0 (gA q 30 w1))) 31 (upd (gA (sA q 30 (upd (gA q 30) w0 (gA q 30 w1))) 31) w0 (gA (sA q 30 (upd (gA q 30) w0 (gA q 30 w1))) 31 w1))) 32 (upd (gA (sA (sA q 30 (upd (gA q 30) w0 (gA q 30 w1))) 31 (upd (gA (sA q 30 (upd (gA q 30) w0 (gA q 30 w1))) 31) w0 (gA (sA q 30 (upd (gA q 30) w0 (gA q 30 w1))) 31 w1))) 32) w0 (gA (sA (sA q 30 (upd (gA q 30) w0 (gA q 30 w1))) 31 (upd (gA (sA q 30 (upd (gA q 30) w0 (gA q 30 w1))) 31) w0 (gA (sA q 30 (upd (gA q 30) w0 (gA q 30 w1))) 31 w1))) 32 w1))) 33 (upd (gA (sA (sA (sA q 30 (upd (gA q 30) w0 (gA q 30 w1))) 31 (upd (gA (sA q 30 (upd (gA q 30) w0 (gA q 30 w1))) 31) w0 (gA (sA q 30 (upd (gA q 30) w0 (gA q 30 w1))) 31 w1))) 32 (upd (gA (sA (sA q 30 (upd (gA q 30) w0 (gA q 30 w1))) 31 (upd (gA (sA q 30 (upd (gA q 30) w0 (gA q 30 w1))) 31) w0 (gA (sA q 30 (upd (gA q 30) w0 (gA q 30 w1))) 31 w1))) 32) w0 (gA (sA (sA q 30 (upd (gA q 30) w0 (gA q 30 w1))) 31 (upd (gA (sA q 30 (upd (gA q 30) w0 (gA q 30 w1))) 31) w0 (gA (sA q 30 (upd (gA q 30) w0 (gA q 30 w1))) 31 w1))) 32 w1))) 33) w0 (gA (sA (sA (sA q 30 (upd (gA q 30) w0 (gA q 30 w1))) 31 (upd (gA (sA q 30 (upd (gA q 30) w0 (gA q 30 w1))) 31) w0 (gA (sA q 30 (upd (gA q 30) w0 (gA q 30 w1))) 31 w1))) 32 (upd (gA (sA (sA q 30 (upd (gA q 30) w0 (gA q 30 w1))) 31 (upd (gA (sA q 30 (upd (gA q 30) w0 (gA q 30 w1))) 31) w0 (gA (sA q 30 (upd (gA q 30) w0 (gA q 30 w1))) 31 w1))) 32) w0 (gA (sA (sA q 30 (upd (gA q 30) w0 (gA q 30 w1))) 31 (upd (gA (sA q 30 (upd (gA q 30) w0 (gA q 30 w1))) 31) w0 (gA (sA q 30 (upd (gA q 30) w0 (gA q 30 w1))) 31 w1))) 32 w1))) 33 w1))) 34 w1))) w1 ∧ isW (sA (sA (sA (sA (sA q 30 (upd (gA q 30) w0 (gA q 30 w1))) 31 (upd (gA (sA q 30 (upd (gA q 30) w0 (gA q 30 w1))) 31) w0 (gA (sA q 30 (upd (gA q 30) w0 (gA q 30 w1))) 31 w1))) 32 (upd (gA (sA (sA q 30 (upd (gA q 30) w0 (gA q 30 w1))) 31 (upd (gA (sA q 30 (upd (gA q 30) w0 (gA q 30 w1))) 31) w0 (gA (sA q 30 (upd (gA q 30) w0 (gA q 30 w1))) 31 w1))) 32) w0 (gA (sA (sA q 30 (upd (gA q 30) w0 (gA q 30 w1))) 31 (upd (gA (sA q 30 (upd (gA q 30) w0 (gA q 30 w1))) 31) w0 (gA (sA q 30 (upd (gA q 30) w0 (gA q 30 w1))) 31 w1))) 32 w1))) 33 (upd (gA (sA (sA (sA q 30 (upd (gA q 30) w0 (gA q 30 w1))) 31 (upd (gA (sA q 30 (upd (gA q 30) w0 (gA q 30 w1))) 31) w0 (gA (sA q 30 (upd (gA q 30) w0 (gA q 30 w1))) 31 w1))) 32 (upd (gA (sA (sA q 30 (upd (gA q 30) w0 (gA q 30 w1))) 31 (upd (gA (sA q 30 (upd (gA q 30) w0 (gA q 30 w1))) 31) w0 (gA (sA q 30 (upd (gA q 30) w0 (gA q 30 w1))) 31 w1))) 32) w0 (gA (sA (sA q 30 (upd (gA q 30) w0 (gA q 30 w1))) 31 (upd (gA (sA q 30 (upd (gA q 30) w0 (gA q 30 w1))) 31) w0 (gA (sA q 30 (upd (gA q 30) w0 (gA q 30 w1))) 31 w1))) 32 w1))) 33) w0 (gA (sA (sA (sA q 30 (upd (gA q 30) w0 (gA q 30 w1))) 31 (upd (gA (sA q 30 (upd (gA q 30) w0 (gA q 30 w1))) 31) w0 (gA (sA q 30 (upd (gA q 30) w0 (gA q 30 w1))) 31 w1))) 32 (upd (gA (sA (sA q 30 (upd (gA q 30) w0 (gA q 30 w1))) 31 (upd (gA (sA q 30 (upd (gA q 30) w0 (gA q 30 w1))) 31) w0 (gA (sA q 30 (upd (gA q 30) w0 (gA q 30 w1))) 31 w1))) 32) w0 (gA (sA (sA q 30 (upd (gA q 30) w0 (gA q 30 w1))) 31 (upd (gA (sA q 30 (upd (gA q 30) w0 (gA q 30 w1))) 31) w0 (gA (sA q 30 (upd (gA q 30) w0 (gA q 30 w1))) 31 w1))) 32 w1))) 33 w1))) 34 (upd (gA (sA (sA (sA (sA q 30 (upd (gA q 30) w0 (gA q 30 w1))) 31 (upd (gA (sA q 30 (upd (gA q 30) w0 (gA q 30 w1))) 31) w0 (gA (sA q 30 (upd (gA q 30) w0 (gA q 30 w1))) 31 w1))) 32 (upd (gA (sA (sA q 30 (upd (gA q 30) w0 (gA q 30 w1))) 31 (upd (gA (sA q 30 (upd (gA q 30) w0 (gA q 30 w1))) 31) w0 (gA (sA q 30 (upd (gA q 30) w0 (gA q 30 w1))) 31 w1))) 32) w0 (gA (sA (sA q 30 (upd (gA q 30) w0 (gA q 30 w1))) 31 (upd (gA (sA q 30 (upd (gA q 30) w0 (gA q 30 w1))) 31) w0 (gA (sA q 30 (upd (gA q 30) w0 (gA q 30 w1))) 31 w1))) 32 w1))) 33 (upd (gA (sA (sA (sA q 30 (upd (gA q 30) w0 (gA q 30 w1))) 31 (upd (gA (sA q 30 (upd (gA q 30) w0 (gA q 30 w1))) 31) w0 (gA (sA q 30 (upd (gA q 30) w0 (gA q 30 w1))) 31 w1))) 32 (upd (gA (sA (sA q 30 (upd (gA q 30) w0 (gA q 30 w1))) 31 (upd (gA (sA q 30 (upd (gA q 30) w0 (gA q 30 w1))) 31) w0 (gA (sA q 30 (upd (gA q 30) w0 (gA q 30 w1))) 31 w1))) 32) w0 (gA (sA (sA q 30 (upd (gA q 30) w0 (gA q 30 w1))) 31 (upd (gA (sA q 30 (upd (gA q 30) w0 (gA q 30 w1))) 31) w0 (gA (sA q 30 (upd (gA q 30) w0 (gA q 30 w1))) 31 w1))) 32 w1))) 33) w0 (gA (sA (sA (sA q 30 (upd (gA q 30) w0 (gA q 30 w1))) 31 (upd (gA (sA q 30 (upd (gA q 30) w0 (gA q 30 w1))) 31) w0 (gA (sA q 30 (upd (gA q 30) w0 (gA q 30 w1))) 31 w1))) 32 (upd (gA (sA (sA q 30 (upd (gA q 30) w0 (gA q 30 w1))) 31 (upd (gA (sA q 30 (upd (gA q 30) w0 (gA q 30 w1))) 31) w0 (gA (sA q 30 (upd (gA q 30) w0 (gA q 30 w1))) 31 w1))) 32) w0 (gA (sA (sA q 30 (upd (gA q 30) w0 (gA q 30 w1))) 31 (upd (gA (sA q 30 (upd (gA q 30) w0 (gA q 30 w1))) 31) w0 (gA (sA q 30 (upd (gA q 30) w0 (gA q 30 w1))) 31 w1))) 32 w1))) 33 w1))) 34) w0 (gA (sA (sA (sA (sA q 30 (upd (gA q 30) w0 (gA q 30 w1))) 31 (upd (gA (sA q 30 (upd (gA q 30) w0 (gA q 30 w1))) 31) w0 (gA (sA q 30 (upd (gA q 30) w0 (gA q 30 w1))) 31 w1))) 32 (upd (gA (sA (sA q 30 (upd (gA q 30) w0 (gA q 30 w1))) 31 (upd (gA (sA q 30 (upd (gA q 30) w0 (gA q 30 w1))) 31) w0 (gA (sA q 30 (upd (gA q 30) w0 (gA q 30 w1))) 31 w1))) 32) w0 (gA (sA (sA q 30 (upd (gA q 30) w0 (gA q 30 w1))) 31 (upd (gA (sA q 30 (upd (gA q 30) w0 (gA q 30 w1))) 31) w0 (gA (sA q 30 (upd (gA q 30) w0 (gA q 30 w1))) 31 w1))) 32 w1))) 33 (upd (gA (sA (sA (sA q 30 (upd (gA q 30) w0 (gA q 30 w1))) 31 (upd (gA (sA q 30 (upd (gA q 30) w0 (gA q 30 w1))) 31) w0 (gA (sA q 30 (upd (gA q 30) w0 (gA q 30 w1))) 31 w1))) 32 (upd (gA (sA (sA q 30 (upd (gA q 30) w0 (gA q 30 w1))) 31 (upd (gA (sA q 30 (upd (gA q 30) w0 (gA q 30 w1))) 31) w0 (gA (sA q 30 (upd (gA q 30) w0 (gA q 30 w1))) 31 w1))) 32) w0 (gA (sA (sA q 30 (upd (gA q 30) w0 (gA q 30 w1))) 31 (upd (gA (sA q 30 (upd (gA q 30) w0 (gA q 30 w1))) 31) w0 (gA (sA q 30 (upd (gA q 30) w0 (gA q 30 w1))) 31 w1))) 32 w1))) 33) w0 (gA (sA (sA (sA q 30 (upd (gA q 30) w0 (gA q 30 w1))) 31 (upd (gA (sA q 30 (upd (gA q 30) w0 (gA q 30 w1))) 31) w0 (gA (sA q 30 (upd (gA q 30) w0 (gA q 30 w1))) 31 w1))) 32 (upd (gA (sA (sA q 30 (upd (gA q 30) w0 (gA q 30 w1))) 31 (upd (gA (sA q 30 (upd (gA q 30) w0 (gA q 30 w1))) 31) w0 (gA (sA q 30 (upd (gA q 30) w0 (gA q 30 w1))) 31 w1))) 32) w0 (gA (sA (sA q 30 (upd (gA q 30) w0 (gA q 30 w1))) 31 (upd (gA (sA q 30 (upd (gA q 30) w0 (gA q 30 w1))) 31) w0 (gA (sA q 30 (upd (gA q 30) w0 (gA q 30 w1))) 31 w1))) 32 w1))) 33 w1))) 34 w1))) w0 ∧ isW (sA (sA (sA (sA (sA (sA q 30 (upd (gA q 30) w0 (gA q 30 w1))) 31 (upd (gA (sA q 30 (upd (gA q 30) w0 (gA q 30 w1))) 31) w0 (gA (sA q 30 (upd (gA q 30) w0 (gA q 30 w1))) 31 w1))) 32 (upd (gA (sA (sA q 30 (upd (gA q 30) w0 (gA q 30 w1))) 31 (upd (gA (sA q 30 (upd (gA q 30) w0 (gA q 30 w1))) 31) w0 (gA (sA q 30 (upd (gA q 30) w0 (gA q 30 w1))) 31 w1))) 32) w0 (gA (sA (sA q 30 (upd (gA q 30) w0 (gA q 30 w1))) 31 (upd (gA (sA q 30 (upd (gA q 30) w0 (gA q 30 w1))) 31) w0 (gA (sA q 30 (upd (gA q 30) w0 (gA q 30 w1))) 31 w1))) 32 w1))) 33 (upd (gA (sA (sA (sA q 30 (upd (gA q 30) w0 (gA q 30 w1))) 31 (upd (gA (sA q 30 (upd (gA q 30) w0 (gA q 30 w1))) 31) w0 (gA (sA q 30 (upd (gA q 30) w0 (gA q 30 w1))) 31 w1))) 32 (upd (gA (sA (sA q 30 (upd (gA q 30) w0 (gA q 30 w1))) 31 (upd (gA (sA q 30 (upd (gA q 30) w0 (gA q 30 w1))) 31) w0 (gA (sA q 30 (upd (gA q 30) w0 (gA q 30 w1))) 31 w1))) 32) w0 (gA (sA (sA q 30 (upd (gA q 30) w0 (gA q 30 w1))) 31 (upd (gA (sA q 30 (upd (gA q 30) w0 (gA q 30 w1))) 31) w0 (gA (sA q 30 (upd (gA q 30) w0 (gA q 30 w1))) 31 w1))) 32 w1))) 33) w0 (gA (sA (sA (sA q 30 (upd (gA q 30) w0 (gA q 30 w1))) 31 (upd (gA (sA q 30 (upd (gA q 30) w0 (gA q 30 w1))) 31) w0 (gA (sA q 30 (upd (gA q 30) w0 (gA q 30 w1))) 31 w1))) 32 (upd (gA (sA (sA q 30 (upd (gA q 30) w0 (gA q 30 w1))) 31 (upd (gA (sA q 30 (upd (gA q 30) w0 (gA q 30 w1))) 31) w0 (gA (sA q 30 (upd (gA q 30) w0 (gA q 30 w1))) 31 w1))) 32) w0 (gA (sA (sA q 30 (upd (gA q 30) w0 (gA q 30 w1))) 31 (upd (gA (sA q 30 (upd (gA q 30) w0 (gA q 30 w1))) 31) w0 (gA (sA q 30 (upd (gA q 30) w0 (gA q 30 w1))) 31 w1))) 32 w1))) 33 w1))) 34 (upd (gA (sA (sA (sA (sA q 30 (upd (gA q 30) w0 (gA q 30 w1))) 31 (upd (gA (sA q 30 (upd (gA q 30) w0 (gA q 30 w1))) 31) w0 (gA (sA q 30 (upd (gA q 30) w0 (gA q 30 w1))) 31 w1))) 32 (upd (gA (sA (sA q 30 (upd (gA q 30) w0 (gA q 30 w1))) 31 (upd (gA (sA q 30 (upd (gA q 30) w0 (gA q 30 w1))) 31) w0 (gA (sA q 30 (upd (gA q 30) w0 (gA q 30 w1))) 31 w1))) 32) w0 (gA (sA (sA q 30 (upd (gA q 30) w0 (gA q 30 w1))) 31 (upd (gA (sA q 30 (upd (gA q 30) w0 (gA q 30 w1))) 31) w0 (gA (sA q 30 (upd (gA q 30) w0 (gA q 30 w1))) 31 w1))) 32 w1))) 33 (upd (gA (sA (sA (sA q 30 (upd (gA q 30) w0 (gA q 30 w1))) 31 (upd (gA (sA q 30 (upd (gA q 30) w0 (gA q 30 w1))) 31) w0 (gA (sA q 30 (upd (gA q 30) w0 (gA q 30 w1))) 31 w1))) 32 (upd (gA (sA (sA q 30 (upd (gA q 30) w0 (gA q 30 w1))) 31 (upd (gA (sA q 30 (upd (gA q 30) w0 (gA q 30 w1))) 31) w0 (gA (sA q 30 (upd (gA q 30) w0 (gA q 30 w1))) 31 w1))) 32) w0 (gA (sA (sA q 30 (upd (gA q 30) w0 (gA q 30 w1))) 31 (upd (gA (sA q 30 (upd (gA q 30) w0 (gA q 30 w1))) 31) w0 (gA (sA q 30 (upd (gA q 30) w0 (gA q 30 w1))) 31 w1))) 32 w1))) 33) w0 (gA (sA (sA (sA q 30 (upd (gA q 30) w0 (gA q 30 w1))) 31 (upd (gA (sA q 30 (upd (gA q 30) w0 (gA q 30 w1))) 31) w0 (gA (sA q 30 (upd (gA q 30) w0 (gA q 30 w1))) 31 w1))) 32 (upd (gA (sA (sA q 30 (upd (gA q 30) w0 (gA q 30 w1))) 31 (upd (gA (sA q 30 (upd (gA q 30) w0 (gA q 30 w1))) 31) w0 (gA (sA q 30 (upd (gA q 30) w0 (gA q 30 w1))) 31 w1))) 32) w0 (gA (sA (sA q 30 (upd (gA q 30) w0 (gA q 30 w1))) 31 (upd (gA (sA q 30 (upd (gA q 30) w0 (gA q 30 w1))) 31) w0 (gA (sA q 30 (upd (gA q 30) w0 (gA q 30 w1))) 31 w1))) 32 w1))) 33 w1))) 34) w0 (gA (sA (sA (sA (sA q 30 (upd (gA q 30) w0 (gA q 30 w1))) 31 (upd (gA (sA q 30 (upd (gA q 30) w0 (gA q 30 w1))) 31) w0 (gA (sA q 30 (upd (gA q 30) w0 (gA q 30 w1))) 31 w1))) 32 (upd (gA (sA (sA q 30 (upd (gA q 30) w0 (gA q 30 w1))) 31 (upd (gA (sA q 30 (upd (gA q 30) w0 (gA q 30 w1))) 31) w0 (gA (sA q 30 (upd (gA q 30) w0 (gA q 30 w1))) 31 w1))) 32) w0 (gA (sA (sA q 30 (upd (gA q 30) w0 (gA q 30 w1))) 31 (upd (gA (sA q 30 (upd (gA q 30) w0 (gA q 30 w1))) 31) w0 (gA (sA q 30 (upd (gA q 30) w0 (gA q 30 w1))) 31 w1))) 32 w1))) 33 (upd (gA (sA (sA (sA q 30 (upd (gA q 30) w0 (gA q 30 w1))) 31 (upd (gA (sA q 30 (upd (gA q 30) w0 (gA q 30 w1))) 31) w0 (gA (sA q 30 (upd (gA q 30) w0 (gA q 30 w1))) 31 w1))) 32 (upd (gA (sA (sA q 30 (upd (gA q 30) w0 (gA q 30 w1))) 31 (upd (gA (sA q 30 (upd (gA q 30) w0 (gA q 30 w1))) 31) w0 (gA (sA q 30 (upd (gA q 30) w0 (gA q 30 w1))) 31 w1))) 32) w0 (gA (sA (sA q 30 (upd (gA q 30) w0 (gA q 30 w1))) 31 (upd (gA (sA q 30 (upd (gA q 30) w0 (gA q 30 w1))) 31) w0 (gA (sA q 30 (upd (gA q 30) w0 (gA q 30 w1))) 31 w1))) 32 w1))) 33) w0 (gA (sA (sA (sA q 30 (upd (gA q 30) w0 (gA q 30 w1))) 31 (upd (gA (sA q 30 (upd (gA q 30) w0 (gA q 30 w1))) 31) w0 (gA (sA q 30 (upd (gA q 30) w0 (gA q 30 w1))) 31 w1))) 32 (upd (gA (sA (sA q 30 (upd (gA q 30) w0 (gA q 30 w1))) 31 (upd (gA (sA q 30 (upd (gA q 30) w0 (gA q 30 w1))) 31) w0 (gA (sA q 30 (upd (gA q 30) w0 (gA q 30 w1))) 31 w1))) 32) w0 (gA (sA (sA q 30 (upd (gA q 30) w0 (gA q 30 w1))) 31 (upd (gA (sA q 30 (upd (gA q 30) w0 (gA q 30 w1))) 31) w0 (gA (sA q 30 (upd (gA q 30) w0 (gA q 30 w1))) 31 w1))) 32 w1))) 33 w1))) 34 w1))) 35 (upd (gA (sA (sA (sA (sA (sA q 30 (upd (gA q 30) w0 (gA q 30 w1))) 31 (upd (gA (sA q 30 (upd (gA q 30) w0 (gA q 30 w1))) 31) w0 (gA (sA q 30 (upd (gA q 30) w0 (gA q 30 w1))) 31 w1))) 32 (upd (gA (sA (sA q 30 (upd (gA q 30) w0 (gA q 30 w1))) 31 (upd (gA (sA q 30 (upd (gA q 30) w0 (gA q 30 w1))) 31) w0 (gA (sA q 30 (upd (gA q 30) w0 (gA q 30 w1))) 31 w1))) 32) w0 (gA (sA (sA q 30 (upd (gA q 30) w0 (gA q 30 w1))) 31 (upd (gA (sA q 30 (upd (gA q 30) w0 (gA q 30 w1))) 31) w0 (gA (sA q 30 (upd (gA q 30) w0 (gA q 30 w1))) 31 w1))) 32 w1))) 33 (upd (gA (sA (sA (sA q 30 (upd (gA q 30) w0 (gA q 30 w1))) 31 (upd (gA (sA q 30 (upd (gA q 30) w0 (gA q 30 w1))) 31) w0 (gA (sA q 30 (upd (gA q 30) w0 (gA q 30 w1))) 31 w1))) 32 (upd (gA (sA (sA q 30 (upd (gA q 30) w0 (gA q 30 w1))) 31 (upd (gA (sA q 30 (upd (gA q 30) w0 (gA q 30 w1))) 31) w0 (gA (sA q 30 (upd (gA q 30) w0 (gA q 30 w1))) 31 w1))) 32) w0 (gA (sA (sA q 30 (upd (gA q 30) w0 (gA q 30 w1))) 31 (upd (gA (sA q 30 (upd (gA q 30) w0 (gA q 30 w1))) 31) w0 (gA (sA q 30 (upd (gA q 30) w0 (gA q 30 w1))) 31 w1))) 32 w1))) 33) w0 (gA (sA (sA (sA q 30 (upd (gA q 30) w0 (gA q 30 w1))) 31 (upd (gA (sA q 30 (upd (gA q 30) w0 (gA q 30 w1))) 31) w0 (gA (sA q 30 (upd (gA q 30) w0 (gA q 30 w1))) 31 w1))) 32 (upd (gA (sA (sA q 30 (upd (gA q 30) w0 (gA q 30 w1))) 31 (upd (gA (sA q 30 (upd (gA q 30) w0 (gA q 30 w1))) 31) w0 (gA (sA q 30 (upd (gA q 30) w0 (gA q 30 w1))) 31 w1))) 32) w0 (gA (sA (sA q 30 (upd (gA q 30) w0 (gA q 30 w1))) 31 (upd (gA (sA q 30 (upd (gA q 30) w0 (gA q 30 w1))) 31) w0 (gA (sA q 30 (upd (gA q 30) w0 (gA q 30 w1))) 31 w1))) 32 w1))) 33 w1))) 34 (upd (gA (sA (sA (sA (sA q 30 (upd (gA q 30) w0 (gA q 30 w1))) 31 (upd (gA (sA q 30 (upd (gA q 30) w0 (gA q 30 w1))) 31) w0 (gA (sA q 30 (upd (gA q 30) w0 (gA q 30 w1))) 31 w1))) 32 (upd (gA (sA (sA q 30 (upd (gA q 30) w0 (gA q 30 w1))) 31 (upd (gA (sA q 30 (upd (gA q 30) w0 (gA q 30 w1))) 31) w0 (gA (sA q 30 (upd (gA q 30) w0 (gA q 30 w1))) 31 w1))) 32) w0 (gA (sA (sA q 30 (upd (gA q 30) w0 (gA q 30 w1))) 31 (upd (gA (sA q 30 (upd (gA q 30) w0 (gA q 30 w1))) 31) w0 (gA (sA q 30 (upd (gA q 30) w0 (gA q 30 w1))) 31 w1))) 32 w1))) 33 (upd (gA (sA (sA (sA q 30 (upd (gA q 30) w0 (gA q 30 w1))) 31 (upd (gA (sA q 30 (upd (gA q 30) w0 (gA q 30 w1))) 31) w0 (gA (sA q 30 (upd (gA q 30) w0 (gA q 30 w1))) 31 w1))) 32 (upd (gA (sA (sA q 30 (upd (gA q 30) w0 (gA q 30 w1))) 31 (upd (gA (sA q 30 (upd (gA q 30) w0 (gA q 30 w1))) 31) w0 (gA (sA q 30 (upd (gA q 30) w0 (gA q 30 w1))) 31 w1))) 32) w0 (gA (sA (sA q 30 (upd (gA q 30) w0 (gA q 30 w1))) 31 (upd (gA (sA q 30 (upd (gA q 30) w0 (gA q 30 w1))) 31) w0 (gA (sA q 30 (upd (gA q 30) w0 (gA q 30 w1))) 31 w1))) 32 w1))) 33) w0 (gA (sA (sA (sA q 30 (upd (gA q 30) w0 (gA q 30 w1))) 31 (upd (gA (sA q 30 (upd (gA q 30) w0 (gA q 30 w1))) 31) w0 (gA (sA q 30 (upd (gA q 30) w0 (gA q 30 w1))) 31 w1))) 32 (upd (gA (sA (sA q 30 (upd (gA q 30) w0 (gA q 30 w1))) 31 (upd (gA (sA q 30 (upd (gA q 30) w0 (gA q 30 w1))) 31) w0 (gA (sA q 30 (upd (gA q 30) w0 (gA q 30 w1))) 31 w1))) 32) w0 (gA (sA (sA q 30 (upd (gA q 30) w0 (gA q 30 w1))) 31 (upd (gA (sA q 30 (upd (gA q 30) w0 (gA q 30 w1))) 31) w0 (gA (sA q 30 (upd (gA q 30) w0 (gA q 30 w1))) 31 w1))) 32 w1))) 33 w1))) 34) w0 (gA (sA (sA (sA (sA q 30 (upd (gA q 30) w0 (gA q 30 w1))) 31 (upd (gA (sA q 30 (upd (gA q 30) w0 (gA q 30 w1))) 31) w0 (gA (sA q 30 (upd (gA q 30) w0 (gA q 30 w1))) 31 w1))) 32 (upd (gA (sA (sA q 30 (upd (gA q 30) w0 (gA q 30 w1))) 31 (upd (gA (sA q 30 (upd (gA q 30) w0 (gA q 30 w1))) 31) w0 (gA (sA q 30 (upd (gA q 30) w0 (gA q 30 w1))) 31 w1))) 32) w0 (gA (sA (sA q 30 (upd (gA q 30) w0 (gA q 30 w1))) 31 (upd (gA (sA q 30 (upd (gA q 30) w0 (gA q 30 w1))) 31) w0 (gA (sA q 30 (upd (gA q 30) w0 (gA q 30 w1))) 31 w1))) 32 w1))) 33 (upd (gA (sA (sA (sA q 30 (upd (gA q 30) w0 (gA q 30 w1))) 31 (upd (gA (sA q 30 (upd (gA q 30) w0 (gA q 30 w1))) 31) w0 (gA (sA q 30 (upd (gA q 30) w0 (gA q 30 w1))) 31 w1))) 32 (upd (gA (sA (sA q 30 (upd (gA q 30) w0 (gA q 30 w1))) 31 (upd (gA (sA q 30 (upd (gA q 30) w0 (gA q 30 w1))) 31) w0 (gA (sA q 30 (upd (gA q 30) w0 (gA q 30 w1))) 31 w1))) 32) w0 (gA (sA (sA q 30 (upd (gA q 30) w0 (gA q 30 w1))) 31 (upd (gA (sA q 30 (upd (gA q 30) w0 (gA q 30 w1))) 31) w0 (gA (sA q 30 (upd (gA q 30) w0 (gA q 30 w1))) 31 w1))) 32 w1))) 33) w0 (gA (sA (sA (sA q 30 (upd (gA q 30) w0 (gA q 30 w1))) 31 (upd (gA (sA q 30 (upd (gA q 30) w0 (gA q 30 w1))) 31) w0 (gA (sA q 30 (upd (gA q 30) w0 (gA q 30 w1))) 31 w1))) 32 (upd (gA (sA (sA q 30 (upd (gA q 30) w0 (gA q 30 w1))) 31 (upd (gA (sA q 30 (upd (gA q 30) w0 (gA q 30 w1))) 31) w0 (gA (sA q 30 (upd (gA q 30) w0 (gA q 30 w1))) 31 w1))) 32) w0 (gA (sA (sA q 30 (upd (gA q 30) w0 (gA q 30 w1))) 31 (upd (gA (sA q 30 (upd (gA q 30) w0 (gA q 30 w1))) 31) w0 (gA (sA q 30 (upd (gA q 30) w0 (gA q 30 w1))) 31 w1))) 32 w1))) 33 w1))) 34 w1))) 35) w0 (gA (sA (sA (sA (sA (sA q 30 (upd (gA q 30) w0 (gA q 30 w1))) 31 (upd (gA (sA q 30 (upd (gA q 30) w0 (gA q 30 w1))) 31) w0 (gA (sA q 30 (upd (gA q 30) w0 (gA q 30 w1))) 31 w1))) 32 (upd (gA (sA (sA q 30 (upd (gA q 30) w0 (gA q 30 w1))) 31 (upd (gA (sA q 30 (upd (gA q 30) w0 (gA q 30 w1))) 31) w0 (gA (sA q 30 (upd (gA q 30) w0 (gA q 30 w1))) 31 w1))) 32) w0 (gA (sA (sA q 30 (upd (gA q 30) w0 (gA q 30 w1))) 31 (upd (gA (sA q 30 (upd (gA q 30) w0 (gA q 30 w1))) 31) w0 (gA (sA q 30 (upd (gA q 30) w0 (gA q 30 w1))) 31 w1))) 32 w1))) 33 (upd (gA (sA (sA (sA q 30 (upd (gA q 30) w0 (gA q 30 w1))) 31 (upd (gA (sA q 30 (upd (gA q 30) w0 (gA q 30 w1))) 31) w0 (gA (sA q 30 (upd (gA q 30) w0 (gA q 30 w1))) 31 w1))) 32 (upd (gA (sA (sA q 30 (upd (gA q 30) w0 (gA q 30 w1))) 31 (upd (gA (sA q 30 (upd (gA q 30) w0 (gA q 30 w1))) 31) w0 (gA (sA q 30 (upd (gA q 30) w0 (gA q 30 w1))) 31 w1))) 32) w0 (gA (sA (sA q 30 (upd (gA q 30) w0 (gA q 30 w1))) 31 (upd (gA (sA q 30 (upd (gA q 30) w0 (gA q 30 w1))) 31) w0 (gA (sA q 30 (upd (gA q 30) w0 (gA q 30 w1))) 31 w1))) 32 w1))) 33) w0 (gA (sA (sA (sA q 30 (upd (gA q 30) w0 (gA q 30 w1))) 31 (upd (gA (sA q 30 (upd (gA q 30) w0 (gA q 30 w1))) 31) w0 (gA (sA q 30 (upd (gA q 30) w0 (gA q 30 w1))) 31 w1))) 32 (upd (gA (sA (sA q 30 (upd (gA q 30) w0 (gA q 30 w1))) 31 (upd (gA (sA q 30 (upd (gA q 30) w0 (gA q 30 w1))) 31) w0 (gA (sA q 30 (upd (gA q 30) w0 (gA q 30 w1))) 31 w1))) 32) w0 (gA (sA (sA q 30 (upd (gA q 30) w0 (gA q 30 w1))) 31 (upd (gA (sA q 30 (upd (gA q 30) w0 (gA q 30 w1))) 31) w0 (gA (sA q 30 (upd (gA q 30) w0 (gA q 30 w1))) 31 w1))) 32 w1))) 33 w1))) 34 (upd (gA (sA (sA (sA (sA q 30 (upd (gA q 30) w0 (gA q 30 w1))) 31 (upd (gA (sA q 30 (upd (gA q 30) w0 (gA q 30 w1))) 31) w0 (gA (sA q 30 (upd (gA q 30) w0 (gA q 30 w1))) 31 w1))) 32 (upd (gA (sA (sA q 30 (upd (gA q 30) w0 (gA q 30 w1))) 31 (upd (gA (sA q 30 (upd (gA q 30) w0 (gA q 30 w1))) 31) w0 (gA (sA q 30 (upd (gA q 30) w0 (gA q 30 w1))) 31 w1))) 32) w0 (gA (sA (sA q 30 (upd (gA q 30) w0 (gA q 30 w1))) 31 (upd (gA (sA q 30 (upd (gA q 30) w0 (gA q 30 w1))) 31) w0 (gA (sA q 30 (upd (gA q 30) w0 (gA q 30 w1))) 31 w1))) 32 w1))) 33 (upd (gA (sA (sA (sA q 30 (upd (gA q 30) w0 (gA q 30 w1))) 31 (upd (gA (sA q 30 (upd (gA q 30) w0 (gA q 30 w1))) 31) w0 (gA (sA q 30 (upd (gA q 30) w0 (gA q 30 w1))) 31 w1))) 32 (upd (gA (sA (sA q 30 (upd (gA q 30) w0 (gA q 30 w1))) 31 (upd (gA (sA q 30 (upd (gA q 30) w0 (gA q 30 w1))) 31) w0 (gA (sA q 30 (upd (gA q 30) w0 (gA q 30 w1))) 31 w1))) 32) w0 (gA (sA (sA q 30 (upd (gA q 30) w0 (gA q 30 w1))) 31 (upd (gA (sA q 30 (upd (gA q 30) w0 (gA q 30 w1))) 31) w0 (gA (sA q 30 (upd (gA q 30) w0 (gA q 30 w1))) 31 w1))) 32 w1))) 33) w0 (gA (sA (sA (sA q 30 (upd (gA q 30) w0 (gA q 30 w1))) 31 (upd (gA (sA q 30 (upd (gA q 30) w0 (gA q 30 w1))) 31) w0 (gA (sA q 30 (upd (gA q 30) w0 (gA q 30 w1))) 31 w1))) 32 (upd (gA (sA (sA q 30 (upd (gA q 30) w0 (gA q 30 w1))) 31 (upd (gA (sA q 30 (upd (gA q 30) w0 (gA q 30 w1))) 31) w0 (gA (sA q 30 (upd (gA q 30) w0 (gA q 30 w1))) 31 w1))) 32) w0 (gA (sA (sA q 30 (upd (gA q 30) w0 (gA q 30 w1))) 31 (upd (gA (sA q 30 (upd (gA q 30) w0 (gA q 30 w1))) 31) w0 (gA (sA q 30 (upd (gA q 30) w0 (gA q 30 w1))) 31 w1))) 32 w1))) 33 w1))) 34) w0 (gA (sA (sA (sA (sA q 30 (upd (gA q 30) w0 (gA q 30 w1))) 31 (upd (gA (sA q 30 (upd (gA q 30) w0 (gA q 30 w1))) 31) w0 (gA (sA q 30 (upd (gA q 30) w0 (gA q 30 w1))) 31 w1))) 32 (upd (gA (sA (sA q 30 (upd (gA q 30) w0 (gA q 30 w1))) 31 (upd (gA (sA q 30 (upd (gA q 30) w0 (gA q 30 w1))) 31) w0 (gA (sA q 30 (upd (gA q 30) w0 (gA q 30 w1))) 31 w1))) 32) w0 (gA (sA (sA q 30 (upd (gA q 30) w0 (gA q 30 w1))) 31 (upd (gA (sA q 30 (upd (gA q 30) w0 (gA q 30 w1))) 31) w0 (gA (sA q 30 (upd (gA q 30) w0 (gA q 30 w1))) 31 w1))) 32 w1))) 33 (upd (gA (sA (sA (sA q 30 (upd (gA q 30) w0 (gA q 30 w1))) 31 (upd (gA (sA q 30 (upd (gA q 30) w0 (gA q 30 w1))) 31) w0 (gA (sA q 30 (upd (gA q 30) w0 (gA q 30 w1))) 31 w1))) 32 (upd (gA (sA (sA q 30 (upd (gA q 30) w0 (gA q 30 w1))) 31 (upd (gA (sA q 30 (upd (gA q 30) w0 (gA q 30 w1))) 31) w0 (gA (sA q 30 (upd (gA q 30) w0 (gA q 30 w1))) 31 w1))) 32) w0 (gA (sA (sA q 30 (upd (gA q 30) w0 (gA q 30 w1))) 31 (upd (gA (sA q 30 (upd (gA q 30) w0 (gA q 30 w1))) 31) w0 (gA (sA q 30 (upd (gA q 30) w0 (gA q 30 w1))) 31 w1))) 32 w1))) 33) w0 (gA (sA (sA (sA q 30 (upd (gA q 30) w0 (gA q 30 w1))) 31 (upd (gA (sA q 30 (upd (gA q 30) w0 (gA q 30 w1))) 31) w0 (gA (sA q 30 (upd (gA q 30) w0 (gA q 30 w1))) 31 w1))) 32 (upd (gA (sA (sA q 30 (upd (gA q 30) w0 (gA q 30 w1))) 31 (upd (gA (sA q 30 (upd (gA q 30) w0 (gA q 30 w1))) 31) w0 (gA (sA q 30 (upd (gA q 30) w0 (gA q 30 w1))) 31 w1))) 32) w0 (gA (sA (sA q 30 (upd (gA q 30) w0 (gA q 30 w1))) 31 (upd (gA (sA q 30 (upd (gA q 30) w0 (gA q 30 w1))) 31) w0 (gA (sA q 30 (upd (gA q 30) w0 (gA q 30 w1))) 31 w1))) 32 w1))) 33 w1))) 34 w1))) 35 w1))) w1 ∧ isW (sA (sA (sA (sA (sA (sA q 30 (upd (gA q 30) w0 (gA q 30 w1))) 31 (upd (gA (sA q 30 (upd (gA q 30) w0 (gA q 30 w1))) 31) w0 (gA (sA q 30 (upd (gA q 30) w0 (gA q 30 w1))) 31 w1))) 32 (upd (gA (sA (sA q 30 (upd (gA q 30) w0 (gA q 30 w1))) 31 (upd (gA (sA q 30 (upd (gA q 30) w0 (gA q 30 w1))) 31) w0 (gA (sA q 30 (upd (gA q 30) w0 (gA q 30 w1))) 31 w1))) 32) w0 (gA (sA (sA q 30 (upd (gA q 30) w0 (gA q 30 w1))) 31 (upd (gA (sA q 30 (upd (gA q 30) w0 (gA q 30 w1))) 31) w0 (gA (sA q 30 (upd (gA q 30) w0 (gA q 30 w1))) 31 w1))) 32 w1))) 33 (upd (gA (sA (sA (sA q 30 (upd (gA q 30) w0 (gA q 30 w1))) 31 (upd (gA (sA q 30 (upd (gA q 30) w0 (gA q 30 w1))) 31) w0 (gA (sA q 30 (upd (gA q 30) w0 (gA q 30 w1))) 31 w1))) 32 (upd (gA (sA (sA q 30 (upd (gA q 30) w0 (gA q 30 w1))) 31 (upd (gA (sA q 30 (upd (gA q 30) w0 (gA q 30 w1))) 31) w0 (gA (sA q 30 (upd (gA q 30) w0 (gA q 30 w1))) 31 w1))) 32) w0 (gA (sA (sA q 30 (upd (gA q 30) w0 (gA q 30 w1))) 31 (upd (gA (sA q 30 (upd (gA q 30) w0 (gA q 30 w1))) 31) w0 (gA (sA q 30 (upd (gA q 30) w0 (gA q 30 w1))) 31 w1))) 32 w1))) 33) w0 (gA (sA (sA (sA q 30 (upd (gA q 30) w0 (gA q 30 w1))) 31 (upd (gA (sA q 30 (upd (gA q 30) w0 (gA q 30 w1))) 31) w0 (gA (sA q 30 (upd (gA q 30) w0 (gA q 30 w1))) 31 w1))) 32 (upd (gA (sA (sA q 30 (upd (gA q 30) w0 (gA q 30 w1))) 31 (upd (gA (sA q 30 (upd (gA q 30) w0 (gA q 30 w1))) 31) w0 (gA (sA q 30 (upd (gA q 30) w0 (gA q 30 w1))) 31 w1))) 32) w0 (gA (sA (sA q 30 (upd (gA q 30) w0 (gA q 30 w1))) 31 (upd (gA (sA q 30 (upd (gA q 30) w0 (gA q 30 w1))) 31) w0 (gA (sA q 30 (upd (gA q 30) w0 (gA q 30 w1))) 31 w1))) 32 w1))) 33 w1))) 34 (upd (gA (sA (sA (sA (sA q 30 (upd (gA q 30) w0 (gA q 30 w1))) 31 (upd (gA (sA q 30 (upd (gA q 30) w0 (gA q 30 w1))) 31) w0 (gA (sA q 30 (upd (gA q 30) w0 (gA q 30 w1))) 31 w1))) 32 (upd (gA (sA (sA q 30 (upd (gA q 30) w0 (gA q 30 w1))) 31 (upd (gA (sA q 30 (upd (gA q 30) w0 (gA q 30 w1))) 31) w0 (gA (sA q 30 (upd (gA q 30) w0 (gA q 30 w1))) 31 w1))) 32) w0 (gA (sA (sA q 30 (upd (gA q 30) w0 (gA q 30 w1))) 31 (upd (gA (sA q 30 (upd (gA q 30) w0 (gA q 30 w1))) 31) w0 (gA (sA q 30 (upd (gA q 30) w0 (gA q 30 w1))) 31 w1))) 32 w1))) 33 (upd (gA (sA (sA (sA q 30 (upd (gA q 30) w0 (gA q 30 w1))) 31 (upd (gA (sA q 30 (upd (gA q 30) w0 (gA q 30 w1))) 31) w0 (gA (sA q 30 (upd (gA q 30) w0 (gA q 30 w1))) 31 w1))) 32 (upd (gA (sA (sA q 30 (upd (gA q 30) w0 (gA q 30 w1))) 31 (upd (gA (sA q 30 (upd (gA q 30) w0 (gA q 30 w1))) 31) w0 (gA (sA q 30 (upd (gA q 30) w0 (gA q 30 w1))) 31 w1))) 32) w0 (gA (sA (sA q 30 (upd (gA q 30) w0 (gA q 30 w1))) 31 (upd (gA (sA q 30 (upd (gA q 30) w0 (gA q 30 w1))) 31) w0 (gA (sA q 30 (upd (gA q 30) w0 (gA q 30 w1))) 31 w1))) 32 w1))) 33) w0 (gA (sA (sA (sA q 30 (upd (gA q 30) w0 (gA q 30 w1))) 31 (upd (gA (sA q 30 (upd (gA q 30) w0 (gA q 30 w1))) 31) w0 (gA (sA q 30 (upd (gA q 30) w0 (gA q 30 w1))) 31 w1))) 32 (upd (gA (sA (sA q 30 (upd (gA q 30) w0 (gA q 30 w1))) 31 (upd (gA (sA q 30 (upd (gA q 30) w0 (gA q 30 w1))) 31) w0 (gA (sA q 30 (upd (gA q 30) w0 (gA q 30 w1))) 31 w1))) 32) w0 (gA (sA (sA q 30 (upd (gA q 30) w0 (gA q 30 w1))) 31 (upd (gA (sA q 30 (upd (gA q 30) w0 (gA q 30 w1))) 31) w0 (gA (sA q 30 (upd (gA q 30) w0 (gA q 30 w1))) 31 w1))) 32 w1))) 33 w1))) 34) w0 (gA (sA (sA (sA (sA q 30 (upd (gA q 30) w0 (gA q 30 w1))) 31 (upd (gA (sA q 30 (upd (gA q 30) w0 (gA q 30 w1))) 31) w0 (gA (sA q 30 (upd (gA q 30) w0 (gA q 30 w1))) 31 w1))) 32 (upd (gA (sA (sA q 30 (upd (gA q 30) w0 (gA q 30 w1))) 31 (upd (gA (sA q 30 (upd (gA q 30) w0 (gA q 30 w1))) 31) w0 (gA (sA q 30 (upd (gA q 30) w0 (gA q 30 w1))) 31 w1))) 32) w0 (gA (sA (sA q 30 (upd (gA q 30) w0 (gA q 30 w1))) 31 (upd (gA (sA q 30 (upd (gA q 30) w0 (gA q 30 w1))) 31) w0 (gA (sA q 30 (upd (gA q 30) w0 (gA q 30 w1))) 31 w1))) 32 w1))) 33 (upd (gA (sA (sA (sA q 30 (upd (gA q 30) w0 (gA q 30 w1))) 31 (upd (gA (sA q 30 (upd (gA q 30) w0 (gA q 30 w1))) 31) w0 (gA (sA q 30 (upd (gA q 30) w0 (gA q 30 w1))) 31 w1))) 32 (upd (gA (sA (sA q 30 (upd (gA q 30) w0 (gA q 30 w1))) 31 (upd (gA (sA q 30 (upd (gA q 30) w0 (gA q 30 w1))) 31) w0 (gA (sA q 30 (upd (gA q 30) w0 (gA q 30 w1))) 31 w1))) 32) w0 (gA (sA (sA q 30 (upd (gA q 30) w0 (gA q 30 w1))) 31 (upd (gA (sA q 30 (upd (gA q 30) w0 (gA q 30 w1))) 31) w0 (gA (sA q 30 (upd (gA q 30) w0 (gA q 30 w1))) 31 w1))) 32 w1))) 33) w0 (gA (sA (sA (sA q 30 (upd (gA q 30) w0 (gA q 30 w1))) 31 (upd (gA (sA q 30 (upd (gA q 30) w0 (gA q 30 w1))) 31) w0 (gA (sA q 30 (upd (gA q 30) w0 (gA q 30 w1))) 31 w1))) 32 (upd (gA (sA (sA q 30 (upd (gA q 30) w0 (gA q 30 w1))) 31 (upd (gA (sA q 30 (upd (gA q 30) w0 (gA q 30 w1))) 31) w0 (gA (sA q 30 (upd (gA q 30) w0 (gA q 30 w1))) 31 w1))) 32) w0 (gA (sA (sA q 30 (upd (gA q 30) w0 (gA q 30 w1))) 31 (upd (gA (sA q 30 (upd (gA q 30) w0 (gA q 30 w1))) 31) w0 (gA (sA q 30 (upd (gA q 30) w0 (gA q 30 w1))) 31 w1))) 32 w1))) 33 w1))) 34 w1))) 35 (upd (gA (sA (sA (sA (sA (sA q 30 (upd (gA q 30) w0 (gA q 30 w1))) 31 (upd (gA (sA q 30 (upd (gA q 30) w0 (gA q 30 w1))) 31) w0 (gA (sA q 30 (upd (gA q 30) w0 (gA q 30 w1))) 31 w1))) 32 (upd (gA (sA (sA q 30 (upd (gA q 30) w0 (gA q 30 w1))) 31 (upd (gA (sA q 30 (upd (gA q 30) w0 (gA q 30 w1))) 31) w0 (gA (sA q 30 (upd (gA q 30) w0 (gA q 30 w1))) 31 w1))) 32) w0 (gA (sA (sA q 30 (upd (gA q 30) w0 (gA q 30 w1))) 31 (upd (gA (sA q 30 (upd (gA q 30) w0 (gA q 30 w1))) 31) w0 (gA (sA q 30 (upd (gA q 30) w0 (gA q 30 w1))) 31 w1))) 32 w1))) 33 (upd (gA (sA (sA (sA q 30 (upd (gA q 30) w0 (gA q 30 w1))) 31 (upd (gA (sA q 30 (upd (gA q 30) w0 (gA q 30 w1))) 31) w0 (gA (sA q 30 (upd (gA q 30) w0 (gA q 30 w1))) 31 w1))) 32 (upd (gA (sA (sA q 30 (upd (gA q 30) w0 (gA q 30 w1))) 31 (upd (gA (sA q 30 (upd (gA q 30) w0 (gA q 30 w1))) 31) w0 (gA (sA q 30 (upd (gA q 30) w0 (gA q 30 w1))) 31 w1))) 32) w0 (gA (sA (sA q 30 (upd (gA q 30) w0 (gA q 30 w1))) 31 (upd (gA (sA q 30 (upd (gA q 30) w0 (gA q 30 w1))) 31) w0 (gA (sA q 30 (upd (gA q 30) w0 (gA q 30 w1))) 31 w1))) 32 w1))) 33) w0 (gA (sA (sA (sA q 30 (upd (gA q 30) w0 (gA q 30 w1))) 31 (upd (gA (sA q 30 (upd (gA q 30) w0 (gA q 30 w1))) 31) w0 (gA (sA q 30 (upd (gA q 30) w0 (gA q 30 w1))) 31 w1))) 32 (upd (gA (sA (sA q 30 (upd (gA q 30) w0 (gA q 30 w1))) 31 (upd (gA (sA q 30 (upd (gA q 30) w0 (gA q 30 w1))) 31) w0 (gA (sA q 30 (upd (gA q 30) w0 (gA q 30 w1))) 31 w1))) 32) w0 (gA (sA (sA q 30 (upd (gA q 30) w0 (gA q 30 w1))) 31 (upd (gA (sA q 30 (upd (gA q 30) w0 (gA q 30 w1))) 31) w0 (gA (sA q 30 (upd (gA q 30) w0 (gA q 30 w1))) 31 w1))) 32 w1))) 33 w1))) 34 (upd (gA (sA (sA (sA (sA q 30 (upd (gA q 30) w0 (gA q 30 w1))) 31 (upd (gA (sA q 30 (upd (gA q 30) w0 (gA q 30 w1))) 31) w0 (gA (sA q 30 (upd (gA q 30) w0 (gA q 30 w1))) 31 w1))) 32 (upd (gA (sA (sA q 30 (upd (gA q 30) w0 (gA q 30 w1))) 31 (upd (gA (sA q 30 (upd (gA q 30) w0 (gA q 30 w1))) 31) w0 (gA (sA q 30 (upd (gA q 30) w0 (gA q 30 w1))) 31 w1))) 32) w0 (gA (sA (sA q 30 (upd (gA q 30) w0 (gA q 30 w1))) 31 (upd (gA (sA q 30 (upd (gA q 30) w0 (gA q 30 w1))) 31) w0 (gA (sA q 30 (upd (gA q 30) w0 (gA q 30 w1))) 31 w1))) 32 w1))) 33 (upd (gA (sA (sA (sA q 30 (upd (gA q 30) w0 (gA q 30 w1))) 31 (upd (gA (sA q 30 (upd (gA q 30) w0 (gA q 30 w1))) 31) w0 (gA (sA q 30 (upd (gA q 30) w0 (gA q 30 w1))) 31 w1))) 32 (upd (gA (sA (sA q 30 (upd (gA q 30) w0 (gA q 30 w1))) 31 (upd (gA (sA q 30 (upd (gA q 30) w0 (gA q 30 w1))) 31) w0 (gA (sA q 30 (upd (gA q 30) w0 (gA q 30 w1))) 31 w1))) 32) w0 (gA (sA (sA q 30 (upd (gA q 30) w0 (gA q 30 w1))) 31 (upd (gA (sA q 30 (upd (gA q 30) w0 (gA q 30 w1))) 31) w0 (gA (sA q 30 (upd (gA q 30) w0 (gA q 30 w1))) 31 w1))) 32 w1))) 33) w0 (gA (sA (sA (sA q 30 (upd (gA q 30) w0 (gA q 30 w1))) 31 (upd (gA (sA q 30 (upd (gA q 30) w0 (gA q 30 w1))) 31) w0 (gA (sA q 30 (upd (gA q 30) w0 (gA q 30 w1))) 31 w1))) 32 (upd (gA (sA (sA q 30 (upd (gA q 30) w0 (gA q 30 w1))) 31 (upd (gA (sA q 30 (upd (gA q 30) w0 (gA q 30 w1))) 31) w0 (gA (sA q 30 (upd (gA q 30) w0 (gA q 30 w1))) 31 w1))) 32) w0 (gA (sA (sA q 30 (upd (gA q 30) w0 (gA q 30 w1))) 31 (upd (gA (sA q 30 (upd (gA q 30) w0 (gA q 30 w1))) 31) w0 (gA (sA q 30 (upd (gA q 30) w0 (gA q 30 w1))) 31 w1))) 32 w1))) 33 w1))) 34) w0 (gA (sA (sA (sA (sA q 30 (upd (gA q 30) w0 (gA q 30 w1))) 31 (upd (gA (sA q 30 (upd (gA q 30) w0 (gA q 30 w1))) 31) w0 (gA (sA q 30 (upd (gA q 30) w0 (gA q 30 w1))) 31 w1))) 32 (upd (gA (sA (sA q 30 (upd (gA q 30) w0 (gA q 30 w1))) 31 (upd (gA (sA q 30 (upd (gA q 30) w0 (gA q 30 w1))) 31) w0 (gA (sA q 30 (upd (gA q 30) w0 (gA q 30 w1))) 31 w1))) 32) w0 (gA (sA (sA q 30 (upd (gA q 30) w0 (gA q 30 w1))) 31 (upd (gA (sA q 30 (upd (gA q 30) w0 (gA q 30 w1))) 31) w0 (gA (sA q 30 (upd (gA q 30) w0 (gA q 30 w1))) 31 w1))) 32 w1))) 33 (upd (gA (sA (sA (sA q 30 (upd (gA q 30) w0 (gA q 30 w1))) 31 (upd (gA (sA q 30 (upd (gA q 30) w0 (gA q 30 w1))) 31) w0 (gA (sA q 30 (upd (gA q 30) w0 (gA q 30 w1))) 31 w1))) 32 (upd (gA (sA (sA q 30 (upd (gA q 30) w0 (gA q 30 w1))) 31 (upd (gA (sA q 30 (upd (gA q 30) w0 (gA q 30 w1))) 31) w0 (gA (sA q 30 (upd (gA q 30) w0 (gA q 30 w1))) 31 w1))) 32) w0 (gA (sA (sA q 30 (upd (gA q 30) w0 (gA q 30 w1))) 31 (upd (gA (sA q 30 (upd (gA q 30) w0 (gA q 30 w1))) 31) w0 (gA (sA q 30 (upd (gA q 30) w0 (gA q 30 w1))) 31 w1))) 32 w1))) 33) w0 (gA (sA (sA (sA q 30 (upd (gA q 30) w0 (gA q 30 w1))) 31 (upd (gA (sA q 30 (upd (gA q 30) w0 (gA q 30 w1))) 31) w0 (gA (sA q 30 (upd (gA q 30) w0 (gA q 30 w1))) 31 w1))) 32 (upd (gA (sA (sA q 30 (upd (gA q 30) w0 (gA q 30 w1))) 31 (upd (gA (sA q 30 (upd (gA q 30) w0 (gA q 30 w1))) 31) w0 (gA (sA q 30 (upd (gA q 30) w0 (gA q 30 w1))) 31 w1))) 32) w0 (gA (sA (sA q 30 (upd (gA q 30) w0 (gA q 30 w1))) 31 (upd (gA (sA q 30 (upd (gA q 30) w0 (gA q 30 w1))) 31) w0 (gA (sA q 30 (upd (gA q 30) w0 (gA q 30 w1))) 31 w1))) 32 w1))) 33 w1))) 34 w1))) 35) w0 (gA (sA (sA (sA (sA (sA q 30 (upd (gA q 30) w0 (gA q 30 w1))) 31 (upd (gA (sA q 30 (upd (gA q 30) w0 (gA q 30 w1))) 31) w0 (gA (sA q 30 (upd (gA q 30) w0 (gA q 30 w1))) 31 w1))) 32 (upd (gA (sA (sA q 30 (upd (gA q 30) w0 (gA q 30 w1))) 31 (upd (gA (sA q 30 (upd (gA q 30) w0 (gA q 30 w1))) 31) w0 (gA (sA q 30 (upd (gA q 30) w0 (gA q 30 w1))) 31 w1))) 32) w0 (gA (sA (sA q 30 (upd (gA q 30) w0 (gA q 30 w1))) 31 (upd (gA (sA q 30 (upd (gA q 30) w0 (gA q 30 w1))) 31) w0 (gA (sA q 30 (upd (gA q 30) w0 (gA q 30 w1))) 31 w1))) 32 w1))) 33 (upd (gA (sA (sA (sA q 30 (upd (gA q 30) w0 (gA q 30 w1))) 31 (upd (gA (sA q 30 (upd (gA q 30) w0 (gA q 30 w1))) 31) w0 (gA (sA q 30 (upd (gA q 30) w0 (gA q 30 w1))) 31 w1))) 32 (upd (gA (sA (sA q 30 (upd (gA q 30) w0 (gA q 30 w1))) 31 (upd (gA (sA q 30 (upd (gA q 30) w0 (gA q 30 w1))) 31) w0 (gA (sA q 30 (upd (gA q 30) w0 (gA q 30 w1))) 31 w1))) 32) w0 (gA (sA (sA q 30 (upd (gA q 30) w0 (gA q 30 w1))) 31 (upd (gA (sA q 30 (upd (gA q 30) w0 (gA q 30 w1))) 31) w0 (gA (sA q 30 (upd (gA q 30) w0 (gA q 30 w1))) 31 w1))) 32 w1))) 33) w0 (gA (sA (sA (sA q 30 (upd (gA q 30) w0 (gA q 30 w1))) 31 (upd (gA (sA q 30 (upd (gA q 30) w0 (gA q 30 w1))) 31) w0 (gA (sA q 30 (upd (gA q 30) w0 (gA q 30 w1))) 31 w1))) 32 (upd (gA (sA (sA q 30 (upd (gA q 30) w0 (gA q 30 w1))) 31 (upd (gA (sA q 30 (upd (gA q 30) w0 (gA q 30 w1))) 31) w0 (gA (sA q 30 (upd (gA q 30) w0 (gA q 30 w1))) 31 w1))) 32) w0 (gA (sA (sA q 30 (upd (gA q 30) w0 (gA q 30 w1))) 31 (upd (gA (sA q 30 (upd (gA q 30) w0 (gA q 30 w1))) 31) w0 (gA (sA q 30 (upd (gA q 30) w0 (gA q 30 w1))) 31 w1))) 32 w1))) 33 w1))) 34 (upd (gA (sA (sA (sA (sA q 30 (upd (gA q 30) w0 (gA q 30 w1))) 31 (upd (gA (sA q 30 (upd (gA q 30) w0 (gA q 30 w1))) 31) w0 (gA (sA q 30 (upd (gA q 30) w0 (gA q 30 w1))) 31 w1))) 32 (upd (gA (sA (sA q 30 (upd (gA q 30) w0 (gA q 30 w1))) 31 (upd (gA (sA q 30 (upd (gA q 30) w0 (gA q 30 w1))) 31) w0 (gA (sA q 30 (upd (gA q 30) w0 (gA q 30 w1))) 31 w1))) 32) w0 (gA (sA (sA q 30 (upd (gA q 30) w0 (gA q 30 w1))) 31 (upd (gA (sA q 30 (upd (gA q 30) w0 (gA q 30 w1))) 31) w0 (gA (sA q 30 (upd (gA q 30) w0 (gA q 30 w1))) 31 w1))) 32 w1))) 33 (upd (gA (sA (sA (sA q 30 (upd (gA q 30) w0 (gA q 30 w1))) 31 (upd (gA (sA q 30 (upd (gA q 30) w0 (gA q 30 w1))) 31) w0 (gA (sA q 30 (upd (gA q 30) w0 (gA q 30 w1))) 31 w1))) 32 (upd (gA (sA (sA q 30 (upd (gA q 30) w0 (gA q 30 w1))) 31 (upd (gA (sA q 30 (upd (gA q 30) w0 (gA q 30 w1))) 31) w0 (gA (sA q 30 (upd (gA q 30) w0 (gA q 30 w1))) 31 w1))) 32) w0 (gA (sA (sA q 30 (upd (gA q 30) w0 (gA q 30 w1))) 31 (upd (gA (sA q 30 (upd (gA q 30) w0 (gA q 30 w1))) 31) w0 (gA (sA q 30 (upd (gA q 30) w0 (gA q 30 w1))) 31 w1))) 32 w1))) 33) w0 (gA (sA (sA (sA q 30 (upd (gA q 30) w0 (gA q 30 w1))) 31 (upd (gA (sA q 30 (upd (gA q 30) w0 (gA q 30 w1))) 31) w0 (gA (sA q 30 (upd (gA q 30) w0 (gA q 30 w1))) 31 w1))) 32 (upd (gA (sA (sA q 30 (upd (gA q 30) w0 (gA q 30 w1))) 31 (upd (gA (sA q 30 (upd (gA q 30) w0 (gA q 30 w1))) 31) w0 (gA (sA q 30 (upd (gA q 30) w0 (gA q 30 w1))) 31 w1))) 32) w0 (gA (sA (sA q 30 (upd (gA q 30) w0 (gA q 30 w1))) 31 (upd (gA (sA q 30 (upd (gA q 30) w0 (gA q 30 w1))) 31) w0 (gA (sA q 30 (upd (gA q 30) w0 (gA q 30 w1))) 31 w1))) 32 w1))) 33 w1))) 34) w0 (gA (sA (sA (sA (sA q 30 (upd (gA q 30) w0 (gA q 30 w1))) 31 (upd (gA (sA q 30 (upd (gA q 30) w0 (gA q 30 w1))) 31) w0 (gA (sA q 30 (upd (gA q 30) w0 (gA q 30 w1))) 31 w1))) 32 (upd (gA (sA (sA q 30 (upd (gA q 30) w0 (gA q 30 w1))) 31 (upd (gA (sA q 30 (upd (gA q 30) w0 (gA q 30 w1))) 31) w0 (gA (sA q 30 (upd (gA q 30) w0 (gA q 30 w1))) 31 w1))) 32) w0 (gA (sA (sA q 30 (upd (gA q 30) w0 (gA q 30 w1))) 31 (upd (gA (sA q 30 (upd (gA q 30) w0 (gA q 30 w1))) 31) w0 (gA (sA q 30 (upd (gA q 30) w0 (gA q 30 w1))) 31 w1))) 32 w1))) 33 (upd (gA (sA (sA (sA q 30 (upd (gA q 30) w0 (gA q 30 w1))) 31 (upd (gA (sA q 30 (upd (gA q 30) w0 (gA q 30 w1))) 31) w0 (gA (sA q 30 (upd (gA q 30) w0 (gA q 30 w1))) 31 w1))) 32 (upd (gA (sA (sA q 30 (upd (gA q 30) w0 (gA q 30 w1))) 31 (upd (gA (sA q 30 (upd (gA q 30) w0 (gA q 30 w1))) 31) w0 (gA (sA q 30 (upd (gA q 30) w0 (gA q 30 w1))) 31 w1))) 32) w0 (gA (sA (sA q 30 (upd (gA q 30) w0 (gA q 30 w1))) 31 (upd (gA (sA q 30 (upd (gA q 30) w0 (gA q 30 w1))) 31) w0 (gA (sA q 30 (upd (gA q 30) w0 (gA q 30 w1))) 31 w1))) 32 w1))) 33) w0 (gA (sA (sA (sA q 30 (upd (gA q 30) w0 (gA q 30 w1))) 31 (upd (gA (sA q 30 (upd (gA q 30) w0 (gA q 30 w1))) 31) w0 (gA (sA q 30 (upd (gA q 30) w0 (gA q 30 w1))) 31 w1))) 32 (upd (gA (sA (sA q 30 (upd (gA q 30) w0 (gA q 30 w1))) 31 (upd (gA (sA q 30 (upd (gA q 30) w0 (gA q 30 w1))) 31) w0 (gA (sA q 30 (upd (gA q 30) w0 (gA q 30 w1))) 31 w1))) 32) w0 (gA (sA (sA q 30 (upd (gA q 30) w0 (gA q 30 w1))) 31 (upd (gA (sA q 30 (upd (gA q 30) w0 (gA q 30 w1))) 31) w0 (gA (sA q 30 (upd (gA q 30) w0 (gA q 30 w1))) 31 w1))) 32 w1))) 33 w1))) 34 w1))) 35 w1))) w0 ∧ kX9_copyFrom_56 (sA (sA (sA (sA (sA (sA (sA q 30 (upd (gA q 30) w0 (gA q 30 w1))) 31 (upd (gA (sA q 30 (upd (gA q 30) w0 (gA q 30 w1))) 31) w0 (gA (sA q 30 (upd (gA q 30) w0 (gA q 30 w1))) 31 w1))) 32 (upd (gA (sA (sA q 30 (upd (gA q 30) w0 (gA q 30 w1))) 31 (upd (gA (sA q 30 (upd (gA q 30) w0 (gA q 30 w1))) 31) w0 (gA (sA q 30 (upd (gA q 30) w0 (gA q 30 w1))) 31 w1))) 32) w0 (gA (sA (sA q 30 (upd (gA q 30) w0 (gA q 30 w1))) 31 (upd (gA (sA q 30 (upd (gA q 30) w0 (gA q 30 w1))) 31) w0 (gA (sA q 30 (upd (gA q 30) w0 (gA q 30 w1))) 31 w1))) 32 w1))) 33 (upd (gA (sA (sA (sA q 30 (upd (gA q 30) w0 (gA q 30 w1))) 31 (upd (gA (sA q 30 (upd (gA q 30) w0 (gA q 30 w1))) 31) w0 (gA (sA q 30 (upd (gA q 30) w0 (gA q 30 w1))) 31 w1))) 32 (upd (gA (sA (sA q 30 (upd (gA q 30) w0 (gA q 30 w1))) 31 (upd (gA (sA q 30 (upd (gA q 30) w0 (gA q 30 w1))) 31) w0 (gA (sA q 30 (upd (gA q 30) w0 (gA q 30 w1))) 31 w1))) 32) w0 (gA (sA (sA q 30 (upd (gA q 30) w0 (gA q 30 w1))) 31 (upd (gA (sA q 30 (upd (gA q 30) w0 (gA q 30 w1))) 31) w0 (gA (sA q 30 (upd (gA q 30) w0 (gA q 30 w1))) 31 w1))) 32 w1))) 33) w0 (gA (sA (sA (sA q 30 (upd (gA q 30) w0 (gA q 30 w1))) 31 (upd (gA (sA q 30 (upd (gA q 30) w0 (gA q 30 w1))) 31) w0 (gA (sA q 30 (upd (gA q 30) w0 (gA q 30 w1))) 31 w1))) 32 (upd (gA (sA (sA q 30 (upd (gA q 30) w0 (gA q 30 w1))) 31 (upd (gA (sA q 30 (upd (gA q 30) w0 (gA q 30 w1))) 31) w0 (gA (sA q 30 (upd (gA q 30) w0 (gA q 30 w1))) 31 w1))) 32) w0 (gA (sA (sA q 30 (upd (gA q 30) w0 (gA q 30 w1))) 31 (upd (gA (sA q 30 (upd (gA q 30) w0 (gA q 30 w1))) 31) w0 (gA (sA q 30 (upd (gA q 30) w0 (gA q 30 w1))) 31 w1))) 32 w1))) 33 w1))) 34 (upd (gA (sA (sA (sA (sA q 30 (upd (gA q 30) w0 (gA q 30 w1))) 31 (upd (gA (sA q 30 (upd (gA q 30) w0 (gA q 30 w1))) 31) w0 (gA (sA q 30 (upd (gA q 30) w0 (gA q 30 w1))) 31 w1))) 32 (upd (gA (sA (sA q 30 (upd (gA q 30) w0 (gA q 30 w1))) 31 (upd (gA (sA q 30 (upd (gA q 30) w0 (gA q 30 w1))) 31) w0 (gA (sA q 30 (upd (gA q 30) w0 (gA q 30 w1))) 31 w1))) 32) w0 (gA (sA (sA q 30 (upd (gA q 30) w0 (gA q 30 w1))) 31 (upd (gA (sA q 30 (upd (gA q 30) w0 (gA q 30 w1))) 31) w0 (gA (sA q 30 (upd (gA q 30) w0 (gA q 30 w1))) 31 w1))) 32 w1))) 33 (upd (gA (sA (sA (sA q 30 (upd (gA q 30) w0 (gA q 30 w1))) 31 (upd (gA (sA q 30 (upd (gA q 30) w0 (gA q 30 w1))) 31) w0 (gA (sA q 30 (upd (gA q 30) w0 (gA q 30 w1))) 31 w1))) 32 (upd (gA (sA (sA q 30 (upd (gA q 30) w0 (gA q 30 w1))) 31 (upd (gA (sA q 30 (upd (gA q 30) w0 (gA q 30 w1))) 31) w0 (gA (sA q 30 (upd (gA q 30) w0 (gA q 30 w1))) 31 w1))) 32) w0 (gA (sA (sA q 30 (upd (gA q 30) w0 (gA q 30 w1))) 31 (upd (gA (sA q 30 (upd (gA q 30) w0 (gA q 30 w1))) 31) w0 (gA (sA q 30 (upd (gA q 30) w0 (gA q 30 w1))) 31 w1))) 32 w1))) 33) w0 (gA (sA (sA (sA q 30 (upd (gA q 30) w0 (gA q 30 w1))) 31 (upd (gA (sA q 30 (upd (gA q 30) w0 (gA q 30 w1))) 31) w0 (gA (sA q 30 (upd (gA q 30) w0 (gA q 30 w1))) 31 w1))) 32 (upd (gA (sA (sA q 30 (upd (gA q 30) w0 (gA q 30 w1))) 31 (upd (gA (sA q 30 (upd (gA q 30) w0 (gA q 30 w1))) 31) w0 (gA (sA q 30 (upd (gA q 30) w0 (gA q 30 w1))) 31 w1))) 32) w0 (gA (sA (sA q 30 (upd (gA q 30) w0 (gA q 30 w1))) 31 (upd (gA (sA q 30 (upd (gA q 30) w0 (gA q 30 w1))) 31) w0 (gA (sA q 30 (upd (gA q 30) w0 (gA q 30 w1))) 31 w1))) 32 w1))) 33 w1))) 34) w0 (gA (sA (sA (sA (sA q 30 (upd (gA q 30) w0 (gA q 30 w1))) 31 (upd (gA (sA q 30 (upd (gA q 30) w0 (gA q 30 w1))) 31) w0 (gA (sA q 30 (upd (gA q 30) w0 (gA q 30 w1))) 31 w1))) 32 (upd (gA (sA (sA q 30 (upd (gA q 30) w0 (gA q 30 w1))) 31 (upd (gA (sA q 30 (upd (gA q 30) w0 (gA q 30 w1))) 31) w0 (gA (sA q 30 (upd (gA q 30) w0 (gA q 30 w1))) 31 w1))) 32) w0 (gA (sA (sA q 30 (upd (gA q 30) w0 (gA q 30 w1))) 31 (upd (gA (sA q 30 (upd (gA q 30) w0 (gA q 30 w1))) 31) w0 (gA (sA q 30 (upd (gA q 30) w0 (gA q 30 w1))) 31 w1))) 32 w1))) 33 (upd (gA (sA (sA (sA q 30 (upd (gA q 30) w0 (gA q 30 w1))) 31 (upd (gA (sA q 30 (upd (gA q 30) w0 (gA q 30 w1))) 31) w0 (gA (sA q 30 (upd (gA q 30) w0 (gA q 30 w1))) 31 w1))) 32 (upd (gA (sA (sA q 30 (upd (gA q 30) w0 (gA q 30 w1))) 31 (upd (gA (sA q 30 (upd (gA q 30) w0 (gA q 30 w1))) 31) w0 (gA (sA q 30 (upd (gA q 30) w0 (gA q 30 w1))) 31 w1))) 32) w0 (gA (sA (sA q 30 (upd (gA q 30) w0 (gA q 30 w1))) 31 (upd (gA (sA q 30 (upd (gA q 30) w0 (gA q 30 w1))) 31) w0 (gA (sA q 30 (upd (gA q 30) w0 (gA q 30 w1))) 31 w1))) 32 w1))) 33) w0 (gA (sA (sA (sA q 30 (upd (gA q 30) w0 (gA q 30 w1))) 31 (upd (gA (sA q 30 (upd (gA q 30) w0 (gA q 30 w1))) 31) w0 (gA (sA q 30 (upd (gA q 30) w0 (gA q 30 w1))) 31 w1))) 32 (upd (gA (sA (sA q 30 (upd (gA q 30) w0 (gA q 30 w1))) 31 (upd (gA (sA q 30 (upd (gA q 30) w0 (gA q 30 w1))) 31) w0 (gA (sA q 30 (upd (gA q 30) w0 (gA q 30 w1))) 31 w1))) 32) w0 (gA (sA (sA q 30 (upd (gA q 30) w0 (gA q 30 w1))) 31 (upd (gA (sA q 30 (upd (gA q 30) w0 (gA q 30 w1))) 31) w0 (gA (sA q 30 (upd (gA q 30) w0 (gA q 30 w1))) 31 w1))) 32 w1))) 33 w1))) 34 w1))) 35 (upd (gA (sA (sA (sA (sA (sA q 30 (upd (gA q 30) w0 (gA q 30 w1))) 31 (upd (gA (sA q 30 (upd (gA q 30) w0 (gA q 30 w1))) 31) w0 (gA (sA q 30 (upd (gA q 30) w0 (gA q 30 w1))) 31 w1))) 32 (upd (gA (sA (sA q 30 (upd (gA q 30) w0 (gA q 30 w1))) 31 (upd (gA (sA q 30 (upd (gA q 30) w0 (gA q 30 w1))) 31) w0 (gA (sA q 30 (upd (gA q 30) w0 (gA q 30 w1))) 31 w1))) 32) w0 (gA (sA (sA q 30 (upd (gA q 30) w0 (gA q 30 w1))) 31 (upd (gA (sA q 30 (upd (gA q 30) w0 (gA q 30 w1))) 31) w0 (gA (sA q 30 (upd (gA q 30) w0 (gA q 30 w1))) 31 w1))) 32 w1))) 33 (upd (gA (sA (sA (sA q 30 (upd (gA q 30) w0 (gA q 30 w1))) 31 (upd (gA (sA q 30 (upd (gA q 30) w0 (gA q 30 w1))) 31) w0 (gA (sA q 30 (upd (gA q 30) w0 (gA q 30 w1))) 31 w1))) 32 (upd (gA (sA (sA q 30 (upd (gA q 30) w0 (gA q 30 w1))) 31 (upd (gA (sA q 30 (upd (gA q 30) w0 (gA q 30 w1))) 31) w0 (gA (sA q 30 (upd (gA q 30) w0 (gA q 30 w1))) 31 w1))) 32) w0 (gA (sA (sA q 30 (upd (gA q 30) w0 (gA q 30 w1))) 31 (upd (gA (sA q 30 (upd (gA q 30) w0 (gA q 30 w1))) 31) w0 (gA (sA q 30 (upd (gA q 30) w0 (gA q 30 w1))) 31 w1))) 32 w1))) 33) w0 (gA (sA (sA (sA q 30 (upd (gA q 30) w0 (gA q 30 w1))) 31 (upd (gA (sA q 30 (upd (gA q 30) w0 (gA q 30 w1))) 31) w0 (gA (sA q 30 (upd (gA q 30) w0 (gA q 30 w1))) 31 w1))) 32 (upd (gA (sA (sA q 30 (upd (gA q 30) w0 (gA q 30 w1))) 31 (upd (gA (sA q 30 (upd (gA q 30) w0 (gA q 30 w1))) 31) w0 (gA (sA q 30 (upd (gA q 30) w0 (gA q 30 w1))) 31 w1))) 32) w0 (gA (sA (sA q 30 (upd (gA q 30) w0 (gA q 30 w1))) 31 (upd (gA (sA q 30 (upd (gA q 30) w0 (gA q 30 w1))) 31) w0 (gA (sA q 30 (upd (gA q 30) w0 (gA q 30 w1))) 31 w1))) 32 w1))) 33 w1))) 34 (upd (gA (sA (sA (sA (sA q 30 (upd (gA q 30) w0 (gA q 30 w1))) 31 (upd (gA (sA q 30 (upd (gA q 30) w0 (gA q 30 w1))) 31) w0 (gA (sA q 30 (upd (gA q 30) w0 (gA q 30 w1))) 31 w1))) 32 (upd (gA (sA (sA q 30 (upd (gA q 30) w0 (gA q 30 w1))) 31 (upd (gA (sA q 30 (upd (gA q 30) w0 (gA q 30 w1))) 31) w0 (gA (sA q 30 (upd (gA q 30) w0 (gA q 30 w1))) 31 w1))) 32) w0 (gA (sA (sA q 30 (upd (gA q 30) w0 (gA q 30 w1))) 31 (upd (gA (sA q 30 (upd (gA q 30) w0 (gA q 30 w1))) 31) w0 (gA (sA q 30 (upd (gA q 30) w0 (gA q 30 w1))) 31 w1))) 32 w1))) 33 (upd (gA (sA (sA (sA q 30 (upd (gA q 30) w0 (gA q 30 w1))) 31 (upd (gA (sA q 30 (upd (gA q 30) w0 (gA q 30 w1))) 31) w0 (gA (sA q 30 (upd (gA q 30) w0 (gA q 30 w1))) 31 w1))) 32 (upd (gA (sA (sA q 30 (upd (gA q 30) w0 (gA q 30 w1))) 31 (upd (gA (sA q 30 (upd (gA q 30) w0 (gA q 30 w1))) 31) w0 (gA (sA q 30 (upd (gA q 30) w0 (gA q 30 w1))) 31 w1))) 32) w0 (gA (sA (sA q 30 (upd (gA q 30) w0 (gA q 30 w1))) 31 (upd (gA (sA q 30 (upd (gA q 30) w0 (gA q 30 w1))) 31) w0 (gA (sA q 30 (upd (gA q 30) w0 (gA q 30 w1))) 31 w1))) 32 w1))) 33) w0 (gA (sA (sA (sA q 30 (upd (gA q 30) w0 (gA q 30 w1))) 31 (upd (gA (sA q 30 (upd (gA q 30) w0 (gA q 30 w1))) 31) w0 (gA (sA q 30 (upd (gA q 30) w0 (gA q 30 w1))) 31 w1))) 32 (upd (gA (sA (sA q 30 (upd (gA q 30) w0 (gA q 30 w1))) 31 (upd (gA (sA q 30 (upd (gA q 30) w0 (gA q 30 w1))) 31) w0 (gA (sA q 30 (upd (gA q 30) w0 (gA q 30 w1))) 31 w1))) 32) w0 (gA (sA (sA q 30 (upd (gA q 30) w0 (gA q 30 w1))) 31 (upd (gA (sA q 30 (upd (gA q 30) w0 (gA q 30 w1))) 31) w0 (gA (sA q 30 (upd (gA q 30) w0 (gA q 30 w1))) 31 w1))) 32 w1))) 33 w1))) 34) w0 (gA (sA (sA (sA (sA q 30 (upd (gA q 30) w0 (gA q 30 w1))) 31 (upd (gA (sA q 30 (upd (gA q 30) w0 (gA q 30 w1))) 31) w0 (gA (sA q 30 (upd (gA q 30) w0 (gA q 30 w1))) 31 w1))) 32 (upd (gA (sA (sA q 30 (upd (gA q 30) w0 (gA q 30 w1))) 31 (upd (gA (sA q 30 (upd (gA q 30) w0 (gA q 30 w1))) 31) w0 (gA (sA q 30 (upd (gA q 30) w0 (gA q 30 w1))) 31 w1))) 32) w0 (gA (sA (sA q 30 (upd (gA q 30) w0 (gA q 30 w1))) 31 (upd (gA (sA q 30 (upd (gA q 30) w0 (gA q 30 w1))) 31) w0 (gA (sA q 30 (upd (gA q 30) w0 (gA q 30 w1))) 31 w1))) 32 w1))) 33 (upd (gA (sA (sA (sA q 30 (upd (gA q 30) w0 (gA q 30 w1))) 31 (upd (gA (sA q 30 (upd (gA q 30) w0 (gA q 30 w1))) 31) w0 (gA (sA q 30 (upd (gA q 30) w0 (gA q 30 w1))) 31 w1))) 32 (upd (gA (sA (sA q 30 (upd (gA q 30) w0 (gA q 30 w1))) 31 (upd (gA (sA q 30 (upd (gA q 30) w0 (gA q 30 w1))) 31) w0 (gA (sA q 30 (upd (gA q 30) w0 (gA q 30 w1))) 31 w1))) 32) w0 (gA (sA (sA q 30 (upd (gA q 30) w0 (gA q 30 w1))) 31 (upd (gA (sA q 30 (upd (gA q 30) w0 (gA q 30 w1))) 31) w0 (gA (sA q 30 (upd (gA q 30) w0 (gA q 30 w1))) 31 w1))) 32 w1))) 33) w0 (gA (sA (sA (sA q 30 (upd (gA q 30) w0 (gA q 30 w1))) 31 (upd (gA (sA q 30 (upd (gA q 30) w0 (gA q 30 w1))) 31) w0 (gA (sA q 30 (upd (gA q 30) w0 (gA q 30 w1))) 31 w1))) 32 (upd (gA (sA (sA q 30 (upd (gA q 30) w0 (gA q 30 w1))) 31 (upd (gA (sA q 30 (upd (gA q 30) w0 (gA q 30 w1))) 31) w0 (gA (sA q 30 (upd (gA q 30) w0 (gA q 30 w1))) 31 w1))) 32) w0 (gA (sA (sA q 30 (upd (gA q 30) w0 (gA q 30 w1))) 31 (upd (gA (sA q 30 (upd (gA q 30) w0 (gA q 30 w1))) 31) w0 (gA (sA q 30 (upd (gA q 30) w0 (gA q 30 w1))) 31 w1))) 32 w1))) 33 w1))) 34 w1))) 35) w0 (gA (sA (sA (sA (sA (sA q 30 (upd (gA q 30) w0 (gA q 30 w1))) 31 (upd (gA (sA q 30 (upd (gA q 30) w0 (gA q 30 w1))) 31) w0 (gA (sA q 30 (upd (gA q 30) w0 (gA q 30 w1))) 31 w1))) 32 (upd (gA (sA (sA q 30 (upd (gA q 30) w0 (gA q 30 w1))) 31 (upd (gA (sA q 30 (upd (gA q 30) w0 (gA q 30 w1))) 31) w0 (gA (sA q 30 (upd (gA q 30) w0 (gA q 30 w1))) 31 w1))) 32) w0 (gA (sA (sA q 30 (upd (gA q 30) w0 (gA q 30 w1))) 31 (upd (gA (sA q 30 (upd (gA q 30) w0 (gA q 30 w1))) 31) w0 (gA (sA q 30 (upd (gA q 30) w0 (gA q 30 w1))) 31 w1))) 32 w1))) 33 (upd (gA (sA (sA (sA q 30 (upd (gA q 30) w0 (gA q 30 w1))) 31 (upd (gA (sA q 30 (upd (gA q 30) w0 (gA q 30 w1))) 31) w0 (gA (sA q 30 (upd (gA q 30) w0 (gA q 30 w1))) 31 w1))) 32 (upd (gA (sA (sA q 30 (upd (gA q 30) w0 (gA q 30 w1))) 31 (upd (gA (sA q 30 (upd (gA q 30) w0 (gA q 30 w1))) 31) w0 (gA (sA q 30 (upd (gA q 30) w0 (gA q 30 w1))) 31 w1))) 32) w0 (gA (sA (sA q 30 (upd (gA q 30) w0 (gA q 30 w1))) 31 (upd (gA (sA q 30 (upd (gA q 30) w0 (gA q 30 w1))) 31) w0 (gA (sA q 30 (upd (gA q 30) w0 (gA q 30 w1))) 31 w1))) 32 w1))) 33) w0 (gA (sA (sA (sA q 30 (upd (gA q 30) w0 (gA q 30 w1))) 31 (upd (gA (sA q 30 (upd (gA q 30) w0 (gA q 30 w1))) 31) w0 (gA (sA q 30 (upd (gA q 30) w0 (gA q 30 w1))) 31 w1))) 32 (upd (gA (sA (sA q 30 (upd (gA q 30) w0 (gA q 30 w1))) 31 (upd (gA (sA q 30 (upd (gA q 30) w0 (gA q 30 w1))) 31) w0 (gA (sA q 30 (upd (gA q 30) w0 (gA q 30 w1))) 31 w1))) 32) w0 (gA (sA (sA q 30 (upd (gA q 30) w0 (gA q 30 w1))) 31 (upd (gA (sA q 30 (upd (gA q 30) w0 (gA q 30 w1))) 31) w0 (gA (sA q 30 (upd (gA q 30) w0 (gA q 30 w1))) 31 w1))) 32 w1))) 33 w1))) 34 (upd (gA (sA (sA (sA (sA q 30 (upd (gA q 30) w0 (gA q 30 w1))) 31 (upd (gA (sA q 30 (upd (gA q 30) w0 (gA q 30 w1))) 31) w0 (gA (sA q 30 (upd (gA q 30) w0 (gA q 30 w1))) 31 w1))) 32 (upd (gA (sA (sA q 30 (upd (gA q 30) w0 (gA q 30 w1))) 31 (upd (gA (sA q 30 (upd (gA q 30) w0 (gA q 30 w1))) 31) w0 (gA (sA q 30 (upd (gA q 30) w0 (gA q 30 w1))) 31 w1))) 32) w0 (gA (sA (sA q 30 (upd (gA q 30) w0 (gA q 30 w1))) 31 (upd (gA (sA q 30 (upd (gA q 30) w0 (gA q 30 w1))) 31) w0 (gA (sA q 30 (upd (gA q 30) w0 (gA q 30 w1))) 31 w1))) 32 w1))) 33 (upd (gA (sA (sA (sA q 30 (upd (gA q 30) w0 (gA q 30 w1))) 31 (upd (gA (sA q 30 (upd (gA q 30) w0 (gA q 30 w1))) 31) w0 (gA (sA q 30 (upd (gA q 30) w0 (gA q 30 w1))) 31 w1))) 32 (upd (gA (sA (sA q 30 (upd (gA q 30) w0 (gA q 30 w1))) 31 (upd (gA (sA q 30 (upd (gA q 30) w0 (gA q 30 w1))) 31) w0 (gA (sA q 30 (upd (gA q 30) w0 (gA q 30 w1))) 31 w1))) 32) w0 (gA (sA (sA q 30 (upd (gA q 30) w0 (gA q 30 w1))) 31 (upd (gA (sA q 30 (upd (gA q 30) w0 (gA q 30 w1))) 31) w0 (gA (sA q 30 (upd (gA q 30) w0 (gA q 30 w1))) 31 w1))) 32 w1))) 33) w0 (gA (sA (sA (sA q 30 (upd (gA q 30) w0 (gA q 30 w1))) 31 (upd (gA (sA q 30 (upd (gA q 30) w0 (gA q 30 w1))) 31) w0 (gA (sA q 30 (upd (gA q 30) w0 (gA q 30 w1))) 31 w1))) 32 (upd (gA (sA (sA q 30 (upd (gA q 30) w0 (gA q 30 w1))) 31 (upd (gA (sA q 30 (upd (gA q 30) w0 (gA q 30 w1))) 31) w0 (gA (sA q 30 (upd (gA q 30) w0 (gA q 30 w1))) 31 w1))) 32) w0 (gA (sA (sA q 30 (upd (gA q 30) w0 (gA q 30 w1))) 31 (upd (gA (sA q 30 (upd (gA q 30) w0 (gA q 30 w1))) 31) w0 (gA (sA q 30 (upd (gA q 30) w0 (gA q 30 w1))) 31 w1))) 32 w1))) 33 w1))) 34) w0 (gA (sA (sA (sA (sA q 30 (upd (gA q 30) w0 (gA q 30 w1))) 31 (upd (gA (sA q 30 (upd (gA q 30) w0 (gA q 30 w1))) 31) w0 (gA (sA q 30 (upd (gA q 30) w0 (gA q 30 w1))) 31 w1))) 32 (upd (gA (sA (sA q 30 (upd (gA q 30) w0 (gA q 30 w1))) 31 (upd (gA (sA q 30 (upd (gA q 30) w0 (gA q 30 w1))) 31) w0 (gA (sA q 30 (upd (gA q 30) w0 (gA q 30 w1))) 31 w1))) 32) w0 (gA (sA (sA q 30 (upd (gA q 30) w0 (gA q 30 w1))) 31 (upd (gA (sA q 30 (upd (gA q 30) w0 (gA q 30 w1))) 31) w0 (gA (sA q 30 (upd (gA q 30) w0 (gA q 30 w1))) 31 w1))) 32 w1))) 33 (upd (gA (sA (sA (sA q 30 (upd (gA q 30) w0 (gA q 30 w1))) 31 (upd (gA (sA q 30 (upd (gA q 30) w0 (gA q 30 w1))) 31) w0 (gA (sA q 30 (upd (gA q 30) w0 (gA q 30 w1))) 31 w1))) 32 (upd (gA (sA (sA q 30 (upd (gA q 30) w0 (gA q 30 w1))) 31 (upd (gA (sA q 30 (upd (gA q 30) w0 (gA q 30 w1))) 31) w0 (gA (sA q 30 (upd (gA q 30) w0 (gA q 30 w1))) 31 w1))) 32) w0 (gA (sA (sA q 30 (upd (gA q 30) w0 (gA q 30 w1))) 31 (upd (gA (sA q 30 (upd (gA q 30) w0 (gA q 30 w1))) 31) w0 (gA (sA q 30 (upd (gA q 30) w0 (gA q 30 w1))) 31 w1))) 32 w1))) 33) w0 (gA (sA (sA (sA q 30 (upd (gA q 30) w0 (gA q 30 w1))) 31 (upd (gA (sA q 30 (upd (gA q 30) w0 (gA q 30 w1))) 31) w0 (gA (sA q 30 (upd (gA q 30) w0 (gA q 30 w1))) 31 w1))) 32 (upd (gA (sA (sA q 30 (upd (gA q 30) w0 (gA q 30 w1))) 31 (upd (gA (sA q 30 (upd (gA q 30) w0 (gA q 30 w1))) 31) w0 (gA (sA q 30 (upd (gA q 30) w0 (gA q 30 w1))) 31 w1))) 32) w0 (gA (sA (sA q 30 (upd (gA q 30) w0 (gA q 30 w1))) 31 (upd (gA (sA q 30 (upd (gA q 30) w0 (gA q 30 w1))) 31) w0 (gA (sA q 30 (upd (gA q 30) w0 (gA q 30 w1))) 31 w1))) 32 w1))) 33 w1))) 34 w1))) 35 w1))) 36 (upd (gA (sA (sA (sA (sA (sA (sA q 30 (upd (gA q 30) w0 (gA q 30 w1))) 31 (upd (gA (sA q 30 (upd (gA q 30) w0 (gA q 30 w1))) 31) w0 (gA (sA q 30 (upd (gA q 30) w0 (gA q 30 w1))) 31 w1))) 32 (upd (gA (sA (sA q 30 (upd (gA q 30) w0 (gA q 30 w1))) 31 (upd (gA (sA q 30 (upd (gA q 30) w0 (gA q 30 w1))) 31) w0 (gA (sA q 30 (upd (gA q 30) w0 (gA q 30 w1))) 31 w1))) 32) w0 (gA (sA (sA q 30 (upd (gA q 30) w0 (gA q 30 w1))) 31 (upd (gA (sA q 30 (upd (gA q 30) w0 (gA q 30 w1))) 31) w0 (gA (sA q 30 (upd (gA q 30) w0 (gA q 30 w1))) 31 w1))) 32 w1))) 33 (upd (gA (sA (sA (sA q 30 (upd (gA q 30) w0 (gA q 30 w1))) 31 (upd (gA (sA q 30 (upd (gA q 30) w0 (gA q 30 w1))) 31) w0 (gA (sA q 30 (upd (gA q 30) w0 (gA q 30 w1))) 31 w1))) 32 (upd (gA (sA (sA q 30 (upd (gA q 30) w0 (gA q 30 w1))) 31 (upd (gA (sA q 30 (upd (gA q 30) w0 (gA q 30 w1))) 31) w0 (gA (sA q 30 (upd (gA q 30) w0 (gA q 30 w1))) 31 w1))) 32) w0 (gA (sA (sA q 30 (upd (gA q 30) w0 (gA q 30 w1))) 31 (upd (gA (sA q 30 (upd (gA q 30) w0 (gA q 30 w1))) 31) w0 (gA (sA q 30 (upd (gA q 30) w0 (gA q 30 w1))) 31 w1))) 32 w1))) 33) w0 (gA (sA (sA (sA q 30 (upd (gA q 30) w0 (gA q 30 w1))) 31 (upd (gA (sA q 30 (upd (gA q 30) w0 (gA q 30 w1))) 31) w0 (gA (sA q 30 (upd (gA q 30) w0 (gA q 30 w1))) 31 w1))) 32 (upd (gA (sA (sA q 30 (upd (gA q 30) w0 (gA q 30 w1))) 31 (upd (gA (sA q 30 (upd (gA q 30) w0 (gA q 30 w1))) 31) w0 (gA (sA q 30 (upd (gA q 30) w0 (gA q 30 w1))) 31 w1))) 32) w0 (gA (sA (sA q 30 (upd (gA q 30) w0 (gA q 30 w1))) 31 (upd (gA (sA q 30 (upd (gA q 30) w0 (gA q 30 w1))) 31) w0 (gA (sA q 30 (upd (gA q 30) w0 (gA q 30 w1))) 31 w1))) 32 w1))) 33 w1))) 34 (upd (gA (sA (sA (sA (sA q 30 (upd (gA q 30) w0 (gA q 30 w1))) 31 (upd (gA (sA q 30 (upd (gA q 30) w0 (gA q 30 w1))) 31) w0 (gA (sA q 30 (upd (gA q 30) w0 (gA q 30 w1))) 31 w1))) 32 (upd (gA (sA (sA q 30 (upd (gA q 30) w0 (gA q 30 w1))) 31 (upd (gA (sA q 30 (upd (gA q 30) w0 (gA q 30 w1))) 31) w0 (gA (sA q 30 (upd (gA q 30) w0 (gA q 30 w1))) 31 w1))) 32) w0 (gA (sA (sA q 30 (upd (gA q 30) w0 (gA q 30 w1))) 31 (upd (gA (sA q 30 (upd (gA q 30) w0 (gA q 30 w1))) 31) w0 (gA (sA q 30 (upd (gA q 30) w0 (gA q 30 w1))) 31 w1))) 32 w1))) 33 (upd (gA (sA (sA (sA q 30 (upd (gA q 30) w0 (gA q 30 w1))) 31 (upd (gA (sA q 30 (upd (gA q 30) w0 (gA q 30 w1))) 31) w0 (gA (sA q 30 (upd (gA q 30) w0 (gA q 30 w1))) 31 w1))) 32 (upd (gA (sA (sA q 30 (upd (gA q 30) w0 (gA q 30 w1))) 31 (upd (gA (sA q 30 (upd (gA q 30) w0 (gA q 30 w1))) 31) w0 (gA (sA q 30 (upd (gA q 30) w0 (gA q 30 w1))) 31 w1))) 32) w0 (gA (sA (sA q 30 (upd (gA q 30) w0 (gA q 30 w1))) 31 (upd (gA (sA q 30 (upd (gA q 30) w0 (gA q 30 w1))) 31) w0 (gA (sA q 30 (upd (gA q 30) w0 (gA q 30 w1))) 31 w1))) 32 w1))) 33) w0 (gA (sA (sA (sA q 30 (upd (gA q 30) w0 (gA q 30 w1))) 31 (upd (gA (sA q 30 (upd (gA q 30) w0 (gA q 30 w1))) 31) w0 (gA (sA q 30 (upd (gA q 30) w0 (gA q 30 w1))) 31 w1))) 32 (upd (gA (sA (sA q 30 (upd (gA q 30) w0 (gA q 30 w1))) 31 (upd (gA (sA q 30 (upd (gA q 30) w0 (gA q 30 w1))) 31) w0 (gA (sA q 30 (upd (gA q 30) w0 (gA q 30 w1))) 31 w1))) 32) w0 (gA (sA (sA q 30 (upd (gA q 30) w0 (gA q 30 w1))) 31 (upd (gA (sA q 30 (upd (gA q 30) w0 (gA q 30 w1))) 31) w0 (gA (sA q 30 (upd (gA q 30) w0 (gA q 30 w1))) 31 w1))) 32 w1))) 33 w1))) 34) w0 (gA (sA (sA (sA (sA q 30 (upd (gA q 30) w0 (gA q 30 w1))) 31 (upd (gA (sA q 30 (upd (gA q 30) w0 (gA q 30 w1))) 31) w0 (gA (sA q 30 (upd (gA q 30) w0 (gA q 30 w1))) 31 w1))) 32 (upd (gA (sA (sA q 30 (upd (gA q 30) w0 (gA q 30 w1))) 31 (upd (gA (sA q 30 (upd (gA q 30) w0 (gA q 30 w1))) 31) w0 (gA (sA q 30 (upd (gA q 30) w0 (gA q 30 w1))) 31 w1))) 32) w0 (gA (sA (sA q 30 (upd (gA q 30) w0 (gA q 30 w1))) 31 (upd (gA (sA q 30 (upd (gA q 30) w0 (gA q 30 w1))) 31) w0 (gA (sA q 30 (upd (gA q 30) w0 (gA q 30 w1))) 31 w1))) 32 w1))) 33 (upd (gA (sA (sA (sA q 30 (upd (gA q 30) w0 (gA q 30 w1))) 31 (upd (gA (sA q 30 (upd (gA q 30) w0 (gA q 30 w1))) 31) w0 (gA (sA q 30 (upd (gA q 30) w0 (gA q 30 w1))) 31 w1))) 32 (upd (gA (sA (sA q 30 (upd (gA q 30) w0 (gA q 30 w1))) 31 (upd (gA (sA q 30 (upd (gA q 30) w0 (gA q 30 w1))) 31) w0 (gA (sA q 30 (upd (gA q 30) w0 (gA q 30 w1))) 31 w1))) 32) w0 (gA (sA (sA q 30 (upd (gA q 30) w0 (gA q 30 w1))) 31 (upd (gA (sA q 30 (upd (gA q 30) w0 (gA q 30 w1))) 31) w0 (gA (sA q 30 (upd (gA q 30) w0 (gA q 30 w1))) 31 w1))) 32 w1))) 33) w0 (gA (sA (sA (sA q 30 (upd (gA q 30) w0 (gA q 30 w1))) 31 (upd (gA (sA q 30 (upd (gA q 30) w0 (gA q 30 w1))) 31) w0 (gA (sA q 30 (upd (gA q 30) w0 (gA q 30 w1))) 31 w1))) 32 (upd (gA (sA (sA q 30 (upd (gA q 30) w0 (gA q 30 w1))) 31 (upd (gA (sA q 30 (upd (gA q 30) w0 (gA q 30 w1))) 31) w0 (gA (sA q 30 (upd (gA q 30) w0 (gA q 30 w1))) 31 w1))) 32) w0 (gA (sA (sA q 30 (upd (gA q 30) w0 (gA q 30 w1))) 31 (upd (gA (sA q 30 (upd (gA q 30) w0 (gA q 30 w1))) 31) w0 (gA (sA q 30 (upd (gA q 30) w0 (gA q 30 w1))) 31 w1))) 32 w1))) 33 w1))) 34 w1))) 35 (upd (gA (sA (sA (sA (sA (sA q 30 (upd (gA q 30) w0 (gA q 30 w1))) 31 (upd (gA (sA q 30 (upd (gA q 30) w0 (gA q 30 w1))) 31) w0 (gA (sA q 30 (upd (gA q 30) w0 (gA q 30 w1))) 31 w1))) 32 (upd (gA (sA (sA q 30 (upd (gA q 30) w0 (gA q 30 w1))) 31 (upd (gA (sA q 30 (upd (gA q 30) w0 (gA q 30 w1))) 31) w0 (gA (sA q 30 (upd (gA q 30) w0 (gA q 30 w1))) 31 w1))) 32) w0 (gA (sA (sA q 30 (upd (gA q 30) w0 (gA q 30 w1))) 31 (upd (gA (sA q 30 (upd (gA q 30) w0 (gA q 30 w1))) 31) w0 (gA (sA q 30 (upd (gA q 30) w0 (gA q 30 w1))) 31 w1))) 32 w1))) 33 (upd (gA (sA (sA (sA q 30 (upd (gA q 30) w0 (gA q 30 w1))) 31 (upd (gA (sA q 30 (upd (gA q 30) w0 (gA q 30 w1))) 31) w0 (gA (sA q 30 (upd (gA q 30) w0 (gA q 30 w1))) 31 w1))) 32 (upd (gA (sA (sA q 30 (upd (gA q 30) w0 (gA q 30 w1))) 31 (upd (gA (sA q 30 (upd (gA q 30) w0 (gA q 30 w1))) 31) w0 (gA (sA q 30 (upd (gA q 30) w0 (gA q 30 w1))) 31 w1))) 32) w0 (gA (sA (sA q 30 (upd (gA q 30) w0 (gA q 30 w1))) 31 (upd (gA (sA q 30 (upd (gA q 30) w0 (gA q 30 w1))) 31) w0 (gA (sA q 30 (upd (gA q 30) w0 (gA q 30 w1))) 31 w1))) 32 w1))) 33) w0 (gA (sA (sA (sA q 30 (upd (gA q 30) w0 (gA q 30 w1))) 31 (upd (gA (sA q 30 (upd (gA q 30) w0 (gA q 30 w1))) 31) w0 (gA (sA q 30 (upd (gA q 30) w0 (gA q 30 w1))) 31 w1))) 32 (upd (gA (sA (sA q 30 (upd (gA q 30) w0 (gA q 30 w1))) 31 (upd (gA (sA q 30 (upd (gA q 30) w0 (gA q 30 w1))) 31) w0 (gA (sA q 30 (upd (gA q 30) w0 (gA q 30 w1))) 31 w1))) 32) w0 (gA (sA (sA q 30 (upd (gA q 30) w0 (gA q 30 w1))) 31 (upd (gA (sA q 30 (upd (gA q 30) w0 (gA q 30 w1))) 31) w0 (gA (sA q 30 (upd (gA q 30) w0 (gA q 30 w1))) 31 w1))) 32 w1))) 33 w1))) 34 (upd (gA (sA (sA (sA (sA q 30 (upd (gA q 30) w0 (gA q 30 w1))) 31 (upd (gA (sA q 30 (upd (gA q 30) w0 (gA q 30 w1))) 31) w0 (gA (sA q 30 (upd (gA q 30) w0 (gA q 30 w1))) 31 w1))) 32 (upd (gA (sA (sA q 30 (upd (gA q 30) w0 (gA q 30 w1))) 31 (upd (gA (sA q 30 (upd (gA q 30) w0 (gA q 30 w1))) 31) w0 (gA (sA q 30 (upd (gA q 30) w0 (gA q 30 w1))) 31 w1))) 32) w0 (gA (sA (sA q 30 (upd (gA q 30) w0 (gA q 30 w1))) 31 (upd (gA (sA q 30 (upd (gA q 30) w0 (gA q 30 w1))) 31) w0 (gA (sA q 30 (upd (gA q 30) w0 (gA q 30 w1))) 31 w1))) 32 w1))) 33 (upd (gA (sA (sA (sA q 30 (upd (gA q 30) w0 (gA q 30 w1))) 31 (upd (gA (sA q 30 (upd (gA q 30) w0 (gA q 30 w1))) 31) w0 (gA (sA q 30 (upd (gA q 30) w0 (gA q 30 w1))) 31 w1))) 32 (upd (gA (sA (sA q 30 (upd (gA q 30) w0 (gA q 30 w1))) 31 (upd (gA (sA q 30 (upd (gA q 30) w0 (gA q 30 w1))) 31) w0 (gA (sA q 30 (upd (gA q 30) w0 (gA q 30 w1))) 31 w1))) 32) w0 (gA (sA (sA q 30 (upd (gA q 30) w0 (gA q 30 w1))) 31 (upd (gA (sA q 30 (upd (gA q 30) w0 (gA q 30 w1))) 31) w0 (gA (sA q 30 (upd (gA q 30) w0 (gA q 30 w1))) 31 w1))) 32 w1))) 33) w0 (gA (sA (sA (sA q 30 (upd (gA q 30) w0 (gA q 30 w1))) 31 (upd (gA (sA q 30 (upd (gA q 30) w0 (gA q 30 w1))) 31) w0 (gA (sA q 30 (upd (gA q 30) w0 (gA q 30 w1))) 31 w1))) 32 (upd (gA (sA (sA q 30 (upd (gA q 30) w0 (gA q 30 w1))) 31 (upd (gA (sA q 30 (upd (gA q 30) w0 (gA q 30 w1))) 31) w0 (gA (sA q 30 (upd (gA q 30) w0 (gA q 30 w1))) 31 w1))) 32) w0 (gA (sA (sA q 30 (upd (gA q 30) w0 (gA q 30 w1))) 31 (upd (gA (sA q 30 (upd (gA q 30) w0 (gA q 30 w1))) 31) w0 (gA (sA q 30 (upd (gA q 30) w0 (gA q 30 w1))) 31 w1))) 32 w1))) 33 w1))) 34) w0 (gA (sA (sA (sA (sA q 30 (upd (gA q 30) w0 (gA q 30 w1))) 31 (upd (gA (sA q 30 (upd (gA q 30) w0 (gA q 30 w1))) 31) w0 (gA (sA q 30 (upd (gA q 30) w0 (gA q 30 w1))) 31 w1))) 32 (upd (gA (sA (sA q 30 (upd (gA q 30) w0 (gA q 30 w1))) 31 (upd (gA (sA q 30 (upd (gA q 30) w0 (gA q 30 w1))) 31) w0 (gA (sA q 30 (upd (gA q 30) w0 (gA q 30 w1))) 31 w1))) 32) w0 (gA (sA (sA q 30 (upd (gA q 30) w0 (gA q 30 w1))) 31 (upd (gA (sA q 30 (upd (gA q 30) w0 (gA q 30 w1))) 31) w0 (gA (sA q 30 (upd (gA q 30) w0 (gA q 30 w1))) 31 w1))) 32 w1))) 33 (upd (gA (sA (sA (sA q 30 (upd (gA q 30) w0 (gA q 30 w1))) 31 (upd (gA (sA q 30 (upd (gA q 30) w0 (gA q 30 w1))) 31) w0 (gA (sA q 30 (upd (gA q 30) w0 (gA q 30 w1))) 31 w1))) 32 (upd (gA (sA (sA q 30 (upd (gA q 30) w0 (gA q 30 w1))) 31 (upd (gA (sA q 30 (upd (gA q 30) w0 (gA q 30 w1))) 31) w0 (gA (sA q 30 (upd (gA q 30) w0 (gA q 30 w1))) 31 w1))) 32) w0 (gA (sA (sA q 30 (upd (gA q 30) w0 (gA q 30 w1))) 31 (upd (gA (sA q 30 (upd (gA q 30) w0 (gA q 30 w1))) 31) w0 (gA (sA q 30 (upd (gA q 30) w0 (gA q 30 w1))) 31 w1))) 32 w1))) 33) w0 (gA (sA (sA (sA q 30 (upd (gA q 30) w0 (gA q 30 w1))) 31 (upd (gA (sA q 30 (upd (gA q 30) w0 (gA q 30 w1))) 31) w0 (gA (sA q 30 (upd (gA q 30) w0 (gA q 30 w1))) 31 w1))) 32 (upd (gA (sA (sA q 30 (upd (gA q 30) w0 (gA q 30 w1))) 31 (upd (gA (sA q 30 (upd (gA q 30) w0 (gA q 30 w1))) 31) w0 (gA (sA q 30 (upd (gA q 30) w0 (gA q 30 w1))) 31 w1))) 32) w0 (gA (sA (sA q 30 (upd (gA q 30) w0 (gA q 30 w1))) 31 (upd (gA (sA q 30 (upd (gA q 30) w0 (gA q 30 w1))) 31) w0 (gA (sA q 30 (upd (gA q 30) w0 (gA q 30 w1))) 31 w1))) 32 w1))) 33 w1))) 34 w1))) 35) w0 (gA (sA (sA (sA (sA (sA q 30 (upd (gA q 30) w0 (gA q 30 w1))) 31 (upd (gA (sA q 30 (upd (gA q 30) w0 (gA q 30 w1))) 31) w0 (gA (sA q 30 (upd (gA q 30) w0 (gA q 30 w1))) 31 w1))) 32 (upd (gA (sA (sA q 30 (upd (gA q 30) w0 (gA q 30 w1))) 31 (upd (gA (sA q 30 (upd (gA q 30) w0 (gA q 30 w1))) 31) w0 (gA (sA q 30 (upd (gA q 30) w0 (gA q 30 w1))) 31 w1))) 32) w0 (gA (sA (sA q 30 (upd (gA q 30) w0 (gA q 30 w1))) 31 (upd (gA (sA q 30 (upd (gA q 30) w0 (gA q 30 w1))) 31) w0 (gA (sA q 30 (upd (gA q 30) w0 (gA q 30 w1))) 31 w1))) 32 w1))) 33 (upd (gA (sA (sA (sA q 30 (upd (gA q 30) w0 (gA q 30 w1))) 31 (upd (gA (sA q 30 (upd (gA q 30) w0 (gA q 30 w1))) 31) w0 (gA (sA q 30 (upd (gA q 30) w0 (gA q 30 w1))) 31 w1))) 32 (upd (gA (sA (sA q 30 (upd (gA q 30) w0 (gA q 30 w1))) 31 (upd (gA (sA q 30 (upd (gA q 30) w0 (gA q 30 w1))) 31) w0 (gA (sA q 30 (upd (gA q 30) w0 (gA q 30 w1))) 31 w1))) 32) w0 (gA (sA (sA q 30 (upd (gA q 30) w0 (gA q 30 w1))) 31 (upd (gA (sA q 30 (upd (gA q 30) w0 (gA q 30 w1))) 31) w0 (gA (sA q 30 (upd (gA q 30) w0 (gA q 30 w1))) 31 w1))) 32 w1))) 33) w0 (gA (sA (sA (sA q 30 (upd (gA q 30) w0 (gA q 30 w1))) 31 (upd (gA (sA q 30 (upd (gA q 30) w0 (gA q 30 w1))) 31) w0 (gA (sA q 30 (upd (gA q 30) w0 (gA q 30 w1))) 31 w1))) 32 (upd (gA (sA (sA q 30 (upd (gA q 30) w0 (gA q 30 w1))) 31 (upd (gA (sA q 30 (upd (gA q 30) w0 (gA q 30 w1))) 31) w0 (gA (sA q 30 (upd (gA q 30) w0 (gA q 30 w1))) 31 w1))) 32) w0 (gA (sA (sA q 30 (upd (gA q 30) w0 (gA q 30 w1))) 31 (upd (gA (sA q 30 (upd (gA q 30) w0 (gA q 30 w1))) 31) w0 (gA (sA q 30 (upd (gA q 30) w0 (gA q 30 w1))) 31 w1))) 32 w1))) 33 w1))) 34 (upd (gA (sA (sA (sA (sA q 30 (upd (gA q 30) w0 (gA q 30 w1))) 31 (upd (gA (sA q 30 (upd (gA q 30) w0 (gA q 30 w1))) 31) w0 (gA (sA q 30 (upd (gA q 30) w0 (gA q 30 w1))) 31 w1))) 32 (upd (gA (sA (sA q 30 (upd (gA q 30) w0 (gA q 30 w1))) 31 (upd (gA (sA q 30 (upd (gA q 30) w0 (gA q 30 w1))) 31) w0 (gA (sA q 30 (upd (gA q 30) w0 (gA q 30 w1))) 31 w1))) 32) w0 (gA (sA (sA q 30 (upd (gA q 30) w0 (gA q 30 w1))) 31 (upd (gA (sA q 30 (upd (gA q 30) w0 (gA q 30 w1))) 31) w0 (gA (sA q 30 (upd (gA q 30) w0 (gA q 30 w1))) 31 w1))) 32 w1))) 33 (upd (gA (sA (sA (sA q 30 (upd (gA q 30) w0 (gA q 30 w1))) 31 (upd (gA (sA q 30 (upd (gA q 30) w0 (gA q 30 w1))) 31) w0 (gA (sA q 30 (upd (gA q 30) w0 (gA q 30 w1))) 31 w1))) 32 (upd (gA (sA (sA q 30 (upd (gA q 30) w0 (gA q 30 w1))) 31 (upd (gA (sA q 30 (upd (gA q 30) w0 (gA q 30 w1))) 31) w0 (gA (sA q 30 (upd (gA q 30) w0 (gA q 30 w1))) 31 w1))) 32) w0 (gA (sA (sA q 30 (upd (gA q 30) w0 (gA q 30 w1))) 31 (upd (gA (sA q 30 (upd (gA q 30) w0 (gA q 30 w1))) 31) w0 (gA (sA q 30 (upd (gA q 30) w0 (gA q 30 w1))) 31 w1))) 32 w1))) 33) w0 (gA (sA (sA (sA q 30 (upd (gA q 30) w0 (gA q 30 w1))) 31 (upd (gA (sA q 30 (upd (gA q 30) w0 (gA q 30 w1))) 31) w0 (gA (sA q 30 (upd (gA q 30) w0 (gA q 30 w1))) 31 w1))) 32 (upd (gA (sA (sA q 30 (upd (gA q 30) w0 (gA q 30 w1))) 31 (upd (gA (sA q 30 (upd (gA q 30) w0 (gA q 30 w1))) 31) w0 (gA (sA q 30 (upd (gA q 30) w0 (gA q 30 w1))) 31 w1))) 32) w0 (gA (sA (sA q 30 (upd (gA q 30) w0 (gA q 30 w1))) 31 (upd (gA (sA q 30 (upd (gA q 30) w0 (gA q 30 w1))) 31) w0 (gA (sA q 30 (upd (gA q 30) w0 (gA q 30 w1))) 31 w1))) 32 w1))) 33 w1))) 34) w0 (gA (sA (sA (sA (sA q 30 (upd (gA q 30) w0 (gA q 30 w1))) 31 (upd (gA (sA q 30 (upd (gA q 30) w0 (gA q 30 w1))) 31) w0 (gA (sA q 30 (upd (gA q 30) w0 (gA q 30 w1))) 31 w1))) 32 (upd (gA (sA (sA q 30 (upd (gA q 30) w0 (gA q 30 w1))) 31 (upd (gA (sA q 30 (upd (gA q 30) w0 (gA q 30 w1))) 31) w0 (gA (sA q 30 (upd (gA q 30) w0 (gA q 30 w1))) 31 w1))) 32) w0 (gA (sA (sA q 30 (upd (gA q 30) w0 (gA q 30 w1))) 31 (upd (gA (sA q 30 (upd (gA q 30) w0 (gA q 30 w1))) 31) w0 (gA (sA q 30 (upd (gA q 30) w0 (gA q 30 w1))) 31 w1))) 32 w1))) 33 (upd (gA (sA (sA (sA q 30 (upd (gA q 30) w0 (gA q 30 w1))) 31 (upd (gA (sA q 30 (upd (gA q 30) w0 (gA q 30 w1))) 31) w0 (gA (sA q 30 (upd (gA q 30) w0 (gA q 30 w1))) 31 w1))) 32 (upd (gA (sA (sA q 30 (upd (gA q 30) w0 (gA q 30 w1))) 31 (upd (gA (sA q 30 (upd (gA q 30) w0 (gA q 30 w1))) 31) w0 (gA (sA q 30 (upd (gA q 30) w0 (gA q 30 w1))) 31 w1))) 32) w0 (gA (sA (sA q 30 (upd (gA q 30) w0 (gA q 30 w1))) 31 (upd (gA (sA q 30 (upd (gA q 30) w0 (gA q 30 w1))) 31) w0 (gA (sA q 30 (upd (gA q 30) w0 (gA q 30 w1))) 31 w1))) 32 w1))) 33) w0 (gA (sA (sA (sA q 30 (upd (gA q 30) w0 (gA q 30 w1))) 31 (upd (gA (sA q 30 (upd (gA q 30) w0 (gA q 30 w1))) 31) w0 (gA (sA q 30 (upd (gA q 30) w0 (gA q 30 w1))) 31 w1))) 32 (upd (gA (sA (sA q 30 (upd (gA q 30) w0 (gA q 30 w1))) 31 (upd (gA (sA q 30 (upd (gA q 30) w0 (gA q 30 w1))) 31) w0 (gA (sA q 30 (upd (gA q 30) w0 (gA q 30 w1))) 31 w1))) 32) w0 (gA (sA (sA q 30 (upd (gA q 30) w0 (gA q 30 w1))) 31 (upd (gA (sA q 30 (upd (gA q 30) w0 (gA q 30 w1))) 31) w0 (gA (sA q 30 (upd (gA q 30) w0 (gA q 30 w1))) 31 w1))) 32 w1))) 33 w1))) 34 w1))) 35 w1))) 36) w0 (gA (sA (sA (sA (sA (sA (sA q 30 (upd (gA q 30) w0 (gA q 30 w1))) 31 (upd (gA (sA q 30 (upd (gA q 30) w0 (gA q 30 w1))) 31) w0 (gA (sA q 30 (upd (gA q 30) w0 (gA q 30 w1))) 31 w1))) 32 (upd (gA (sA (sA q 30 (upd (gA q 30) w0 (gA q 30 w1))) 31 (upd (gA (sA q 30 (upd (gA q 30) w0 (gA q 30 w1))) 31) w0 (gA (sA q 30 (upd (gA q 30) w0 (gA q 30 w1))) 31 w1))) 32) w0 (gA (sA (sA q 30 (upd (gA q 30) w0 (gA q 30 w1))) 31 (upd (gA (sA q 30 (upd (gA q 30) w0 (gA q 30 w1))) 31) w0 (gA (sA q 30 (upd (gA q 30) w0 (gA q 30 w1))) 31 w1))) 32 w1))) 33 (upd (gA (sA (sA (sA q 30 (upd (gA q 30) w0 (gA q 30 w1))) 31 (upd (gA (sA q 30 (upd (gA q 30) w0 (gA q 30 w1))) 31) w0 (gA (sA q 30 (upd (gA q 30) w0 (gA q 30 w1))) 31 w1))) 32 (upd (gA (sA (sA q 30 (upd (gA q 30) w0 (gA q 30 w1))) 31 (upd (gA (sA q 30 (upd (gA q 30) w0 (gA q 30 w1))) 31) w0 (gA (sA q 30 (upd (gA q 30) w0 (gA q 30 w1))) 31 w1))) 32) w0 (gA (sA (sA q 30 (upd (gA q 30) w0 (gA q 30 w1))) 31 (upd (gA (sA q 30 (upd (gA q 30) w0 (gA q 30 w1))) 31) w0 (gA (sA q 30 (upd (gA q 30) w0 (gA q 30 w1))) 31 w1))) 32 w1))) 33) w0 (gA (sA (sA (sA q 30 (upd (gA q 30) w0 (gA q 30 w1))) 31 (upd (gA (sA q 30 (upd (gA q 30) w0 (gA q 30 w1))) 31) w0 (gA (sA q 30 (upd (gA q 30) w0 (gA q 30 w1))) 31 w1))) 32 (upd (gA (sA (sA q 30 (upd (gA q 30) w0 (gA q 30 w1))) 31 (upd (gA (sA q 30 (upd (gA q 30) w0 (gA q 30 w1))) 31) w0 (gA (sA q 30 (upd (gA q 30) w0 (gA q 30 w1))) 31 w1))) 32) w0 (gA (sA (sA q 30 (upd (gA q 30) w0 (gA q 30 w1))) 31 (upd (gA (sA q 30 (upd (gA q 30) w0 (gA q 30 w1))) 31) w0 (gA (sA q 30 (upd (gA q 30) w0 (gA q 30 w1))) 31 w1))) 32 w1))) 33 w1))) 34 (upd (gA (sA (sA (sA (sA q 30 (upd (gA q 30) w0 (gA q 30 w1))) 31 (upd (gA (sA q 30 (upd (gA q 30) w0 (gA q 30 w1))) 31) w0 (gA (sA q 30 (upd (gA q 30) w0 (gA q 30 w1))) 31 w1))) 32 (upd (gA (sA (sA q 30 (upd (gA q 30) w0 (gA q 30 w1))) 31 (upd (gA (sA q 30 (upd (gA q 30) w0 (gA q 30 w1))) 31) w0 (gA (sA q 30 (upd (gA q 30) w0 (gA q 30 w1))) 31 w1))) 32) w0 (gA (sA (sA q 30 (upd (gA q 30) w0 (gA q 30 w1))) 31 (upd (gA (sA q 30 (upd (gA q 30) w0 (gA q 30 w1))) 31) w0 (gA (sA q 30 (upd (gA q 30) w0 (gA q 30 w1))) 31 w1))) 32 w1))) 33 (upd (gA (sA (sA (sA q 30 (upd (gA q 30) w0 (gA q 30 w1))) 31 (upd (gA (sA q 30 (upd (gA q 30) w0 (gA q 30 w1))) 31) w0 (gA (sA q 30 (upd (gA q 30) w0 (gA q 30 w1))) 31 w1))) 32 (upd (gA (sA (sA q 30 (upd (gA q 30) w0 (gA q 30 w1))) 31 (upd (gA (sA q 30 (upd (gA q 30) w0 (gA q 30 w1))) 31) w0 (gA (sA q 30 (upd (gA q 30) w0 (gA q 30 w1))) 31 w1))) 32) w0 (gA (sA (sA q 30 (upd (gA q 30) w0 (gA q 30 w1))) 31 (upd (gA (sA q 30 (upd (gA q 30) w0 (gA q 30 w1))) 31) w0 (gA (sA q 30 (upd (gA q 30) w0 (gA q 30 w1))) 31 w1))) 32 w1))) 33) w0 (gA (sA (sA (sA q 30 (upd (gA q 30) w0 (gA q 30 w1))) 31 (upd (gA (sA q 30 (upd (gA q 30) w0 (gA q 30 w1))) 31) w0 (gA (sA q 30 (upd (gA q 30) w0 (gA q 30 w1))) 31 w1))) 32 (upd (gA (sA (sA q 30 (upd (gA q 30) w0 (gA q 30 w1))) 31 (upd (gA (sA q 30 (upd (gA q 30) w0 (gA q 30 w1))) 31) w0 (gA (sA q 30 (upd (gA q 30) w0 (gA q 30 w1))) 31 w1))) 32) w0 (gA (sA (sA q 30 (upd (gA q 30) w0 (gA q 30 w1))) 31 (upd (gA (sA q 30 (upd (gA q 30) w0 (gA q 30 w1))) 31) w0 (gA (sA q 30 (upd (gA q 30) w0 (gA q 30 w1))) 31 w1))) 32 w1))) 33 w1))) 34) w0 (gA (sA (sA (sA (sA q 30 (upd (gA q 30) w0 (gA q 30 w1))) 31 (upd (gA (sA q 30 (upd (gA q 30) w0 (gA q 30 w1))) 31) w0 (gA (sA q 30 (upd (gA q 30) w0 (gA q 30 w1))) 31 w1))) 32 (upd (gA (sA (sA q 30 (upd (gA q 30) w0 (gA q 30 w1))) 31 (upd (gA (sA q 30 (upd (gA q 30) w0 (gA q 30 w1))) 31) w0 (gA (sA q 30 (upd (gA q 30) w0 (gA q 30 w1))) 31 w1))) 32) w0 (gA (sA (sA q 30 (upd (gA q 30) w0 (gA q 30 w1))) 31 (upd (gA (sA q 30 (upd (gA q 30) w0 (gA q 30 w1))) 31) w0 (gA (sA q 30 (upd (gA q 30) w0 (gA q 30 w1))) 31 w1))) 32 w1))) 33 (upd (gA (sA (sA (sA q 30 (upd (gA q 30) w0 (gA q 30 w1))) 31 (upd (gA (sA q 30 (upd (gA q 30) w0 (gA q 30 w1))) 31) w0 (gA (sA q 30 (upd (gA q 30) w0 (gA q 30 w1))) 31 w1))) 32 (upd (gA (sA (sA q 30 (upd (gA q 30) w0 (gA q 30 w1))) 31 (upd (gA (sA q 30 (upd (gA q 30) w0 (gA q 30 w1))) 31) w0 (gA (sA q 30 (upd (gA q 30) w0 (gA q 30 w1))) 31 w1))) 32) w0 (gA (sA (sA q 30 (upd (gA q 30) w0 (gA q 30 w1))) 31 (upd (gA (sA q 30 (upd (gA q 30) w0 (gA q 30 w1))) 31) w0 (gA (sA q 30 (upd (gA q 30) w0 (gA q 30 w1))) 31 w1))) 32 w1))) 33) w0 (gA (sA (sA (sA q 30 (upd (gA q 30) w0 (gA q 30 w1))) 31 (upd (gA (sA q 30 (upd (gA q 30) w0 (gA q 30 w1))) 31) w0 (gA (sA q 30 (upd (gA q 30) w0 (gA q 30 w1))) 31 w1))) 32 (upd (gA (sA (sA q 30 (upd (gA q 30) w0 (gA q 30 w1))) 31 (upd (gA (sA q 30 (upd (gA q 30) w0 (gA q 30 w1))) 31) w0 (gA (sA q 30 (upd (gA q 30) w0 (gA q 30 w1))) 31 w1))) 32) w0 (gA (sA (sA q 30 (upd (gA q 30) w0 (gA q 30 w1))) 31 (upd (gA (sA q 30 (upd (gA q 30) w0 (gA q 30 w1))) 31) w0 (gA (sA q 30 (upd (gA q 30) w0 (gA q 30 w1))) 31 w1))) 32 w1))) 33 w1))) 34 w1))) 35 (upd (gA (sA (sA (sA (sA (sA q 30 (upd (gA q 30) w0 (gA q 30 w1))) 31 (upd (gA (sA q 30 (upd (gA q 30) w0 (gA q 30 w1))) 31) w0 (gA (sA q 30 (upd (gA q 30) w0 (gA q 30 w1))) 31 w1))) 32 (upd (gA (sA (sA q 30 (upd (gA q 30) w0 (gA q 30 w1))) 31 (upd (gA (sA q 30 (upd (gA q 30) w0 (gA q 30 w1))) 31) w0 (gA (sA q 30 (upd (gA q 30) w0 (gA q 30 w1))) 31 w1))) 32) w0 (gA (sA (sA q 30 (upd (gA q 30) w0 (gA q 30 w1))) 31 (upd (gA (sA q 30 (upd (gA q 30) w0 (gA q 30 w1))) 31) w0 (gA (sA q 30 (upd (gA q 30) w0 (gA q 30 w1))) 31 w1))) 32 w1))) 33 (upd (gA (sA (sA (sA q 30 (upd (gA q 30) w0 (gA q 30 w1))) 31 (upd (gA (sA q 30 (upd (gA q 30) w0 (gA q 30 w1))) 31) w0 (gA (sA q 30 (upd (gA q 30) w0 (gA q 30 w1))) 31 w1))) 32 (upd (gA (sA (sA q 30 (upd (gA q 30) w0 (gA q 30 w1))) 31 (upd (gA (sA q 30 (upd (gA q 30) w0 (gA q 30 w1))) 31) w0 (gA (sA q 30 (upd (gA q 30) w0 (gA q 30 w1))) 31 w1))) 32) w0 (gA (sA (sA q 30 (upd (gA q 30) w0 (gA q 30 w1))) 31 (upd (gA (sA q 30 (upd (gA q 30) w0 (gA q 30 w1))) 31) w0 (gA (sA q 30 (upd (gA q 30) w0 (gA q 30 w1))) 31 w1))) 32 w1))) 33) w0 (gA (sA (sA (sA q 30 (upd (gA q 30) w0 (gA q 30 w1))) 31 (upd (gA (sA q 30 (upd (gA q 30) w0 (gA q 30 w1))) 31) w0 (gA (sA q 30 (upd (gA q 30) w0 (gA q 30 w1))) 31 w1))) 32 (upd (gA (sA (sA q 30 (upd (gA q 30) w0 (gA q 30 w1))) 31 (upd (gA (sA q 30 (upd (gA q 30) w0 (gA q 30 w1))) 31) w0 (gA (sA q 30 (upd (gA q 30) w0 (gA q 30 w1))) 31 w1))) 32) w0 (gA (sA (sA q 30 (upd (gA q 30) w0 (gA q 30 w1))) 31 (upd (gA (sA q 30 (upd (gA q 30) w0 (gA q 30 w1))) 31) w0 (gA (sA q 30 (upd (gA q 30) w0 (gA q 30 w1))) 31 w1))) 32 w1))) 33 w1))) 34 (upd (gA (sA (sA (sA (sA q 30 (upd (gA q 30) w0 (gA q 30 w1))) 31 (upd (gA (sA q 30 (upd (gA q 30) w0 (gA q 30 w1))) 31) w0 (gA (sA q 30 (upd (gA q 30) w0 (gA q 30 w1))) 31 w1))) 32 (upd (gA (sA (sA q 30 (upd (gA q 30) w0 (gA q 30 w1))) 31 (upd (gA (sA q 30 (upd (gA q 30) w0 (gA q 30 w1))) 31) w0 (gA (sA q 30 (upd (gA q 30) w0 (gA q 30 w1))) 31 w1))) 32) w0 (gA (sA (sA q 30 (upd (gA q 30) w0 (gA q 30 w1))) 31 (upd (gA (sA q 30 (upd (gA q 30) w0 (gA q 30 w1))) 31) w0 (gA (sA q 30 (upd (gA q 30) w0 (gA q 30 w1))) 31 w1))) 32 w1))) 33 (upd (gA (sA (sA (sA q 30 (upd (gA q 30) w0 (gA q 30 w1))) 31 (upd (gA (sA q 30 (upd (gA q 30) w0 (gA q 30 w1))) 31) w0 (gA (sA q 30 (upd (gA q 30) w0 (gA q 30 w1))) 31 w1))) 32 (upd (gA (sA (sA q 30 (upd (gA q 30) w0 (gA q 30 w1))) 31 (upd (gA (sA q 30 (upd (gA q 30) w0 (gA q 30 w1))) 31) w0 (gA (sA q 30 (upd (gA q 30) w0 (gA q 30 w1))) 31 w1))) 32) w0 (gA (sA (sA q 30 (upd (gA q 30) w0 (gA q 30 w1))) 31 (upd (gA (sA q 30 (upd (gA q 30) w0 (gA q 30 w1))) 31) w0 (gA (sA q 30 (upd (gA q 30) w0 (gA q 30 w1))) 31 w1))) 32 w1))) 33) w0 (gA (sA (sA (sA q 30 (upd (gA q 30) w0 (gA q 30 w1))) 31 (upd (gA (sA q 30 (upd (gA q 30) w0 (gA q 30 w1))) 31) w0 (gA (sA q 30 (upd (gA q 30) w0 (gA q 30 w1))) 31 w1))) 32 (upd (gA (sA (sA q 30 (upd (gA q 30) w0 (gA q 30 w1))) 31 (upd (gA (sA q 30 (upd (gA q 30) w0 (gA q 30 w1))) 31) w0 (gA (sA q 30 (upd (gA q 30) w0 (gA q 30 w1))) 31 w1))) 32) w0 (gA (sA (sA q 30 (upd (gA q 30) w0 (gA q 30 w1))) 31 (upd (gA (sA q 30 (upd (gA q 30) w0 (gA q 30 w1))) 31) w0 (gA (sA q 30 (upd (gA q 30) w0 (gA q 30 w1))) 31 w1))) 32 w1))) 33 w1))) 34) w0 (gA (sA (sA (sA (sA q 30 (upd (gA q 30) w0 (gA q 30 w1))) 31 (upd (gA (sA q 30 (upd (gA q 30) w0 (gA q 30 w1))) 31) w0 (gA (sA q 30 (upd (gA q 30) w0 (gA q 30 w1))) 31 w1))) 32 (upd (gA (sA (sA q 30 (upd (gA q 30) w0 (gA q 30 w1))) 31 (upd (gA (sA q 30 (upd (gA q 30) w0 (gA q 30 w1))) 31) w0 (gA (sA q 30 (upd (gA q 30) w0 (gA q 30 w1))) 31 w1))) 32) w0 (gA (sA (sA q 30 (upd (gA q 30) w0 (gA q 30 w1))) 31 (upd (gA (sA q 30 (upd (gA q 30) w0 (gA q 30 w1))) 31) w0 (gA (sA q 30 (upd (gA q 30) w0 (gA q 30 w1))) 31 w1))) 32 w1))) 33 (upd (gA (sA (sA (sA q 30 (upd (gA q 30) w0 (gA q 30 w1))) 31 (upd (gA (sA q 30 (upd (gA q 30) w0 (gA q 30 w1))) 31) w0 (gA (sA q 30 (upd (gA q 30) w0 (gA q 30 w1))) 31 w1))) 32 (upd (gA (sA (sA q 30 (upd (gA q 30) w0 (gA q 30 w1))) 31 (upd (gA (sA q 30 (upd (gA q 30) w0 (gA q 30 w1))) 31) w0 (gA (sA q 30 (upd (gA q 30) w0 (gA q 30 w1))) 31 w1))) 32) w0 (gA (sA (sA q 30 (upd (gA q 30) w0 (gA q 30 w1))) 31 (upd (gA (sA q 30 (upd (gA q 30) w0 (gA q 30 w1))) 31) w0 (gA (sA q 30 (upd (gA q 30) w0 (gA q 30 w1))) 31 w1))) 32 w1))) 33) w0 (gA (sA (sA (sA q 30 (upd (gA q 30) w0 (gA q 30 w1))) 31 (upd (gA (sA q 30 (upd (gA q 30) w0 (gA q 30 w1))) 31) w0 (gA (sA q 30 (upd (gA q 30) w0 (gA q 30 w1))) 31 w1))) 32 (upd (gA (sA (sA q 30 (upd (gA q 30) w0 (gA q 30 w1))) 31 (upd (gA (sA q 30 (upd (gA q 30) w0 (gA q 30 w1))) 31) w0 (gA (sA q 30 (upd (gA q 30) w0 (gA q 30 w1))) 31 w1))) 32) w0 (gA (sA (sA q 30 (upd (gA q 30) w0 (gA q 30 w1))) 31 (upd (gA (sA q 30 (upd (gA q 30) w0 (gA q 30 w1))) 31) w0 (gA (sA q 30 (upd (gA q 30) w0 (gA q 30 w1))) 31 w1))) 32 w1))) 33 w1))) 34 w1))) 35) w0 (gA (sA (sA (sA (sA (sA q 30 (upd (gA q 30) w0 (gA q 30 w1))) 31 (upd (gA (sA q 30 (upd (gA q 30) w0 (gA q 30 w1))) 31) w0 (gA (sA q 30 (upd (gA q 30) w0 (gA q 30 w1))) 31 w1))) 32 (upd (gA (sA (sA q 30 (upd (gA q 30) w0 (gA q 30 w1))) 31 (upd (gA (sA q 30 (upd (gA q 30) w0 (gA q 30 w1))) 31) w0 (gA (sA q 30 (upd (gA q 30) w0 (gA q 30 w1))) 31 w1))) 32) w0 (gA (sA (sA q 30 (upd (gA q 30) w0 (gA q 30 w1))) 31 (upd (gA (sA q 30 (upd (gA q 30) w0 (gA q 30 w1))) 31) w0 (gA (sA q 30 (upd (gA q 30) w0 (gA q 30 w1))) 31 w1))) 32 w1))) 33 (upd (gA (sA (sA (sA q 30 (upd (gA q 30) w0 (gA q 30 w1))) 31 (upd (gA (sA q 30 (upd (gA q 30) w0 (gA q 30 w1))) 31) w0 (gA (sA q 30 (upd (gA q 30) w0 (gA q 30 w1))) 31 w1))) 32 (upd (gA (sA (sA q 30 (upd (gA q 30) w0 (gA q 30 w1))) 31 (upd (gA (sA q 30 (upd (gA q 30) w0 (gA q 30 w1))) 31) w0 (gA (sA q 30 (upd (gA q 30) w0 (gA q 30 w1))) 31 w1))) 32) w0 (gA (sA (sA q 30 (upd (gA q 30) w0 (gA q 30 w1))) 31 (upd (gA (sA q 30 (upd (gA q 30) w0 (gA q 30 w1))) 31) w0 (gA (sA q 30 (upd (gA q 30) w0 (gA q 30 w1))) 31 w1))) 32 w1))) 33) w0 (gA (sA (sA (sA q 30 (upd (gA q 30) w0 (gA q 30 w1))) 31 (upd (gA (sA q 30 (upd (gA q 30) w0 (gA q 30 w1))) 31) w0 (gA (sA q 30 (upd (gA q 30) w0 (gA q 30 w1))) 31 w1))) 32 (upd (gA (sA (sA q 30 (upd (gA q 30) w0 (gA q 30 w1))) 31 (upd (gA (sA q 30 (upd (gA q 30) w0 (gA q 30 w1))) 31) w0 (gA (sA q 30 (upd (gA q 30) w0 (gA q 30 w1))) 31 w1))) 32) w0 (gA (sA (sA q 30 (upd (gA q 30) w0 (gA q 30 w1))) 31 (upd (gA (sA q 30 (upd (gA q 30) w0 (gA q 30 w1))) 31) w0 (gA (sA q 30 (upd (gA q 30) w0 (gA q 30 w1))) 31 w1))) 32 w1))) 33 w1))) 34 (upd (gA (sA (sA (sA (sA q 30 (upd (gA q 30) w0 (gA q 30 w1))) 31 (upd (gA (sA q 30 (upd (gA q 30) w0 (gA q 30 w1))) 31) w0 (gA (sA q 30 (upd (gA q 30) w0 (gA q 30 w1))) 31 w1))) 32 (upd (gA (sA (sA q 30 (upd (gA q 30) w0 (gA q 30 w1))) 31 (upd (gA (sA q 30 (upd (gA q 30) w0 (gA q 30 w1))) 31) w0 (gA (sA q 30 (upd (gA q 30) w0 (gA q 30 w1))) 31 w1))) 32) w0 (gA (sA (sA q 30 (upd (gA q 30) w0 (gA q 30 w1))) 31 (upd (gA (sA q 30 (upd (gA q 30) w0 (gA q 30 w1))) 31) w0 (gA (sA q 30 (upd (gA q 30) w0 (gA q 30 w1))) 31 w1))) 32 w1))) 33 (upd (gA (sA (sA (sA q 30 (upd (gA q 30) w0 (gA q 30 w1))) 31 (upd (gA (sA q 30 (upd (gA q 30) w0 (gA q 30 w1))) 31) w0 (gA (sA q 30 (upd (gA q 30) w0 (gA q 30 w1))) 31 w1))) 32 (upd (gA (sA (sA q 30 (upd (gA q 30) w0 (gA q 30 w1))) 31 (upd (gA (sA q 30 (upd (gA q 30) w0 (gA q 30 w1))) 31) w0 (gA (sA q 30 (upd (gA q 30) w0 (gA q 30 w1))) 31 w1))) 32) w0 (gA (sA (sA q 30 (upd (gA q 30) w0 (gA q 30 w1))) 31 (upd (gA (sA q 30 (upd (gA q 30) w0 (gA q 30 w1))) 31) w0 (gA (sA q 30 (upd (gA q 30) w0 (gA q 30 w1))) 31 w1))) 32 w1))) 33) w0 (gA (sA (sA (sA q 30 (upd (gA q 30) w0 (gA q 30 w1))) 31 (upd (gA (sA q 30 (upd (gA q 30) w0 (gA q 30 w1))) 31) w0 (gA (sA q 30 (upd (gA q 30) w0 (gA q 30 w1))) 31 w1))) 32 (upd (gA (sA (sA q 30 (upd (gA q 30) w0 (gA q 30 w1))) 31 (upd (gA (sA q 30 (upd (gA q 30) w0 (gA q 30 w1))) 31) w0 (gA (sA q 30 (upd (gA q 30) w0 (gA q 30 w1))) 31 w1))) 32) w0 (gA (sA (sA q 30 (upd (gA q 30) w0 (gA q 30 w1))) 31 (upd (gA (sA q 30 (upd (gA q 30) w0 (gA q 30 w1))) 31) w0 (gA (sA q 30 (upd (gA q 30) w0 (gA q 30 w1))) 31 w1))) 32 w1))) 33 w1))) 34) w0 (gA (sA (sA (sA (sA q 30 (upd (gA q 30) w0 (gA q 30 w1))) 31 (upd (gA (sA q 30 (upd (gA q 30) w0 (gA q 30 w1))) 31) w0 (gA (sA q 30 (upd (gA q 30) w0 (gA q 30 w1))) 31 w1))) 32 (upd (gA (sA (sA q 30 (upd (gA q 30) w0 (gA q 30 w1))) 31 (upd (gA (sA q 30 (upd (gA q 30) w0 (gA q 30 w1))) 31) w0 (gA (sA q 30 (upd (gA q 30) w0 (gA q 30 w1))) 31 w1))) 32) w0 (gA (sA (sA q 30 (upd (gA q 30) w0 (gA q 30 w1))) 31 (upd (gA (sA q 30 (upd (gA q 30) w0 (gA q 30 w1))) 31) w0 (gA (sA q 30 (upd (gA q 30) w0 (gA q 30 w1))) 31 w1))) 32 w1))) 33 (upd (gA (sA (sA (sA q 30 (upd (gA q 30) w0 (gA q 30 w1))) 31 (upd (gA (sA q 30 (upd (gA q 30) w0 (gA q 30 w1))) 31) w0 (gA (sA q 30 (upd (gA q 30) w0 (gA q 30 w1))) 31 w1))) 32 (upd (gA (sA (sA q 30 (upd (gA q 30) w0 (gA q 30 w1))) 31 (upd (gA (sA q 30 (upd (gA q 30) w0 (gA q 30 w1))) 31) w0 (gA (sA q 30 (upd (gA q 30) w0 (gA q 30 w1))) 31 w1))) 32) w0 (gA (sA (sA q 30 (upd (gA q 30) w0 (gA q 30 w1))) 31 (upd (gA (sA q 30 (upd (gA q 30) w0 (gA q 30 w1))) 31) w0 (gA (sA q 30 (upd (gA q 30) w0 (gA q 30 w1))) 31 w1))) 32 w1))) 33) w0 (gA (sA (sA (sA q 30 (upd (gA q 30) w0 (gA q 30 w1))) 31 (upd (gA (sA q 30 (upd (gA q 30) w0 (gA q 30 w1))) 31) w0 (gA (sA q 30 (upd (gA q 30) w0 (gA q 30 w1))) 31 w1))) 32 (upd (gA (sA (sA q 30 (upd (gA q 30) w0 (gA q 30 w1))) 31 (upd (gA (sA q 30 (upd (gA q 30) w0 (gA q 30 w1))) 31) w0 (gA (sA q 30 (upd (gA q 30) w0 (gA q 30 w1))) 31 w1))) 32) w0 (gA (sA (sA q 30 (upd (gA q 30) w0 (gA q 30 w1))) 31 (upd (gA (sA q 30 (upd (gA q 30) w0 (gA q 30 w1))) 31) w0 (gA (sA q 30 (upd (gA q 30) w0 (gA q 30 w1))) 31 w1))) 32 w1))) 33 w1))) 34 w1))) 35 w1))) 36 w1))) w0 w1
set_option maxHeartbeats 4000000 in
set_option maxRecDepth 100000 in
theorem ctX9_copyFrom (l : Launch) (hl : l.stackTraces = false) (D : va_G) (kc : Nat → ClassId) (ad wad : Nat → Nat) (q : SS) (w0 : Nat) (w1 : Nat) (hok : kX9_copyFrom q w0 w1) : Cv l yX9_copyFrom (Cond.code yX9_copyFrom cX9_copyFrom 2 none :: lw_G) (zr 0 0 0) 0 0 (PX D kc) (GX D kc ad wad) (GX D kc ad wad) [.ref (wad w0), .ref (wad w1)] q (fX9_copyFrom q w0 w1) := by
  refine Cv.of (cc := cX9_copyFrom) (maxL := 2) (ret := none) (by decide) rfl (Nat.le_of_ble_eq_true rfl) ?_
  intro p e s m args below meth c A S hr hlocks hin hA hK
  have hx := S.1
  have hb := S.2.1
  have hE : EV A s s.heap := hK.2
  have hK : va_K D vwCl (tysK kc) s := hK.1
  generalize hFe : fX9_copyFrom q w0 w1 = F
  have hF : F = fX9_copyFrom q w0 w1 := hFe.symm
  have b56 : ∀ (q : SS) (w0 : Nat) (w1 : Nat), kX9_copyFrom_56 q w0 w1 → F = fX9_copyFrom_56 q w0 w1 → Z p l e (zr 0 0 0) s m args below meth c 0 0 (MQ below (va_Qv (fun (_ : Unit) => True) (fun _ t => (GX D kc ad wad) A F t.heap) A) args s 0 0 A) 2 A (ZG D vwCl (wX kc ad wad) (PLX wad) A) q 56 [(0, .ref (wad w0)), (1, .ref (wad w1))] [] := by
    intro q w0 w1 hok hF
    refine z_aload_n (j := 0) hx hb dX9_copyFrom_56 rfl rfl ?_
    refine z_aload_n (j := 1) hx hb dX9_copyFrom_57 rfl rfl ?_
    have h58 := And.left hok
    have hok := And.right hok
    refine z_getW (v := .int (gA q 37 w1)) S hK h58 inX9 7 (by decide) q4_50 rfl rfl dX9_copyFrom_58 ?_
    have h61_w := And.left hok
    have hok := And.right hok
    have h61 := And.left hok
    have hok := And.right hok
    refine z_putW S hK h61_w inX9 7 (by decide) q4_50 rfl rfl h61.1 h61.2 dX9_copyFrom_61 ?_
    refine z_aload_n (j := 0) hx hb dX9_copyFrom_64 rfl rfl ?_
    refine z_aload_n (j := 1) hx hb dX9_copyFrom_65 rfl rfl ?_
    have h66 := And.left hok
    have hok := And.right hok
    refine z_getW (v := .int (gA (sA q 37 (upd (gA q 37) w0 (gA q 37 w1))) 38 w1)) S hK h66 inX9 8 (by decide) q4_53 rfl rfl dX9_copyFrom_66 ?_
    have h69_w := And.left hok
    have hok := And.right hok
    refine z_putW S hK h69_w inX9 8 (by decide) q4_53 rfl rfl rfl rfl dX9_copyFrom_69 ?_
    exact z_vret hx hb hlocks hr hF dX9_copyFrom_72
  refine z_aload_n (j := 0) hx hb dX9_copyFrom_0 rfl rfl ?_
  refine z_aload_n (j := 1) hx hb dX9_copyFrom_1 rfl rfl ?_
  have h2 := And.left hok
  have hok := And.right hok
  refine z_getW (v := .int (gA q 30 w1)) S hK h2 inX9 0 (by decide) q4_26 rfl rfl dX9_copyFrom_2 ?_
  have h5_w := And.left hok
  have hok := And.right hok
  refine z_putW S hK h5_w inX9 0 (by decide) q4_26 rfl rfl rfl rfl dX9_copyFrom_5 ?_
  refine z_aload_n (j := 0) hx hb dX9_copyFrom_8 rfl rfl ?_
  refine z_aload_n (j := 1) hx hb dX9_copyFrom_9 rfl rfl ?_
  have h10 := And.left hok
  have hok := And.right hok
  refine z_getW (v := .int (gA (sA q 30 (upd (gA q 30) w0 (gA q 30 w1))) 31 w1)) S hK h10 inX9 1 (by decide) q4_29 rfl rfl dX9_copyFrom_10 ?_
  have h13_w := And.left hok
  have hok := And.right hok
  refine z_putW S hK h13_w inX9 1 (by decide) q4_29 rfl rfl rfl rfl dX9_copyFrom_13 ?_
  refine z_aload_n (j := 0) hx hb dX9_copyFrom_16 rfl rfl ?_
  refine z_aload_n (j := 1) hx hb dX9_copyFrom_17 rfl rfl ?_
  have h18 := And.left hok
  have hok := And.right hok
  refine z_getW (v := .int (gA (sA (sA q 30 (upd (gA q 30) w0 (gA q 30 w1))) 31 (upd (gA (sA q 30 (upd (gA q 30) w0 (gA q 30 w1))) 31) w0 (gA (sA q 30 (upd (gA q 30) w0 (gA q 30 w1))) 31 w1))) 32 w1)) S hK h18 inX9 2 (by decide) q4_32 rfl rfl dX9_copyFrom_18 ?_
  have h21_w := And.left hok
  have hok := And.right hok
  refine z_putW S hK h21_w inX9 2 (by decide) q4_32 rfl rfl rfl rfl dX9_copyFrom_21 ?_
  refine z_aload_n (j := 0) hx hb dX9_copyFrom_24 rfl rfl ?_
  refine z_aload_n (j := 1) hx hb dX9_copyFrom_25 rfl rfl ?_
  have h26 := And.left hok
  have hok := And.right hok
  refine z_getW (v := .int (gA (sA (sA (sA q 30 (upd (gA q 30) w0 (gA q 30 w1))) 31 (upd (gA (sA q 30 (upd (gA q 30) w0 (gA q 30 w1))) 31) w0 (gA (sA q 30 (upd (gA q 30) w0 (gA q 30 w1))) 31 w1))) 32 (upd (gA (sA (sA q 30 (upd (gA q 30) w0 (gA q 30 w1))) 31 (upd (gA (sA q 30 (upd (gA q 30) w0 (gA q 30 w1))) 31) w0 (gA (sA q 30 (upd (gA q 30) w0 (gA q 30 w1))) 31 w1))) 32) w0 (gA (sA (sA q 30 (upd (gA q 30) w0 (gA q 30 w1))) 31 (upd (gA (sA q 30 (upd (gA q 30) w0 (gA q 30 w1))) 31) w0 (gA (sA q 30 (upd (gA q 30) w0 (gA q 30 w1))) 31 w1))) 32 w1))) 33 w1)) S hK h26 inX9 3 (by decide) q4_35 rfl rfl dX9_copyFrom_26 ?_
  have h29_w := And.left hok
  have hok := And.right hok
  refine z_putW S hK h29_w inX9 3 (by decide) q4_35 rfl rfl rfl rfl dX9_copyFrom_29 ?_
  refine z_aload_n (j := 0) hx hb dX9_copyFrom_32 rfl rfl ?_
  refine z_aload_n (j := 1) hx hb dX9_copyFrom_33 rfl rfl ?_
  have h34 := And.left hok
  have hok := And.right hok
  refine z_getW (v := .int (gA (sA (sA (sA (sA q 30 (upd (gA q 30) w0 (gA q 30 w1))) 31 (upd (gA (sA q 30 (upd (gA q 30) w0 (gA q 30 w1))) 31) w0 (gA (sA q 30 (upd (gA q 30) w0 (gA q 30 w1))) 31 w1))) 32 (upd (gA (sA (sA q 30 (upd (gA q 30) w0 (gA q 30 w1))) 31 (upd (gA (sA q 30 (upd (gA q 30) w0 (gA q 30 w1))) 31) w0 (gA (sA q 30 (upd (gA q 30) w0 (gA q 30 w1))) 31 w1))) 32) w0 (gA (sA (sA q 30 (upd (gA q 30) w0 (gA q 30 w1))) 31 (upd (gA (sA q 30 (upd (gA q 30) w0 (gA q 30 w1))) 31) w0 (gA (sA q 30 (upd (gA q 30) w0 (gA q 30 w1))) 31 w1))) 32 w1))) 33 (upd (gA (sA (sA (sA q 30 (upd (gA q 30) w0 (gA q 30 w1))) 31 (upd (gA (sA q 30 (upd (gA q 30) w0 (gA q 30 w1))) 31) w0 (gA (sA q 30 (upd (gA q 30) w0 (gA q 30 w1))) 31 w1))) 32 (upd (gA (sA (sA q 30 (upd (gA q 30) w0 (gA q 30 w1))) 31 (upd (gA (sA q 30 (upd (gA q 30) w0 (gA q 30 w1))) 31) w0 (gA (sA q 30 (upd (gA q 30) w0 (gA q 30 w1))) 31 w1))) 32) w0 (gA (sA (sA q 30 (upd (gA q 30) w0 (gA q 30 w1))) 31 (upd (gA (sA q 30 (upd (gA q 30) w0 (gA q 30 w1))) 31) w0 (gA (sA q 30 (upd (gA q 30) w0 (gA q 30 w1))) 31 w1))) 32 w1))) 33) w0 (gA (sA (sA (sA q 30 (upd (gA q 30) w0 (gA q 30 w1))) 31 (upd (gA (sA q 30 (upd (gA q 30) w0 (gA q 30 w1))) 31) w0 (gA (sA q 30 (upd (gA q 30) w0 (gA q 30 w1))) 31 w1))) 32 (upd (gA (sA (sA q 30 (upd (gA q 30) w0 (gA q 30 w1))) 31 (upd (gA (sA q 30 (upd (gA q 30) w0 (gA q 30 w1))) 31) w0 (gA (sA q 30 (upd (gA q 30) w0 (gA q 30 w1))) 31 w1))) 32) w0 (gA (sA (sA q 30 (upd (gA q 30) w0 (gA q 30 w1))) 31 (upd (gA (sA q 30 (upd (gA q 30) w0 (gA q 30 w1))) 31) w0 (gA (sA q 30 (upd (gA q 30) w0 (gA q 30 w1))) 31 w1))) 32 w1))) 33 w1))) 34 w1)) S hK h34 inX9 4 (by decide) q4_38 rfl rfl dX9_copyFrom_34 ?_
  have h37_w := And.left hok
  have hok := And.right hok
  have h37 := And.left hok
  have hok := And.right hok
  refine z_putW S hK h37_w inX9 4 (by decide) q4_38 rfl rfl h37.1 h37.2 dX9_copyFrom_37 ?_
  refine z_aload_n (j := 0) hx hb dX9_copyFrom_40 rfl rfl ?_
  refine z_aload_n (j := 1) hx hb dX9_copyFrom_41 rfl rfl ?_
  have h42 := And.left hok
  have hok := And.right hok
  refine z_getW (v := .int (gA (sA (sA (sA (sA (sA q 30 (upd (gA q 30) w0 (gA q 30 w1))) 31 (upd (gA (sA q 30 (upd (gA q 30) w0 (gA q 30 w1))) 31) w0 (gA (sA q 30 (upd (gA q 30) w0 (gA q 30 w1))) 31 w1))) 32 (upd (gA (sA (sA q 30 (upd (gA q 30) w0 (gA q 30 w1))) 31 (upd (gA (sA q 30 (upd (gA q 30) w0 (gA q 30 w1))) 31) w0 (gA (sA q 30 (upd (gA q 30) w0 (gA q 30 w1))) 31 w1))) 32) w0 (gA (sA (sA q 30 (upd (gA q 30) w0 (gA q 30 w1))) 31 (upd (gA (sA q 30 (upd (gA q 30) w0 (gA q 30 w1))) 31) w0 (gA (sA q 30 (upd (gA q 30) w0 (gA q 30 w1))) 31 w1))) 32 w1))) 33 (upd (gA (sA (sA (sA q 30 (upd (gA q 30) w0 (gA q 30 w1))) 31 (upd (gA (sA q 30 (upd (gA q 30) w0 (gA q 30 w1))) 31) w0 (gA (sA q 30 (upd (gA q 30) w0 (gA q 30 w1))) 31 w1))) 32 (upd (gA (sA (sA q 30 (upd (gA q 30) w0 (gA q 30 w1))) 31 (upd (gA (sA q 30 (upd (gA q 30) w0 (gA q 30 w1))) 31) w0 (gA (sA q 30 (upd (gA q 30) w0 (gA q 30 w1))) 31 w1))) 32) w0 (gA (sA (sA q 30 (upd (gA q 30) w0 (gA q 30 w1))) 31 (upd (gA (sA q 30 (upd (gA q 30) w0 (gA q 30 w1))) 31) w0 (gA (sA q 30 (upd (gA q 30) w0 (gA q 30 w1))) 31 w1))) 32 w1))) 33) w0 (gA (sA (sA (sA q 30 (upd (gA q 30) w0 (gA q 30 w1))) 31 (upd (gA (sA q 30 (upd (gA q 30) w0 (gA q 30 w1))) 31) w0 (gA (sA q 30 (upd (gA q 30) w0 (gA q 30 w1))) 31 w1))) 32 (upd (gA (sA (sA q 30 (upd (gA q 30) w0 (gA q 30 w1))) 31 (upd (gA (sA q 30 (upd (gA q 30) w0 (gA q 30 w1))) 31) w0 (gA (sA q 30 (upd (gA q 30) w0 (gA q 30 w1))) 31 w1))) 32) w0 (gA (sA (sA q 30 (upd (gA q 30) w0 (gA q 30 w1))) 31 (upd (gA (sA q 30 (upd (gA q 30) w0 (gA q 30 w1))) 31) w0 (gA (sA q 30 (upd (gA q 30) w0 (gA q 30 w1))) 31 w1))) 32 w1))) 33 w1))) 34 (upd (gA (sA (sA (sA (sA q 30 (upd (gA q 30) w0 (gA q 30 w1))) 31 (upd (gA (sA q 30 (upd (gA q 30) w0 (gA q 30 w1))) 31) w0 (gA (sA q 30 (upd (gA q 30) w0 (gA q 30 w1))) 31 w1))) 32 (upd (gA (sA (sA q 30 (upd (gA q 30) w0 (gA q 30 w1))) 31 (upd (gA (sA q 30 (upd (gA q 30) w0 (gA q 30 w1))) 31) w0 (gA (sA q 30 (upd (gA q 30) w0 (gA q 30 w1))) 31 w1))) 32) w0 (gA (sA (sA q 30 (upd (gA q 30) w0 (gA q 30 w1))) 31 (upd (gA (sA q 30 (upd (gA q 30) w0 (gA q 30 w1))) 31) w0 (gA (sA q 30 (upd (gA q 30) w0 (gA q 30 w1))) 31 w1))) 32 w1))) 33 (upd (gA (sA (sA (sA q 30 (upd (gA q 30) w0 (gA q 30 w1))) 31 (upd (gA (sA q 30 (upd (gA q 30) w0 (gA q 30 w1))) 31) w0 (gA (sA q 30 (upd (gA q 30) w0 (gA q 30 w1))) 31 w1))) 32 (upd (gA (sA (sA q 30 (upd (gA q 30) w0 (gA q 30 w1))) 31 (upd (gA (sA q 30 (upd (gA q 30) w0 (gA q 30 w1))) 31) w0 (gA (sA q 30 (upd (gA q 30) w0 (gA q 30 w1))) 31 w1))) 32) w0 (gA (sA (sA q 30 (upd (gA q 30) w0 (gA q 30 w1))) 31 (upd (gA (sA q 30 (upd (gA q 30) w0 (gA q 30 w1))) 31) w0 (gA (sA q 30 (upd (gA q 30) w0 (gA q 30 w1))) 31 w1))) 32 w1))) 33) w0 (gA (sA (sA (sA q 30 (upd (gA q 30) w0 (gA q 30 w1))) 31 (upd (gA (sA q 30 (upd (gA q 30) w0 (gA q 30 w1))) 31) w0 (gA (sA q 30 (upd (gA q 30) w0 (gA q 30 w1))) 31 w1))) 32 (upd (gA (sA (sA q 30 (upd (gA q 30) w0 (gA q 30 w1))) 31 (upd (gA (sA q 30 (upd (gA q 30) w0 (gA q 30 w1))) 31) w0 (gA (sA q 30 (upd (gA q 30) w0 (gA q 30 w1))) 31 w1))) 32) w0 (gA (sA (sA q 30 (upd (gA q 30) w0 (gA q 30 w1))) 31 (upd (gA (sA q 30 (upd (gA q 30) w0 (gA q 30 w1))) 31) w0 (gA (sA q 30 (upd (gA q 30) w0 (gA q 30 w1))) 31 w1))) 32 w1))) 33 w1))) 34) w0 (gA (sA (sA (sA (sA q 30 (upd (gA q 30) w0 (gA q 30 w1))) 31 (upd (gA (sA q 30 (upd (gA q 30) w0 (gA q 30 w1))) 31) w0 (gA (sA q 30 (upd (gA q 30) w0 (gA q 30 w1))) 31 w1))) 32 (upd (gA (sA (sA q 30 (upd (gA q 30) w0 (gA q 30 w1))) 31 (upd (gA (sA q 30 (upd (gA q 30) w0 (gA q 30 w1))) 31) w0 (gA (sA q 30 (upd (gA q 30) w0 (gA q 30 w1))) 31 w1))) 32) w0 (gA (sA (sA q 30 (upd (gA q 30) w0 (gA q 30 w1))) 31 (upd (gA (sA q 30 (upd (gA q 30) w0 (gA q 30 w1))) 31) w0 (gA (sA q 30 (upd (gA q 30) w0 (gA q 30 w1))) 31 w1))) 32 w1))) 33 (upd (gA (sA (sA (sA q 30 (upd (gA q 30) w0 (gA q 30 w1))) 31 (upd (gA (sA q 30 (upd (gA q 30) w0 (gA q 30 w1))) 31) w0 (gA (sA q 30 (upd (gA q 30) w0 (gA q 30 w1))) 31 w1))) 32 (upd (gA (sA (sA q 30 (upd (gA q 30) w0 (gA q 30 w1))) 31 (upd (gA (sA q 30 (upd (gA q 30) w0 (gA q 30 w1))) 31) w0 (gA (sA q 30 (upd (gA q 30) w0 (gA q 30 w1))) 31 w1))) 32) w0 (gA (sA (sA q 30 (upd (gA q 30) w0 (gA q 30 w1))) 31 (upd (gA (sA q 30 (upd (gA q 30) w0 (gA q 30 w1))) 31) w0 (gA (sA q 30 (upd (gA q 30) w0 (gA q 30 w1))) 31 w1))) 32 w1))) 33) w0 (gA (sA (sA (sA q 30 (upd (gA q 30) w0 (gA q 30 w1))) 31 (upd (gA (sA q 30 (upd (gA q 30) w0 (gA q 30 w1))) 31) w0 (gA (sA q 30 (upd (gA q 30) w0 (gA q 30 w1))) 31 w1))) 32 (upd (gA (sA (sA q 30 (upd (gA q 30) w0 (gA q 30 w1))) 31 (upd (gA (sA q 30 (upd (gA q 30) w0 (gA q 30 w1))) 31) w0 (gA (sA q 30 (upd (gA q 30) w0 (gA q 30 w1))) 31 w1))) 32) w0 (gA (sA (sA q 30 (upd (gA q 30) w0 (gA q 30 w1))) 31 (upd (gA (sA q 30 (upd (gA q 30) w0 (gA q 30 w1))) 31) w0 (gA (sA q 30 (upd (gA q 30) w0 (gA q 30 w1))) 31 w1))) 32 w1))) 33 w1))) 34 w1))) 35 w1)) S hK h42 inX9 5 (by decide) q4_42 rfl rfl dX9_copyFrom_42 ?_
  have h45_w := And.left hok
  have hok := And.right hok
  refine z_putW S hK h45_w inX9 5 (by decide) q4_42 rfl rfl rfl rfl dX9_copyFrom_45 ?_
  refine z_aload_n (j := 0) hx hb dX9_copyFrom_48 rfl rfl ?_
  refine z_aload_n (j := 1) hx hb dX9_copyFrom_49 rfl rfl ?_
  have h50 := And.left hok
  have hok := And.right hok
  refine z_getW (v := .int (gA (sA (sA (sA (sA (sA (sA q 30 (upd (gA q 30) w0 (gA q 30 w1))) 31 (upd (gA (sA q 30 (upd (gA q 30) w0 (gA q 30 w1))) 31) w0 (gA (sA q 30 (upd (gA q 30) w0 (gA q 30 w1))) 31 w1))) 32 (upd (gA (sA (sA q 30 (upd (gA q 30) w0 (gA q 30 w1))) 31 (upd (gA (sA q 30 (upd (gA q 30) w0 (gA q 30 w1))) 31) w0 (gA (sA q 30 (upd (gA q 30) w0 (gA q 30 w1))) 31 w1))) 32) w0 (gA (sA (sA q 30 (upd (gA q 30) w0 (gA q 30 w1))) 31 (upd (gA (sA q 30 (upd (gA q 30) w0 (gA q 30 w1))) 31) w0 (gA (sA q 30 (upd (gA q 30) w0 (gA q 30 w1))) 31 w1))) 32 w1))) 33 (upd (gA (sA (sA (sA q 30 (upd (gA q 30) w0 (gA q 30 w1))) 31 (upd (gA (sA q 30 (upd (gA q 30) w0 (gA q 30 w1))) 31) w0 (gA (sA q 30 (upd (gA q 30) w0 (gA q 30 w1))) 31 w1))) 32 (upd (gA (sA (sA q 30 (upd (gA q 30) w0 (gA q 30 w1))) 31 (upd (gA (sA q 30 (upd (gA q 30) w0 (gA q 30 w1))) 31) w0 (gA (sA q 30 (upd (gA q 30) w0 (gA q 30 w1))) 31 w1))) 32) w0 (gA (sA (sA q 30 (upd (gA q 30) w0 (gA q 30 w1))) 31 (upd (gA (sA q 30 (upd (gA q 30) w0 (gA q 30 w1))) 31) w0 (gA (sA q 30 (upd (gA q 30) w0 (gA q 30 w1))) 31 w1))) 32 w1))) 33) w0 (gA (sA (sA (sA q 30 (upd (gA q 30) w0 (gA q 30 w1))) 31 (upd (gA (sA q 30 (upd (gA q 30) w0 (gA q 30 w1))) 31) w0 (gA (sA q 30 (upd (gA q 30) w0 (gA q 30 w1))) 31 w1))) 32 (upd (gA (sA (sA q 30 (upd (gA q 30) w0 (gA q 30 w1))) 31 (upd (gA (sA q 30 (upd (gA q 30) w0 (gA q 30 w1))) 31) w0 (gA (sA q 30 (upd (gA q 30) w0 (gA q 30 w1))) 31 w1))) 32) w0 (gA (sA (sA q 30 (upd (gA q 30) w0 (gA q 30 w1))) 31 (upd (gA (sA q 30 (upd (gA q 30) w0 (gA q 30 w1))) 31) w0 (gA (sA q 30 (upd (gA q 30) w0 (gA q 30 w1))) 31 w1))) 32 w1))) 33 w1))) 34 (upd (gA (sA (sA (sA (sA q 30 (upd (gA q 30) w0 (gA q 30 w1))) 31 (upd (gA (sA q 30 (upd (gA q 30) w0 (gA q 30 w1))) 31) w0 (gA (sA q 30 (upd (gA q 30) w0 (gA q 30 w1))) 31 w1))) 32 (upd (gA (sA (sA q 30 (upd (gA q 30) w0 (gA q 30 w1))) 31 (upd (gA (sA q 30 (upd (gA q 30) w0 (gA q 30 w1))) 31) w0 (gA (sA q 30 (upd (gA q 30) w0 (gA q 30 w1))) 31 w1))) 32) w0 (gA (sA (sA q 30 (upd (gA q 30) w0 (gA q 30 w1))) 31 (upd (gA (sA q 30 (upd (gA q 30) w0 (gA q 30 w1))) 31) w0 (gA (sA q 30 (upd (gA q 30) w0 (gA q 30 w1))) 31 w1))) 32 w1))) 33 (upd (gA (sA (sA (sA q 30 (upd (gA q 30) w0 (gA q 30 w1))) 31 (upd (gA (sA q 30 (upd (gA q 30) w0 (gA q 30 w1))) 31) w0 (gA (sA q 30 (upd (gA q 30) w0 (gA q 30 w1))) 31 w1))) 32 (upd (gA (sA (sA q 30 (upd (gA q 30) w0 (gA q 30 w1))) 31 (upd (gA (sA q 30 (upd (gA q 30) w0 (gA q 30 w1))) 31) w0 (gA (sA q 30 (upd (gA q 30) w0 (gA q 30 w1))) 31 w1))) 32) w0 (gA (sA (sA q 30 (upd (gA q 30) w0 (gA q 30 w1))) 31 (upd (gA (sA q 30 (upd (gA q 30) w0 (gA q 30 w1))) 31) w0 (gA (sA q 30 (upd (gA q 30) w0 (gA q 30 w1))) 31 w1))) 32 w1))) 33) w0 (gA (sA (sA (sA q 30 (upd (gA q 30) w0 (gA q 30 w1))) 31 (upd (gA (sA q 30 (upd (gA q 30) w0 (gA q 30 w1))) 31) w0 (gA (sA q 30 (upd (gA q 30) w0 (gA q 30 w1))) 31 w1))) 32 (upd (gA (sA (sA q 30 (upd (gA q 30) w0 (gA q 30 w1))) 31 (upd (gA (sA q 30 (upd (gA q 30) w0 (gA q 30 w1))) 31) w0 (gA (sA q 30 (upd (gA q 30) w0 (gA q 30 w1))) 31 w1))) 32) w0 (gA (sA (sA q 30 (upd (gA q 30) w0 (gA q 30 w1))) 31 (upd (gA (sA q 30 (upd (gA q 30) w0 (gA q 30 w1))) 31) w0 (gA (sA q 30 (upd (gA q 30) w0 (gA q 30 w1))) 31 w1))) 32 w1))) 33 w1))) 34) w0 (gA (sA (sA (sA (sA q 30 (upd (gA q 30) w0 (gA q 30 w1))) 31 (upd (gA (sA q 30 (upd (gA q 30) w0 (gA q 30 w1))) 31) w0 (gA (sA q 30 (upd (gA q 30) w0 (gA q 30 w1))) 31 w1))) 32 (upd (gA (sA (sA q 30 (upd (gA q 30) w0 (gA q 30 w1))) 31 (upd (gA (sA q 30 (upd (gA q 30) w0 (gA q 30 w1))) 31) w0 (gA (sA q 30 (upd (gA q 30) w0 (gA q 30 w1))) 31 w1))) 32) w0 (gA (sA (sA q 30 (upd (gA q 30) w0 (gA q 30 w1))) 31 (upd (gA (sA q 30 (upd (gA q 30) w0 (gA q 30 w1))) 31) w0 (gA (sA q 30 (upd (gA q 30) w0 (gA q 30 w1))) 31 w1))) 32 w1))) 33 (upd (gA (sA (sA (sA q 30 (upd (gA q 30) w0 (gA q 30 w1))) 31 (upd (gA (sA q 30 (upd (gA q 30) w0 (gA q 30 w1))) 31) w0 (gA (sA q 30 (upd (gA q 30) w0 (gA q 30 w1))) 31 w1))) 32 (upd (gA (sA (sA q 30 (upd (gA q 30) w0 (gA q 30 w1))) 31 (upd (gA (sA q 30 (upd (gA q 30) w0 (gA q 30 w1))) 31) w0 (gA (sA q 30 (upd (gA q 30) w0 (gA q 30 w1))) 31 w1))) 32) w0 (gA (sA (sA q 30 (upd (gA q 30) w0 (gA q 30 w1))) 31 (upd (gA (sA q 30 (upd (gA q 30) w0 (gA q 30 w1))) 31) w0 (gA (sA q 30 (upd (gA q 30) w0 (gA q 30 w1))) 31 w1))) 32 w1))) 33) w0 (gA (sA (sA (sA q 30 (upd (gA q 30) w0 (gA q 30 w1))) 31 (upd (gA (sA q 30 (upd (gA q 30) w0 (gA q 30 w1))) 31) w0 (gA (sA q 30 (upd (gA q 30) w0 (gA q 30 w1))) 31 w1))) 32 (upd (gA (sA (sA q 30 (upd (gA q 30) w0 (gA q 30 w1))) 31 (upd (gA (sA q 30 (upd (gA q 30) w0 (gA q 30 w1))) 31) w0 (gA (sA q 30 (upd (gA q 30) w0 (gA q 30 w1))) 31 w1))) 32) w0 (gA (sA (sA q 30 (upd (gA q 30) w0 (gA q 30 w1))) 31 (upd (gA (sA q 30 (upd (gA q 30) w0 (gA q 30 w1))) 31) w0 (gA (sA q 30 (upd (gA q 30) w0 (gA q 30 w1))) 31 w1))) 32 w1))) 33 w1))) 34 w1))) 35 (upd (gA (sA (sA (sA (sA (sA q 30 (upd (gA q 30) w0 (gA q 30 w1))) 31 (upd (gA (sA q 30 (upd (gA q 30) w0 (gA q 30 w1))) 31) w0 (gA (sA q 30 (upd (gA q 30) w0 (gA q 30 w1))) 31 w1))) 32 (upd (gA (sA (sA q 30 (upd (gA q 30) w0 (gA q 30 w1))) 31 (upd (gA (sA q 30 (upd (gA q 30) w0 (gA q 30 w1))) 31) w0 (gA (sA q 30 (upd (gA q 30) w0 (gA q 30 w1))) 31 w1))) 32) w0 (gA (sA (sA q 30 (upd (gA q 30) w0 (gA q 30 w1))) 31 (upd (gA (sA q 30 (upd (gA q 30) w0 (gA q 30 w1))) 31) w0 (gA (sA q 30 (upd (gA q 30) w0 (gA q 30 w1))) 31 w1))) 32 w1))) 33 (upd (gA (sA (sA (sA q 30 (upd (gA q 30) w0 (gA q 30 w1))) 31 (upd (gA (sA q 30 (upd (gA q 30) w0 (gA q 30 w1))) 31) w0 (gA (sA q 30 (upd (gA q 30) w0 (gA q 30 w1))) 31 w1))) 32 (upd (gA (sA (sA q 30 (upd (gA q 30) w0 (gA q 30 w1))) 31 (upd (gA (sA q 30 (upd (gA q 30) w0 (gA q 30 w1))) 31) w0 (gA (sA q 30 (upd (gA q 30) w0 (gA q 30 w1))) 31 w1))) 32) w0 (gA (sA (sA q 30 (upd (gA q 30) w0 (gA q 30 w1))) 31 (upd (gA (sA q 30 (upd (gA q 30) w0 (gA q 30 w1))) 31) w0 (gA (sA q 30 (upd (gA q 30) w0 (gA q 30 w1))) 31 w1))) 32 w1))) 33) w0 (gA (sA (sA (sA q 30 (upd (gA q 30) w0 (gA q 30 w1))) 31 (upd (gA (sA q 30 (upd (gA q 30) w0 (gA q 30 w1))) 31) w0 (gA (sA q 30 (upd (gA q 30) w0 (gA q 30 w1))) 31 w1))) 32 (upd (gA (sA (sA q 30 (upd (gA q 30) w0 (gA q 30 w1))) 31 (upd (gA (sA q 30 (upd (gA q 30) w0 (gA q 30 w1))) 31) w0 (gA (sA q 30 (upd (gA q 30) w0 (gA q 30 w1))) 31 w1))) 32) w0 (gA (sA (sA q 30 (upd (gA q 30) w0 (gA q 30 w1))) 31 (upd (gA (sA q 30 (upd (gA q 30) w0 (gA q 30 w1))) 31) w0 (gA (sA q 30 (upd (gA q 30) w0 (gA q 30 w1))) 31 w1))) 32 w1))) 33 w1))) 34 (upd (gA (sA (sA (sA (sA q 30 (upd (gA q 30) w0 (gA q 30 w1))) 31 (upd (gA (sA q 30 (upd (gA q 30) w0 (gA q 30 w1))) 31) w0 (gA (sA q 30 (upd (gA q 30) w0 (gA q 30 w1))) 31 w1))) 32 (upd (gA (sA (sA q 30 (upd (gA q 30) w0 (gA q 30 w1))) 31 (upd (gA (sA q 30 (upd (gA q 30) w0 (gA q 30 w1))) 31) w0 (gA (sA q 30 (upd (gA q 30) w0 (gA q 30 w1))) 31 w1))) 32) w0 (gA (sA (sA q 30 (upd (gA q 30) w0 (gA q 30 w1))) 31 (upd (gA (sA q 30 (upd (gA q 30) w0 (gA q 30 w1))) 31) w0 (gA (sA q 30 (upd (gA q 30) w0 (gA q 30 w1))) 31 w1))) 32 w1))) 33 (upd (gA (sA (sA (sA q 30 (upd (gA q 30) w0 (gA q 30 w1))) 31 (upd (gA (sA q 30 (upd (gA q 30) w0 (gA q 30 w1))) 31) w0 (gA (sA q 30 (upd (gA q 30) w0 (gA q 30 w1))) 31 w1))) 32 (upd (gA (sA (sA q 30 (upd (gA q 30) w0 (gA q 30 w1))) 31 (upd (gA (sA q 30 (upd (gA q 30) w0 (gA q 30 w1))) 31) w0 (gA (sA q 30 (upd (gA q 30) w0 (gA q 30 w1))) 31 w1))) 32) w0 (gA (sA (sA q 30 (upd (gA q 30) w0 (gA q 30 w1))) 31 (upd (gA (sA q 30 (upd (gA q 30) w0 (gA q 30 w1))) 31) w0 (gA (sA q 30 (upd (gA q 30) w0 (gA q 30 w1))) 31 w1))) 32 w1))) 33) w0 (gA (sA (sA (sA q 30 (upd (gA q 30) w0 (gA q 30 w1))) 31 (upd (gA (sA q 30 (upd (gA q 30) w0 (gA q 30 w1))) 31) w0 (gA (sA q 30 (upd (gA q 30) w0 (gA q 30 w1))) 31 w1))) 32 (upd (gA (sA (sA q 30 (upd (gA q 30) w0 (gA q 30 w1))) 31 (upd (gA (sA q 30 (upd (gA q 30) w0 (gA q 30 w1))) 31) w0 (gA (sA q 30 (upd (gA q 30) w0 (gA q 30 w1))) 31 w1))) 32) w0 (gA (sA (sA q 30 (upd (gA q 30) w0 (gA q 30 w1))) 31 (upd (gA (sA q 30 (upd (gA q 30) w0 (gA q 30 w1))) 31) w0 (gA (sA q 30 (upd (gA q 30) w0 (gA q 30 w1))) 31 w1))) 32 w1))) 33 w1))) 34) w0 (gA (sA (sA (sA (sA q 30 (upd (gA q 30) w0 (gA q 30 w1))) 31 (upd (gA (sA q 30 (upd (gA q 30) w0 (gA q 30 w1))) 31) w0 (gA (sA q 30 (upd (gA q 30) w0 (gA q 30 w1))) 31 w1))) 32 (upd (gA (sA (sA q 30 (upd (gA q 30) w0 (gA q 30 w1))) 31 (upd (gA (sA q 30 (upd (gA q 30) w0 (gA q 30 w1))) 31) w0 (gA (sA q 30 (upd (gA q 30) w0 (gA q 30 w1))) 31 w1))) 32) w0 (gA (sA (sA q 30 (upd (gA q 30) w0 (gA q 30 w1))) 31 (upd (gA (sA q 30 (upd (gA q 30) w0 (gA q 30 w1))) 31) w0 (gA (sA q 30 (upd (gA q 30) w0 (gA q 30 w1))) 31 w1))) 32 w1))) 33 (upd (gA (sA (sA (sA q 30 (upd (gA q 30) w0 (gA q 30 w1))) 31 (upd (gA (sA q 30 (upd (gA q 30) w0 (gA q 30 w1))) 31) w0 (gA (sA q 30 (upd (gA q 30) w0 (gA q 30 w1))) 31 w1))) 32 (upd (gA (sA (sA q 30 (upd (gA q 30) w0 (gA q 30 w1))) 31 (upd (gA (sA q 30 (upd (gA q 30) w0 (gA q 30 w1))) 31) w0 (gA (sA q 30 (upd (gA q 30) w0 (gA q 30 w1))) 31 w1))) 32) w0 (gA (sA (sA q 30 (upd (gA q 30) w0 (gA q 30 w1))) 31 (upd (gA (sA q 30 (upd (gA q 30) w0 (gA q 30 w1))) 31) w0 (gA (sA q 30 (upd (gA q 30) w0 (gA q 30 w1))) 31 w1))) 32 w1))) 33) w0 (gA (sA (sA (sA q 30 (upd (gA q 30) w0 (gA q 30 w1))) 31 (upd (gA (sA q 30 (upd (gA q 30) w0 (gA q 30 w1))) 31) w0 (gA (sA q 30 (upd (gA q 30) w0 (gA q 30 w1))) 31 w1))) 32 (upd (gA (sA (sA q 30 (upd (gA q 30) w0 (gA q 30 w1))) 31 (upd (gA (sA q 30 (upd (gA q 30) w0 (gA q 30 w1))) 31) w0 (gA (sA q 30 (upd (gA q 30) w0 (gA q 30 w1))) 31 w1))) 32) w0 (gA (sA (sA q 30 (upd (gA q 30) w0 (gA q 30 w1))) 31 (upd (gA (sA q 30 (upd (gA q 30) w0 (gA q 30 w1))) 31) w0 (gA (sA q 30 (upd (gA q 30) w0 (gA q 30 w1))) 31 w1))) 32 w1))) 33 w1))) 34 w1))) 35) w0 (gA (sA (sA (sA (sA (sA q 30 (upd (gA q 30) w0 (gA q 30 w1))) 31 (upd (gA (sA q 30 (upd (gA q 30) w0 (gA q 30 w1))) 31) w0 (gA (sA q 30 (upd (gA q 30) w0 (gA q 30 w1))) 31 w1))) 32 (upd (gA (sA (sA q 30 (upd (gA q 30) w0 (gA q 30 w1))) 31 (upd (gA (sA q 30 (upd (gA q 30) w0 (gA q 30 w1))) 31) w0 (gA (sA q 30 (upd (gA q 30) w0 (gA q 30 w1))) 31 w1))) 32) w0 (gA (sA (sA q 30 (upd (gA q 30) w0 (gA q 30 w1))) 31 (upd (gA (sA q 30 (upd (gA q 30) w0 (gA q 30 w1))) 31) w0 (gA (sA q 30 (upd (gA q 30) w0 (gA q 30 w1))) 31 w1))) 32 w1))) 33 (upd (gA (sA (sA (sA q 30 (upd (gA q 30) w0 (gA q 30 w1))) 31 (upd (gA (sA q 30 (upd (gA q 30) w0 (gA q 30 w1))) 31) w0 (gA (sA q 30 (upd (gA q 30) w0 (gA q 30 w1))) 31 w1))) 32 (upd (gA (sA (sA q 30 (upd (gA q 30) w0 (gA q 30 w1))) 31 (upd (gA (sA q 30 (upd (gA q 30) w0 (gA q 30 w1))) 31) w0 (gA (sA q 30 (upd (gA q 30) w0 (gA q 30 w1))) 31 w1))) 32) w0 (gA (sA (sA q 30 (upd (gA q 30) w0 (gA q 30 w1))) 31 (upd (gA (sA q 30 (upd (gA q 30) w0 (gA q 30 w1))) 31) w0 (gA (sA q 30 (upd (gA q 30) w0 (gA q 30 w1))) 31 w1))) 32 w1))) 33) w0 (gA (sA (sA (sA q 30 (upd (gA q 30) w0 (gA q 30 w1))) 31 (upd (gA (sA q 30 (upd (gA q 30) w0 (gA q 30 w1))) 31) w0 (gA (sA q 30 (upd (gA q 30) w0 (gA q 30 w1))) 31 w1))) 32 (upd (gA (sA (sA q 30 (upd (gA q 30) w0 (gA q 30 w1))) 31 (upd (gA (sA q 30 (upd (gA q 30) w0 (gA q 30 w1))) 31) w0 (gA (sA q 30 (upd (gA q 30) w0 (gA q 30 w1))) 31 w1))) 32) w0 (gA (sA (sA q 30 (upd (gA q 30) w0 (gA q 30 w1))) 31 (upd (gA (sA q 30 (upd (gA q 30) w0 (gA q 30 w1))) 31) w0 (gA (sA q 30 (upd (gA q 30) w0 (gA q 30 w1))) 31 w1))) 32 w1))) 33 w1))) 34 (upd (gA (sA (sA (sA (sA q 30 (upd (gA q 30) w0 (gA q 30 w1))) 31 (upd (gA (sA q 30 (upd (gA q 30) w0 (gA q 30 w1))) 31) w0 (gA (sA q 30 (upd (gA q 30) w0 (gA q 30 w1))) 31 w1))) 32 (upd (gA (sA (sA q 30 (upd (gA q 30) w0 (gA q 30 w1))) 31 (upd (gA (sA q 30 (upd (gA q 30) w0 (gA q 30 w1))) 31) w0 (gA (sA q 30 (upd (gA q 30) w0 (gA q 30 w1))) 31 w1))) 32) w0 (gA (sA (sA q 30 (upd (gA q 30) w0 (gA q 30 w1))) 31 (upd (gA (sA q 30 (upd (gA q 30) w0 (gA q 30 w1))) 31) w0 (gA (sA q 30 (upd (gA q 30) w0 (gA q 30 w1))) 31 w1))) 32 w1))) 33 (upd (gA (sA (sA (sA q 30 (upd (gA q 30) w0 (gA q 30 w1))) 31 (upd (gA (sA q 30 (upd (gA q 30) w0 (gA q 30 w1))) 31) w0 (gA (sA q 30 (upd (gA q 30) w0 (gA q 30 w1))) 31 w1))) 32 (upd (gA (sA (sA q 30 (upd (gA q 30) w0 (gA q 30 w1))) 31 (upd (gA (sA q 30 (upd (gA q 30) w0 (gA q 30 w1))) 31) w0 (gA (sA q 30 (upd (gA q 30) w0 (gA q 30 w1))) 31 w1))) 32) w0 (gA (sA (sA q 30 (upd (gA q 30) w0 (gA q 30 w1))) 31 (upd (gA (sA q 30 (upd (gA q 30) w0 (gA q 30 w1))) 31) w0 (gA (sA q 30 (upd (gA q 30) w0 (gA q 30 w1))) 31 w1))) 32 w1))) 33) w0 (gA (sA (sA (sA q 30 (upd (gA q 30) w0 (gA q 30 w1))) 31 (upd (gA (sA q 30 (upd (gA q 30) w0 (gA q 30 w1))) 31) w0 (gA (sA q 30 (upd (gA q 30) w0 (gA q 30 w1))) 31 w1))) 32 (upd (gA (sA (sA q 30 (upd (gA q 30) w0 (gA q 30 w1))) 31 (upd (gA (sA q 30 (upd (gA q 30) w0 (gA q 30 w1))) 31) w0 (gA (sA q 30 (upd (gA q 30) w0 (gA q 30 w1))) 31 w1))) 32) w0 (gA (sA (sA q 30 (upd (gA q 30) w0 (gA q 30 w1))) 31 (upd (gA (sA q 30 (upd (gA q 30) w0 (gA q 30 w1))) 31) w0 (gA (sA q 30 (upd (gA q 30) w0 (gA q 30 w1))) 31 w1))) 32 w1))) 33 w1))) 34) w0 (gA (sA (sA (sA (sA q 30 (upd (gA q 30) w0 (gA q 30 w1))) 31 (upd (gA (sA q 30 (upd (gA q 30) w0 (gA q 30 w1))) 31) w0 (gA (sA q 30 (upd (gA q 30) w0 (gA q 30 w1))) 31 w1))) 32 (upd (gA (sA (sA q 30 (upd (gA q 30) w0 (gA q 30 w1))) 31 (upd (gA (sA q 30 (upd (gA q 30) w0 (gA q 30 w1))) 31) w0 (gA (sA q 30 (upd (gA q 30) w0 (gA q 30 w1))) 31 w1))) 32) w0 (gA (sA (sA q 30 (upd (gA q 30) w0 (gA q 30 w1))) 31 (upd (gA (sA q 30 (upd (gA q 30) w0 (gA q 30 w1))) 31) w0 (gA (sA q 30 (upd (gA q 30) w0 (gA q 30 w1))) 31 w1))) 32 w1))) 33 (upd (gA (sA (sA (sA q 30 (upd (gA q 30) w0 (gA q 30 w1))) 31 (upd (gA (sA q 30 (upd (gA q 30) w0 (gA q 30 w1))) 31) w0 (gA (sA q 30 (upd (gA q 30) w0 (gA q 30 w1))) 31 w1))) 32 (upd (gA (sA (sA q 30 (upd (gA q 30) w0 (gA q 30 w1))) 31 (upd (gA (sA q 30 (upd (gA q 30) w0 (gA q 30 w1))) 31) w0 (gA (sA q 30 (upd (gA q 30) w0 (gA q 30 w1))) 31 w1))) 32) w0 (gA (sA (sA q 30 (upd (gA q 30) w0 (gA q 30 w1))) 31 (upd (gA (sA q 30 (upd (gA q 30) w0 (gA q 30 w1))) 31) w0 (gA (sA q 30 (upd (gA q 30) w0 (gA q 30 w1))) 31 w1))) 32 w1))) 33) w0 (gA (sA (sA (sA q 30 (upd (gA q 30) w0 (gA q 30 w1))) 31 (upd (gA (sA q 30 (upd (gA q 30) w0 (gA q 30 w1))) 31) w0 (gA (sA q 30 (upd (gA q 30) w0 (gA q 30 w1))) 31 w1))) 32 (upd (gA (sA (sA q 30 (upd (gA q 30) w0 (gA q 30 w1))) 31 (upd (gA (sA q 30 (upd (gA q 30) w0 (gA q 30 w1))) 31) w0 (gA (sA q 30 (upd (gA q 30) w0 (gA q 30 w1))) 31 w1))) 32) w0 (gA (sA (sA q 30 (upd (gA q 30) w0 (gA q 30 w1))) 31 (upd (gA (sA q 30 (upd (gA q 30) w0 (gA q 30 w1))) 31) w0 (gA (sA q 30 (upd (gA q 30) w0 (gA q 30 w1))) 31 w1))) 32 w1))) 33 w1))) 34 w1))) 35 w1))) 36 w1)) S hK h50 inX9 6 (by decide) q4_46 rfl rfl dX9_copyFrom_50 ?_
  have h53_w := And.left hok
  have hok := And.right hok
  refine z_putW S hK h53_w inX9 6 (by decide) q4_46 rfl rfl rfl rfl dX9_copyFrom_53 ?_
  exact b56 (sA (sA (sA (sA (sA (sA (sA q 30 (upd (gA q 30) w0 (gA q 30 w1))) 31 (upd (gA (sA q 30 (upd (gA q 30) w0 (gA q 30 w1))) 31) w0 (gA (sA q 30 (upd (gA q 30) w0 (gA q 30 w1))) 31 w1))) 32 (upd (gA (sA (sA q 30 (upd (gA q 30) w0 (gA q 30 w1))) 31 (upd (gA (sA q 30 (upd (gA q 30) w0 (gA q 30 w1))) 31) w0 (gA (sA q 30 (upd (gA q 30) w0 (gA q 30 w1))) 31 w1))) 32) w0 (gA (sA (sA q 30 (upd (gA q 30) w0 (gA q 30 w1))) 31 (upd (gA (sA q 30 (upd (gA q 30) w0 (gA q 30 w1))) 31) w0 (gA (sA q 30 (upd (gA q 30) w0 (gA q 30 w1))) 31 w1))) 32 w1))) 33 (upd (gA (sA (sA (sA q 30 (upd (gA q 30) w0 (gA q 30 w1))) 31 (upd (gA (sA q 30 (upd (gA q 30) w0 (gA q 30 w1))) 31) w0 (gA (sA q 30 (upd (gA q 30) w0 (gA q 30 w1))) 31 w1))) 32 (upd (gA (sA (sA q 30 (upd (gA q 30) w0 (gA q 30 w1))) 31 (upd (gA (sA q 30 (upd (gA q 30) w0 (gA q 30 w1))) 31) w0 (gA (sA q 30 (upd (gA q 30) w0 (gA q 30 w1))) 31 w1))) 32) w0 (gA (sA (sA q 30 (upd (gA q 30) w0 (gA q 30 w1))) 31 (upd (gA (sA q 30 (upd (gA q 30) w0 (gA q 30 w1))) 31) w0 (gA (sA q 30 (upd (gA q 30) w0 (gA q 30 w1))) 31 w1))) 32 w1))) 33) w0 (gA (sA (sA (sA q 30 (upd (gA q 30) w0 (gA q 30 w1))) 31 (upd (gA (sA q 30 (upd (gA q 30) w0 (gA q 30 w1))) 31) w0 (gA (sA q 30 (upd (gA q 30) w0 (gA q 30 w1))) 31 w1))) 32 (upd (gA (sA (sA q 30 (upd (gA q 30) w0 (gA q 30 w1))) 31 (upd (gA (sA q 30 (upd (gA q 30) w0 (gA q 30 w1))) 31) w0 (gA (sA q 30 (upd (gA q 30) w0 (gA q 30 w1))) 31 w1))) 32) w0 (gA (sA (sA q 30 (upd (gA q 30) w0 (gA q 30 w1))) 31 (upd (gA (sA q 30 (upd (gA q 30) w0 (gA q 30 w1))) 31) w0 (gA (sA q 30 (upd (gA q 30) w0 (gA q 30 w1))) 31 w1))) 32 w1))) 33 w1))) 34 (upd (gA (sA (sA (sA (sA q 30 (upd (gA q 30) w0 (gA q 30 w1))) 31 (upd (gA (sA q 30 (upd (gA q 30) w0 (gA q 30 w1))) 31) w0 (gA (sA q 30 (upd (gA q 30) w0 (gA q 30 w1))) 31 w1))) 32 (upd (gA (sA (sA q 30 (upd (gA q 30) w0 (gA q 30 w1))) 31 (upd (gA (sA q 30 (upd (gA q 30) w0 (gA q 30 w1))) 31) w0 (gA (sA q 30 (upd (gA q 30) w0 (gA q 30 w1))) 31 w1))) 32) w0 (gA (sA (sA q 30 (upd (gA q 30) w0 (gA q 30 w1))) 31 (upd (gA (sA q 30 (upd (gA q 30) w0 (gA q 30 w1))) 31) w0 (gA (sA q 30 (upd (gA q 30) w0 (gA q 30 w1))) 31 w1))) 32 w1))) 33 (upd (gA (sA (sA (sA q 30 (upd (gA q 30) w0 (gA q 30 w1))) 31 (upd (gA (sA q 30 (upd (gA q 30) w0 (gA q 30 w1))) 31) w0 (gA (sA q 30 (upd (gA q 30) w0 (gA q 30 w1))) 31 w1))) 32 (upd (gA (sA (sA q 30 (upd (gA q 30) w0 (gA q 30 w1))) 31 (upd (gA (sA q 30 (upd (gA q 30) w0 (gA q 30 w1))) 31) w0 (gA (sA q 30 (upd (gA q 30) w0 (gA q 30 w1))) 31 w1))) 32) w0 (gA (sA (sA q 30 (upd (gA q 30) w0 (gA q 30 w1))) 31 (upd (gA (sA q 30 (upd (gA q 30) w0 (gA q 30 w1))) 31) w0 (gA (sA q 30 (upd (gA q 30) w0 (gA q 30 w1))) 31 w1))) 32 w1))) 33) w0 (gA (sA (sA (sA q 30 (upd (gA q 30) w0 (gA q 30 w1))) 31 (upd (gA (sA q 30 (upd (gA q 30) w0 (gA q 30 w1))) 31) w0 (gA (sA q 30 (upd (gA q 30) w0 (gA q 30 w1))) 31 w1))) 32 (upd (gA (sA (sA q 30 (upd (gA q 30) w0 (gA q 30 w1))) 31 (upd (gA (sA q 30 (upd (gA q 30) w0 (gA q 30 w1))) 31) w0 (gA (sA q 30 (upd (gA q 30) w0 (gA q 30 w1))) 31 w1))) 32) w0 (gA (sA (sA q 30 (upd (gA q 30) w0 (gA q 30 w1))) 31 (upd (gA (sA q 30 (upd (gA q 30) w0 (gA q 30 w1))) 31) w0 (gA (sA q 30 (upd (gA q 30) w0 (gA q 30 w1))) 31 w1))) 32 w1))) 33 w1))) 34) w0 (gA (sA (sA (sA (sA q 30 (upd (gA q 30) w0 (gA q 30 w1))) 31 (upd (gA (sA q 30 (upd (gA q 30) w0 (gA q 30 w1))) 31) w0 (gA (sA q 30 (upd (gA q 30) w0 (gA q 30 w1))) 31 w1))) 32 (upd (gA (sA (sA q 30 (upd (gA q 30) w0 (gA q 30 w1))) 31 (upd (gA (sA q 30 (upd (gA q 30) w0 (gA q 30 w1))) 31) w0 (gA (sA q 30 (upd (gA q 30) w0 (gA q 30 w1))) 31 w1))) 32) w0 (gA (sA (sA q 30 (upd (gA q 30) w0 (gA q 30 w1))) 31 (upd (gA (sA q 30 (upd (gA q 30) w0 (gA q 30 w1))) 31) w0 (gA (sA q 30 (upd (gA q 30) w0 (gA q 30 w1))) 31 w1))) 32 w1))) 33 (upd (gA (sA (sA (sA q 30 (upd (gA q 30) w0 (gA q 30 w1))) 31 (upd (gA (sA q 30 (upd (gA q 30) w0 (gA q 30 w1))) 31) w0 (gA (sA q 30 (upd (gA q 30) w0 (gA q 30 w1))) 31 w1))) 32 (upd (gA (sA (sA q 30 (upd (gA q 30) w0 (gA q 30 w1))) 31 (upd (gA (sA q 30 (upd (gA q 30) w0 (gA q 30 w1))) 31) w0 (gA (sA q 30 (upd (gA q 30) w0 (gA q 30 w1))) 31 w1))) 32) w0 (gA (sA (sA q 30 (upd (gA q 30) w0 (gA q 30 w1))) 31 (upd (gA (sA q 30 (upd (gA q 30) w0 (gA q 30 w1))) 31) w0 (gA (sA q 30 (upd (gA q 30) w0 (gA q 30 w1))) 31 w1))) 32 w1))) 33) w0 (gA (sA (sA (sA q 30 (upd (gA q 30) w0 (gA q 30 w1))) 31 (upd (gA (sA q 30 (upd (gA q 30) w0 (gA q 30 w1))) 31) w0 (gA (sA q 30 (upd (gA q 30) w0 (gA q 30 w1))) 31 w1))) 32 (upd (gA (sA (sA q 30 (upd (gA q 30) w0 (gA q 30 w1))) 31 (upd (gA (sA q 30 (upd (gA q 30) w0 (gA q 30 w1))) 31) w0 (gA (sA q 30 (upd (gA q 30) w0 (gA q 30 w1))) 31 w1))) 32) w0 (gA (sA (sA q 30 (upd (gA q 30) w0 (gA q 30 w1))) 31 (upd (gA (sA q 30 (upd (gA q 30) w0 (gA q 30 w1))) 31) w0 (gA (sA q 30 (upd (gA q 30) w0 (gA q 30 w1))) 31 w1))) 32 w1))) 33 w1))) 34 w1))) 35 (upd (gA (sA (sA (sA (sA (sA q 30 (upd (gA q 30) w0 (gA q 30 w1))) 31 (upd (gA (sA q 30 (upd (gA q 30) w0 (gA q 30 w1))) 31) w0 (gA (sA q 30 (upd (gA q 30) w0 (gA q 30 w1))) 31 w1))) 32 (upd (gA (sA (sA q 30 (upd (gA q 30) w0 (gA q 30 w1))) 31 (upd (gA (sA q 30 (upd (gA q 30) w0 (gA q 30 w1))) 31) w0 (gA (sA q 30 (upd (gA q 30) w0 (gA q 30 w1))) 31 w1))) 32) w0 (gA (sA (sA q 30 (upd (gA q 30) w0 (gA q 30 w1))) 31 (upd (gA (sA q 30 (upd (gA q 30) w0 (gA q 30 w1))) 31) w0 (gA (sA q 30 (upd (gA q 30) w0 (gA q 30 w1))) 31 w1))) 32 w1))) 33 (upd (gA (sA (sA (sA q 30 (upd (gA q 30) w0 (gA q 30 w1))) 31 (upd (gA (sA q 30 (upd (gA q 30) w0 (gA q 30 w1))) 31) w0 (gA (sA q 30 (upd (gA q 30) w0 (gA q 30 w1))) 31 w1))) 32 (upd (gA (sA (sA q 30 (upd (gA q 30) w0 (gA q 30 w1))) 31 (upd (gA (sA q 30 (upd (gA q 30) w0 (gA q 30 w1))) 31) w0 (gA (sA q 30 (upd (gA q 30) w0 (gA q 30 w1))) 31 w1))) 32) w0 (gA (sA (sA q 30 (upd (gA q 30) w0 (gA q 30 w1))) 31 (upd (gA (sA q 30 (upd (gA q 30) w0 (gA q 30 w1))) 31) w0 (gA (sA q 30 (upd (gA q 30) w0 (gA q 30 w1))) 31 w1))) 32 w1))) 33) w0 (gA (sA (sA (sA q 30 (upd (gA q 30) w0 (gA q 30 w1))) 31 (upd (gA (sA q 30 (upd (gA q 30) w0 (gA q 30 w1))) 31) w0 (gA (sA q 30 (upd (gA q 30) w0 (gA q 30 w1))) 31 w1))) 32 (upd (gA (sA (sA q 30 (upd (gA q 30) w0 (gA q 30 w1))) 31 (upd (gA (sA q 30 (upd (gA q 30) w0 (gA q 30 w1))) 31) w0 (gA (sA q 30 (upd (gA q 30) w0 (gA q 30 w1))) 31 w1))) 32) w0 (gA (sA (sA q 30 (upd (gA q 30) w0 (gA q 30 w1))) 31 (upd (gA (sA q 30 (upd (gA q 30) w0 (gA q 30 w1))) 31) w0 (gA (sA q 30 (upd (gA q 30) w0 (gA q 30 w1))) 31 w1))) 32 w1))) 33 w1))) 34 (upd (gA (sA (sA (sA (sA q 30 (upd (gA q 30) w0 (gA q 30 w1))) 31 (upd (gA (sA q 30 (upd (gA q 30) w0 (gA q 30 w1))) 31) w0 (gA (sA q 30 (upd (gA q 30) w0 (gA q 30 w1))) 31 w1))) 32 (upd (gA (sA (sA q 30 (upd (gA q 30) w0 (gA q 30 w1))) 31 (upd (gA (sA q 30 (upd (gA q 30) w0 (gA q 30 w1))) 31) w0 (gA (sA q 30 (upd (gA q 30) w0 (gA q 30 w1))) 31 w1))) 32) w0 (gA (sA (sA q 30 (upd (gA q 30) w0 (gA q 30 w1))) 31 (upd (gA (sA q 30 (upd (gA q 30) w0 (gA q 30 w1))) 31) w0 (gA (sA q 30 (upd (gA q 30) w0 (gA q 30 w1))) 31 w1))) 32 w1))) 33 (upd (gA (sA (sA (sA q 30 (upd (gA q 30) w0 (gA q 30 w1))) 31 (upd (gA (sA q 30 (upd (gA q 30) w0 (gA q 30 w1))) 31) w0 (gA (sA q 30 (upd (gA q 30) w0 (gA q 30 w1))) 31 w1))) 32 (upd (gA (sA (sA q 30 (upd (gA q 30) w0 (gA q 30 w1))) 31 (upd (gA (sA q 30 (upd (gA q 30) w0 (gA q 30 w1))) 31) w0 (gA (sA q 30 (upd (gA q 30) w0 (gA q 30 w1))) 31 w1))) 32) w0 (gA (sA (sA q 30 (upd (gA q 30) w0 (gA q 30 w1))) 31 (upd (gA (sA q 30 (upd (gA q 30) w0 (gA q 30 w1))) 31) w0 (gA (sA q 30 (upd (gA q 30) w0 (gA q 30 w1))) 31 w1))) 32 w1))) 33) w0 (gA (sA (sA (sA q 30 (upd (gA q 30) w0 (gA q 30 w1))) 31 (upd (gA (sA q 30 (upd (gA q 30) w0 (gA q 30 w1))) 31) w0 (gA (sA q 30 (upd (gA q 30) w0 (gA q 30 w1))) 31 w1))) 32 (upd (gA (sA (sA q 30 (upd (gA q 30) w0 (gA q 30 w1))) 31 (upd (gA (sA q 30 (upd (gA q 30) w0 (gA q 30 w1))) 31) w0 (gA (sA q 30 (upd (gA q 30) w0 (gA q 30 w1))) 31 w1))) 32) w0 (gA (sA (sA q 30 (upd (gA q 30) w0 (gA q 30 w1))) 31 (upd (gA (sA q 30 (upd (gA q 30) w0 (gA q 30 w1))) 31) w0 (gA (sA q 30 (upd (gA q 30) w0 (gA q 30 w1))) 31 w1))) 32 w1))) 33 w1))) 34) w0 (gA (sA (sA (sA (sA q 30 (upd (gA q 30) w0 (gA q 30 w1))) 31 (upd (gA (sA q 30 (upd (gA q 30) w0 (gA q 30 w1))) 31) w0 (gA (sA q 30 (upd (gA q 30) w0 (gA q 30 w1))) 31 w1))) 32 (upd (gA (sA (sA q 30 (upd (gA q 30) w0 (gA q 30 w1))) 31 (upd (gA (sA q 30 (upd (gA q 30) w0 (gA q 30 w1))) 31) w0 (gA (sA q 30 (upd (gA q 30) w0 (gA q 30 w1))) 31 w1))) 32) w0 (gA (sA (sA q 30 (upd (gA q 30) w0 (gA q 30 w1))) 31 (upd (gA (sA q 30 (upd (gA q 30) w0 (gA q 30 w1))) 31) w0 (gA (sA q 30 (upd (gA q 30) w0 (gA q 30 w1))) 31 w1))) 32 w1))) 33 (upd (gA (sA (sA (sA q 30 (upd (gA q 30) w0 (gA q 30 w1))) 31 (upd (gA (sA q 30 (upd (gA q 30) w0 (gA q 30 w1))) 31) w0 (gA (sA q 30 (upd (gA q 30) w0 (gA q 30 w1))) 31 w1))) 32 (upd (gA (sA (sA q 30 (upd (gA q 30) w0 (gA q 30 w1))) 31 (upd (gA (sA q 30 (upd (gA q 30) w0 (gA q 30 w1))) 31) w0 (gA (sA q 30 (upd (gA q 30) w0 (gA q 30 w1))) 31 w1))) 32) w0 (gA (sA (sA q 30 (upd (gA q 30) w0 (gA q 30 w1))) 31 (upd (gA (sA q 30 (upd (gA q 30) w0 (gA q 30 w1))) 31) w0 (gA (sA q 30 (upd (gA q 30) w0 (gA q 30 w1))) 31 w1))) 32 w1))) 33) w0 (gA (sA (sA (sA q 30 (upd (gA q 30) w0 (gA q 30 w1))) 31 (upd (gA (sA q 30 (upd (gA q 30) w0 (gA q 30 w1))) 31) w0 (gA (sA q 30 (upd (gA q 30) w0 (gA q 30 w1))) 31 w1))) 32 (upd (gA (sA (sA q 30 (upd (gA q 30) w0 (gA q 30 w1))) 31 (upd (gA (sA q 30 (upd (gA q 30) w0 (gA q 30 w1))) 31) w0 (gA (sA q 30 (upd (gA q 30) w0 (gA q 30 w1))) 31 w1))) 32) w0 (gA (sA (sA q 30 (upd (gA q 30) w0 (gA q 30 w1))) 31 (upd (gA (sA q 30 (upd (gA q 30) w0 (gA q 30 w1))) 31) w0 (gA (sA q 30 (upd (gA q 30) w0 (gA q 30 w1))) 31 w1))) 32 w1))) 33 w1))) 34 w1))) 35) w0 (gA (sA (sA (sA (sA (sA q 30 (upd (gA q 30) w0 (gA q 30 w1))) 31 (upd (gA (sA q 30 (upd (gA q 30) w0 (gA q 30 w1))) 31) w0 (gA (sA q 30 (upd (gA q 30) w0 (gA q 30 w1))) 31 w1))) 32 (upd (gA (sA (sA q 30 (upd (gA q 30) w0 (gA q 30 w1))) 31 (upd (gA (sA q 30 (upd (gA q 30) w0 (gA q 30 w1))) 31) w0 (gA (sA q 30 (upd (gA q 30) w0 (gA q 30 w1))) 31 w1))) 32) w0 (gA (sA (sA q 30 (upd (gA q 30) w0 (gA q 30 w1))) 31 (upd (gA (sA q 30 (upd (gA q 30) w0 (gA q 30 w1))) 31) w0 (gA (sA q 30 (upd (gA q 30) w0 (gA q 30 w1))) 31 w1))) 32 w1))) 33 (upd (gA (sA (sA (sA q 30 (upd (gA q 30) w0 (gA q 30 w1))) 31 (upd (gA (sA q 30 (upd (gA q 30) w0 (gA q 30 w1))) 31) w0 (gA (sA q 30 (upd (gA q 30) w0 (gA q 30 w1))) 31 w1))) 32 (upd (gA (sA (sA q 30 (upd (gA q 30) w0 (gA q 30 w1))) 31 (upd (gA (sA q 30 (upd (gA q 30) w0 (gA q 30 w1))) 31) w0 (gA (sA q 30 (upd (gA q 30) w0 (gA q 30 w1))) 31 w1))) 32) w0 (gA (sA (sA q 30 (upd (gA q 30) w0 (gA q 30 w1))) 31 (upd (gA (sA q 30 (upd (gA q 30) w0 (gA q 30 w1))) 31) w0 (gA (sA q 30 (upd (gA q 30) w0 (gA q 30 w1))) 31 w1))) 32 w1))) 33) w0 (gA (sA (sA (sA q 30 (upd (gA q 30) w0 (gA q 30 w1))) 31 (upd (gA (sA q 30 (upd (gA q 30) w0 (gA q 30 w1))) 31) w0 (gA (sA q 30 (upd (gA q 30) w0 (gA q 30 w1))) 31 w1))) 32 (upd (gA (sA (sA q 30 (upd (gA q 30) w0 (gA q 30 w1))) 31 (upd (gA (sA q 30 (upd (gA q 30) w0 (gA q 30 w1))) 31) w0 (gA (sA q 30 (upd (gA q 30) w0 (gA q 30 w1))) 31 w1))) 32) w0 (gA (sA (sA q 30 (upd (gA q 30) w0 (gA q 30 w1))) 31 (upd (gA (sA q 30 (upd (gA q 30) w0 (gA q 30 w1))) 31) w0 (gA (sA q 30 (upd (gA q 30) w0 (gA q 30 w1))) 31 w1))) 32 w1))) 33 w1))) 34 (upd (gA (sA (sA (sA (sA q 30 (upd (gA q 30) w0 (gA q 30 w1))) 31 (upd (gA (sA q 30 (upd (gA q 30) w0 (gA q 30 w1))) 31) w0 (gA (sA q 30 (upd (gA q 30) w0 (gA q 30 w1))) 31 w1))) 32 (upd (gA (sA (sA q 30 (upd (gA q 30) w0 (gA q 30 w1))) 31 (upd (gA (sA q 30 (upd (gA q 30) w0 (gA q 30 w1))) 31) w0 (gA (sA q 30 (upd (gA q 30) w0 (gA q 30 w1))) 31 w1))) 32) w0 (gA (sA (sA q 30 (upd (gA q 30) w0 (gA q 30 w1))) 31 (upd (gA (sA q 30 (upd (gA q 30) w0 (gA q 30 w1))) 31) w0 (gA (sA q 30 (upd (gA q 30) w0 (gA q 30 w1))) 31 w1))) 32 w1))) 33 (upd (gA (sA (sA (sA q 30 (upd (gA q 30) w0 (gA q 30 w1))) 31 (upd (gA (sA q 30 (upd (gA q 30) w0 (gA q 30 w1))) 31) w0 (gA (sA q 30 (upd (gA q 30) w0 (gA q 30 w1))) 31 w1))) 32 (upd (gA (sA (sA q 30 (upd (gA q 30) w0 (gA q 30 w1))) 31 (upd (gA (sA q 30 (upd (gA q 30) w0 (gA q 30 w1))) 31) w0 (gA (sA q 30 (upd (gA q 30) w0 (gA q 30 w1))) 31 w1))) 32) w0 (gA (sA (sA q 30 (upd (gA q 30) w0 (gA q 30 w1))) 31 (upd (gA (sA q 30 (upd (gA q 30) w0 (gA q 30 w1))) 31) w0 (gA (sA q 30 (upd (gA q 30) w0 (gA q 30 w1))) 31 w1))) 32 w1))) 33) w0 (gA (sA (sA (sA q 30 (upd (gA q 30) w0 (gA q 30 w1))) 31 (upd (gA (sA q 30 (upd (gA q 30) w0 (gA q 30 w1))) 31) w0 (gA (sA q 30 (upd (gA q 30) w0 (gA q 30 w1))) 31 w1))) 32 (upd (gA (sA (sA q 30 (upd (gA q 30) w0 (gA q 30 w1))) 31 (upd (gA (sA q 30 (upd (gA q 30) w0 (gA q 30 w1))) 31) w0 (gA (sA q 30 (upd (gA q 30) w0 (gA q 30 w1))) 31 w1))) 32) w0 (gA (sA (sA q 30 (upd (gA q 30) w0 (gA q 30 w1))) 31 (upd (gA (sA q 30 (upd (gA q 30) w0 (gA q 30 w1))) 31) w0 (gA (sA q 30 (upd (gA q 30) w0 (gA q 30 w1))) 31 w1))) 32 w1))) 33 w1))) 34) w0 (gA (sA (sA (sA (sA q 30 (upd (gA q 30) w0 (gA q 30 w1))) 31 (upd (gA (sA q 30 (upd (gA q 30) w0 (gA q 30 w1))) 31) w0 (gA (sA q 30 (upd (gA q 30) w0 (gA q 30 w1))) 31 w1))) 32 (upd (gA (sA (sA q 30 (upd (gA q 30) w0 (gA q 30 w1))) 31 (upd (gA (sA q 30 (upd (gA q 30) w0 (gA q 30 w1))) 31) w0 (gA (sA q 30 (upd (gA q 30) w0 (gA q 30 w1))) 31 w1))) 32) w0 (gA (sA (sA q 30 (upd (gA q 30) w0 (gA q 30 w1))) 31 (upd (gA (sA q 30 (upd (gA q 30) w0 (gA q 30 w1))) 31) w0 (gA (sA q 30 (upd (gA q 30) w0 (gA q 30 w1))) 31 w1))) 32 w1))) 33 (upd (gA (sA (sA (sA q 30 (upd (gA q 30) w0 (gA q 30 w1))) 31 (upd (gA (sA q 30 (upd (gA q 30) w0 (gA q 30 w1))) 31) w0 (gA (sA q 30 (upd (gA q 30) w0 (gA q 30 w1))) 31 w1))) 32 (upd (gA (sA (sA q 30 (upd (gA q 30) w0 (gA q 30 w1))) 31 (upd (gA (sA q 30 (upd (gA q 30) w0 (gA q 30 w1))) 31) w0 (gA (sA q 30 (upd (gA q 30) w0 (gA q 30 w1))) 31 w1))) 32) w0 (gA (sA (sA q 30 (upd (gA q 30) w0 (gA q 30 w1))) 31 (upd (gA (sA q 30 (upd (gA q 30) w0 (gA q 30 w1))) 31) w0 (gA (sA q 30 (upd (gA q 30) w0 (gA q 30 w1))) 31 w1))) 32 w1))) 33) w0 (gA (sA (sA (sA q 30 (upd (gA q 30) w0 (gA q 30 w1))) 31 (upd (gA (sA q 30 (upd (gA q 30) w0 (gA q 30 w1))) 31) w0 (gA (sA q 30 (upd (gA q 30) w0 (gA q 30 w1))) 31 w1))) 32 (upd (gA (sA (sA q 30 (upd (gA q 30) w0 (gA q 30 w1))) 31 (upd (gA (sA q 30 (upd (gA q 30) w0 (gA q 30 w1))) 31) w0 (gA (sA q 30 (upd (gA q 30) w0 (gA q 30 w1))) 31 w1))) 32) w0 (gA (sA (sA q 30 (upd (gA q 30) w0 (gA q 30 w1))) 31 (upd (gA (sA q 30 (upd (gA q 30) w0 (gA q 30 w1))) 31) w0 (gA (sA q 30 (upd (gA q 30) w0 (gA q 30 w1))) 31 w1))) 32 w1))) 33 w1))) 34 w1))) 35 w1))) 36 (upd (gA (sA (sA (sA (sA (sA (sA q 30 (upd (gA q 30) w0 (gA q 30 w1))) 31 (upd (gA (sA q 30 (upd (gA q 30) w0 (gA q 30 w1))) 31) w0 (gA (sA q 30 (upd (gA q 30) w0 (gA q 30 w1))) 31 w1))) 32 (upd (gA (sA (sA q 30 (upd (gA q 30) w0 (gA q 30 w1))) 31 (upd (gA (sA q 30 (upd (gA q 30) w0 (gA q 30 w1))) 31) w0 (gA (sA q 30 (upd (gA q 30) w0 (gA q 30 w1))) 31 w1))) 32) w0 (gA (sA (sA q 30 (upd (gA q 30) w0 (gA q 30 w1))) 31 (upd (gA (sA q 30 (upd (gA q 30) w0 (gA q 30 w1))) 31) w0 (gA (sA q 30 (upd (gA q 30) w0 (gA q 30 w1))) 31 w1))) 32 w1))) 33 (upd (gA (sA (sA (sA q 30 (upd (gA q 30) w0 (gA q 30 w1))) 31 (upd (gA (sA q 30 (upd (gA q 30) w0 (gA q 30 w1))) 31) w0 (gA (sA q 30 (upd (gA q 30) w0 (gA q 30 w1))) 31 w1))) 32 (upd (gA (sA (sA q 30 (upd (gA q 30) w0 (gA q 30 w1))) 31 (upd (gA (sA q 30 (upd (gA q 30) w0 (gA q 30 w1))) 31) w0 (gA (sA q 30 (upd (gA q 30) w0 (gA q 30 w1))) 31 w1))) 32) w0 (gA (sA (sA q 30 (upd (gA q 30) w0 (gA q 30 w1))) 31 (upd (gA (sA q 30 (upd (gA q 30) w0 (gA q 30 w1))) 31) w0 (gA (sA q 30 (upd (gA q 30) w0 (gA q 30 w1))) 31 w1))) 32 w1))) 33) w0 (gA (sA (sA (sA q 30 (upd (gA q 30) w0 (gA q 30 w1))) 31 (upd (gA (sA q 30 (upd (gA q 30) w0 (gA q 30 w1))) 31) w0 (gA (sA q 30 (upd (gA q 30) w0 (gA q 30 w1))) 31 w1))) 32 (upd (gA (sA (sA q 30 (upd (gA q 30) w0 (gA q 30 w1))) 31 (upd (gA (sA q 30 (upd (gA q 30) w0 (gA q 30 w1))) 31) w0 (gA (sA q 30 (upd (gA q 30) w0 (gA q 30 w1))) 31 w1))) 32) w0 (gA (sA (sA q 30 (upd (gA q 30) w0 (gA q 30 w1))) 31 (upd (gA (sA q 30 (upd (gA q 30) w0 (gA q 30 w1))) 31) w0 (gA (sA q 30 (upd (gA q 30) w0 (gA q 30 w1))) 31 w1))) 32 w1))) 33 w1))) 34 (upd (gA (sA (sA (sA (sA q 30 (upd (gA q 30) w0 (gA q 30 w1))) 31 (upd (gA (sA q 30 (upd (gA q 30) w0 (gA q 30 w1))) 31) w0 (gA (sA q 30 (upd (gA q 30) w0 (gA q 30 w1))) 31 w1))) 32 (upd (gA (sA (sA q 30 (upd (gA q 30) w0 (gA q 30 w1))) 31 (upd (gA (sA q 30 (upd (gA q 30) w0 (gA q 30 w1))) 31) w0 (gA (sA q 30 (upd (gA q 30) w0 (gA q 30 w1))) 31 w1))) 32) w0 (gA (sA (sA q 30 (upd (gA q 30) w0 (gA q 30 w1))) 31 (upd (gA (sA q 30 (upd (gA q 30) w0 (gA q 30 w1))) 31) w0 (gA (sA q 30 (upd (gA q 30) w0 (gA q 30 w1))) 31 w1))) 32 w1))) 33 (upd (gA (sA (sA (sA q 30 (upd (gA q 30) w0 (gA q 30 w1))) 31 (upd (gA (sA q 30 (upd (gA q 30) w0 (gA q 30 w1))) 31) w0 (gA (sA q 30 (upd (gA q 30) w0 (gA q 30 w1))) 31 w1))) 32 (upd (gA (sA (sA q 30 (upd (gA q 30) w0 (gA q 30 w1))) 31 (upd (gA (sA q 30 (upd (gA q 30) w0 (gA q 30 w1))) 31) w0 (gA (sA q 30 (upd (gA q 30) w0 (gA q 30 w1))) 31 w1))) 32) w0 (gA (sA (sA q 30 (upd (gA q 30) w0 (gA q 30 w1))) 31 (upd (gA (sA q 30 (upd (gA q 30) w0 (gA q 30 w1))) 31) w0 (gA (sA q 30 (upd (gA q 30) w0 (gA q 30 w1))) 31 w1))) 32 w1))) 33) w0 (gA (sA (sA (sA q 30 (upd (gA q 30) w0 (gA q 30 w1))) 31 (upd (gA (sA q 30 (upd (gA q 30) w0 (gA q 30 w1))) 31) w0 (gA (sA q 30 (upd (gA q 30) w0 (gA q 30 w1))) 31 w1))) 32 (upd (gA (sA (sA q 30 (upd (gA q 30) w0 (gA q 30 w1))) 31 (upd (gA (sA q 30 (upd (gA q 30) w0 (gA q 30 w1))) 31) w0 (gA (sA q 30 (upd (gA q 30) w0 (gA q 30 w1))) 31 w1))) 32) w0 (gA (sA (sA q 30 (upd (gA q 30) w0 (gA q 30 w1))) 31 (upd (gA (sA q 30 (upd (gA q 30) w0 (gA q 30 w1))) 31) w0 (gA (sA q 30 (upd (gA q 30) w0 (gA q 30 w1))) 31 w1))) 32 w1))) 33 w1))) 34) w0 (gA (sA (sA (sA (sA q 30 (upd (gA q 30) w0 (gA q 30 w1))) 31 (upd (gA (sA q 30 (upd (gA q 30) w0 (gA q 30 w1))) 31) w0 (gA (sA q 30 (upd (gA q 30) w0 (gA q 30 w1))) 31 w1))) 32 (upd (gA (sA (sA q 30 (upd (gA q 30) w0 (gA q 30 w1))) 31 (upd (gA (sA q 30 (upd (gA q 30) w0 (gA q 30 w1))) 31) w0 (gA (sA q 30 (upd (gA q 30) w0 (gA q 30 w1))) 31 w1))) 32) w0 (gA (sA (sA q 30 (upd (gA q 30) w0 (gA q 30 w1))) 31 (upd (gA (sA q 30 (upd (gA q 30) w0 (gA q 30 w1))) 31) w0 (gA (sA q 30 (upd (gA q 30) w0 (gA q 30 w1))) 31 w1))) 32 w1))) 33 (upd (gA (sA (sA (sA q 30 (upd (gA q 30) w0 (gA q 30 w1))) 31 (upd (gA (sA q 30 (upd (gA q 30) w0 (gA q 30 w1))) 31) w0 (gA (sA q 30 (upd (gA q 30) w0 (gA q 30 w1))) 31 w1))) 32 (upd (gA (sA (sA q 30 (upd (gA q 30) w0 (gA q 30 w1))) 31 (upd (gA (sA q 30 (upd (gA q 30) w0 (gA q 30 w1))) 31) w0 (gA (sA q 30 (upd (gA q 30) w0 (gA q 30 w1))) 31 w1))) 32) w0 (gA (sA (sA q 30 (upd (gA q 30) w0 (gA q 30 w1))) 31 (upd (gA (sA q 30 (upd (gA q 30) w0 (gA q 30 w1))) 31) w0 (gA (sA q 30 (upd (gA q 30) w0 (gA q 30 w1))) 31 w1))) 32 w1))) 33) w0 (gA (sA (sA (sA q 30 (upd (gA q 30) w0 (gA q 30 w1))) 31 (upd (gA (sA q 30 (upd (gA q 30) w0 (gA q 30 w1))) 31) w0 (gA (sA q 30 (upd (gA q 30) w0 (gA q 30 w1))) 31 w1))) 32 (upd (gA (sA (sA q 30 (upd (gA q 30) w0 (gA q 30 w1))) 31 (upd (gA (sA q 30 (upd (gA q 30) w0 (gA q 30 w1))) 31) w0 (gA (sA q 30 (upd (gA q 30) w0 (gA q 30 w1))) 31 w1))) 32) w0 (gA (sA (sA q 30 (upd (gA q 30) w0 (gA q 30 w1))) 31 (upd (gA (sA q 30 (upd (gA q 30) w0 (gA q 30 w1))) 31) w0 (gA (sA q 30 (upd (gA q 30) w0 (gA q 30 w1))) 31 w1))) 32 w1))) 33 w1))) 34 w1))) 35 (upd (gA (sA (sA (sA (sA (sA q 30 (upd (gA q 30) w0 (gA q 30 w1))) 31 (upd (gA (sA q 30 (upd (gA q 30) w0 (gA q 30 w1))) 31) w0 (gA (sA q 30 (upd (gA q 30) w0 (gA q 30 w1))) 31 w1))) 32 (upd (gA (sA (sA q 30 (upd (gA q 30) w0 (gA q 30 w1))) 31 (upd (gA (sA q 30 (upd (gA q 30) w0 (gA q 30 w1))) 31) w0 (gA (sA q 30 (upd (gA q 30) w0 (gA q 30 w1))) 31 w1))) 32) w0 (gA (sA (sA q 30 (upd (gA q 30) w0 (gA q 30 w1))) 31 (upd (gA (sA q 30 (upd (gA q 30) w0 (gA q 30 w1))) 31) w0 (gA (sA q 30 (upd (gA q 30) w0 (gA q 30 w1))) 31 w1))) 32 w1))) 33 (upd (gA (sA (sA (sA q 30 (upd (gA q 30) w0 (gA q 30 w1))) 31 (upd (gA (sA q 30 (upd (gA q 30) w0 (gA q 30 w1))) 31) w0 (gA (sA q 30 (upd (gA q 30) w0 (gA q 30 w1))) 31 w1))) 32 (upd (gA (sA (sA q 30 (upd (gA q 30) w0 (gA q 30 w1))) 31 (upd (gA (sA q 30 (upd (gA q 30) w0 (gA q 30 w1))) 31) w0 (gA (sA q 30 (upd (gA q 30) w0 (gA q 30 w1))) 31 w1))) 32) w0 (gA (sA (sA q 30 (upd (gA q 30) w0 (gA q 30 w1))) 31 (upd (gA (sA q 30 (upd (gA q 30) w0 (gA q 30 w1))) 31) w0 (gA (sA q 30 (upd (gA q 30) w0 (gA q 30 w1))) 31 w1))) 32 w1))) 33) w0 (gA (sA (sA (sA q 30 (upd (gA q 30) w0 (gA q 30 w1))) 31 (upd (gA (sA q 30 (upd (gA q 30) w0 (gA q 30 w1))) 31) w0 (gA (sA q 30 (upd (gA q 30) w0 (gA q 30 w1))) 31 w1))) 32 (upd (gA (sA (sA q 30 (upd (gA q 30) w0 (gA q 30 w1))) 31 (upd (gA (sA q 30 (upd (gA q 30) w0 (gA q 30 w1))) 31) w0 (gA (sA q 30 (upd (gA q 30) w0 (gA q 30 w1))) 31 w1))) 32) w0 (gA (sA (sA q 30 (upd (gA q 30) w0 (gA q 30 w1))) 31 (upd (gA (sA q 30 (upd (gA q 30) w0 (gA q 30 w1))) 31) w0 (gA (sA q 30 (upd (gA q 30) w0 (gA q 30 w1))) 31 w1))) 32 w1))) 33 w1))) 34 (upd (gA (sA (sA (sA (sA q 30 (upd (gA q 30) w0 (gA q 30 w1))) 31 (upd (gA (sA q 30 (upd (gA q 30) w0 (gA q 30 w1))) 31) w0 (gA (sA q 30 (upd (gA q 30) w0 (gA q 30 w1))) 31 w1))) 32 (upd (gA (sA (sA q 30 (upd (gA q 30) w0 (gA q 30 w1))) 31 (upd (gA (sA q 30 (upd (gA q 30) w0 (gA q 30 w1))) 31) w0 (gA (sA q 30 (upd (gA q 30) w0 (gA q 30 w1))) 31 w1))) 32) w0 (gA (sA (sA q 30 (upd (gA q 30) w0 (gA q 30 w1))) 31 (upd (gA (sA q 30 (upd (gA q 30) w0 (gA q 30 w1))) 31) w0 (gA (sA q 30 (upd (gA q 30) w0 (gA q 30 w1))) 31 w1))) 32 w1))) 33 (upd (gA (sA (sA (sA q 30 (upd (gA q 30) w0 (gA q 30 w1))) 31 (upd (gA (sA q 30 (upd (gA q 30) w0 (gA q 30 w1))) 31) w0 (gA (sA q 30 (upd (gA q 30) w0 (gA q 30 w1))) 31 w1))) 32 (upd (gA (sA (sA q 30 (upd (gA q 30) w0 (gA q 30 w1))) 31 (upd (gA (sA q 30 (upd (gA q 30) w0 (gA q 30 w1))) 31) w0 (gA (sA q 30 (upd (gA q 30) w0 (gA q 30 w1))) 31 w1))) 32) w0 (gA (sA (sA q 30 (upd (gA q 30) w0 (gA q 30 w1))) 31 (upd (gA (sA q 30 (upd (gA q 30) w0 (gA q 30 w1))) 31) w0 (gA (sA q 30 (upd (gA q 30) w0 (gA q 30 w1))) 31 w1))) 32 w1))) 33) w0 (gA (sA (sA (sA q 30 (upd (gA q 30) w0 (gA q 30 w1))) 31 (upd (gA (sA q 30 (upd (gA q 30) w0 (gA q 30 w1))) 31) w0 (gA (sA q 30 (upd (gA q 30) w0 (gA q 30 w1))) 31 w1))) 32 (upd (gA (sA (sA q 30 (upd (gA q 30) w0 (gA q 30 w1))) 31 (upd (gA (sA q 30 (upd (gA q 30) w0 (gA q 30 w1))) 31) w0 (gA (sA q 30 (upd (gA q 30) w0 (gA q 30 w1))) 31 w1))) 32) w0 (gA (sA (sA q 30 (upd (gA q 30) w0 (gA q 30 w1))) 31 (upd (gA (sA q 30 (upd (gA q 30) w0 (gA q 30 w1))) 31) w0 (gA (sA q 30 (upd (gA q 30) w0 (gA q 30 w1))) 31 w1))) 32 w1))) 33 w1))) 34) w0 (gA (sA (sA (sA (sA q 30 (upd (gA q 30) w0 (gA q 30 w1))) 31 (upd (gA (sA q 30 (upd (gA q 30) w0 (gA q 30 w1))) 31) w0 (gA (sA q 30 (upd (gA q 30) w0 (gA q 30 w1))) 31 w1))) 32 (upd (gA (sA (sA q 30 (upd (gA q 30) w0 (gA q 30 w1))) 31 (upd (gA (sA q 30 (upd (gA q 30) w0 (gA q 30 w1))) 31) w0 (gA (sA q 30 (upd (gA q 30) w0 (gA q 30 w1))) 31 w1))) 32) w0 (gA (sA (sA q 30 (upd (gA q 30) w0 (gA q 30 w1))) 31 (upd (gA (sA q 30 (upd (gA q 30) w0 (gA q 30 w1))) 31) w0 (gA (sA q 30 (upd (gA q 30) w0 (gA q 30 w1))) 31 w1))) 32 w1))) 33 (upd (gA (sA (sA (sA q 30 (upd (gA q 30) w0 (gA q 30 w1))) 31 (upd (gA (sA q 30 (upd (gA q 30) w0 (gA q 30 w1))) 31) w0 (gA (sA q 30 (upd (gA q 30) w0 (gA q 30 w1))) 31 w1))) 32 (upd (gA (sA (sA q 30 (upd (gA q 30) w0 (gA q 30 w1))) 31 (upd (gA (sA q 30 (upd (gA q 30) w0 (gA q 30 w1))) 31) w0 (gA (sA q 30 (upd (gA q 30) w0 (gA q 30 w1))) 31 w1))) 32) w0 (gA (sA (sA q 30 (upd (gA q 30) w0 (gA q 30 w1))) 31 (upd (gA (sA q 30 (upd (gA q 30) w0 (gA q 30 w1))) 31) w0 (gA (sA q 30 (upd (gA q 30) w0 (gA q 30 w1))) 31 w1))) 32 w1))) 33) w0 (gA (sA (sA (sA q 30 (upd (gA q 30) w0 (gA q 30 w1))) 31 (upd (gA (sA q 30 (upd (gA q 30) w0 (gA q 30 w1))) 31) w0 (gA (sA q 30 (upd (gA q 30) w0 (gA q 30 w1))) 31 w1))) 32 (upd (gA (sA (sA q 30 (upd (gA q 30) w0 (gA q 30 w1))) 31 (upd (gA (sA q 30 (upd (gA q 30) w0 (gA q 30 w1))) 31) w0 (gA (sA q 30 (upd (gA q 30) w0 (gA q 30 w1))) 31 w1))) 32) w0 (gA (sA (sA q 30 (upd (gA q 30) w0 (gA q 30 w1))) 31 (upd (gA (sA q 30 (upd (gA q 30) w0 (gA q 30 w1))) 31) w0 (gA (sA q 30 (upd (gA q 30) w0 (gA q 30 w1))) 31 w1))) 32 w1))) 33 w1))) 34 w1))) 35) w0 (gA (sA (sA (sA (sA (sA q 30 (upd (gA q 30) w0 (gA q 30 w1))) 31 (upd (gA (sA q 30 (upd (gA q 30) w0 (gA q 30 w1))) 31) w0 (gA (sA q 30 (upd (gA q 30) w0 (gA q 30 w1))) 31 w1))) 32 (upd (gA (sA (sA q 30 (upd (gA q 30) w0 (gA q 30 w1))) 31 (upd (gA (sA q 30 (upd (gA q 30) w0 (gA q 30 w1))) 31) w0 (gA (sA q 30 (upd (gA q 30) w0 (gA q 30 w1))) 31 w1))) 32) w0 (gA (sA (sA q 30 (upd (gA q 30) w0 (gA q 30 w1))) 31 (upd (gA (sA q 30 (upd (gA q 30) w0 (gA q 30 w1))) 31) w0 (gA (sA q 30 (upd (gA q 30) w0 (gA q 30 w1))) 31 w1))) 32 w1))) 33 (upd (gA (sA (sA (sA q 30 (upd (gA q 30) w0 (gA q 30 w1))) 31 (upd (gA (sA q 30 (upd (gA q 30) w0 (gA q 30 w1))) 31) w0 (gA (sA q 30 (upd (gA q 30) w0 (gA q 30 w1))) 31 w1))) 32 (upd (gA (sA (sA q 30 (upd (gA q 30) w0 (gA q 30 w1))) 31 (upd (gA (sA q 30 (upd (gA q 30) w0 (gA q 30 w1))) 31) w0 (gA (sA q 30 (upd (gA q 30) w0 (gA q 30 w1))) 31 w1))) 32) w0 (gA (sA (sA q 30 (upd (gA q 30) w0 (gA q 30 w1))) 31 (upd (gA (sA q 30 (upd (gA q 30) w0 (gA q 30 w1))) 31) w0 (gA (sA q 30 (upd (gA q 30) w0 (gA q 30 w1))) 31 w1))) 32 w1))) 33) w0 (gA (sA (sA (sA q 30 (upd (gA q 30) w0 (gA q 30 w1))) 31 (upd (gA (sA q 30 (upd (gA q 30) w0 (gA q 30 w1))) 31) w0 (gA (sA q 30 (upd (gA q 30) w0 (gA q 30 w1))) 31 w1))) 32 (upd (gA (sA (sA q 30 (upd (gA q 30) w0 (gA q 30 w1))) 31 (upd (gA (sA q 30 (upd (gA q 30) w0 (gA q 30 w1))) 31) w0 (gA (sA q 30 (upd (gA q 30) w0 (gA q 30 w1))) 31 w1))) 32) w0 (gA (sA (sA q 30 (upd (gA q 30) w0 (gA q 30 w1))) 31 (upd (gA (sA q 30 (upd (gA q 30) w0 (gA q 30 w1))) 31) w0 (gA (sA q 30 (upd (gA q 30) w0 (gA q 30 w1))) 31 w1))) 32 w1))) 33 w1))) 34 (upd (gA (sA (sA (sA (sA q 30 (upd (gA q 30) w0 (gA q 30 w1))) 31 (upd (gA (sA q 30 (upd (gA q 30) w0 (gA q 30 w1))) 31) w0 (gA (sA q 30 (upd (gA q 30) w0 (gA q 30 w1))) 31 w1))) 32 (upd (gA (sA (sA q 30 (upd (gA q 30) w0 (gA q 30 w1))) 31 (upd (gA (sA q 30 (upd (gA q 30) w0 (gA q 30 w1))) 31) w0 (gA (sA q 30 (upd (gA q 30) w0 (gA q 30 w1))) 31 w1))) 32) w0 (gA (sA (sA q 30 (upd (gA q 30) w0 (gA q 30 w1))) 31 (upd (gA (sA q 30 (upd (gA q 30) w0 (gA q 30 w1))) 31) w0 (gA (sA q 30 (upd (gA q 30) w0 (gA q 30 w1))) 31 w1))) 32 w1))) 33 (upd (gA (sA (sA (sA q 30 (upd (gA q 30) w0 (gA q 30 w1))) 31 (upd (gA (sA q 30 (upd (gA q 30) w0 (gA q 30 w1))) 31) w0 (gA (sA q 30 (upd (gA q 30) w0 (gA q 30 w1))) 31 w1))) 32 (upd (gA (sA (sA q 30 (upd (gA q 30) w0 (gA q 30 w1))) 31 (upd (gA (sA q 30 (upd (gA q 30) w0 (gA q 30 w1))) 31) w0 (gA (sA q 30 (upd (gA q 30) w0 (gA q 30 w1))) 31 w1))) 32) w0 (gA (sA (sA q 30 (upd (gA q 30) w0 (gA q 30 w1))) 31 (upd (gA (sA q 30 (upd (gA q 30) w0 (gA q 30 w1))) 31) w0 (gA (sA q 30 (upd (gA q 30) w0 (gA q 30 w1))) 31 w1))) 32 w1))) 33) w0 (gA (sA (sA (sA q 30 (upd (gA q 30) w0 (gA q 30 w1))) 31 (upd (gA (sA q 30 (upd (gA q 30) w0 (gA q 30 w1))) 31) w0 (gA (sA q 30 (upd (gA q 30) w0 (gA q 30 w1))) 31 w1))) 32 (upd (gA (sA (sA q 30 (upd (gA q 30) w0 (gA q 30 w1))) 31 (upd (gA (sA q 30 (upd (gA q 30) w0 (gA q 30 w1))) 31) w0 (gA (sA q 30 (upd (gA q 30) w0 (gA q 30 w1))) 31 w1))) 32) w0 (gA (sA (sA q 30 (upd (gA q 30) w0 (gA q 30 w1))) 31 (upd (gA (sA q 30 (upd (gA q 30) w0 (gA q 30 w1))) 31) w0 (gA (sA q 30 (upd (gA q 30) w0 (gA q 30 w1))) 31 w1))) 32 w1))) 33 w1))) 34) w0 (gA (sA (sA (sA (sA q 30 (upd (gA q 30) w0 (gA q 30 w1))) 31 (upd (gA (sA q 30 (upd (gA q 30) w0 (gA q 30 w1))) 31) w0 (gA (sA q 30 (upd (gA q 30) w0 (gA q 30 w1))) 31 w1))) 32 (upd (gA (sA (sA q 30 (upd (gA q 30) w0 (gA q 30 w1))) 31 (upd (gA (sA q 30 (upd (gA q 30) w0 (gA q 30 w1))) 31) w0 (gA (sA q 30 (upd (gA q 30) w0 (gA q 30 w1))) 31 w1))) 32) w0 (gA (sA (sA q 30 (upd (gA q 30) w0 (gA q 30 w1))) 31 (upd (gA (sA q 30 (upd (gA q 30) w0 (gA q 30 w1))) 31) w0 (gA (sA q 30 (upd (gA q 30) w0 (gA q 30 w1))) 31 w1))) 32 w1))) 33 (upd (gA (sA (sA (sA q 30 (upd (gA q 30) w0 (gA q 30 w1))) 31 (upd (gA (sA q 30 (upd (gA q 30) w0 (gA q 30 w1))) 31) w0 (gA (sA q 30 (upd (gA q 30) w0 (gA q 30 w1))) 31 w1))) 32 (upd (gA (sA (sA q 30 (upd (gA q 30) w0 (gA q 30 w1))) 31 (upd (gA (sA q 30 (upd (gA q 30) w0 (gA q 30 w1))) 31) w0 (gA (sA q 30 (upd (gA q 30) w0 (gA q 30 w1))) 31 w1))) 32) w0 (gA (sA (sA q 30 (upd (gA q 30) w0 (gA q 30 w1))) 31 (upd (gA (sA q 30 (upd (gA q 30) w0 (gA q 30 w1))) 31) w0 (gA (sA q 30 (upd (gA q 30) w0 (gA q 30 w1))) 31 w1))) 32 w1))) 33) w0 (gA (sA (sA (sA q 30 (upd (gA q 30) w0 (gA q 30 w1))) 31 (upd (gA (sA q 30 (upd (gA q 30) w0 (gA q 30 w1))) 31) w0 (gA (sA q 30 (upd (gA q 30) w0 (gA q 30 w1))) 31 w1))) 32 (upd (gA (sA (sA q 30 (upd (gA q 30) w0 (gA q 30 w1))) 31 (upd (gA (sA q 30 (upd (gA q 30) w0 (gA q 30 w1))) 31) w0 (gA (sA q 30 (upd (gA q 30) w0 (gA q 30 w1))) 31 w1))) 32) w0 (gA (sA (sA q 30 (upd (gA q 30) w0 (gA q 30 w1))) 31 (upd (gA (sA q 30 (upd (gA q 30) w0 (gA q 30 w1))) 31) w0 (gA (sA q 30 (upd (gA q 30) w0 (gA q 30 w1))) 31 w1))) 32 w1))) 33 w1))) 34 w1))) 35 w1))) 36) w0 (gA (sA (sA (sA (sA (sA (sA q 30 (upd (gA q 30) w0 (gA q 30 w1))) 31 (upd (gA (sA q 30 (upd (gA q 30) w0 (gA q 30 w1))) 31) w0 (gA (sA q 30 (upd (gA q 30) w0 (gA q 30 w1))) 31 w1))) 32 (upd (gA (sA (sA q 30 (upd (gA q 30) w0 (gA q 30 w1))) 31 (upd (gA (sA q 30 (upd (gA q 30) w0 (gA q 30 w1))) 31) w0 (gA (sA q 30 (upd (gA q 30) w0 (gA q 30 w1))) 31 w1))) 32) w0 (gA (sA (sA q 30 (upd (gA q 30) w0 (gA q 30 w1))) 31 (upd (gA (sA q 30 (upd (gA q 30) w0 (gA q 30 w1))) 31) w0 (gA (sA q 30 (upd (gA q 30) w0 (gA q 30 w1))) 31 w1))) 32 w1))) 33 (upd (gA (sA (sA (sA q 30 (upd (gA q 30) w0 (gA q 30 w1))) 31 (upd (gA (sA q 30 (upd (gA q 30) w0 (gA q 30 w1))) 31) w0 (gA (sA q 30 (upd (gA q 30) w0 (gA q 30 w1))) 31 w1))) 32 (upd (gA (sA (sA q 30 (upd (gA q 30) w0 (gA q 30 w1))) 31 (upd (gA (sA q 30 (upd (gA q 30) w0 (gA q 30 w1))) 31) w0 (gA (sA q 30 (upd (gA q 30) w0 (gA q 30 w1))) 31 w1))) 32) w0 (gA (sA (sA q 30 (upd (gA q 30) w0 (gA q 30 w1))) 31 (upd (gA (sA q 30 (upd (gA q 30) w0 (gA q 30 w1))) 31) w0 (gA (sA q 30 (upd (gA q 30) w0 (gA q 30 w1))) 31 w1))) 32 w1))) 33) w0 (gA (sA (sA (sA q 30 (upd (gA q 30) w0 (gA q 30 w1))) 31 (upd (gA (sA q 30 (upd (gA q 30) w0 (gA q 30 w1))) 31) w0 (gA (sA q 30 (upd (gA q 30) w0 (gA q 30 w1))) 31 w1))) 32 (upd (gA (sA (sA q 30 (upd (gA q 30) w0 (gA q 30 w1))) 31 (upd (gA (sA q 30 (upd (gA q 30) w0 (gA q 30 w1))) 31) w0 (gA (sA q 30 (upd (gA q 30) w0 (gA q 30 w1))) 31 w1))) 32) w0 (gA (sA (sA q 30 (upd (gA q 30) w0 (gA q 30 w1))) 31 (upd (gA (sA q 30 (upd (gA q 30) w0 (gA q 30 w1))) 31) w0 (gA (sA q 30 (upd (gA q 30) w0 (gA q 30 w1))) 31 w1))) 32 w1))) 33 w1))) 34 (upd (gA (sA (sA (sA (sA q 30 (upd (gA q 30) w0 (gA q 30 w1))) 31 (upd (gA (sA q 30 (upd (gA q 30) w0 (gA q 30 w1))) 31) w0 (gA (sA q 30 (upd (gA q 30) w0 (gA q 30 w1))) 31 w1))) 32 (upd (gA (sA (sA q 30 (upd (gA q 30) w0 (gA q 30 w1))) 31 (upd (gA (sA q 30 (upd (gA q 30) w0 (gA q 30 w1))) 31) w0 (gA (sA q 30 (upd (gA q 30) w0 (gA q 30 w1))) 31 w1))) 32) w0 (gA (sA (sA q 30 (upd (gA q 30) w0 (gA q 30 w1))) 31 (upd (gA (sA q 30 (upd (gA q 30) w0 (gA q 30 w1))) 31) w0 (gA (sA q 30 (upd (gA q 30) w0 (gA q 30 w1))) 31 w1))) 32 w1))) 33 (upd (gA (sA (sA (sA q 30 (upd (gA q 30) w0 (gA q 30 w1))) 31 (upd (gA (sA q 30 (upd (gA q 30) w0 (gA q 30 w1))) 31) w0 (gA (sA q 30 (upd (gA q 30) w0 (gA q 30 w1))) 31 w1))) 32 (upd (gA (sA (sA q 30 (upd (gA q 30) w0 (gA q 30 w1))) 31 (upd (gA (sA q 30 (upd (gA q 30) w0 (gA q 30 w1))) 31) w0 (gA (sA q 30 (upd (gA q 30) w0 (gA q 30 w1))) 31 w1))) 32) w0 (gA (sA (sA q 30 (upd (gA q 30) w0 (gA q 30 w1))) 31 (upd (gA (sA q 30 (upd (gA q 30) w0 (gA q 30 w1))) 31) w0 (gA (sA q 30 (upd (gA q 30) w0 (gA q 30 w1))) 31 w1))) 32 w1))) 33) w0 (gA (sA (sA (sA q 30 (upd (gA q 30) w0 (gA q 30 w1))) 31 (upd (gA (sA q 30 (upd (gA q 30) w0 (gA q 30 w1))) 31) w0 (gA (sA q 30 (upd (gA q 30) w0 (gA q 30 w1))) 31 w1))) 32 (upd (gA (sA (sA q 30 (upd (gA q 30) w0 (gA q 30 w1))) 31 (upd (gA (sA q 30 (upd (gA q 30) w0 (gA q 30 w1))) 31) w0 (gA (sA q 30 (upd (gA q 30) w0 (gA q 30 w1))) 31 w1))) 32) w0 (gA (sA (sA q 30 (upd (gA q 30) w0 (gA q 30 w1))) 31 (upd (gA (sA q 30 (upd (gA q 30) w0 (gA q 30 w1))) 31) w0 (gA (sA q 30 (upd (gA q 30) w0 (gA q 30 w1))) 31 w1))) 32 w1))) 33 w1))) 34) w0 (gA (sA (sA (sA (sA q 30 (upd (gA q 30) w0 (gA q 30 w1))) 31 (upd (gA (sA q 30 (upd (gA q 30) w0 (gA q 30 w1))) 31) w0 (gA (sA q 30 (upd (gA q 30) w0 (gA q 30 w1))) 31 w1))) 32 (upd (gA (sA (sA q 30 (upd (gA q 30) w0 (gA q 30 w1))) 31 (upd (gA (sA q 30 (upd (gA q 30) w0 (gA q 30 w1))) 31) w0 (gA (sA q 30 (upd (gA q 30) w0 (gA q 30 w1))) 31 w1))) 32) w0 (gA (sA (sA q 30 (upd (gA q 30) w0 (gA q 30 w1))) 31 (upd (gA (sA q 30 (upd (gA q 30) w0 (gA q 30 w1))) 31) w0 (gA (sA q 30 (upd (gA q 30) w0 (gA q 30 w1))) 31 w1))) 32 w1))) 33 (upd (gA (sA (sA (sA q 30 (upd (gA q 30) w0 (gA q 30 w1))) 31 (upd (gA (sA q 30 (upd (gA q 30) w0 (gA q 30 w1))) 31) w0 (gA (sA q 30 (upd (gA q 30) w0 (gA q 30 w1))) 31 w1))) 32 (upd (gA (sA (sA q 30 (upd (gA q 30) w0 (gA q 30 w1))) 31 (upd (gA (sA q 30 (upd (gA q 30) w0 (gA q 30 w1))) 31) w0 (gA (sA q 30 (upd (gA q 30) w0 (gA q 30 w1))) 31 w1))) 32) w0 (gA (sA (sA q 30 (upd (gA q 30) w0 (gA q 30 w1))) 31 (upd (gA (sA q 30 (upd (gA q 30) w0 (gA q 30 w1))) 31) w0 (gA (sA q 30 (upd (gA q 30) w0 (gA q 30 w1))) 31 w1))) 32 w1))) 33) w0 (gA (sA (sA (sA q 30 (upd (gA q 30) w0 (gA q 30 w1))) 31 (upd (gA (sA q 30 (upd (gA q 30) w0 (gA q 30 w1))) 31) w0 (gA (sA q 30 (upd (gA q 30) w0 (gA q 30 w1))) 31 w1))) 32 (upd (gA (sA (sA q 30 (upd (gA q 30) w0 (gA q 30 w1))) 31 (upd (gA (sA q 30 (upd (gA q 30) w0 (gA q 30 w1))) 31) w0 (gA (sA q 30 (upd (gA q 30) w0 (gA q 30 w1))) 31 w1))) 32) w0 (gA (sA (sA q 30 (upd (gA q 30) w0 (gA q 30 w1))) 31 (upd (gA (sA q 30 (upd (gA q 30) w0 (gA q 30 w1))) 31) w0 (gA (sA q 30 (upd (gA q 30) w0 (gA q 30 w1))) 31 w1))) 32 w1))) 33 w1))) 34 w1))) 35 (upd (gA (sA (sA (sA (sA (sA q 30 (upd (gA q 30) w0 (gA q 30 w1))) 31 (upd (gA (sA q 30 (upd (gA q 30) w0 (gA q 30 w1))) 31) w0 (gA (sA q 30 (upd (gA q 30) w0 (gA q 30 w1))) 31 w1))) 32 (upd (gA (sA (sA q 30 (upd (gA q 30) w0 (gA q 30 w1))) 31 (upd (gA (sA q 30 (upd (gA q 30) w0 (gA q 30 w1))) 31) w0 (gA (sA q 30 (upd (gA q 30) w0 (gA q 30 w1))) 31 w1))) 32) w0 (gA (sA (sA q 30 (upd (gA q 30) w0 (gA q 30 w1))) 31 (upd (gA (sA q 30 (upd (gA q 30) w0 (gA q 30 w1))) 31) w0 (gA (sA q 30 (upd (gA q 30) w0 (gA q 30 w1))) 31 w1))) 32 w1))) 33 (upd (gA (sA (sA (sA q 30 (upd (gA q 30) w0 (gA q 30 w1))) 31 (upd (gA (sA q 30 (upd (gA q 30) w0 (gA q 30 w1))) 31) w0 (gA (sA q 30 (upd (gA q 30) w0 (gA q 30 w1))) 31 w1))) 32 (upd (gA (sA (sA q 30 (upd (gA q 30) w0 (gA q 30 w1))) 31 (upd (gA (sA q 30 (upd (gA q 30) w0 (gA q 30 w1))) 31) w0 (gA (sA q 30 (upd (gA q 30) w0 (gA q 30 w1))) 31 w1))) 32) w0 (gA (sA (sA q 30 (upd (gA q 30) w0 (gA q 30 w1))) 31 (upd (gA (sA q 30 (upd (gA q 30) w0 (gA q 30 w1))) 31) w0 (gA (sA q 30 (upd (gA q 30) w0 (gA q 30 w1))) 31 w1))) 32 w1))) 33) w0 (gA (sA (sA (sA q 30 (upd (gA q 30) w0 (gA q 30 w1))) 31 (upd (gA (sA q 30 (upd (gA q 30) w0 (gA q 30 w1))) 31) w0 (gA (sA q 30 (upd (gA q 30) w0 (gA q 30 w1))) 31 w1))) 32 (upd (gA (sA (sA q 30 (upd (gA q 30) w0 (gA q 30 w1))) 31 (upd (gA (sA q 30 (upd (gA q 30) w0 (gA q 30 w1))) 31) w0 (gA (sA q 30 (upd (gA q 30) w0 (gA q 30 w1))) 31 w1))) 32) w0 (gA (sA (sA q 30 (upd (gA q 30) w0 (gA q 30 w1))) 31 (upd (gA (sA q 30 (upd (gA q 30) w0 (gA q 30 w1))) 31) w0 (gA (sA q 30 (upd (gA q 30) w0 (gA q 30 w1))) 31 w1))) 32 w1))) 33 w1))) 34 (upd (gA (sA (sA (sA (sA q 30 (upd (gA q 30) w0 (gA q 30 w1))) 31 (upd (gA (sA q 30 (upd (gA q 30) w0 (gA q 30 w1))) 31) w0 (gA (sA q 30 (upd (gA q 30) w0 (gA q 30 w1))) 31 w1))) 32 (upd (gA (sA (sA q 30 (upd (gA q 30) w0 (gA q 30 w1))) 31 (upd (gA (sA q 30 (upd (gA q 30) w0 (gA q 30 w1))) 31) w0 (gA (sA q 30 (upd (gA q 30) w0 (gA q 30 w1))) 31 w1))) 32) w0 (gA (sA (sA q 30 (upd (gA q 30) w0 (gA q 30 w1))) 31 (upd (gA (sA q 30 (upd (gA q 30) w0 (gA q 30 w1))) 31) w0 (gA (sA q 30 (upd (gA q 30) w0 (gA q 30 w1))) 31 w1))) 32 w1))) 33 (upd (gA (sA (sA (sA q 30 (upd (gA q 30) w0 (gA q 30 w1))) 31 (upd (gA (sA q 30 (upd (gA q 30) w0 (gA q 30 w1))) 31) w0 (gA (sA q 30 (upd (gA q 30) w0 (gA q 30 w1))) 31 w1))) 32 (upd (gA (sA (sA q 30 (upd (gA q 30) w0 (gA q 30 w1))) 31 (upd (gA (sA q 30 (upd (gA q 30) w0 (gA q 30 w1))) 31) w0 (gA (sA q 30 (upd (gA q 30) w0 (gA q 30 w1))) 31 w1))) 32) w0 (gA (sA (sA q 30 (upd (gA q 30) w0 (gA q 30 w1))) 31 (upd (gA (sA q 30 (upd (gA q 30) w0 (gA q 30 w1))) 31) w0 (gA (sA q 30 (upd (gA q 30) w0 (gA q 30 w1))) 31 w1))) 32 w1))) 33) w0 (gA (sA (sA (sA q 30 (upd (gA q 30) w0 (gA q 30 w1))) 31 (upd (gA (sA q 30 (upd (gA q 30) w0 (gA q 30 w1))) 31) w0 (gA (sA q 30 (upd (gA q 30) w0 (gA q 30 w1))) 31 w1))) 32 (upd (gA (sA (sA q 30 (upd (gA q 30) w0 (gA q 30 w1))) 31 (upd (gA (sA q 30 (upd (gA q 30) w0 (gA q 30 w1))) 31) w0 (gA (sA q 30 (upd (gA q 30) w0 (gA q 30 w1))) 31 w1))) 32) w0 (gA (sA (sA q 30 (upd (gA q 30) w0 (gA q 30 w1))) 31 (upd (gA (sA q 30 (upd (gA q 30) w0 (gA q 30 w1))) 31) w0 (gA (sA q 30 (upd (gA q 30) w0 (gA q 30 w1))) 31 w1))) 32 w1))) 33 w1))) 34) w0 (gA (sA (sA (sA (sA q 30 (upd (gA q 30) w0 (gA q 30 w1))) 31 (upd (gA (sA q 30 (upd (gA q 30) w0 (gA q 30 w1))) 31) w0 (gA (sA q 30 (upd (gA q 30) w0 (gA q 30 w1))) 31 w1))) 32 (upd (gA (sA (sA q 30 (upd (gA q 30) w0 (gA q 30 w1))) 31 (upd (gA (sA q 30 (upd (gA q 30) w0 (gA q 30 w1))) 31) w0 (gA (sA q 30 (upd (gA q 30) w0 (gA q 30 w1))) 31 w1))) 32) w0 (gA (sA (sA q 30 (upd (gA q 30) w0 (gA q 30 w1))) 31 (upd (gA (sA q 30 (upd (gA q 30) w0 (gA q 30 w1))) 31) w0 (gA (sA q 30 (upd (gA q 30) w0 (gA q 30 w1))) 31 w1))) 32 w1))) 33 (upd (gA (sA (sA (sA q 30 (upd (gA q 30) w0 (gA q 30 w1))) 31 (upd (gA (sA q 30 (upd (gA q 30) w0 (gA q 30 w1))) 31) w0 (gA (sA q 30 (upd (gA q 30) w0 (gA q 30 w1))) 31 w1))) 32 (upd (gA (sA (sA q 30 (upd (gA q 30) w0 (gA q 30 w1))) 31 (upd (gA (sA q 30 (upd (gA q 30) w0 (gA q 30 w1))) 31) w0 (gA (sA q 30 (upd (gA q 30) w0 (gA q 30 w1))) 31 w1))) 32) w0 (gA (sA (sA q 30 (upd (gA q 30) w0 (gA q 30 w1))) 31 (upd (gA (sA q 30 (upd (gA q 30) w0 (gA q 30 w1))) 31) w0 (gA (sA q 30 (upd (gA q 30) w0 (gA q 30 w1))) 31 w1))) 32 w1))) 33) w0 (gA (sA (sA (sA q 30 (upd (gA q 30) w0 (gA q 30 w1))) 31 (upd (gA (sA q 30 (upd (gA q 30) w0 (gA q 30 w1))) 31) w0 (gA (sA q 30 (upd (gA q 30) w0 (gA q 30 w1))) 31 w1))) 32 (upd (gA (sA (sA q 30 (upd (gA q 30) w0 (gA q 30 w1))) 31 (upd (gA (sA q 30 (upd (gA q 30) w0 (gA q 30 w1))) 31) w0 (gA (sA q 30 (upd (gA q 30) w0 (gA q 30 w1))) 31 w1))) 32) w0 (gA (sA (sA q 30 (upd (gA q 30) w0 (gA q 30 w1))) 31 (upd (gA (sA q 30 (upd (gA q 30) w0 (gA q 30 w1))) 31) w0 (gA (sA q 30 (upd (gA q 30) w0 (gA q 30 w1))) 31 w1))) 32 w1))) 33 w1))) 34 w1))) 35) w0 (gA (sA (sA (sA (sA (sA q 30 (upd (gA q 30) w0 (gA q 30 w1))) 31 (upd (gA (sA q 30 (upd (gA q 30) w0 (gA q 30 w1))) 31) w0 (gA (sA q 30 (upd (gA q 30) w0 (gA q 30 w1))) 31 w1))) 32 (upd (gA (sA (sA q 30 (upd (gA q 30) w0 (gA q 30 w1))) 31 (upd (gA (sA q 30 (upd (gA q 30) w0 (gA q 30 w1))) 31) w0 (gA (sA q 30 (upd (gA q 30) w0 (gA q 30 w1))) 31 w1))) 32) w0 (gA (sA (sA q 30 (upd (gA q 30) w0 (gA q 30 w1))) 31 (upd (gA (sA q 30 (upd (gA q 30) w0 (gA q 30 w1))) 31) w0 (gA (sA q 30 (upd (gA q 30) w0 (gA q 30 w1))) 31 w1))) 32 w1))) 33 (upd (gA (sA (sA (sA q 30 (upd (gA q 30) w0 (gA q 30 w1))) 31 (upd (gA (sA q 30 (upd (gA q 30) w0 (gA q 30 w1))) 31) w0 (gA (sA q 30 (upd (gA q 30) w0 (gA q 30 w1))) 31 w1))) 32 (upd (gA (sA (sA q 30 (upd (gA q 30) w0 (gA q 30 w1))) 31 (upd (gA (sA q 30 (upd (gA q 30) w0 (gA q 30 w1))) 31) w0 (gA (sA q 30 (upd (gA q 30) w0 (gA q 30 w1))) 31 w1))) 32) w0 (gA (sA (sA q 30 (upd (gA q 30) w0 (gA q 30 w1))) 31 (upd (gA (sA q 30 (upd (gA q 30) w0 (gA q 30 w1))) 31) w0 (gA (sA q 30 (upd (gA q 30) w0 (gA q 30 w1))) 31 w1))) 32 w1))) 33) w0 (gA (sA (sA (sA q 30 (upd (gA q 30) w0 (gA q 30 w1))) 31 (upd (gA (sA q 30 (upd (gA q 30) w0 (gA q 30 w1))) 31) w0 (gA (sA q 30 (upd (gA q 30) w0 (gA q 30 w1))) 31 w1))) 32 (upd (gA (sA (sA q 30 (upd (gA q 30) w0 (gA q 30 w1))) 31 (upd (gA (sA q 30 (upd (gA q 30) w0 (gA q 30 w1))) 31) w0 (gA (sA q 30 (upd (gA q 30) w0 (gA q 30 w1))) 31 w1))) 32) w0 (gA (sA (sA q 30 (upd (gA q 30) w0 (gA q 30 w1))) 31 (upd (gA (sA q 30 (upd (gA q 30) w0 (gA q 30 w1))) 31) w0 (gA (sA q 30 (upd (gA q 30) w0 (gA q 30 w1))) 31 w1))) 32 w1))) 33 w1))) 34 (upd (gA (sA (sA (sA (sA q 30 (upd (gA q 30) w0 (gA q 30 w1))) 31 (upd (gA (sA q 30 (upd (gA q 30) w0 (gA q 30 w1))) 31) w0 (gA (sA q 30 (upd (gA q 30) w0 (gA q 30 w1))) 31 w1))) 32 (upd (gA (sA (sA q 30 (upd (gA q 30) w0 (gA q 30 w1))) 31 (upd (gA (sA q 30 (upd (gA q 30) w0 (gA q 30 w1))) 31) w0 (gA (sA q 30 (upd (gA q 30) w0 (gA q 30 w1))) 31 w1))) 32) w0 (gA (sA (sA q 30 (upd (gA q 30) w0 (gA q 30 w1))) 31 (upd (gA (sA q 30 (upd (gA q 30) w0 (gA q 30 w1))) 31) w0 (gA (sA q 30 (upd (gA q 30) w0 (gA q 30 w1))) 31 w1))) 32 w1))) 33 (upd (gA (sA (sA (sA q 30 (upd (gA q 30) w0 (gA q 30 w1))) 31 (upd (gA (sA q 30 (upd (gA q 30) w0 (gA q 30 w1))) 31) w0 (gA (sA q 30 (upd (gA q 30) w0 (gA q 30 w1))) 31 w1))) 32 (upd (gA (sA (sA q 30 (upd (gA q 30) w0 (gA q 30 w1))) 31 (upd (gA (sA q 30 (upd (gA q 30) w0 (gA q 30 w1))) 31) w0 (gA (sA q 30 (upd (gA q 30) w0 (gA q 30 w1))) 31 w1))) 32) w0 (gA (sA (sA q 30 (upd (gA q 30) w0 (gA q 30 w1))) 31 (upd (gA (sA q 30 (upd (gA q 30) w0 (gA q 30 w1))) 31) w0 (gA (sA q 30 (upd (gA q 30) w0 (gA q 30 w1))) 31 w1))) 32 w1))) 33) w0 (gA (sA (sA (sA q 30 (upd (gA q 30) w0 (gA q 30 w1))) 31 (upd (gA (sA q 30 (upd (gA q 30) w0 (gA q 30 w1))) 31) w0 (gA (sA q 30 (upd (gA q 30) w0 (gA q 30 w1))) 31 w1))) 32 (upd (gA (sA (sA q 30 (upd (gA q 30) w0 (gA q 30 w1))) 31 (upd (gA (sA q 30 (upd (gA q 30) w0 (gA q 30 w1))) 31) w0 (gA (sA q 30 (upd (gA q 30) w0 (gA q 30 w1))) 31 w1))) 32) w0 (gA (sA (sA q 30 (upd (gA q 30) w0 (gA q 30 w1))) 31 (upd (gA (sA q 30 (upd (gA q 30) w0 (gA q 30 w1))) 31) w0 (gA (sA q 30 (upd (gA q 30) w0 (gA q 30 w1))) 31 w1))) 32 w1))) 33 w1))) 34) w0 (gA (sA (sA (sA (sA q 30 (upd (gA q 30) w0 (gA q 30 w1))) 31 (upd (gA (sA q 30 (upd (gA q 30) w0 (gA q 30 w1))) 31) w0 (gA (sA q 30 (upd (gA q 30) w0 (gA q 30 w1))) 31 w1))) 32 (upd (gA (sA (sA q 30 (upd (gA q 30) w0 (gA q 30 w1))) 31 (upd (gA (sA q 30 (upd (gA q 30) w0 (gA q 30 w1))) 31) w0 (gA (sA q 30 (upd (gA q 30) w0 (gA q 30 w1))) 31 w1))) 32) w0 (gA (sA (sA q 30 (upd (gA q 30) w0 (gA q 30 w1))) 31 (upd (gA (sA q 30 (upd (gA q 30) w0 (gA q 30 w1))) 31) w0 (gA (sA q 30 (upd (gA q 30) w0 (gA q 30 w1))) 31 w1))) 32 w1))) 33 (upd (gA (sA (sA (sA q 30 (upd (gA q 30) w0 (gA q 30 w1))) 31 (upd (gA (sA q 30 (upd (gA q 30) w0 (gA q 30 w1))) 31) w0 (gA (sA q 30 (upd (gA q 30) w0 (gA q 30 w1))) 31 w1))) 32 (upd (gA (sA (sA q 30 (upd (gA q 30) w0 (gA q 30 w1))) 31 (upd (gA (sA q 30 (upd (gA q 30) w0 (gA q 30 w1))) 31) w0 (gA (sA q 30 (upd (gA q 30) w0 (gA q 30 w1))) 31 w1))) 32) w0 (gA (sA (sA q 30 (upd (gA q 30) w0 (gA q 30 w1))) 31 (upd (gA (sA q 30 (upd (gA q 30) w0 (gA q 30 w1))) 31) w0 (gA (sA q 30 (upd (gA q 30) w0 (gA q 30 w1))) 31 w1))) 32 w1))) 33) w0 (gA (sA (sA (sA q 30 (upd (gA q 30) w0 (gA q 30 w1))) 31 (upd (gA (sA q 30 (upd (gA q 30) w0 (gA q 30 w1))) 31) w0 (gA (sA q 30 (upd (gA q 30) w0 (gA q 30 w1))) 31 w1))) 32 (upd (gA (sA (sA q 30 (upd (gA q 30) w0 (gA q 30 w1))) 31 (upd (gA (sA q 30 (upd (gA q 30) w0 (gA q 30 w1))) 31) w0 (gA (sA q 30 (upd (gA q 30) w0 (gA q 30 w1))) 31 w1))) 32) w0 (gA (sA (sA q 30 (upd (gA q 30) w0 (gA q 30 w1))) 31 (upd (gA (sA q 30 (upd (gA q 30) w0 (gA q 30 w1))) 31) w0 (gA (sA q 30 (upd (gA q 30) w0 (gA q 30 w1))) 31 w1))) 32 w1))) 33 w1))) 34 w1))) 35 w1))) 36 w1))) w0 w1 hok hF
theorem hX9_copyFrom : yX9_copyFrom.cls = RX9 ∧ yX9_copyFrom.cls ≠ "java/lang/invoke/MethodHandle" ∧ yX9_copyFrom.cls ≠ "java/lang/invoke/VarHandle" ∧ (parseMethodDescriptor yX9_copyFrom.desc).map (fun d => d.parameters.length) = some 1 := by decide +kernel
def fX8_copyFrom_now_keptv_2 : Nat → SS → Int32 → SS
  | 0, q, _ => q
  | n + 1, q, v2 => (if 4 ≤ v2 then (sI (sI (sI (sI (sI (sI q 701 (gI q 801)) 702 (gI q 802)) 703 (gI q 803)) 704 (gI q 804)) 705 (gI q 805)) 706 (gI q 806)) else fX8_copyFrom_now_keptv_2 n (sA q 25 (upd (gA q 25) (v2 : Int32).toNatClampNeg ((gA q 26) (v2 : Int32).toNatClampNeg))) (v2 + 1))
def kX8_copyFrom_now_keptv_2 : Nat → SS → Int32 → Prop
  | 0, _, _ => False
  | n + 1, q, v2 => ((4 ≤ v2 → True) ∧ (¬ 4 ≤ v2 → vp_in v2 4 ∧ vp_in v2 4 ∧ kX8_copyFrom_now_keptv_2 n (sA q 25 (upd (gA q 25) (v2 : Int32).toNatClampNeg ((gA q 26) (v2 : Int32).toNatClampNeg))) (v2 + 1)))
def fX8_copyFrom_now_keptv (q : SS) : SS := fX8_copyFrom_now_keptv_2 10 q 0
def kX8_copyFrom_now_keptv (q : SS) : Prop := kX8_copyFrom_now_keptv_2 10 q 0
set_option maxHeartbeats 4000000 in
set_option maxRecDepth 100000 in
theorem ctX8_copyFrom_now_keptv (l : Launch) (hl : l.stackTraces = false) (D : va_G) (kc : Nat → ClassId) (ad wad : Nat → Nat) (q : SS) (hok : kX8_copyFrom_now_keptv q) : Cv l yX8_copyFrom (Cond.code yX8_copyFrom cX8_copyFrom 3 none :: lw_G) (zr 0 0 0) 0 0 (PX D kc) (GX D kc ad wad) (GX D kc ad wad) [.ref (ad 6), .ref (ad 7)] q (fX8_copyFrom_now_keptv q) := by
  refine Cv.of (cc := cX8_copyFrom) (maxL := 3) (ret := none) (by decide) rfl (Nat.le_of_ble_eq_true rfl) ?_
  intro p e s m args below meth c A S hr hlocks hin hA hK
  have hx := S.1
  have hb := S.2.1
  have hE : EV A s s.heap := hK.2
  have hK : va_K D vwCl (tysK kc) s := hK.1
  generalize hFe : fX8_copyFrom_now_keptv q = F
  have hF : F = fX8_copyFrom_now_keptv q := hFe.symm
  have b2 : ∀ (n : Nat) (q : SS) (v2 : Int32), kX8_copyFrom_now_keptv_2 n q v2 → F = fX8_copyFrom_now_keptv_2 n q v2 → Z p l e (zr 0 0 0) s m args below meth c 0 0 (MQ below (va_Qv (fun (_ : Unit) => True) (fun _ t => (GX D kc ad wad) A F t.heap) A) args s 0 0 A) 3 A (ZG D vwCl (wX kc ad wad) (PLX wad) A) q 2 [(0, .ref (ad 6)), (1, .ref (ad 7)), (2, .int v2)] [] := by
    intro n
    induction n with
    | zero => intro q v2 hok hF; exact False.elim hok
    | succ n ih =>
      intro q v2 hok hF
      refine z_iload_n (j := 2) hx hb dX8_copyFrom_2 rfl rfl ?_
      refine z_iconst (v := 4) hx hb dX8_copyFrom_3 (by decide) ?_
      refine z_icmp_ge (tgt := 25) hx hb dX8_copyFrom_4 (by decide) (fun g4 => ?_) (fun g4 => ?_)
      · have hF := hF.trans (if_pos g4)
        have hok := And.left hok g4
        refine z_aload_n (j := 0) hx hb dX8_copyFrom_25 rfl rfl ?_
        refine z_aload_n (j := 1) hx hb dX8_copyFrom_26 rfl rfl ?_
        refine z_get (v := .int (gI q 801)) S hK inX8 7 (fun _ => rfl) rfl 1 (by decide) q1_164 rfl rfl dX8_copyFrom_27 ?_
        refine z_put (v := .int (gI q 801)) (q' := (sI q 701 (gI q 801))) S hK inX8 tyX8 tyX8_ok nmX8 6 (fun _ => rfl) rfl 1 (by decide) q1_164 rfl rfl rfl rfl (Nat.le_of_ble_eq_true rfl) dX8_copyFrom_30 (wXp701 kc ad wad _ _) (fun _ h => h) ?_
        refine z_aload_n (j := 0) hx hb dX8_copyFrom_33 rfl rfl ?_
        refine z_aload_n (j := 1) hx hb dX8_copyFrom_34 rfl rfl ?_
        refine z_get (v := .int (gI q 802)) S hK inX8 7 (fun _ => rfl) rfl 2 (by decide) q1_167 rfl rfl dX8_copyFrom_35 ?_
        refine z_put (v := .int (gI q 802)) (q' := (sI (sI q 701 (gI q 801)) 702 (gI q 802))) S hK inX8 tyX8 tyX8_ok nmX8 6 (fun _ => rfl) rfl 2 (by decide) q1_167 rfl rfl rfl rfl (Nat.le_of_ble_eq_true rfl) dX8_copyFrom_38 (wXp702 kc ad wad _ _) (fun _ h => h) ?_
        refine z_aload_n (j := 0) hx hb dX8_copyFrom_41 rfl rfl ?_
        refine z_aload_n (j := 1) hx hb dX8_copyFrom_42 rfl rfl ?_
        refine z_get (v := .int (gI q 803)) S hK inX8 7 (fun _ => rfl) rfl 3 (by decide) q1_170 rfl rfl dX8_copyFrom_43 ?_
        refine z_put (v := .int (gI q 803)) (q' := (sI (sI (sI q 701 (gI q 801)) 702 (gI q 802)) 703 (gI q 803))) S hK inX8 tyX8 tyX8_ok nmX8 6 (fun _ => rfl) rfl 3 (by decide) q1_170 rfl rfl rfl rfl (Nat.le_of_ble_eq_true rfl) dX8_copyFrom_46 (wXp703 kc ad wad _ _) (fun _ h => h) ?_
        refine z_aload_n (j := 0) hx hb dX8_copyFrom_49 rfl rfl ?_
        refine z_aload_n (j := 1) hx hb dX8_copyFrom_50 rfl rfl ?_
        refine z_get (v := .int (gI q 804)) S hK inX8 7 (fun _ => rfl) rfl 4 (by decide) q1_173 rfl rfl dX8_copyFrom_51 ?_
        refine z_put (v := .int (gI q 804)) (q' := (sI (sI (sI (sI q 701 (gI q 801)) 702 (gI q 802)) 703 (gI q 803)) 704 (gI q 804))) S hK inX8 tyX8 tyX8_ok nmX8 6 (fun _ => rfl) rfl 4 (by decide) q1_173 rfl rfl rfl rfl (Nat.le_of_ble_eq_true rfl) dX8_copyFrom_54 (wXp704 kc ad wad _ _) (fun _ h => h) ?_
        refine z_aload_n (j := 0) hx hb dX8_copyFrom_57 rfl rfl ?_
        refine z_aload_n (j := 1) hx hb dX8_copyFrom_58 rfl rfl ?_
        refine z_get (v := .int (gI q 805)) S hK inX8 7 (fun _ => rfl) rfl 5 (by decide) q1_177 rfl rfl dX8_copyFrom_59 ?_
        refine z_put (v := .int (gI q 805)) (q' := (sI (sI (sI (sI (sI q 701 (gI q 801)) 702 (gI q 802)) 703 (gI q 803)) 704 (gI q 804)) 705 (gI q 805))) S hK inX8 tyX8 tyX8_ok nmX8 6 (fun _ => rfl) rfl 5 (by decide) q1_177 rfl rfl rfl rfl (Nat.le_of_ble_eq_true rfl) dX8_copyFrom_62 (wXp705 kc ad wad _ _) (fun _ h => h) ?_
        refine z_aload_n (j := 0) hx hb dX8_copyFrom_65 rfl rfl ?_
        refine z_aload_n (j := 1) hx hb dX8_copyFrom_66 rfl rfl ?_
        refine z_get (v := .int (gI q 806)) S hK inX8 7 (fun _ => rfl) rfl 6 (by decide) q1_179 rfl rfl dX8_copyFrom_67 ?_
        refine z_put (v := .int (gI q 806)) (q' := (sI (sI (sI (sI (sI (sI q 701 (gI q 801)) 702 (gI q 802)) 703 (gI q 803)) 704 (gI q 804)) 705 (gI q 805)) 706 (gI q 806))) S hK inX8 tyX8 tyX8_ok nmX8 6 (fun _ => rfl) rfl 6 (by decide) q1_179 rfl rfl rfl rfl (Nat.le_of_ble_eq_true rfl) dX8_copyFrom_70 (wXp706 kc ad wad _ _) (fun _ h => h) ?_
        exact z_vret hx hb hlocks hr hF dX8_copyFrom_73
      · have hF := hF.trans (if_neg g4)
        have hok := And.right hok g4
        refine z_aload_n (j := 0) hx hb dX8_copyFrom_7 rfl rfl ?_
        refine z_get (v := .ref (ad 25)) S hK inX8 6 (fun _ => rfl) rfl 0 (by decide) q1_160 rfl rfl dX8_copyFrom_8 ?_
        refine z_iload_n (j := 2) hx hb dX8_copyFrom_11 rfl rfl ?_
        refine z_aload_n (j := 1) hx hb dX8_copyFrom_12 rfl rfl ?_
        refine z_get (v := .ref (ad 26)) S hK inX8 7 (fun _ => rfl) rfl 0 (by decide) q1_160 rfl rfl dX8_copyFrom_13 ?_
        refine z_iload_n (j := 2) hx hb dX8_copyFrom_16 rfl rfl ?_
        have h17 := And.left hok
        have hok := And.right hok
        refine z_iald (f := (gA q 26)) S hK 26 0 (fun _ => rfl) rfl h17 dX8_copyFrom_17 ?_
        have h18 := And.left hok
        have hok := And.right hok
        refine z_iast (f := (gA q 25)) (q' := (sA q 25 (upd (gA q 25) (v2 : Int32).toNatClampNeg ((gA q 26) (v2 : Int32).toNatClampNeg)))) S hK 25 0 (fun _ => rfl) rfl h18 dX8_copyFrom_18 (wXa25 kc ad wad _ _) (fun _ h => h) ?_
        refine z_iinc (k := 2) (v := (v2 + 1)) (lv' := [(2, .int (v2 + 1)), (0, .ref (ad 6)), (1, .ref (ad 7))]) hx hb dX8_copyFrom_19 rfl rfl (by decide) rfl ?_
        refine z_goto (tgt := 2) hx hb dX8_copyFrom_22 (by decide) ?_
        refine z_sub [1, 2, 0] rfl ?_
        exact ih (sA q 25 (upd (gA q 25) (v2 : Int32).toNatClampNeg ((gA q 26) (v2 : Int32).toNatClampNeg))) (v2 + 1) hok hF
  refine z_iconst (v := 0) hx hb dX8_copyFrom_0 (by decide) ?_
  refine z_istore_n (lv' := [(2, .int 0), (0, .ref (ad 6)), (1, .ref (ad 7))]) hx hb dX8_copyFrom_1 rfl (by decide) rfl ?_
  refine z_sub [1, 2, 0] rfl ?_
  exact b2 10 q 0 hok hF
theorem hX8_copyFrom : yX8_copyFrom.cls = RX8 ∧ yX8_copyFrom.cls ≠ "java/lang/invoke/MethodHandle" ∧ yX8_copyFrom.cls ≠ "java/lang/invoke/VarHandle" ∧ (parseMethodDescriptor yX8_copyFrom.desc).map (fun d => d.parameters.length) = some 1 := by decide +kernel
def fX8_copyFrom_keptv_now_2 : Nat → SS → Int32 → SS
  | 0, q, _ => q
  | n + 1, q, v2 => (if 4 ≤ v2 then (sI (sI (sI (sI (sI (sI q 801 (gI q 701)) 802 (gI q 702)) 803 (gI q 703)) 804 (gI q 704)) 805 (gI q 705)) 806 (gI q 706)) else fX8_copyFrom_keptv_now_2 n (sA q 26 (upd (gA q 26) (v2 : Int32).toNatClampNeg ((gA q 25) (v2 : Int32).toNatClampNeg))) (v2 + 1))
def kX8_copyFrom_keptv_now_2 : Nat → SS → Int32 → Prop
  | 0, _, _ => False
  | n + 1, q, v2 => ((4 ≤ v2 → True) ∧ (¬ 4 ≤ v2 → vp_in v2 4 ∧ vp_in v2 4 ∧ kX8_copyFrom_keptv_now_2 n (sA q 26 (upd (gA q 26) (v2 : Int32).toNatClampNeg ((gA q 25) (v2 : Int32).toNatClampNeg))) (v2 + 1)))
def fX8_copyFrom_keptv_now (q : SS) : SS := fX8_copyFrom_keptv_now_2 10 q 0
def kX8_copyFrom_keptv_now (q : SS) : Prop := kX8_copyFrom_keptv_now_2 10 q 0
set_option maxHeartbeats 4000000 in
set_option maxRecDepth 100000 in
theorem ctX8_copyFrom_keptv_now (l : Launch) (hl : l.stackTraces = false) (D : va_G) (kc : Nat → ClassId) (ad wad : Nat → Nat) (q : SS) (hok : kX8_copyFrom_keptv_now q) : Cv l yX8_copyFrom (Cond.code yX8_copyFrom cX8_copyFrom 3 none :: lw_G) (zr 0 0 0) 0 0 (PX D kc) (GX D kc ad wad) (GX D kc ad wad) [.ref (ad 7), .ref (ad 6)] q (fX8_copyFrom_keptv_now q) := by
  refine Cv.of (cc := cX8_copyFrom) (maxL := 3) (ret := none) (by decide) rfl (Nat.le_of_ble_eq_true rfl) ?_
  intro p e s m args below meth c A S hr hlocks hin hA hK
  have hx := S.1
  have hb := S.2.1
  have hE : EV A s s.heap := hK.2
  have hK : va_K D vwCl (tysK kc) s := hK.1
  generalize hFe : fX8_copyFrom_keptv_now q = F
  have hF : F = fX8_copyFrom_keptv_now q := hFe.symm
  have b2 : ∀ (n : Nat) (q : SS) (v2 : Int32), kX8_copyFrom_keptv_now_2 n q v2 → F = fX8_copyFrom_keptv_now_2 n q v2 → Z p l e (zr 0 0 0) s m args below meth c 0 0 (MQ below (va_Qv (fun (_ : Unit) => True) (fun _ t => (GX D kc ad wad) A F t.heap) A) args s 0 0 A) 3 A (ZG D vwCl (wX kc ad wad) (PLX wad) A) q 2 [(0, .ref (ad 7)), (1, .ref (ad 6)), (2, .int v2)] [] := by
    intro n
    induction n with
    | zero => intro q v2 hok hF; exact False.elim hok
    | succ n ih =>
      intro q v2 hok hF
      refine z_iload_n (j := 2) hx hb dX8_copyFrom_2 rfl rfl ?_
      refine z_iconst (v := 4) hx hb dX8_copyFrom_3 (by decide) ?_
      refine z_icmp_ge (tgt := 25) hx hb dX8_copyFrom_4 (by decide) (fun g4 => ?_) (fun g4 => ?_)
      · have hF := hF.trans (if_pos g4)
        have hok := And.left hok g4
        refine z_aload_n (j := 0) hx hb dX8_copyFrom_25 rfl rfl ?_
        refine z_aload_n (j := 1) hx hb dX8_copyFrom_26 rfl rfl ?_
        refine z_get (v := .int (gI q 701)) S hK inX8 6 (fun _ => rfl) rfl 1 (by decide) q1_164 rfl rfl dX8_copyFrom_27 ?_
        refine z_put (v := .int (gI q 701)) (q' := (sI q 801 (gI q 701))) S hK inX8 tyX8 tyX8_ok nmX8 7 (fun _ => rfl) rfl 1 (by decide) q1_164 rfl rfl rfl rfl (Nat.le_of_ble_eq_true rfl) dX8_copyFrom_30 (wXp801 kc ad wad _ _) (fun _ h => h) ?_
        refine z_aload_n (j := 0) hx hb dX8_copyFrom_33 rfl rfl ?_
        refine z_aload_n (j := 1) hx hb dX8_copyFrom_34 rfl rfl ?_
        refine z_get (v := .int (gI q 702)) S hK inX8 6 (fun _ => rfl) rfl 2 (by decide) q1_167 rfl rfl dX8_copyFrom_35 ?_
        refine z_put (v := .int (gI q 702)) (q' := (sI (sI q 801 (gI q 701)) 802 (gI q 702))) S hK inX8 tyX8 tyX8_ok nmX8 7 (fun _ => rfl) rfl 2 (by decide) q1_167 rfl rfl rfl rfl (Nat.le_of_ble_eq_true rfl) dX8_copyFrom_38 (wXp802 kc ad wad _ _) (fun _ h => h) ?_
        refine z_aload_n (j := 0) hx hb dX8_copyFrom_41 rfl rfl ?_
        refine z_aload_n (j := 1) hx hb dX8_copyFrom_42 rfl rfl ?_
        refine z_get (v := .int (gI q 703)) S hK inX8 6 (fun _ => rfl) rfl 3 (by decide) q1_170 rfl rfl dX8_copyFrom_43 ?_
        refine z_put (v := .int (gI q 703)) (q' := (sI (sI (sI q 801 (gI q 701)) 802 (gI q 702)) 803 (gI q 703))) S hK inX8 tyX8 tyX8_ok nmX8 7 (fun _ => rfl) rfl 3 (by decide) q1_170 rfl rfl rfl rfl (Nat.le_of_ble_eq_true rfl) dX8_copyFrom_46 (wXp803 kc ad wad _ _) (fun _ h => h) ?_
        refine z_aload_n (j := 0) hx hb dX8_copyFrom_49 rfl rfl ?_
        refine z_aload_n (j := 1) hx hb dX8_copyFrom_50 rfl rfl ?_
        refine z_get (v := .int (gI q 704)) S hK inX8 6 (fun _ => rfl) rfl 4 (by decide) q1_173 rfl rfl dX8_copyFrom_51 ?_
        refine z_put (v := .int (gI q 704)) (q' := (sI (sI (sI (sI q 801 (gI q 701)) 802 (gI q 702)) 803 (gI q 703)) 804 (gI q 704))) S hK inX8 tyX8 tyX8_ok nmX8 7 (fun _ => rfl) rfl 4 (by decide) q1_173 rfl rfl rfl rfl (Nat.le_of_ble_eq_true rfl) dX8_copyFrom_54 (wXp804 kc ad wad _ _) (fun _ h => h) ?_
        refine z_aload_n (j := 0) hx hb dX8_copyFrom_57 rfl rfl ?_
        refine z_aload_n (j := 1) hx hb dX8_copyFrom_58 rfl rfl ?_
        refine z_get (v := .int (gI q 705)) S hK inX8 6 (fun _ => rfl) rfl 5 (by decide) q1_177 rfl rfl dX8_copyFrom_59 ?_
        refine z_put (v := .int (gI q 705)) (q' := (sI (sI (sI (sI (sI q 801 (gI q 701)) 802 (gI q 702)) 803 (gI q 703)) 804 (gI q 704)) 805 (gI q 705))) S hK inX8 tyX8 tyX8_ok nmX8 7 (fun _ => rfl) rfl 5 (by decide) q1_177 rfl rfl rfl rfl (Nat.le_of_ble_eq_true rfl) dX8_copyFrom_62 (wXp805 kc ad wad _ _) (fun _ h => h) ?_
        refine z_aload_n (j := 0) hx hb dX8_copyFrom_65 rfl rfl ?_
        refine z_aload_n (j := 1) hx hb dX8_copyFrom_66 rfl rfl ?_
        refine z_get (v := .int (gI q 706)) S hK inX8 6 (fun _ => rfl) rfl 6 (by decide) q1_179 rfl rfl dX8_copyFrom_67 ?_
        refine z_put (v := .int (gI q 706)) (q' := (sI (sI (sI (sI (sI (sI q 801 (gI q 701)) 802 (gI q 702)) 803 (gI q 703)) 804 (gI q 704)) 805 (gI q 705)) 806 (gI q 706))) S hK inX8 tyX8 tyX8_ok nmX8 7 (fun _ => rfl) rfl 6 (by decide) q1_179 rfl rfl rfl rfl (Nat.le_of_ble_eq_true rfl) dX8_copyFrom_70 (wXp806 kc ad wad _ _) (fun _ h => h) ?_
        exact z_vret hx hb hlocks hr hF dX8_copyFrom_73
      · have hF := hF.trans (if_neg g4)
        have hok := And.right hok g4
        refine z_aload_n (j := 0) hx hb dX8_copyFrom_7 rfl rfl ?_
        refine z_get (v := .ref (ad 26)) S hK inX8 7 (fun _ => rfl) rfl 0 (by decide) q1_160 rfl rfl dX8_copyFrom_8 ?_
        refine z_iload_n (j := 2) hx hb dX8_copyFrom_11 rfl rfl ?_
        refine z_aload_n (j := 1) hx hb dX8_copyFrom_12 rfl rfl ?_
        refine z_get (v := .ref (ad 25)) S hK inX8 6 (fun _ => rfl) rfl 0 (by decide) q1_160 rfl rfl dX8_copyFrom_13 ?_
        refine z_iload_n (j := 2) hx hb dX8_copyFrom_16 rfl rfl ?_
        have h17 := And.left hok
        have hok := And.right hok
        refine z_iald (f := (gA q 25)) S hK 25 0 (fun _ => rfl) rfl h17 dX8_copyFrom_17 ?_
        have h18 := And.left hok
        have hok := And.right hok
        refine z_iast (f := (gA q 26)) (q' := (sA q 26 (upd (gA q 26) (v2 : Int32).toNatClampNeg ((gA q 25) (v2 : Int32).toNatClampNeg)))) S hK 26 0 (fun _ => rfl) rfl h18 dX8_copyFrom_18 (wXa26 kc ad wad _ _) (fun _ h => h) ?_
        refine z_iinc (k := 2) (v := (v2 + 1)) (lv' := [(2, .int (v2 + 1)), (0, .ref (ad 7)), (1, .ref (ad 6))]) hx hb dX8_copyFrom_19 rfl rfl (by decide) rfl ?_
        refine z_goto (tgt := 2) hx hb dX8_copyFrom_22 (by decide) ?_
        refine z_sub [1, 2, 0] rfl ?_
        exact ih (sA q 26 (upd (gA q 26) (v2 : Int32).toNatClampNeg ((gA q 25) (v2 : Int32).toNatClampNeg))) (v2 + 1) hok hF
  refine z_iconst (v := 0) hx hb dX8_copyFrom_0 (by decide) ?_
  refine z_istore_n (lv' := [(2, .int 0), (0, .ref (ad 7)), (1, .ref (ad 6))]) hx hb dX8_copyFrom_1 rfl (by decide) rfl ?_
  refine z_sub [1, 2, 0] rfl ?_
  exact b2 10 q 0 hok hF
def fX8_copyFrom_after_keptv_2 : Nat → SS → Int32 → SS
  | 0, q, _ => q
  | n + 1, q, v2 => (if 4 ≤ v2 then (sI (sI (sI (sI (sI (sI q 1201 (gI q 801)) 1202 (gI q 802)) 1203 (gI q 803)) 1204 (gI q 804)) 1205 (gI q 805)) 1206 (gI q 806)) else fX8_copyFrom_after_keptv_2 n (sA q 27 (upd (gA q 27) (v2 : Int32).toNatClampNeg ((gA q 26) (v2 : Int32).toNatClampNeg))) (v2 + 1))
def kX8_copyFrom_after_keptv_2 : Nat → SS → Int32 → Prop
  | 0, _, _ => False
  | n + 1, q, v2 => ((4 ≤ v2 → True) ∧ (¬ 4 ≤ v2 → vp_in v2 4 ∧ vp_in v2 4 ∧ kX8_copyFrom_after_keptv_2 n (sA q 27 (upd (gA q 27) (v2 : Int32).toNatClampNeg ((gA q 26) (v2 : Int32).toNatClampNeg))) (v2 + 1)))
def fX8_copyFrom_after_keptv (q : SS) : SS := fX8_copyFrom_after_keptv_2 10 q 0
def kX8_copyFrom_after_keptv (q : SS) : Prop := kX8_copyFrom_after_keptv_2 10 q 0
set_option maxHeartbeats 4000000 in
set_option maxRecDepth 100000 in
theorem ctX8_copyFrom_after_keptv (l : Launch) (hl : l.stackTraces = false) (D : va_G) (kc : Nat → ClassId) (ad wad : Nat → Nat) (q : SS) (hok : kX8_copyFrom_after_keptv q) : Cv l yX8_copyFrom (Cond.code yX8_copyFrom cX8_copyFrom 3 none :: lw_G) (zr 0 0 0) 0 0 (PX D kc) (GX D kc ad wad) (GX D kc ad wad) [.ref (ad 11), .ref (ad 7)] q (fX8_copyFrom_after_keptv q) := by
  refine Cv.of (cc := cX8_copyFrom) (maxL := 3) (ret := none) (by decide) rfl (Nat.le_of_ble_eq_true rfl) ?_
  intro p e s m args below meth c A S hr hlocks hin hA hK
  have hx := S.1
  have hb := S.2.1
  have hE : EV A s s.heap := hK.2
  have hK : va_K D vwCl (tysK kc) s := hK.1
  generalize hFe : fX8_copyFrom_after_keptv q = F
  have hF : F = fX8_copyFrom_after_keptv q := hFe.symm
  have b2 : ∀ (n : Nat) (q : SS) (v2 : Int32), kX8_copyFrom_after_keptv_2 n q v2 → F = fX8_copyFrom_after_keptv_2 n q v2 → Z p l e (zr 0 0 0) s m args below meth c 0 0 (MQ below (va_Qv (fun (_ : Unit) => True) (fun _ t => (GX D kc ad wad) A F t.heap) A) args s 0 0 A) 3 A (ZG D vwCl (wX kc ad wad) (PLX wad) A) q 2 [(0, .ref (ad 11)), (1, .ref (ad 7)), (2, .int v2)] [] := by
    intro n
    induction n with
    | zero => intro q v2 hok hF; exact False.elim hok
    | succ n ih =>
      intro q v2 hok hF
      refine z_iload_n (j := 2) hx hb dX8_copyFrom_2 rfl rfl ?_
      refine z_iconst (v := 4) hx hb dX8_copyFrom_3 (by decide) ?_
      refine z_icmp_ge (tgt := 25) hx hb dX8_copyFrom_4 (by decide) (fun g4 => ?_) (fun g4 => ?_)
      · have hF := hF.trans (if_pos g4)
        have hok := And.left hok g4
        refine z_aload_n (j := 0) hx hb dX8_copyFrom_25 rfl rfl ?_
        refine z_aload_n (j := 1) hx hb dX8_copyFrom_26 rfl rfl ?_
        refine z_get (v := .int (gI q 801)) S hK inX8 7 (fun _ => rfl) rfl 1 (by decide) q1_164 rfl rfl dX8_copyFrom_27 ?_
        refine z_put (v := .int (gI q 801)) (q' := (sI q 1201 (gI q 801))) S hK inX8 tyX8 tyX8_ok nmX8 11 (fun _ => rfl) rfl 1 (by decide) q1_164 rfl rfl rfl rfl (Nat.le_of_ble_eq_true rfl) dX8_copyFrom_30 (wXp1201 kc ad wad _ _) (fun _ h => h) ?_
        refine z_aload_n (j := 0) hx hb dX8_copyFrom_33 rfl rfl ?_
        refine z_aload_n (j := 1) hx hb dX8_copyFrom_34 rfl rfl ?_
        refine z_get (v := .int (gI q 802)) S hK inX8 7 (fun _ => rfl) rfl 2 (by decide) q1_167 rfl rfl dX8_copyFrom_35 ?_
        refine z_put (v := .int (gI q 802)) (q' := (sI (sI q 1201 (gI q 801)) 1202 (gI q 802))) S hK inX8 tyX8 tyX8_ok nmX8 11 (fun _ => rfl) rfl 2 (by decide) q1_167 rfl rfl rfl rfl (Nat.le_of_ble_eq_true rfl) dX8_copyFrom_38 (wXp1202 kc ad wad _ _) (fun _ h => h) ?_
        refine z_aload_n (j := 0) hx hb dX8_copyFrom_41 rfl rfl ?_
        refine z_aload_n (j := 1) hx hb dX8_copyFrom_42 rfl rfl ?_
        refine z_get (v := .int (gI q 803)) S hK inX8 7 (fun _ => rfl) rfl 3 (by decide) q1_170 rfl rfl dX8_copyFrom_43 ?_
        refine z_put (v := .int (gI q 803)) (q' := (sI (sI (sI q 1201 (gI q 801)) 1202 (gI q 802)) 1203 (gI q 803))) S hK inX8 tyX8 tyX8_ok nmX8 11 (fun _ => rfl) rfl 3 (by decide) q1_170 rfl rfl rfl rfl (Nat.le_of_ble_eq_true rfl) dX8_copyFrom_46 (wXp1203 kc ad wad _ _) (fun _ h => h) ?_
        refine z_aload_n (j := 0) hx hb dX8_copyFrom_49 rfl rfl ?_
        refine z_aload_n (j := 1) hx hb dX8_copyFrom_50 rfl rfl ?_
        refine z_get (v := .int (gI q 804)) S hK inX8 7 (fun _ => rfl) rfl 4 (by decide) q1_173 rfl rfl dX8_copyFrom_51 ?_
        refine z_put (v := .int (gI q 804)) (q' := (sI (sI (sI (sI q 1201 (gI q 801)) 1202 (gI q 802)) 1203 (gI q 803)) 1204 (gI q 804))) S hK inX8 tyX8 tyX8_ok nmX8 11 (fun _ => rfl) rfl 4 (by decide) q1_173 rfl rfl rfl rfl (Nat.le_of_ble_eq_true rfl) dX8_copyFrom_54 (wXp1204 kc ad wad _ _) (fun _ h => h) ?_
        refine z_aload_n (j := 0) hx hb dX8_copyFrom_57 rfl rfl ?_
        refine z_aload_n (j := 1) hx hb dX8_copyFrom_58 rfl rfl ?_
        refine z_get (v := .int (gI q 805)) S hK inX8 7 (fun _ => rfl) rfl 5 (by decide) q1_177 rfl rfl dX8_copyFrom_59 ?_
        refine z_put (v := .int (gI q 805)) (q' := (sI (sI (sI (sI (sI q 1201 (gI q 801)) 1202 (gI q 802)) 1203 (gI q 803)) 1204 (gI q 804)) 1205 (gI q 805))) S hK inX8 tyX8 tyX8_ok nmX8 11 (fun _ => rfl) rfl 5 (by decide) q1_177 rfl rfl rfl rfl (Nat.le_of_ble_eq_true rfl) dX8_copyFrom_62 (wXp1205 kc ad wad _ _) (fun _ h => h) ?_
        refine z_aload_n (j := 0) hx hb dX8_copyFrom_65 rfl rfl ?_
        refine z_aload_n (j := 1) hx hb dX8_copyFrom_66 rfl rfl ?_
        refine z_get (v := .int (gI q 806)) S hK inX8 7 (fun _ => rfl) rfl 6 (by decide) q1_179 rfl rfl dX8_copyFrom_67 ?_
        refine z_put (v := .int (gI q 806)) (q' := (sI (sI (sI (sI (sI (sI q 1201 (gI q 801)) 1202 (gI q 802)) 1203 (gI q 803)) 1204 (gI q 804)) 1205 (gI q 805)) 1206 (gI q 806))) S hK inX8 tyX8 tyX8_ok nmX8 11 (fun _ => rfl) rfl 6 (by decide) q1_179 rfl rfl rfl rfl (Nat.le_of_ble_eq_true rfl) dX8_copyFrom_70 (wXp1206 kc ad wad _ _) (fun _ h => h) ?_
        exact z_vret hx hb hlocks hr hF dX8_copyFrom_73
      · have hF := hF.trans (if_neg g4)
        have hok := And.right hok g4
        refine z_aload_n (j := 0) hx hb dX8_copyFrom_7 rfl rfl ?_
        refine z_get (v := .ref (ad 27)) S hK inX8 11 (fun _ => rfl) rfl 0 (by decide) q1_160 rfl rfl dX8_copyFrom_8 ?_
        refine z_iload_n (j := 2) hx hb dX8_copyFrom_11 rfl rfl ?_
        refine z_aload_n (j := 1) hx hb dX8_copyFrom_12 rfl rfl ?_
        refine z_get (v := .ref (ad 26)) S hK inX8 7 (fun _ => rfl) rfl 0 (by decide) q1_160 rfl rfl dX8_copyFrom_13 ?_
        refine z_iload_n (j := 2) hx hb dX8_copyFrom_16 rfl rfl ?_
        have h17 := And.left hok
        have hok := And.right hok
        refine z_iald (f := (gA q 26)) S hK 26 0 (fun _ => rfl) rfl h17 dX8_copyFrom_17 ?_
        have h18 := And.left hok
        have hok := And.right hok
        refine z_iast (f := (gA q 27)) (q' := (sA q 27 (upd (gA q 27) (v2 : Int32).toNatClampNeg ((gA q 26) (v2 : Int32).toNatClampNeg)))) S hK 27 0 (fun _ => rfl) rfl h18 dX8_copyFrom_18 (wXa27 kc ad wad _ _) (fun _ h => h) ?_
        refine z_iinc (k := 2) (v := (v2 + 1)) (lv' := [(2, .int (v2 + 1)), (0, .ref (ad 11)), (1, .ref (ad 7))]) hx hb dX8_copyFrom_19 rfl rfl (by decide) rfl ?_
        refine z_goto (tgt := 2) hx hb dX8_copyFrom_22 (by decide) ?_
        refine z_sub [1, 2, 0] rfl ?_
        exact ih (sA q 27 (upd (gA q 27) (v2 : Int32).toNatClampNeg ((gA q 26) (v2 : Int32).toNatClampNeg))) (v2 + 1) hok hF
  refine z_iconst (v := 0) hx hb dX8_copyFrom_0 (by decide) ?_
  refine z_istore_n (lv' := [(2, .int 0), (0, .ref (ad 11)), (1, .ref (ad 7))]) hx hb dX8_copyFrom_1 rfl (by decide) rfl ?_
  refine z_sub [1, 2, 0] rfl ?_
  exact b2 10 q 0 hok hF
def fX8_isAs_now_after_101 (q : SS) (s0 : Int32) : Int32 × SS := (s0, q)
def kX8_isAs_now_after_101 (q : SS) (s0 : Int32) : Prop := narrow .boolean (.int s0) = .int s0 ∧ True
def fX8_isAs_now_after_100 (q : SS) : Int32 × SS := fX8_isAs_now_after_101 q 0
def kX8_isAs_now_after_100 (q : SS) : Prop := kX8_isAs_now_after_101 q 0
def fX8_isAs_now_after_2 : Nat → SS → Int32 → Int32 × SS
  | 0, q, _ => (0, q)
  | n + 1, q, v2 => (if 4 ≤ v2 then (if (gI q 701) = (gI q 1201) then (if (gI q 702) = (gI q 1202) then (if (gI q 703) = (gI q 1203) then (if (gI q 704) = (gI q 1204) then (if (gI q 705) = (gI q 1205) then (if (gI q 706) = (gI q 1206) then fX8_isAs_now_after_101 q 1 else fX8_isAs_now_after_100 q) else fX8_isAs_now_after_100 q) else fX8_isAs_now_after_100 q) else fX8_isAs_now_after_100 q) else fX8_isAs_now_after_100 q) else fX8_isAs_now_after_100 q) else (if ((gA q 25) (v2 : Int32).toNatClampNeg) = ((gA q 27) (v2 : Int32).toNatClampNeg) then fX8_isAs_now_after_2 n q (v2 + 1) else (0, q)))
def kX8_isAs_now_after_2 : Nat → SS → Int32 → Prop
  | 0, _, _ => False
  | n + 1, q, v2 => ((4 ≤ v2 → (((gI q 701) = (gI q 1201) → (((gI q 702) = (gI q 1202) → (((gI q 703) = (gI q 1203) → (((gI q 704) = (gI q 1204) → (((gI q 705) = (gI q 1205) → (((gI q 706) = (gI q 1206) → kX8_isAs_now_after_101 q 1) ∧ (¬ (gI q 706) = (gI q 1206) → kX8_isAs_now_after_100 q))) ∧ (¬ (gI q 705) = (gI q 1205) → kX8_isAs_now_after_100 q))) ∧ (¬ (gI q 704) = (gI q 1204) → kX8_isAs_now_after_100 q))) ∧ (¬ (gI q 703) = (gI q 1203) → kX8_isAs_now_after_100 q))) ∧ (¬ (gI q 702) = (gI q 1202) → kX8_isAs_now_after_100 q))) ∧ (¬ (gI q 701) = (gI q 1201) → kX8_isAs_now_after_100 q))) ∧ (¬ 4 ≤ v2 → vp_in v2 4 ∧ vp_in v2 4 ∧ ((((gA q 25) (v2 : Int32).toNatClampNeg) = ((gA q 27) (v2 : Int32).toNatClampNeg) → kX8_isAs_now_after_2 n q (v2 + 1)) ∧ (¬ ((gA q 25) (v2 : Int32).toNatClampNeg) = ((gA q 27) (v2 : Int32).toNatClampNeg) → True))))
def fX8_isAs_now_after (q : SS) : Int32 × SS := fX8_isAs_now_after_2 10 q 0
def kX8_isAs_now_after (q : SS) : Prop := kX8_isAs_now_after_2 10 q 0
set_option maxHeartbeats 4000000 in
set_option maxRecDepth 100000 in
theorem ctX8_isAs_now_after (l : Launch) (hl : l.stackTraces = false) (D : va_G) (kc : Nat → ClassId) (ad wad : Nat → Nat) (q : SS) (hok : kX8_isAs_now_after q) : Ci l yX8_isAs (Cond.code yX8_isAs cX8_isAs 3 (some .boolean) :: lw_G) (zr 0 0 0) 0 0 (PX D kc) (GX D kc ad wad) (GX D kc ad wad) [.ref (ad 6), .ref (ad 11)] q (fX8_isAs_now_after q) := by
  refine Ci.of (cc := cX8_isAs) (maxL := 3) (ret := (some .boolean)) (by decide) rfl (Nat.le_of_ble_eq_true rfl) ?_
  intro p e s m args below meth c A S hr hlocks hin hA hK
  have hx := S.1
  have hb := S.2.1
  have hE : EV A s s.heap := hK.2
  have hK : va_K D vwCl (tysK kc) s := hK.1
  generalize hFe : fX8_isAs_now_after q = F
  have hF : F = fX8_isAs_now_after q := hFe.symm
  have b101 : ∀ (q : SS) (s0 : Int32), kX8_isAs_now_after_101 q s0 → F = fX8_isAs_now_after_101 q s0 → Z p l e (zr 0 0 0) s m args below meth c 0 0 (MQ below (va_Qi (fun (x : Int32) (_ : Unit) => x = F.1) (fun _ t => (GX D kc ad wad) A F.2 t.heap) A) args s 0 0 A) 3 A (ZG D vwCl (wX kc ad wad) (PLX wad) A) q 101 [] [.int s0] := by
    intro q s0 hok hF
    have h101 := And.left hok
    have hok := And.right hok
    exact z_iret hx hb hlocks hr h101 hF dX8_isAs_101
  have b100 : ∀ (q : SS), kX8_isAs_now_after_100 q → F = fX8_isAs_now_after_100 q → Z p l e (zr 0 0 0) s m args below meth c 0 0 (MQ below (va_Qi (fun (x : Int32) (_ : Unit) => x = F.1) (fun _ t => (GX D kc ad wad) A F.2 t.heap) A) args s 0 0 A) 3 A (ZG D vwCl (wX kc ad wad) (PLX wad) A) q 100 [] [] := by
    intro q hok hF
    refine z_iconst (v := 0) hx hb dX8_isAs_100 (by decide) ?_
    exact b101 q 0 hok hF
  have b2 : ∀ (n : Nat) (q : SS) (v2 : Int32), kX8_isAs_now_after_2 n q v2 → F = fX8_isAs_now_after_2 n q v2 → Z p l e (zr 0 0 0) s m args below meth c 0 0 (MQ below (va_Qi (fun (x : Int32) (_ : Unit) => x = F.1) (fun _ t => (GX D kc ad wad) A F.2 t.heap) A) args s 0 0 A) 3 A (ZG D vwCl (wX kc ad wad) (PLX wad) A) q 2 [(0, .ref (ad 6)), (1, .ref (ad 11)), (2, .int v2)] [] := by
    intro n
    induction n with
    | zero => intro q v2 hok hF; exact False.elim hok
    | succ n ih =>
      intro q v2 hok hF
      refine z_iload_n (j := 2) hx hb dX8_isAs_2 rfl rfl ?_
      refine z_iconst (v := 4) hx hb dX8_isAs_3 (by decide) ?_
      refine z_icmp_ge (tgt := 30) hx hb dX8_isAs_4 (by decide) (fun g4 => ?_) (fun g4 => ?_)
      · have hF := hF.trans (if_pos g4)
        have hok := And.left hok g4
        refine z_aload_n (j := 0) hx hb dX8_isAs_30 rfl rfl ?_
        refine z_get (v := .int (gI q 701)) S hK inX8 6 (fun _ => rfl) rfl 1 (by decide) q1_164 rfl rfl dX8_isAs_31 ?_
        refine z_aload_n (j := 1) hx hb dX8_isAs_34 rfl rfl ?_
        refine z_get (v := .int (gI q 1201)) S hK inX8 11 (fun _ => rfl) rfl 1 (by decide) q1_164 rfl rfl dX8_isAs_35 ?_
        refine z_icmp_ne (tgt := 100) hx hb dX8_isAs_38 (by decide) (fun g38 => ?_) (fun g38 => ?_)
        · have hF := hF.trans (if_neg g38)
          have hok := And.right hok g38
          refine z_sub [] rfl ?_
          exact b100 q hok hF
        · have hF := hF.trans (if_pos g38)
          have hok := And.left hok g38
          refine z_aload_n (j := 0) hx hb dX8_isAs_41 rfl rfl ?_
          refine z_get (v := .int (gI q 702)) S hK inX8 6 (fun _ => rfl) rfl 2 (by decide) q1_167 rfl rfl dX8_isAs_42 ?_
          refine z_aload_n (j := 1) hx hb dX8_isAs_45 rfl rfl ?_
          refine z_get (v := .int (gI q 1202)) S hK inX8 11 (fun _ => rfl) rfl 2 (by decide) q1_167 rfl rfl dX8_isAs_46 ?_
          refine z_icmp_ne (tgt := 100) hx hb dX8_isAs_49 (by decide) (fun g49 => ?_) (fun g49 => ?_)
          · have hF := hF.trans (if_neg g49)
            have hok := And.right hok g49
            refine z_sub [] rfl ?_
            exact b100 q hok hF
          · have hF := hF.trans (if_pos g49)
            have hok := And.left hok g49
            refine z_aload_n (j := 0) hx hb dX8_isAs_52 rfl rfl ?_
            refine z_get (v := .int (gI q 703)) S hK inX8 6 (fun _ => rfl) rfl 3 (by decide) q1_170 rfl rfl dX8_isAs_53 ?_
            refine z_aload_n (j := 1) hx hb dX8_isAs_56 rfl rfl ?_
            refine z_get (v := .int (gI q 1203)) S hK inX8 11 (fun _ => rfl) rfl 3 (by decide) q1_170 rfl rfl dX8_isAs_57 ?_
            refine z_icmp_ne (tgt := 100) hx hb dX8_isAs_60 (by decide) (fun g60 => ?_) (fun g60 => ?_)
            · have hF := hF.trans (if_neg g60)
              have hok := And.right hok g60
              refine z_sub [] rfl ?_
              exact b100 q hok hF
            · have hF := hF.trans (if_pos g60)
              have hok := And.left hok g60
              refine z_aload_n (j := 0) hx hb dX8_isAs_63 rfl rfl ?_
              refine z_get (v := .int (gI q 704)) S hK inX8 6 (fun _ => rfl) rfl 4 (by decide) q1_173 rfl rfl dX8_isAs_64 ?_
              refine z_aload_n (j := 1) hx hb dX8_isAs_67 rfl rfl ?_
              refine z_get (v := .int (gI q 1204)) S hK inX8 11 (fun _ => rfl) rfl 4 (by decide) q1_173 rfl rfl dX8_isAs_68 ?_
              refine z_icmp_ne (tgt := 100) hx hb dX8_isAs_71 (by decide) (fun g71 => ?_) (fun g71 => ?_)
              · have hF := hF.trans (if_neg g71)
                have hok := And.right hok g71
                refine z_sub [] rfl ?_
                exact b100 q hok hF
              · have hF := hF.trans (if_pos g71)
                have hok := And.left hok g71
                refine z_aload_n (j := 0) hx hb dX8_isAs_74 rfl rfl ?_
                refine z_get (v := .int (gI q 705)) S hK inX8 6 (fun _ => rfl) rfl 5 (by decide) q1_177 rfl rfl dX8_isAs_75 ?_
                refine z_aload_n (j := 1) hx hb dX8_isAs_78 rfl rfl ?_
                refine z_get (v := .int (gI q 1205)) S hK inX8 11 (fun _ => rfl) rfl 5 (by decide) q1_177 rfl rfl dX8_isAs_79 ?_
                refine z_icmp_ne (tgt := 100) hx hb dX8_isAs_82 (by decide) (fun g82 => ?_) (fun g82 => ?_)
                · have hF := hF.trans (if_neg g82)
                  have hok := And.right hok g82
                  refine z_sub [] rfl ?_
                  exact b100 q hok hF
                · have hF := hF.trans (if_pos g82)
                  have hok := And.left hok g82
                  refine z_aload_n (j := 0) hx hb dX8_isAs_85 rfl rfl ?_
                  refine z_get (v := .int (gI q 706)) S hK inX8 6 (fun _ => rfl) rfl 6 (by decide) q1_179 rfl rfl dX8_isAs_86 ?_
                  refine z_aload_n (j := 1) hx hb dX8_isAs_89 rfl rfl ?_
                  refine z_get (v := .int (gI q 1206)) S hK inX8 11 (fun _ => rfl) rfl 6 (by decide) q1_179 rfl rfl dX8_isAs_90 ?_
                  refine z_icmp_ne (tgt := 100) hx hb dX8_isAs_93 (by decide) (fun g93 => ?_) (fun g93 => ?_)
                  · have hF := hF.trans (if_neg g93)
                    have hok := And.right hok g93
                    refine z_sub [] rfl ?_
                    exact b100 q hok hF
                  · have hF := hF.trans (if_pos g93)
                    have hok := And.left hok g93
                    refine z_iconst (v := 1) hx hb dX8_isAs_96 (by decide) ?_
                    refine z_goto (tgt := 101) hx hb dX8_isAs_97 (by decide) ?_
                    refine z_sub [] rfl ?_
                    exact b101 q 1 hok hF
      · have hF := hF.trans (if_neg g4)
        have hok := And.right hok g4
        refine z_aload_n (j := 0) hx hb dX8_isAs_7 rfl rfl ?_
        refine z_get (v := .ref (ad 25)) S hK inX8 6 (fun _ => rfl) rfl 0 (by decide) q1_160 rfl rfl dX8_isAs_8 ?_
        refine z_iload_n (j := 2) hx hb dX8_isAs_11 rfl rfl ?_
        have h12 := And.left hok
        have hok := And.right hok
        refine z_iald (f := (gA q 25)) S hK 25 0 (fun _ => rfl) rfl h12 dX8_isAs_12 ?_
        refine z_aload_n (j := 1) hx hb dX8_isAs_13 rfl rfl ?_
        refine z_get (v := .ref (ad 27)) S hK inX8 11 (fun _ => rfl) rfl 0 (by decide) q1_160 rfl rfl dX8_isAs_14 ?_
        refine z_iload_n (j := 2) hx hb dX8_isAs_17 rfl rfl ?_
        have h18 := And.left hok
        have hok := And.right hok
        refine z_iald (f := (gA q 27)) S hK 27 0 (fun _ => rfl) rfl h18 dX8_isAs_18 ?_
        refine z_icmp_eq (tgt := 24) hx hb dX8_isAs_19 (by decide) (fun g19 => ?_) (fun g19 => ?_)
        · have hF := hF.trans (if_pos g19)
          have hok := And.left hok g19
          refine z_iinc (k := 2) (v := (v2 + 1)) (lv' := [(2, .int (v2 + 1)), (0, .ref (ad 6)), (1, .ref (ad 11))]) hx hb dX8_isAs_24 rfl rfl (by decide) rfl ?_
          refine z_goto (tgt := 2) hx hb dX8_isAs_27 (by decide) ?_
          refine z_sub [1, 2, 0] rfl ?_
          exact ih q (v2 + 1) hok hF
        · have hF := hF.trans (if_neg g19)
          have hok := And.right hok g19
          refine z_iconst (v := 0) hx hb dX8_isAs_22 (by decide) ?_
          exact z_iret hx hb hlocks hr (by decide) hF dX8_isAs_23
  refine z_iconst (v := 0) hx hb dX8_isAs_0 (by decide) ?_
  refine z_istore_n (lv' := [(2, .int 0), (0, .ref (ad 6)), (1, .ref (ad 11))]) hx hb dX8_isAs_1 rfl (by decide) rfl ?_
  refine z_sub [1, 2, 0] rfl ?_
  exact b2 10 q 0 hok hF
theorem hX8_isAs : yX8_isAs.cls = RX8 ∧ yX8_isAs.cls ≠ "java/lang/invoke/MethodHandle" ∧ yX8_isAs.cls ≠ "java/lang/invoke/VarHandle" ∧ (parseMethodDescriptor yX8_isAs.desc).map (fun d => d.parameters.length) = some 1 := by decide +kernel
def fX8_isAs_now_keptv_101 (q : SS) (s0 : Int32) : Int32 × SS := (s0, q)
def kX8_isAs_now_keptv_101 (q : SS) (s0 : Int32) : Prop := narrow .boolean (.int s0) = .int s0 ∧ True
def fX8_isAs_now_keptv_100 (q : SS) : Int32 × SS := fX8_isAs_now_keptv_101 q 0
def kX8_isAs_now_keptv_100 (q : SS) : Prop := kX8_isAs_now_keptv_101 q 0
def fX8_isAs_now_keptv_2 : Nat → SS → Int32 → Int32 × SS
  | 0, q, _ => (0, q)
  | n + 1, q, v2 => (if 4 ≤ v2 then (if (gI q 701) = (gI q 801) then (if (gI q 702) = (gI q 802) then (if (gI q 703) = (gI q 803) then (if (gI q 704) = (gI q 804) then (if (gI q 705) = (gI q 805) then (if (gI q 706) = (gI q 806) then fX8_isAs_now_keptv_101 q 1 else fX8_isAs_now_keptv_100 q) else fX8_isAs_now_keptv_100 q) else fX8_isAs_now_keptv_100 q) else fX8_isAs_now_keptv_100 q) else fX8_isAs_now_keptv_100 q) else fX8_isAs_now_keptv_100 q) else (if ((gA q 25) (v2 : Int32).toNatClampNeg) = ((gA q 26) (v2 : Int32).toNatClampNeg) then fX8_isAs_now_keptv_2 n q (v2 + 1) else (0, q)))
def kX8_isAs_now_keptv_2 : Nat → SS → Int32 → Prop
  | 0, _, _ => False
  | n + 1, q, v2 => ((4 ≤ v2 → (((gI q 701) = (gI q 801) → (((gI q 702) = (gI q 802) → (((gI q 703) = (gI q 803) → (((gI q 704) = (gI q 804) → (((gI q 705) = (gI q 805) → (((gI q 706) = (gI q 806) → kX8_isAs_now_keptv_101 q 1) ∧ (¬ (gI q 706) = (gI q 806) → kX8_isAs_now_keptv_100 q))) ∧ (¬ (gI q 705) = (gI q 805) → kX8_isAs_now_keptv_100 q))) ∧ (¬ (gI q 704) = (gI q 804) → kX8_isAs_now_keptv_100 q))) ∧ (¬ (gI q 703) = (gI q 803) → kX8_isAs_now_keptv_100 q))) ∧ (¬ (gI q 702) = (gI q 802) → kX8_isAs_now_keptv_100 q))) ∧ (¬ (gI q 701) = (gI q 801) → kX8_isAs_now_keptv_100 q))) ∧ (¬ 4 ≤ v2 → vp_in v2 4 ∧ vp_in v2 4 ∧ ((((gA q 25) (v2 : Int32).toNatClampNeg) = ((gA q 26) (v2 : Int32).toNatClampNeg) → kX8_isAs_now_keptv_2 n q (v2 + 1)) ∧ (¬ ((gA q 25) (v2 : Int32).toNatClampNeg) = ((gA q 26) (v2 : Int32).toNatClampNeg) → True))))
def fX8_isAs_now_keptv (q : SS) : Int32 × SS := fX8_isAs_now_keptv_2 10 q 0
def kX8_isAs_now_keptv (q : SS) : Prop := kX8_isAs_now_keptv_2 10 q 0
set_option maxHeartbeats 4000000 in
set_option maxRecDepth 100000 in
theorem ctX8_isAs_now_keptv (l : Launch) (hl : l.stackTraces = false) (D : va_G) (kc : Nat → ClassId) (ad wad : Nat → Nat) (q : SS) (hok : kX8_isAs_now_keptv q) : Ci l yX8_isAs (Cond.code yX8_isAs cX8_isAs 3 (some .boolean) :: lw_G) (zr 0 0 0) 0 0 (PX D kc) (GX D kc ad wad) (GX D kc ad wad) [.ref (ad 6), .ref (ad 7)] q (fX8_isAs_now_keptv q) := by
  refine Ci.of (cc := cX8_isAs) (maxL := 3) (ret := (some .boolean)) (by decide) rfl (Nat.le_of_ble_eq_true rfl) ?_
  intro p e s m args below meth c A S hr hlocks hin hA hK
  have hx := S.1
  have hb := S.2.1
  have hE : EV A s s.heap := hK.2
  have hK : va_K D vwCl (tysK kc) s := hK.1
  generalize hFe : fX8_isAs_now_keptv q = F
  have hF : F = fX8_isAs_now_keptv q := hFe.symm
  have b101 : ∀ (q : SS) (s0 : Int32), kX8_isAs_now_keptv_101 q s0 → F = fX8_isAs_now_keptv_101 q s0 → Z p l e (zr 0 0 0) s m args below meth c 0 0 (MQ below (va_Qi (fun (x : Int32) (_ : Unit) => x = F.1) (fun _ t => (GX D kc ad wad) A F.2 t.heap) A) args s 0 0 A) 3 A (ZG D vwCl (wX kc ad wad) (PLX wad) A) q 101 [] [.int s0] := by
    intro q s0 hok hF
    have h101 := And.left hok
    have hok := And.right hok
    exact z_iret hx hb hlocks hr h101 hF dX8_isAs_101
  have b100 : ∀ (q : SS), kX8_isAs_now_keptv_100 q → F = fX8_isAs_now_keptv_100 q → Z p l e (zr 0 0 0) s m args below meth c 0 0 (MQ below (va_Qi (fun (x : Int32) (_ : Unit) => x = F.1) (fun _ t => (GX D kc ad wad) A F.2 t.heap) A) args s 0 0 A) 3 A (ZG D vwCl (wX kc ad wad) (PLX wad) A) q 100 [] [] := by
    intro q hok hF
    refine z_iconst (v := 0) hx hb dX8_isAs_100 (by decide) ?_
    exact b101 q 0 hok hF
  have b2 : ∀ (n : Nat) (q : SS) (v2 : Int32), kX8_isAs_now_keptv_2 n q v2 → F = fX8_isAs_now_keptv_2 n q v2 → Z p l e (zr 0 0 0) s m args below meth c 0 0 (MQ below (va_Qi (fun (x : Int32) (_ : Unit) => x = F.1) (fun _ t => (GX D kc ad wad) A F.2 t.heap) A) args s 0 0 A) 3 A (ZG D vwCl (wX kc ad wad) (PLX wad) A) q 2 [(0, .ref (ad 6)), (1, .ref (ad 7)), (2, .int v2)] [] := by
    intro n
    induction n with
    | zero => intro q v2 hok hF; exact False.elim hok
    | succ n ih =>
      intro q v2 hok hF
      refine z_iload_n (j := 2) hx hb dX8_isAs_2 rfl rfl ?_
      refine z_iconst (v := 4) hx hb dX8_isAs_3 (by decide) ?_
      refine z_icmp_ge (tgt := 30) hx hb dX8_isAs_4 (by decide) (fun g4 => ?_) (fun g4 => ?_)
      · have hF := hF.trans (if_pos g4)
        have hok := And.left hok g4
        refine z_aload_n (j := 0) hx hb dX8_isAs_30 rfl rfl ?_
        refine z_get (v := .int (gI q 701)) S hK inX8 6 (fun _ => rfl) rfl 1 (by decide) q1_164 rfl rfl dX8_isAs_31 ?_
        refine z_aload_n (j := 1) hx hb dX8_isAs_34 rfl rfl ?_
        refine z_get (v := .int (gI q 801)) S hK inX8 7 (fun _ => rfl) rfl 1 (by decide) q1_164 rfl rfl dX8_isAs_35 ?_
        refine z_icmp_ne (tgt := 100) hx hb dX8_isAs_38 (by decide) (fun g38 => ?_) (fun g38 => ?_)
        · have hF := hF.trans (if_neg g38)
          have hok := And.right hok g38
          refine z_sub [] rfl ?_
          exact b100 q hok hF
        · have hF := hF.trans (if_pos g38)
          have hok := And.left hok g38
          refine z_aload_n (j := 0) hx hb dX8_isAs_41 rfl rfl ?_
          refine z_get (v := .int (gI q 702)) S hK inX8 6 (fun _ => rfl) rfl 2 (by decide) q1_167 rfl rfl dX8_isAs_42 ?_
          refine z_aload_n (j := 1) hx hb dX8_isAs_45 rfl rfl ?_
          refine z_get (v := .int (gI q 802)) S hK inX8 7 (fun _ => rfl) rfl 2 (by decide) q1_167 rfl rfl dX8_isAs_46 ?_
          refine z_icmp_ne (tgt := 100) hx hb dX8_isAs_49 (by decide) (fun g49 => ?_) (fun g49 => ?_)
          · have hF := hF.trans (if_neg g49)
            have hok := And.right hok g49
            refine z_sub [] rfl ?_
            exact b100 q hok hF
          · have hF := hF.trans (if_pos g49)
            have hok := And.left hok g49
            refine z_aload_n (j := 0) hx hb dX8_isAs_52 rfl rfl ?_
            refine z_get (v := .int (gI q 703)) S hK inX8 6 (fun _ => rfl) rfl 3 (by decide) q1_170 rfl rfl dX8_isAs_53 ?_
            refine z_aload_n (j := 1) hx hb dX8_isAs_56 rfl rfl ?_
            refine z_get (v := .int (gI q 803)) S hK inX8 7 (fun _ => rfl) rfl 3 (by decide) q1_170 rfl rfl dX8_isAs_57 ?_
            refine z_icmp_ne (tgt := 100) hx hb dX8_isAs_60 (by decide) (fun g60 => ?_) (fun g60 => ?_)
            · have hF := hF.trans (if_neg g60)
              have hok := And.right hok g60
              refine z_sub [] rfl ?_
              exact b100 q hok hF
            · have hF := hF.trans (if_pos g60)
              have hok := And.left hok g60
              refine z_aload_n (j := 0) hx hb dX8_isAs_63 rfl rfl ?_
              refine z_get (v := .int (gI q 704)) S hK inX8 6 (fun _ => rfl) rfl 4 (by decide) q1_173 rfl rfl dX8_isAs_64 ?_
              refine z_aload_n (j := 1) hx hb dX8_isAs_67 rfl rfl ?_
              refine z_get (v := .int (gI q 804)) S hK inX8 7 (fun _ => rfl) rfl 4 (by decide) q1_173 rfl rfl dX8_isAs_68 ?_
              refine z_icmp_ne (tgt := 100) hx hb dX8_isAs_71 (by decide) (fun g71 => ?_) (fun g71 => ?_)
              · have hF := hF.trans (if_neg g71)
                have hok := And.right hok g71
                refine z_sub [] rfl ?_
                exact b100 q hok hF
              · have hF := hF.trans (if_pos g71)
                have hok := And.left hok g71
                refine z_aload_n (j := 0) hx hb dX8_isAs_74 rfl rfl ?_
                refine z_get (v := .int (gI q 705)) S hK inX8 6 (fun _ => rfl) rfl 5 (by decide) q1_177 rfl rfl dX8_isAs_75 ?_
                refine z_aload_n (j := 1) hx hb dX8_isAs_78 rfl rfl ?_
                refine z_get (v := .int (gI q 805)) S hK inX8 7 (fun _ => rfl) rfl 5 (by decide) q1_177 rfl rfl dX8_isAs_79 ?_
                refine z_icmp_ne (tgt := 100) hx hb dX8_isAs_82 (by decide) (fun g82 => ?_) (fun g82 => ?_)
                · have hF := hF.trans (if_neg g82)
                  have hok := And.right hok g82
                  refine z_sub [] rfl ?_
                  exact b100 q hok hF
                · have hF := hF.trans (if_pos g82)
                  have hok := And.left hok g82
                  refine z_aload_n (j := 0) hx hb dX8_isAs_85 rfl rfl ?_
                  refine z_get (v := .int (gI q 706)) S hK inX8 6 (fun _ => rfl) rfl 6 (by decide) q1_179 rfl rfl dX8_isAs_86 ?_
                  refine z_aload_n (j := 1) hx hb dX8_isAs_89 rfl rfl ?_
                  refine z_get (v := .int (gI q 806)) S hK inX8 7 (fun _ => rfl) rfl 6 (by decide) q1_179 rfl rfl dX8_isAs_90 ?_
                  refine z_icmp_ne (tgt := 100) hx hb dX8_isAs_93 (by decide) (fun g93 => ?_) (fun g93 => ?_)
                  · have hF := hF.trans (if_neg g93)
                    have hok := And.right hok g93
                    refine z_sub [] rfl ?_
                    exact b100 q hok hF
                  · have hF := hF.trans (if_pos g93)
                    have hok := And.left hok g93
                    refine z_iconst (v := 1) hx hb dX8_isAs_96 (by decide) ?_
                    refine z_goto (tgt := 101) hx hb dX8_isAs_97 (by decide) ?_
                    refine z_sub [] rfl ?_
                    exact b101 q 1 hok hF
      · have hF := hF.trans (if_neg g4)
        have hok := And.right hok g4
        refine z_aload_n (j := 0) hx hb dX8_isAs_7 rfl rfl ?_
        refine z_get (v := .ref (ad 25)) S hK inX8 6 (fun _ => rfl) rfl 0 (by decide) q1_160 rfl rfl dX8_isAs_8 ?_
        refine z_iload_n (j := 2) hx hb dX8_isAs_11 rfl rfl ?_
        have h12 := And.left hok
        have hok := And.right hok
        refine z_iald (f := (gA q 25)) S hK 25 0 (fun _ => rfl) rfl h12 dX8_isAs_12 ?_
        refine z_aload_n (j := 1) hx hb dX8_isAs_13 rfl rfl ?_
        refine z_get (v := .ref (ad 26)) S hK inX8 7 (fun _ => rfl) rfl 0 (by decide) q1_160 rfl rfl dX8_isAs_14 ?_
        refine z_iload_n (j := 2) hx hb dX8_isAs_17 rfl rfl ?_
        have h18 := And.left hok
        have hok := And.right hok
        refine z_iald (f := (gA q 26)) S hK 26 0 (fun _ => rfl) rfl h18 dX8_isAs_18 ?_
        refine z_icmp_eq (tgt := 24) hx hb dX8_isAs_19 (by decide) (fun g19 => ?_) (fun g19 => ?_)
        · have hF := hF.trans (if_pos g19)
          have hok := And.left hok g19
          refine z_iinc (k := 2) (v := (v2 + 1)) (lv' := [(2, .int (v2 + 1)), (0, .ref (ad 6)), (1, .ref (ad 7))]) hx hb dX8_isAs_24 rfl rfl (by decide) rfl ?_
          refine z_goto (tgt := 2) hx hb dX8_isAs_27 (by decide) ?_
          refine z_sub [1, 2, 0] rfl ?_
          exact ih q (v2 + 1) hok hF
        · have hF := hF.trans (if_neg g19)
          have hok := And.right hok g19
          refine z_iconst (v := 0) hx hb dX8_isAs_22 (by decide) ?_
          exact z_iret hx hb hlocks hr (by decide) hF dX8_isAs_23
  refine z_iconst (v := 0) hx hb dX8_isAs_0 (by decide) ?_
  refine z_istore_n (lv' := [(2, .int 0), (0, .ref (ad 6)), (1, .ref (ad 7))]) hx hb dX8_isAs_1 rfl (by decide) rfl ?_
  refine z_sub [1, 2, 0] rfl ?_
  exact b2 10 q 0 hok hF
def fX8_setFlags_now_23 (q : SS) (s0 : Int32) : SS := (sI q 704 s0)
def kX8_setFlags_now_23 (q : SS) (s0 : Int32) : Prop := True
def fX8_setFlags_now_10 (q : SS) (v2 : Int32) (s0 : Int32) : SS := (if v2 = 0 then fX8_setFlags_now_23 (sI q 703 s0) 0 else fX8_setFlags_now_23 (sI q 703 s0) 1)
def kX8_setFlags_now_10 (q : SS) (v2 : Int32) (s0 : Int32) : Prop := ((v2 = 0 → kX8_setFlags_now_23 (sI q 703 s0) 0) ∧ (¬ v2 = 0 → kX8_setFlags_now_23 (sI q 703 s0) 1))
def fX8_setFlags_now (q : SS) (v1 : Int32) (v2 : Int32) : SS := (if v1 = 0 then fX8_setFlags_now_10 q v2 0 else fX8_setFlags_now_10 q v2 1)
def kX8_setFlags_now (q : SS) (v1 : Int32) (v2 : Int32) : Prop := ((v1 = 0 → kX8_setFlags_now_10 q v2 0) ∧ (¬ v1 = 0 → kX8_setFlags_now_10 q v2 1))
set_option maxHeartbeats 4000000 in
set_option maxRecDepth 100000 in
theorem ctX8_setFlags_now (l : Launch) (hl : l.stackTraces = false) (D : va_G) (kc : Nat → ClassId) (ad wad : Nat → Nat) (q : SS) (v1 : Int32) (v2 : Int32) (hok : kX8_setFlags_now q v1 v2) : Cv l yX8_setFlags (Cond.code yX8_setFlags cX8_setFlags 3 none :: lw_G) (zr 0 0 0) 0 0 (PX D kc) (GX D kc ad wad) (GX D kc ad wad) [.ref (ad 6), .int v1, .int v2] q (fX8_setFlags_now q v1 v2) := by
  refine Cv.of (cc := cX8_setFlags) (maxL := 3) (ret := none) (by decide) rfl (Nat.le_of_ble_eq_true rfl) ?_
  intro p e s m args below meth c A S hr hlocks hin hA hK
  have hx := S.1
  have hb := S.2.1
  have hE : EV A s s.heap := hK.2
  have hK : va_K D vwCl (tysK kc) s := hK.1
  generalize hFe : fX8_setFlags_now q v1 v2 = F
  have hF : F = fX8_setFlags_now q v1 v2 := hFe.symm
  have b23 : ∀ (q : SS) (s0 : Int32), kX8_setFlags_now_23 q s0 → F = fX8_setFlags_now_23 q s0 → Z p l e (zr 0 0 0) s m args below meth c 0 0 (MQ below (va_Qv (fun (_ : Unit) => True) (fun _ t => (GX D kc ad wad) A F t.heap) A) args s 0 0 A) 3 A (ZG D vwCl (wX kc ad wad) (PLX wad) A) q 23 [] [.int s0, .ref (ad 6)] := by
    intro q s0 hok hF
    refine z_put (v := .int s0) (q' := (sI q 704 s0)) S hK inX8 tyX8 tyX8_ok nmX8 6 (fun _ => rfl) rfl 4 (by decide) q1_173 rfl rfl rfl rfl (Nat.le_of_ble_eq_true rfl) dX8_setFlags_23 (wXp704 kc ad wad _ _) (fun _ h => h) ?_
    exact z_vret hx hb hlocks hr hF dX8_setFlags_26
  have b10 : ∀ (q : SS) (v2 : Int32) (s0 : Int32), kX8_setFlags_now_10 q v2 s0 → F = fX8_setFlags_now_10 q v2 s0 → Z p l e (zr 0 0 0) s m args below meth c 0 0 (MQ below (va_Qv (fun (_ : Unit) => True) (fun _ t => (GX D kc ad wad) A F t.heap) A) args s 0 0 A) 3 A (ZG D vwCl (wX kc ad wad) (PLX wad) A) q 10 [(0, .ref (ad 6)), (2, .int v2)] [.int s0, .ref (ad 6)] := by
    intro q v2 s0 hok hF
    refine z_put (v := .int s0) (q' := (sI q 703 s0)) S hK inX8 tyX8 tyX8_ok nmX8 6 (fun _ => rfl) rfl 3 (by decide) q1_170 rfl rfl rfl rfl (Nat.le_of_ble_eq_true rfl) dX8_setFlags_10 (wXp703 kc ad wad _ _) (fun _ h => h) ?_
    refine z_aload_n (j := 0) hx hb dX8_setFlags_13 rfl rfl ?_
    refine z_iload_n (j := 1) hx hb dX8_setFlags_14 rfl rfl ?_
    refine z_if_eq (tgt := 22) hx hb dX8_setFlags_15 (by decide) (fun g15 => ?_) (fun g15 => ?_)
    · have hF := hF.trans (if_pos g15)
      have hok := And.left hok g15
      refine z_iconst (v := 0) hx hb dX8_setFlags_22 (by decide) ?_
      refine z_sub [] rfl ?_
      exact b23 (sI q 703 s0) 0 hok hF
    · have hF := hF.trans (if_neg g15)
      have hok := And.right hok g15
      refine z_iconst (v := 1) hx hb dX8_setFlags_18 (by decide) ?_
      refine z_goto (tgt := 23) hx hb dX8_setFlags_19 (by decide) ?_
      refine z_sub [] rfl ?_
      exact b23 (sI q 703 s0) 1 hok hF
  refine z_aload_n (j := 0) hx hb dX8_setFlags_0 rfl rfl ?_
  refine z_iload_n (j := 1) hx hb dX8_setFlags_1 rfl rfl ?_
  refine z_if_eq (tgt := 9) hx hb dX8_setFlags_2 (by decide) (fun g2 => ?_) (fun g2 => ?_)
  · have hF := hF.trans (if_pos g2)
    have hok := And.left hok g2
    refine z_iconst (v := 0) hx hb dX8_setFlags_9 (by decide) ?_
    refine z_sub [0, 2] rfl ?_
    exact b10 q v2 0 hok hF
  · have hF := hF.trans (if_neg g2)
    have hok := And.right hok g2
    refine z_iconst (v := 1) hx hb dX8_setFlags_5 (by decide) ?_
    refine z_goto (tgt := 10) hx hb dX8_setFlags_6 (by decide) ?_
    refine z_sub [0, 2] rfl ?_
    exact b10 q v2 1 hok hF
theorem hX8_setFlags : yX8_setFlags.cls = RX8 ∧ yX8_setFlags.cls ≠ "java/lang/invoke/MethodHandle" ∧ yX8_setFlags.cls ≠ "java/lang/invoke/VarHandle" ∧ (parseMethodDescriptor yX8_setFlags.desc).map (fun d => d.parameters.length) = some 2 := by decide +kernel
def fX8_setFlags_after_23 (q : SS) (s0 : Int32) : SS := (sI q 1204 s0)
def kX8_setFlags_after_23 (q : SS) (s0 : Int32) : Prop := True
def fX8_setFlags_after_10 (q : SS) (v2 : Int32) (s0 : Int32) : SS := (if v2 = 0 then fX8_setFlags_after_23 (sI q 1203 s0) 0 else fX8_setFlags_after_23 (sI q 1203 s0) 1)
def kX8_setFlags_after_10 (q : SS) (v2 : Int32) (s0 : Int32) : Prop := ((v2 = 0 → kX8_setFlags_after_23 (sI q 1203 s0) 0) ∧ (¬ v2 = 0 → kX8_setFlags_after_23 (sI q 1203 s0) 1))
def fX8_setFlags_after (q : SS) (v1 : Int32) (v2 : Int32) : SS := (if v1 = 0 then fX8_setFlags_after_10 q v2 0 else fX8_setFlags_after_10 q v2 1)
def kX8_setFlags_after (q : SS) (v1 : Int32) (v2 : Int32) : Prop := ((v1 = 0 → kX8_setFlags_after_10 q v2 0) ∧ (¬ v1 = 0 → kX8_setFlags_after_10 q v2 1))
set_option maxHeartbeats 4000000 in
set_option maxRecDepth 100000 in
theorem ctX8_setFlags_after (l : Launch) (hl : l.stackTraces = false) (D : va_G) (kc : Nat → ClassId) (ad wad : Nat → Nat) (q : SS) (v1 : Int32) (v2 : Int32) (hok : kX8_setFlags_after q v1 v2) : Cv l yX8_setFlags (Cond.code yX8_setFlags cX8_setFlags 3 none :: lw_G) (zr 0 0 0) 0 0 (PX D kc) (GX D kc ad wad) (GX D kc ad wad) [.ref (ad 11), .int v1, .int v2] q (fX8_setFlags_after q v1 v2) := by
  refine Cv.of (cc := cX8_setFlags) (maxL := 3) (ret := none) (by decide) rfl (Nat.le_of_ble_eq_true rfl) ?_
  intro p e s m args below meth c A S hr hlocks hin hA hK
  have hx := S.1
  have hb := S.2.1
  have hE : EV A s s.heap := hK.2
  have hK : va_K D vwCl (tysK kc) s := hK.1
  generalize hFe : fX8_setFlags_after q v1 v2 = F
  have hF : F = fX8_setFlags_after q v1 v2 := hFe.symm
  have b23 : ∀ (q : SS) (s0 : Int32), kX8_setFlags_after_23 q s0 → F = fX8_setFlags_after_23 q s0 → Z p l e (zr 0 0 0) s m args below meth c 0 0 (MQ below (va_Qv (fun (_ : Unit) => True) (fun _ t => (GX D kc ad wad) A F t.heap) A) args s 0 0 A) 3 A (ZG D vwCl (wX kc ad wad) (PLX wad) A) q 23 [] [.int s0, .ref (ad 11)] := by
    intro q s0 hok hF
    refine z_put (v := .int s0) (q' := (sI q 1204 s0)) S hK inX8 tyX8 tyX8_ok nmX8 11 (fun _ => rfl) rfl 4 (by decide) q1_173 rfl rfl rfl rfl (Nat.le_of_ble_eq_true rfl) dX8_setFlags_23 (wXp1204 kc ad wad _ _) (fun _ h => h) ?_
    exact z_vret hx hb hlocks hr hF dX8_setFlags_26
  have b10 : ∀ (q : SS) (v2 : Int32) (s0 : Int32), kX8_setFlags_after_10 q v2 s0 → F = fX8_setFlags_after_10 q v2 s0 → Z p l e (zr 0 0 0) s m args below meth c 0 0 (MQ below (va_Qv (fun (_ : Unit) => True) (fun _ t => (GX D kc ad wad) A F t.heap) A) args s 0 0 A) 3 A (ZG D vwCl (wX kc ad wad) (PLX wad) A) q 10 [(0, .ref (ad 11)), (2, .int v2)] [.int s0, .ref (ad 11)] := by
    intro q v2 s0 hok hF
    refine z_put (v := .int s0) (q' := (sI q 1203 s0)) S hK inX8 tyX8 tyX8_ok nmX8 11 (fun _ => rfl) rfl 3 (by decide) q1_170 rfl rfl rfl rfl (Nat.le_of_ble_eq_true rfl) dX8_setFlags_10 (wXp1203 kc ad wad _ _) (fun _ h => h) ?_
    refine z_aload_n (j := 0) hx hb dX8_setFlags_13 rfl rfl ?_
    refine z_iload_n (j := 1) hx hb dX8_setFlags_14 rfl rfl ?_
    refine z_if_eq (tgt := 22) hx hb dX8_setFlags_15 (by decide) (fun g15 => ?_) (fun g15 => ?_)
    · have hF := hF.trans (if_pos g15)
      have hok := And.left hok g15
      refine z_iconst (v := 0) hx hb dX8_setFlags_22 (by decide) ?_
      refine z_sub [] rfl ?_
      exact b23 (sI q 1203 s0) 0 hok hF
    · have hF := hF.trans (if_neg g15)
      have hok := And.right hok g15
      refine z_iconst (v := 1) hx hb dX8_setFlags_18 (by decide) ?_
      refine z_goto (tgt := 23) hx hb dX8_setFlags_19 (by decide) ?_
      refine z_sub [] rfl ?_
      exact b23 (sI q 1203 s0) 1 hok hF
  refine z_aload_n (j := 0) hx hb dX8_setFlags_0 rfl rfl ?_
  refine z_iload_n (j := 1) hx hb dX8_setFlags_1 rfl rfl ?_
  refine z_if_eq (tgt := 9) hx hb dX8_setFlags_2 (by decide) (fun g2 => ?_) (fun g2 => ?_)
  · have hF := hF.trans (if_pos g2)
    have hok := And.left hok g2
    refine z_iconst (v := 0) hx hb dX8_setFlags_9 (by decide) ?_
    refine z_sub [0, 2] rfl ?_
    exact b10 q v2 0 hok hF
  · have hF := hF.trans (if_neg g2)
    have hok := And.right hok g2
    refine z_iconst (v := 1) hx hb dX8_setFlags_5 (by decide) ?_
    refine z_goto (tgt := 10) hx hb dX8_setFlags_6 (by decide) ?_
    refine z_sub [0, 2] rfl ?_
    exact b10 q v2 1 hok hF
def fX8_valueOf_now (q : SS) (v1 : Int32) : Int32 × SS := (if v1 = 67 then ((gI q 704), q) else (if v1 = 73 then ((gI q 706), q) else (if v1 = 75 then ((gI q 702), q) else (if v1 = 80 then ((gI q 701), q) else (if v1 = 83 then ((gI q 705), q) else (if v1 = 90 then ((gI q 703), q) else (((gA q 25) (((v1 - 48) &&& 3) : Int32).toNatClampNeg), q)))))))
def kX8_valueOf_now (q : SS) (v1 : Int32) : Prop := ((v1 = 67 → True) ∧ (¬ v1 = 67 → ((v1 = 73 → True) ∧ (¬ v1 = 73 → ((v1 = 75 → True) ∧ (¬ v1 = 75 → ((v1 = 80 → True) ∧ (¬ v1 = 80 → ((v1 = 83 → True) ∧ (¬ v1 = 83 → ((v1 = 90 → True) ∧ (¬ v1 = 90 → vp_in ((v1 - 48) &&& 3) 4 ∧ True))))))))))))
set_option maxHeartbeats 4000000 in
set_option maxRecDepth 100000 in
theorem ctX8_valueOf_now (l : Launch) (hl : l.stackTraces = false) (D : va_G) (kc : Nat → ClassId) (ad wad : Nat → Nat) (q : SS) (v1 : Int32) (hok : kX8_valueOf_now q v1) : Ci l yX8_valueOf (Cond.code yX8_valueOf cX8_valueOf 2 (some .int) :: lw_G) (zr 0 0 0) 0 0 (PX D kc) (GX D kc ad wad) (GX D kc ad wad) [.ref (ad 6), .int v1] q (fX8_valueOf_now q v1) := by
  refine Ci.of (cc := cX8_valueOf) (maxL := 2) (ret := (some .int)) (by decide) rfl (Nat.le_of_ble_eq_true rfl) ?_
  intro p e s m args below meth c A S hr hlocks hin hA hK
  have hx := S.1
  have hb := S.2.1
  have hE : EV A s s.heap := hK.2
  have hK : va_K D vwCl (tysK kc) s := hK.1
  generalize hFe : fX8_valueOf_now q v1 = F
  have hF : F = fX8_valueOf_now q v1 := hFe.symm
  refine z_iload_n (j := 1) hx hb dX8_valueOf_0 rfl rfl ?_
  by_cases g1_67 : v1 = 67
  · have hF := hF.trans (if_pos g1_67)
    have hok := And.left hok g1_67
    refine z_lookup (tgt := 70) hx hb dX8_valueOf_1 (by decide) (by rw [g1_67]) (by decide) ?_
    refine z_aload_n (j := 0) hx hb dX8_valueOf_70 rfl rfl ?_
    refine z_get (v := .int (gI q 704)) S hK inX8 6 (fun _ => rfl) rfl 4 (by decide) q1_173 rfl rfl dX8_valueOf_71 ?_
    exact z_iret hx hb hlocks hr rfl hF dX8_valueOf_74
  have hF := hF.trans (if_neg g1_67)
  have hok := And.right hok g1_67
  by_cases g1_73 : v1 = 73
  · have hF := hF.trans (if_pos g1_73)
    have hok := And.left hok g1_73
    refine z_lookup (tgt := 80) hx hb dX8_valueOf_1 (by decide) (by rw [g1_73]) (by decide) ?_
    refine z_aload_n (j := 0) hx hb dX8_valueOf_80 rfl rfl ?_
    refine z_get (v := .int (gI q 706)) S hK inX8 6 (fun _ => rfl) rfl 6 (by decide) q1_179 rfl rfl dX8_valueOf_81 ?_
    exact z_iret hx hb hlocks hr rfl hF dX8_valueOf_84
  have hF := hF.trans (if_neg g1_73)
  have hok := And.right hok g1_73
  by_cases g1_75 : v1 = 75
  · have hF := hF.trans (if_pos g1_75)
    have hok := And.left hok g1_75
    refine z_lookup (tgt := 85) hx hb dX8_valueOf_1 (by decide) (by rw [g1_75]) (by decide) ?_
    refine z_aload_n (j := 0) hx hb dX8_valueOf_85 rfl rfl ?_
    refine z_get (v := .int (gI q 702)) S hK inX8 6 (fun _ => rfl) rfl 2 (by decide) q1_167 rfl rfl dX8_valueOf_86 ?_
    exact z_iret hx hb hlocks hr rfl hF dX8_valueOf_89
  have hF := hF.trans (if_neg g1_75)
  have hok := And.right hok g1_75
  by_cases g1_80 : v1 = 80
  · have hF := hF.trans (if_pos g1_80)
    have hok := And.left hok g1_80
    refine z_lookup (tgt := 60) hx hb dX8_valueOf_1 (by decide) (by rw [g1_80]) (by decide) ?_
    refine z_aload_n (j := 0) hx hb dX8_valueOf_60 rfl rfl ?_
    refine z_get (v := .int (gI q 701)) S hK inX8 6 (fun _ => rfl) rfl 1 (by decide) q1_164 rfl rfl dX8_valueOf_61 ?_
    exact z_iret hx hb hlocks hr rfl hF dX8_valueOf_64
  have hF := hF.trans (if_neg g1_80)
  have hok := And.right hok g1_80
  by_cases g1_83 : v1 = 83
  · have hF := hF.trans (if_pos g1_83)
    have hok := And.left hok g1_83
    refine z_lookup (tgt := 75) hx hb dX8_valueOf_1 (by decide) (by rw [g1_83]) (by decide) ?_
    refine z_aload_n (j := 0) hx hb dX8_valueOf_75 rfl rfl ?_
    refine z_get (v := .int (gI q 705)) S hK inX8 6 (fun _ => rfl) rfl 5 (by decide) q1_177 rfl rfl dX8_valueOf_76 ?_
    exact z_iret hx hb hlocks hr rfl hF dX8_valueOf_79
  have hF := hF.trans (if_neg g1_83)
  have hok := And.right hok g1_83
  by_cases g1_90 : v1 = 90
  · have hF := hF.trans (if_pos g1_90)
    have hok := And.left hok g1_90
    refine z_lookup (tgt := 65) hx hb dX8_valueOf_1 (by decide) (by rw [g1_90]) (by decide) ?_
    refine z_aload_n (j := 0) hx hb dX8_valueOf_65 rfl rfl ?_
    refine z_get (v := .int (gI q 703)) S hK inX8 6 (fun _ => rfl) rfl 3 (by decide) q1_170 rfl rfl dX8_valueOf_66 ?_
    exact z_iret hx hb hlocks hr rfl hF dX8_valueOf_69
  have hF := hF.trans (if_neg g1_90)
  have hok := And.right hok g1_90
  refine z_lookup (off := 89) (tgt := 90) hx hb dX8_valueOf_1 (by decide) ((lv_osw g1_67 (by decide)).trans ((lv_osw g1_73 (by decide)).trans ((lv_osw g1_75 (by decide)).trans ((lv_osw g1_80 (by decide)).trans ((lv_osw g1_83 (by decide)).trans ((lv_osw g1_90 (by decide)).trans (rfl))))))) (by decide) ?_
  refine z_aload_n (j := 0) hx hb dX8_valueOf_90 rfl rfl ?_
  refine z_get (v := .ref (ad 25)) S hK inX8 6 (fun _ => rfl) rfl 0 (by decide) q1_160 rfl rfl dX8_valueOf_91 ?_
  refine z_iload_n (j := 1) hx hb dX8_valueOf_94 rfl rfl ?_
  refine z_bipush (v := 48) hx hb dX8_valueOf_95 (by decide) ?_
  refine z_isub hx hb dX8_valueOf_97 ?_
  refine z_iconst (v := 3) hx hb dX8_valueOf_98 (by decide) ?_
  refine z_iand hx hb dX8_valueOf_99 ?_
  have h100 := And.left hok
  have hok := And.right hok
  refine z_iald (f := (gA q 25)) S hK 25 0 (fun _ => rfl) rfl h100 dX8_valueOf_100 ?_
  exact z_iret hx hb hlocks hr rfl hF dX8_valueOf_101
theorem hX8_valueOf : yX8_valueOf.cls = RX8 ∧ yX8_valueOf.cls ≠ "java/lang/invoke/MethodHandle" ∧ yX8_valueOf.cls ≠ "java/lang/invoke/VarHandle" ∧ (parseMethodDescriptor yX8_valueOf.desc).map (fun d => d.parameters.length) = some 1 := by decide +kernel
def fX8_valueOf_after (q : SS) (v1 : Int32) : Int32 × SS := (if v1 = 67 then ((gI q 1204), q) else (if v1 = 73 then ((gI q 1206), q) else (if v1 = 75 then ((gI q 1202), q) else (if v1 = 80 then ((gI q 1201), q) else (if v1 = 83 then ((gI q 1205), q) else (if v1 = 90 then ((gI q 1203), q) else (((gA q 27) (((v1 - 48) &&& 3) : Int32).toNatClampNeg), q)))))))
def kX8_valueOf_after (q : SS) (v1 : Int32) : Prop := ((v1 = 67 → True) ∧ (¬ v1 = 67 → ((v1 = 73 → True) ∧ (¬ v1 = 73 → ((v1 = 75 → True) ∧ (¬ v1 = 75 → ((v1 = 80 → True) ∧ (¬ v1 = 80 → ((v1 = 83 → True) ∧ (¬ v1 = 83 → ((v1 = 90 → True) ∧ (¬ v1 = 90 → vp_in ((v1 - 48) &&& 3) 4 ∧ True))))))))))))
set_option maxHeartbeats 4000000 in
set_option maxRecDepth 100000 in
theorem ctX8_valueOf_after (l : Launch) (hl : l.stackTraces = false) (D : va_G) (kc : Nat → ClassId) (ad wad : Nat → Nat) (q : SS) (v1 : Int32) (hok : kX8_valueOf_after q v1) : Ci l yX8_valueOf (Cond.code yX8_valueOf cX8_valueOf 2 (some .int) :: lw_G) (zr 0 0 0) 0 0 (PX D kc) (GX D kc ad wad) (GX D kc ad wad) [.ref (ad 11), .int v1] q (fX8_valueOf_after q v1) := by
  refine Ci.of (cc := cX8_valueOf) (maxL := 2) (ret := (some .int)) (by decide) rfl (Nat.le_of_ble_eq_true rfl) ?_
  intro p e s m args below meth c A S hr hlocks hin hA hK
  have hx := S.1
  have hb := S.2.1
  have hE : EV A s s.heap := hK.2
  have hK : va_K D vwCl (tysK kc) s := hK.1
  generalize hFe : fX8_valueOf_after q v1 = F
  have hF : F = fX8_valueOf_after q v1 := hFe.symm
  refine z_iload_n (j := 1) hx hb dX8_valueOf_0 rfl rfl ?_
  by_cases g1_67 : v1 = 67
  · have hF := hF.trans (if_pos g1_67)
    have hok := And.left hok g1_67
    refine z_lookup (tgt := 70) hx hb dX8_valueOf_1 (by decide) (by rw [g1_67]) (by decide) ?_
    refine z_aload_n (j := 0) hx hb dX8_valueOf_70 rfl rfl ?_
    refine z_get (v := .int (gI q 1204)) S hK inX8 11 (fun _ => rfl) rfl 4 (by decide) q1_173 rfl rfl dX8_valueOf_71 ?_
    exact z_iret hx hb hlocks hr rfl hF dX8_valueOf_74
  have hF := hF.trans (if_neg g1_67)
  have hok := And.right hok g1_67
  by_cases g1_73 : v1 = 73
  · have hF := hF.trans (if_pos g1_73)
    have hok := And.left hok g1_73
    refine z_lookup (tgt := 80) hx hb dX8_valueOf_1 (by decide) (by rw [g1_73]) (by decide) ?_
    refine z_aload_n (j := 0) hx hb dX8_valueOf_80 rfl rfl ?_
    refine z_get (v := .int (gI q 1206)) S hK inX8 11 (fun _ => rfl) rfl 6 (by decide) q1_179 rfl rfl dX8_valueOf_81 ?_
    exact z_iret hx hb hlocks hr rfl hF dX8_valueOf_84
  have hF := hF.trans (if_neg g1_73)
  have hok := And.right hok g1_73
  by_cases g1_75 : v1 = 75
  · have hF := hF.trans (if_pos g1_75)
    have hok := And.left hok g1_75
    refine z_lookup (tgt := 85) hx hb dX8_valueOf_1 (by decide) (by rw [g1_75]) (by decide) ?_
    refine z_aload_n (j := 0) hx hb dX8_valueOf_85 rfl rfl ?_
    refine z_get (v := .int (gI q 1202)) S hK inX8 11 (fun _ => rfl) rfl 2 (by decide) q1_167 rfl rfl dX8_valueOf_86 ?_
    exact z_iret hx hb hlocks hr rfl hF dX8_valueOf_89
  have hF := hF.trans (if_neg g1_75)
  have hok := And.right hok g1_75
  by_cases g1_80 : v1 = 80
  · have hF := hF.trans (if_pos g1_80)
    have hok := And.left hok g1_80
    refine z_lookup (tgt := 60) hx hb dX8_valueOf_1 (by decide) (by rw [g1_80]) (by decide) ?_
    refine z_aload_n (j := 0) hx hb dX8_valueOf_60 rfl rfl ?_
    refine z_get (v := .int (gI q 1201)) S hK inX8 11 (fun _ => rfl) rfl 1 (by decide) q1_164 rfl rfl dX8_valueOf_61 ?_
    exact z_iret hx hb hlocks hr rfl hF dX8_valueOf_64
  have hF := hF.trans (if_neg g1_80)
  have hok := And.right hok g1_80
  by_cases g1_83 : v1 = 83
  · have hF := hF.trans (if_pos g1_83)
    have hok := And.left hok g1_83
    refine z_lookup (tgt := 75) hx hb dX8_valueOf_1 (by decide) (by rw [g1_83]) (by decide) ?_
    refine z_aload_n (j := 0) hx hb dX8_valueOf_75 rfl rfl ?_
    refine z_get (v := .int (gI q 1205)) S hK inX8 11 (fun _ => rfl) rfl 5 (by decide) q1_177 rfl rfl dX8_valueOf_76 ?_
    exact z_iret hx hb hlocks hr rfl hF dX8_valueOf_79
  have hF := hF.trans (if_neg g1_83)
  have hok := And.right hok g1_83
  by_cases g1_90 : v1 = 90
  · have hF := hF.trans (if_pos g1_90)
    have hok := And.left hok g1_90
    refine z_lookup (tgt := 65) hx hb dX8_valueOf_1 (by decide) (by rw [g1_90]) (by decide) ?_
    refine z_aload_n (j := 0) hx hb dX8_valueOf_65 rfl rfl ?_
    refine z_get (v := .int (gI q 1203)) S hK inX8 11 (fun _ => rfl) rfl 3 (by decide) q1_170 rfl rfl dX8_valueOf_66 ?_
    exact z_iret hx hb hlocks hr rfl hF dX8_valueOf_69
  have hF := hF.trans (if_neg g1_90)
  have hok := And.right hok g1_90
  refine z_lookup (off := 89) (tgt := 90) hx hb dX8_valueOf_1 (by decide) ((lv_osw g1_67 (by decide)).trans ((lv_osw g1_73 (by decide)).trans ((lv_osw g1_75 (by decide)).trans ((lv_osw g1_80 (by decide)).trans ((lv_osw g1_83 (by decide)).trans ((lv_osw g1_90 (by decide)).trans (rfl))))))) (by decide) ?_
  refine z_aload_n (j := 0) hx hb dX8_valueOf_90 rfl rfl ?_
  refine z_get (v := .ref (ad 27)) S hK inX8 11 (fun _ => rfl) rfl 0 (by decide) q1_160 rfl rfl dX8_valueOf_91 ?_
  refine z_iload_n (j := 1) hx hb dX8_valueOf_94 rfl rfl ?_
  refine z_bipush (v := 48) hx hb dX8_valueOf_95 (by decide) ?_
  refine z_isub hx hb dX8_valueOf_97 ?_
  refine z_iconst (v := 3) hx hb dX8_valueOf_98 (by decide) ?_
  refine z_iand hx hb dX8_valueOf_99 ?_
  have h100 := And.left hok
  have hok := And.right hok
  refine z_iald (f := (gA q 27)) S hK 27 0 (fun _ => rfl) rfl h100 dX8_valueOf_100 ?_
  exact z_iret hx hb hlocks hr rfl hF dX8_valueOf_101
def fX3_low (q : SS) : Int32 × SS := (((gI q 904) &&& 3), q)
def kX3_low (q : SS) : Prop := True
set_option maxHeartbeats 4000000 in
set_option maxRecDepth 100000 in
theorem ctX3_low (l : Launch) (hl : l.stackTraces = false) (D : va_G) (kc : Nat → ClassId) (ad wad : Nat → Nat) (q : SS) (hok : kX3_low q) : Ci l yX3_low (Cond.code yX3_low cX3_low 1 (some .int) :: lw_G) (zr 0 0 0) 0 0 (PX D kc) (GX D kc ad wad) (GX D kc ad wad) [.ref (ad 8)] q (fX3_low q) := by
  refine Ci.of (cc := cX3_low) (maxL := 1) (ret := (some .int)) (by decide) rfl (Nat.le_of_ble_eq_true rfl) ?_
  intro p e s m args below meth c A S hr hlocks hin hA hK
  have hx := S.1
  have hb := S.2.1
  have hE : EV A s s.heap := hK.2
  have hK : va_K D vwCl (tysK kc) s := hK.1
  generalize hFe : fX3_low q = F
  have hF : F = fX3_low q := hFe.symm
  refine z_aload_n (j := 0) hx hb dX3_low_0 rfl rfl ?_
  refine z_get (v := .int (gI q 904)) S hK inX3 8 (fun _ => rfl) rfl 4 (by decide) q1_207 rfl rfl dX3_low_1 ?_
  refine z_iconst (v := 3) hx hb dX3_low_4 (by decide) ?_
  refine z_iand hx hb dX3_low_5 ?_
  exact z_iret hx hb hlocks hr rfl hF dX3_low_6
theorem hX3_low : yX3_low.cls = RX3 ∧ yX3_low.cls ≠ "java/lang/invoke/MethodHandle" ∧ yX3_low.cls ≠ "java/lang/invoke/VarHandle" ∧ (parseMethodDescriptor yX3_low.desc).map (fun d => d.parameters.length) = some 0 := by decide +kernel
def fX3_high (q : SS) : Int32 × SS := ((((gI q 904) / 4) &&& 3), q)
def kX3_high (q : SS) : Prop := True
set_option maxHeartbeats 4000000 in
set_option maxRecDepth 100000 in
theorem ctX3_high (l : Launch) (hl : l.stackTraces = false) (D : va_G) (kc : Nat → ClassId) (ad wad : Nat → Nat) (q : SS) (hok : kX3_high q) : Ci l yX3_high (Cond.code yX3_high cX3_high 1 (some .int) :: lw_G) (zr 0 0 0) 0 0 (PX D kc) (GX D kc ad wad) (GX D kc ad wad) [.ref (ad 8)] q (fX3_high q) := by
  refine Ci.of (cc := cX3_high) (maxL := 1) (ret := (some .int)) (by decide) rfl (Nat.le_of_ble_eq_true rfl) ?_
  intro p e s m args below meth c A S hr hlocks hin hA hK
  have hx := S.1
  have hb := S.2.1
  have hE : EV A s s.heap := hK.2
  have hK : va_K D vwCl (tysK kc) s := hK.1
  generalize hFe : fX3_high q = F
  have hF : F = fX3_high q := hFe.symm
  refine z_aload_n (j := 0) hx hb dX3_high_0 rfl rfl ?_
  refine z_get (v := .int (gI q 904)) S hK inX3 8 (fun _ => rfl) rfl 4 (by decide) q1_207 rfl rfl dX3_high_1 ?_
  refine z_iconst (v := 4) hx hb dX3_high_4 (by decide) ?_
  refine z_idiv hx hb dX3_high_5 (by decide) ?_
  refine z_iconst (v := 3) hx hb dX3_high_6 (by decide) ?_
  refine z_iand hx hb dX3_high_7 ?_
  exact z_iret hx hb hlocks hr rfl hF dX3_high_8
theorem hX3_high : yX3_high.cls = RX3 ∧ yX3_high.cls ≠ "java/lang/invoke/MethodHandle" ∧ yX3_high.cls ≠ "java/lang/invoke/VarHandle" ∧ (parseMethodDescriptor yX3_high.desc).map (fun d => d.parameters.length) = some 0 := by decide +kernel
def fX3_first_19 (q : SS) (s0 : Int32) : Int32 × SS := (s0, q)
def kX3_first_19 (q : SS) (s0 : Int32) : Prop := True
def fX3_first_12 (q : SS) (s0 : Int32) : Int32 × SS := fX3_first_19 q s0
def kX3_first_12 (q : SS) (s0 : Int32) : Prop := kX3_first_19 q s0
def fX3_first (q : SS) : Int32 × SS := (if (gI q 905) = 1 then fX3_first_12 (fX3_high q).2 (fX3_high q).1 else fX3_first_19 (fX3_low q).2 (fX3_low q).1)
def kX3_first (q : SS) : Prop := (((gI q 905) = 1 → kX3_high q ∧ kX3_first_12 (fX3_high q).2 (fX3_high q).1) ∧ (¬ (gI q 905) = 1 → kX3_low q ∧ kX3_first_19 (fX3_low q).2 (fX3_low q).1))
set_option maxHeartbeats 4000000 in
set_option maxRecDepth 100000 in
theorem ctX3_first (l : Launch) (hl : l.stackTraces = false) (D : va_G) (kc : Nat → ClassId) (ad wad : Nat → Nat) (q : SS) (hok : kX3_first q) : Ci l yX3_first (Cond.code yX3_first cX3_first 1 (some .int) :: lw_G) (zr 1 0 0) 0 0 (PX D kc) (GX D kc ad wad) (GX D kc ad wad) [.ref (ad 8)] q (fX3_first q) := by
  refine Ci.of (cc := cX3_first) (maxL := 1) (ret := (some .int)) (by decide) rfl (Nat.le_of_ble_eq_true rfl) ?_
  intro p e s m args below meth c A S hr hlocks hin hA hK
  have hx := S.1
  have hb := S.2.1
  have hE : EV A s s.heap := hK.2
  have hK : va_K D vwCl (tysK kc) s := hK.1
  generalize hFe : fX3_first q = F
  have hF : F = fX3_first q := hFe.symm
  have b19 : ∀ (q : SS) (s0 : Int32), kX3_first_19 q s0 → F = fX3_first_19 q s0 → Z p l e (zr 1 0 0) s m args below meth c 0 0 (MQ below (va_Qi (fun (x : Int32) (_ : Unit) => x = F.1) (fun _ t => (GX D kc ad wad) A F.2 t.heap) A) args s 0 0 A) 1 A (ZG D vwCl (wX kc ad wad) (PLX wad) A) q 19 [] [.int s0] := by
    intro q s0 hok hF
    exact z_iret hx hb hlocks hr rfl hF dX3_first_19
  have b12 : ∀ (q : SS) (s0 : Int32), kX3_first_12 q s0 → F = fX3_first_12 q s0 → Z p l e (zr 1 0 0) s m args below meth c 0 0 (MQ below (va_Qi (fun (x : Int32) (_ : Unit) => x = F.1) (fun _ t => (GX D kc ad wad) A F.2 t.heap) A) args s 0 0 A) 1 A (ZG D vwCl (wX kc ad wad) (PLX wad) A) q 12 [] [.int s0] := by
    intro q s0 hok hF
    refine z_goto (tgt := 19) hx hb dX3_first_12 (by decide) ?_
    exact b19 q s0 hok hF
  refine z_aload_n (j := 0) hx hb dX3_first_0 rfl rfl ?_
  refine z_get (v := .int (gI q 905)) S hK inX3 8 (fun _ => rfl) rfl 5 (by decide) q1_209 rfl rfl dX3_first_1 ?_
  refine z_iconst (v := 1) hx hb dX3_first_4 (by decide) ?_
  refine z_icmp_ne (tgt := 15) hx hb dX3_first_5 (by decide) (fun g5 => ?_) (fun g5 => ?_)
  · have hF := hF.trans (if_neg g5)
    have hok := And.right hok g5
    refine z_aload_n (j := 0) hx hb dX3_first_15 rfl rfl ?_
    have h16 := And.left hok
    have hok := And.right hok
    refine z_callVi (As := []) S (ctX3_low l hl D kc ad wad q h16) (cwV 0 S.2.2.2.2 (gV q5_42 q5_44 qp1_5 q1_8 q5_45) rfl rfl rfl hX3_low ⟨Nat.le_of_ble_eq_true rfl, Nat.le_of_ble_eq_true rfl⟩) hA (pbX D kc) (psX hK hE) (z_recv hK 8 (fun _ => rfl) rfl) rfl rfl (Nat.le_of_ble_eq_true rfl) dX3_first_16 ⟨Nat.le_of_ble_eq_true rfl, Nat.le_of_ble_eq_true rfl⟩ ?_
    refine z_sub [] rfl ?_
    exact b19 (fX3_low q).2 (fX3_low q).1 hok hF
  · have hF := hF.trans (if_pos g5)
    have hok := And.left hok g5
    refine z_aload_n (j := 0) hx hb dX3_first_8 rfl rfl ?_
    have h9 := And.left hok
    have hok := And.right hok
    refine z_callVi (As := []) S (ctX3_high l hl D kc ad wad q h9) (cwV 0 S.2.2.2.2 (gV q5_38 q5_40 qp1_4 q1_8 q5_41) rfl rfl rfl hX3_high ⟨Nat.le_of_ble_eq_true rfl, Nat.le_of_ble_eq_true rfl⟩) hA (pbX D kc) (psX hK hE) (z_recv hK 8 (fun _ => rfl) rfl) rfl rfl (Nat.le_of_ble_eq_true rfl) dX3_first_9 ⟨Nat.le_of_ble_eq_true rfl, Nat.le_of_ble_eq_true rfl⟩ ?_
    refine z_sub [] rfl ?_
    exact b12 (fX3_high q).2 (fX3_high q).1 hok hF
theorem hX3_first : yX3_first.cls = RX3 ∧ yX3_first.cls ≠ "java/lang/invoke/MethodHandle" ∧ yX3_first.cls ≠ "java/lang/invoke/VarHandle" ∧ (parseMethodDescriptor yX3_first.desc).map (fun d => d.parameters.length) = some 0 := by decide +kernel
def fX3_second_19 (q : SS) (s0 : Int32) : Int32 × SS := (s0, q)
def kX3_second_19 (q : SS) (s0 : Int32) : Prop := True
def fX3_second_12 (q : SS) (s0 : Int32) : Int32 × SS := fX3_second_19 q s0
def kX3_second_12 (q : SS) (s0 : Int32) : Prop := kX3_second_19 q s0
def fX3_second (q : SS) : Int32 × SS := (if (gI q 905) = 1 then fX3_second_12 (fX3_low q).2 (fX3_low q).1 else fX3_second_19 (fX3_high q).2 (fX3_high q).1)
def kX3_second (q : SS) : Prop := (((gI q 905) = 1 → kX3_low q ∧ kX3_second_12 (fX3_low q).2 (fX3_low q).1) ∧ (¬ (gI q 905) = 1 → kX3_high q ∧ kX3_second_19 (fX3_high q).2 (fX3_high q).1))
set_option maxHeartbeats 4000000 in
set_option maxRecDepth 100000 in
theorem ctX3_second (l : Launch) (hl : l.stackTraces = false) (D : va_G) (kc : Nat → ClassId) (ad wad : Nat → Nat) (q : SS) (hok : kX3_second q) : Ci l yX3_second (Cond.code yX3_second cX3_second 1 (some .int) :: lw_G) (zr 1 0 0) 0 0 (PX D kc) (GX D kc ad wad) (GX D kc ad wad) [.ref (ad 8)] q (fX3_second q) := by
  refine Ci.of (cc := cX3_second) (maxL := 1) (ret := (some .int)) (by decide) rfl (Nat.le_of_ble_eq_true rfl) ?_
  intro p e s m args below meth c A S hr hlocks hin hA hK
  have hx := S.1
  have hb := S.2.1
  have hE : EV A s s.heap := hK.2
  have hK : va_K D vwCl (tysK kc) s := hK.1
  generalize hFe : fX3_second q = F
  have hF : F = fX3_second q := hFe.symm
  have b19 : ∀ (q : SS) (s0 : Int32), kX3_second_19 q s0 → F = fX3_second_19 q s0 → Z p l e (zr 1 0 0) s m args below meth c 0 0 (MQ below (va_Qi (fun (x : Int32) (_ : Unit) => x = F.1) (fun _ t => (GX D kc ad wad) A F.2 t.heap) A) args s 0 0 A) 1 A (ZG D vwCl (wX kc ad wad) (PLX wad) A) q 19 [] [.int s0] := by
    intro q s0 hok hF
    exact z_iret hx hb hlocks hr rfl hF dX3_second_19
  have b12 : ∀ (q : SS) (s0 : Int32), kX3_second_12 q s0 → F = fX3_second_12 q s0 → Z p l e (zr 1 0 0) s m args below meth c 0 0 (MQ below (va_Qi (fun (x : Int32) (_ : Unit) => x = F.1) (fun _ t => (GX D kc ad wad) A F.2 t.heap) A) args s 0 0 A) 1 A (ZG D vwCl (wX kc ad wad) (PLX wad) A) q 12 [] [.int s0] := by
    intro q s0 hok hF
    refine z_goto (tgt := 19) hx hb dX3_second_12 (by decide) ?_
    exact b19 q s0 hok hF
  refine z_aload_n (j := 0) hx hb dX3_second_0 rfl rfl ?_
  refine z_get (v := .int (gI q 905)) S hK inX3 8 (fun _ => rfl) rfl 5 (by decide) q1_209 rfl rfl dX3_second_1 ?_
  refine z_iconst (v := 1) hx hb dX3_second_4 (by decide) ?_
  refine z_icmp_ne (tgt := 15) hx hb dX3_second_5 (by decide) (fun g5 => ?_) (fun g5 => ?_)
  · have hF := hF.trans (if_neg g5)
    have hok := And.right hok g5
    refine z_aload_n (j := 0) hx hb dX3_second_15 rfl rfl ?_
    have h16 := And.left hok
    have hok := And.right hok
    refine z_callVi (As := []) S (ctX3_high l hl D kc ad wad q h16) (cwV 0 S.2.2.2.2 (gV q5_38 q5_40 qp1_4 q1_8 q5_41) rfl rfl rfl hX3_high ⟨Nat.le_of_ble_eq_true rfl, Nat.le_of_ble_eq_true rfl⟩) hA (pbX D kc) (psX hK hE) (z_recv hK 8 (fun _ => rfl) rfl) rfl rfl (Nat.le_of_ble_eq_true rfl) dX3_second_16 ⟨Nat.le_of_ble_eq_true rfl, Nat.le_of_ble_eq_true rfl⟩ ?_
    refine z_sub [] rfl ?_
    exact b19 (fX3_high q).2 (fX3_high q).1 hok hF
  · have hF := hF.trans (if_pos g5)
    have hok := And.left hok g5
    refine z_aload_n (j := 0) hx hb dX3_second_8 rfl rfl ?_
    have h9 := And.left hok
    have hok := And.right hok
    refine z_callVi (As := []) S (ctX3_low l hl D kc ad wad q h9) (cwV 0 S.2.2.2.2 (gV q5_42 q5_44 qp1_5 q1_8 q5_45) rfl rfl rfl hX3_low ⟨Nat.le_of_ble_eq_true rfl, Nat.le_of_ble_eq_true rfl⟩) hA (pbX D kc) (psX hK hE) (z_recv hK 8 (fun _ => rfl) rfl) rfl rfl (Nat.le_of_ble_eq_true rfl) dX3_second_9 ⟨Nat.le_of_ble_eq_true rfl, Nat.le_of_ble_eq_true rfl⟩ ?_
    refine z_sub [] rfl ?_
    exact b12 (fX3_low q).2 (fX3_low q).1 hok hF
theorem hX3_second : yX3_second.cls = RX3 ∧ yX3_second.cls ≠ "java/lang/invoke/MethodHandle" ∧ yX3_second.cls ≠ "java/lang/invoke/VarHandle" ∧ (parseMethodDescriptor yX3_second.desc).map (fun d => d.parameters.length) = some 0 := by decide +kernel
def fX3_operation (q : SS) : Int32 × SS := ((((gI q 904) / 16) &&& 15), q)
def kX3_operation (q : SS) : Prop := True
set_option maxHeartbeats 4000000 in
set_option maxRecDepth 100000 in
theorem ctX3_operation (l : Launch) (hl : l.stackTraces = false) (D : va_G) (kc : Nat → ClassId) (ad wad : Nat → Nat) (q : SS) (hok : kX3_operation q) : Ci l yX3_operation (Cond.code yX3_operation cX3_operation 1 (some .int) :: lw_G) (zr 0 0 0) 0 0 (PX D kc) (GX D kc ad wad) (GX D kc ad wad) [.ref (ad 8)] q (fX3_operation q) := by
  refine Ci.of (cc := cX3_operation) (maxL := 1) (ret := (some .int)) (by decide) rfl (Nat.le_of_ble_eq_true rfl) ?_
  intro p e s m args below meth c A S hr hlocks hin hA hK
  have hx := S.1
  have hb := S.2.1
  have hE : EV A s s.heap := hK.2
  have hK : va_K D vwCl (tysK kc) s := hK.1
  generalize hFe : fX3_operation q = F
  have hF : F = fX3_operation q := hFe.symm
  refine z_aload_n (j := 0) hx hb dX3_operation_0 rfl rfl ?_
  refine z_get (v := .int (gI q 904)) S hK inX3 8 (fun _ => rfl) rfl 4 (by decide) q1_207 rfl rfl dX3_operation_1 ?_
  refine z_bipush (v := 16) hx hb dX3_operation_4 (by decide) ?_
  refine z_idiv hx hb dX3_operation_6 (by decide) ?_
  refine z_bipush (v := 15) hx hb dX3_operation_7 (by decide) ?_
  refine z_iand hx hb dX3_operation_9 ?_
  exact z_iret hx hb hlocks hr rfl hF dX3_operation_10
theorem hX3_operation : yX3_operation.cls = RX3 ∧ yX3_operation.cls ≠ "java/lang/invoke/MethodHandle" ∧ yX3_operation.cls ≠ "java/lang/invoke/VarHandle" ∧ (parseMethodDescriptor yX3_operation.desc).map (fun d => d.parameters.length) = some 0 := by decide +kernel
def fX10_isOutside_14 (q : SS) (s0 : Int32) : Int32 × SS := (s0, q)
def kX10_isOutside_14 (q : SS) (s0 : Int32) : Prop := narrow .boolean (.int s0) = .int s0 ∧ True
def fX10_isOutside_9 (q : SS) : Int32 × SS := fX10_isOutside_14 q 1
def kX10_isOutside_9 (q : SS) : Prop := kX10_isOutside_14 q 1
def fX10_isOutside (q : SS) (v0 : Int32) (v1 : Int32) : Int32 × SS := (if v0 < 0 then fX10_isOutside_9 q else (if v0 < v1 then fX10_isOutside_14 q 0 else fX10_isOutside_9 q))
def kX10_isOutside (q : SS) (v0 : Int32) (v1 : Int32) : Prop := ((v0 < 0 → kX10_isOutside_9 q) ∧ (¬ v0 < 0 → ((v0 < v1 → kX10_isOutside_14 q 0) ∧ (¬ v0 < v1 → kX10_isOutside_9 q))))
set_option maxHeartbeats 4000000 in
set_option maxRecDepth 100000 in
theorem ctX10_isOutside (l : Launch) (hl : l.stackTraces = false) (D : va_G) (kc : Nat → ClassId) (ad wad : Nat → Nat) (q : SS) (v0 : Int32) (v1 : Int32) (hok : kX10_isOutside q v0 v1) : Ci l yX10_isOutside (Cond.code yX10_isOutside cX10_isOutside 2 (some .boolean) :: lw_G) (zr 0 0 0) 0 0 (PX D kc) (GX D kc ad wad) (GX D kc ad wad) [.int v0, .int v1] q (fX10_isOutside q v0 v1) := by
  refine Ci.of (cc := cX10_isOutside) (maxL := 2) (ret := (some .boolean)) (by decide) rfl (Nat.le_of_ble_eq_true rfl) ?_
  intro p e s m args below meth c A S hr hlocks hin hA hK
  have hx := S.1
  have hb := S.2.1
  have hE : EV A s s.heap := hK.2
  have hK : va_K D vwCl (tysK kc) s := hK.1
  generalize hFe : fX10_isOutside q v0 v1 = F
  have hF : F = fX10_isOutside q v0 v1 := hFe.symm
  have b14 : ∀ (q : SS) (s0 : Int32), kX10_isOutside_14 q s0 → F = fX10_isOutside_14 q s0 → Z p l e (zr 0 0 0) s m args below meth c 0 0 (MQ below (va_Qi (fun (x : Int32) (_ : Unit) => x = F.1) (fun _ t => (GX D kc ad wad) A F.2 t.heap) A) args s 0 0 A) 2 A (ZG D vwCl (wX kc ad wad) (PLX wad) A) q 14 [] [.int s0] := by
    intro q s0 hok hF
    have h14 := And.left hok
    have hok := And.right hok
    exact z_iret hx hb hlocks hr h14 hF dX10_isOutside_14
  have b9 : ∀ (q : SS), kX10_isOutside_9 q → F = fX10_isOutside_9 q → Z p l e (zr 0 0 0) s m args below meth c 0 0 (MQ below (va_Qi (fun (x : Int32) (_ : Unit) => x = F.1) (fun _ t => (GX D kc ad wad) A F.2 t.heap) A) args s 0 0 A) 2 A (ZG D vwCl (wX kc ad wad) (PLX wad) A) q 9 [] [] := by
    intro q hok hF
    refine z_iconst (v := 1) hx hb dX10_isOutside_9 (by decide) ?_
    refine z_goto (tgt := 14) hx hb dX10_isOutside_10 (by decide) ?_
    exact b14 q 1 hok hF
  refine z_iload_n (j := 0) hx hb dX10_isOutside_0 rfl rfl ?_
  refine z_if_lt (tgt := 9) hx hb dX10_isOutside_1 (by decide) (fun g1 => ?_) (fun g1 => ?_)
  · have hF := hF.trans (if_pos g1)
    have hok := And.left hok g1
    refine z_sub [] rfl ?_
    exact b9 q hok hF
  · have hF := hF.trans (if_neg g1)
    have hok := And.right hok g1
    refine z_iload_n (j := 0) hx hb dX10_isOutside_4 rfl rfl ?_
    refine z_iload_n (j := 1) hx hb dX10_isOutside_5 rfl rfl ?_
    refine z_icmp_lt (tgt := 13) hx hb dX10_isOutside_6 (by decide) (fun g6 => ?_) (fun g6 => ?_)
    · have hF := hF.trans (if_pos g6)
      have hok := And.left hok g6
      refine z_iconst (v := 0) hx hb dX10_isOutside_13 (by decide) ?_
      refine z_sub [] rfl ?_
      exact b14 q 0 hok hF
    · have hF := hF.trans (if_neg g6)
      have hok := And.right hok g6
      refine z_sub [] rfl ?_
      exact b9 q hok hF
theorem hX10_isOutside : yX10_isOutside.cls ≠ "java/lang/invoke/MethodHandle" ∧ yX10_isOutside.cls ≠ "java/lang/invoke/VarHandle" ∧ (parseMethodDescriptor yX10_isOutside.desc).map (fun d => d.parameters.length) = some 2 := by decide +kernel
def fX10_resultOf (q : SS) (v0 : Int32) (v1 : Int32) (v2 : Int32) : Int32 × SS := (if v0 = 1 then (((v1 + v2) &&& 255), q) else (if v0 = 2 then (((v1 - v2) &&& 255), q) else (if v0 = 3 then ((v1 &&& v2), q) else (if v0 = 4 then ((v1 ^^^ v2), q) else (if v0 = 5 then (((v2 + 1) &&& 255), q) else (if v0 = 6 then (((v2 - 1) &&& 255), q) else (if v0 = 7 then (((v2 : Int32) >>> (1 &&& 31)), q) else (v2, q))))))))
def kX10_resultOf (q : SS) (v0 : Int32) (v1 : Int32) (v2 : Int32) : Prop := ((v0 = 1 → True) ∧ (¬ v0 = 1 → ((v0 = 2 → True) ∧ (¬ v0 = 2 → ((v0 = 3 → True) ∧ (¬ v0 = 3 → ((v0 = 4 → True) ∧ (¬ v0 = 4 → ((v0 = 5 → True) ∧ (¬ v0 = 5 → ((v0 = 6 → True) ∧ (¬ v0 = 6 → ((v0 = 7 → True) ∧ (¬ v0 = 7 → True))))))))))))))
set_option maxHeartbeats 4000000 in
set_option maxRecDepth 100000 in
theorem ctX10_resultOf (l : Launch) (hl : l.stackTraces = false) (D : va_G) (kc : Nat → ClassId) (ad wad : Nat → Nat) (q : SS) (v0 : Int32) (v1 : Int32) (v2 : Int32) (hok : kX10_resultOf q v0 v1 v2) : Ci l yX10_resultOf (Cond.code yX10_resultOf cX10_resultOf 3 (some .int) :: lw_G) (zr 0 0 0) 0 0 (PX D kc) (GX D kc ad wad) (GX D kc ad wad) [.int v0, .int v1, .int v2] q (fX10_resultOf q v0 v1 v2) := by
  refine Ci.of (cc := cX10_resultOf) (maxL := 3) (ret := (some .int)) (by decide) rfl (Nat.le_of_ble_eq_true rfl) ?_
  intro p e s m args below meth c A S hr hlocks hin hA hK
  have hx := S.1
  have hb := S.2.1
  have hE : EV A s s.heap := hK.2
  have hK : va_K D vwCl (tysK kc) s := hK.1
  generalize hFe : fX10_resultOf q v0 v1 v2 = F
  have hF : F = fX10_resultOf q v0 v1 v2 := hFe.symm
  refine z_iload_n (j := 0) hx hb dX10_resultOf_0 rfl rfl ?_
  by_cases g1_1 : v0 = 1
  · have hF := hF.trans (if_pos g1_1)
    have hok := And.left hok g1_1
    refine z_tableIn (off := 43) (tgt := 44) hx hb dX10_resultOf_1 (by rw [g1_1]; decide) (by rw [g1_1]; decide) (by rw [g1_1]; rfl) (by decide) ?_
    refine z_iload_n (j := 1) hx hb dX10_resultOf_44 rfl rfl ?_
    refine z_iload_n (j := 2) hx hb dX10_resultOf_45 rfl rfl ?_
    refine z_iadd hx hb dX10_resultOf_46 ?_
    refine z_sipush (v := 255) hx hb dX10_resultOf_47 (by decide) ?_
    refine z_iand hx hb dX10_resultOf_50 ?_
    exact z_iret hx hb hlocks hr rfl hF dX10_resultOf_51
  have hF := hF.trans (if_neg g1_1)
  have hok := And.right hok g1_1
  by_cases g1_2 : v0 = 2
  · have hF := hF.trans (if_pos g1_2)
    have hok := And.left hok g1_2
    refine z_tableIn (off := 51) (tgt := 52) hx hb dX10_resultOf_1 (by rw [g1_2]; decide) (by rw [g1_2]; decide) (by rw [g1_2]; rfl) (by decide) ?_
    refine z_iload_n (j := 1) hx hb dX10_resultOf_52 rfl rfl ?_
    refine z_iload_n (j := 2) hx hb dX10_resultOf_53 rfl rfl ?_
    refine z_isub hx hb dX10_resultOf_54 ?_
    refine z_sipush (v := 255) hx hb dX10_resultOf_55 (by decide) ?_
    refine z_iand hx hb dX10_resultOf_58 ?_
    exact z_iret hx hb hlocks hr rfl hF dX10_resultOf_59
  have hF := hF.trans (if_neg g1_2)
  have hok := And.right hok g1_2
  by_cases g1_3 : v0 = 3
  · have hF := hF.trans (if_pos g1_3)
    have hok := And.left hok g1_3
    refine z_tableIn (off := 59) (tgt := 60) hx hb dX10_resultOf_1 (by rw [g1_3]; decide) (by rw [g1_3]; decide) (by rw [g1_3]; rfl) (by decide) ?_
    refine z_iload_n (j := 1) hx hb dX10_resultOf_60 rfl rfl ?_
    refine z_iload_n (j := 2) hx hb dX10_resultOf_61 rfl rfl ?_
    refine z_iand hx hb dX10_resultOf_62 ?_
    exact z_iret hx hb hlocks hr rfl hF dX10_resultOf_63
  have hF := hF.trans (if_neg g1_3)
  have hok := And.right hok g1_3
  by_cases g1_4 : v0 = 4
  · have hF := hF.trans (if_pos g1_4)
    have hok := And.left hok g1_4
    refine z_tableIn (off := 63) (tgt := 64) hx hb dX10_resultOf_1 (by rw [g1_4]; decide) (by rw [g1_4]; decide) (by rw [g1_4]; rfl) (by decide) ?_
    refine z_iload_n (j := 1) hx hb dX10_resultOf_64 rfl rfl ?_
    refine z_iload_n (j := 2) hx hb dX10_resultOf_65 rfl rfl ?_
    refine z_ixor hx hb dX10_resultOf_66 ?_
    exact z_iret hx hb hlocks hr rfl hF dX10_resultOf_67
  have hF := hF.trans (if_neg g1_4)
  have hok := And.right hok g1_4
  by_cases g1_5 : v0 = 5
  · have hF := hF.trans (if_pos g1_5)
    have hok := And.left hok g1_5
    refine z_tableIn (off := 67) (tgt := 68) hx hb dX10_resultOf_1 (by rw [g1_5]; decide) (by rw [g1_5]; decide) (by rw [g1_5]; rfl) (by decide) ?_
    refine z_iload_n (j := 2) hx hb dX10_resultOf_68 rfl rfl ?_
    refine z_iconst (v := 1) hx hb dX10_resultOf_69 (by decide) ?_
    refine z_iadd hx hb dX10_resultOf_70 ?_
    refine z_sipush (v := 255) hx hb dX10_resultOf_71 (by decide) ?_
    refine z_iand hx hb dX10_resultOf_74 ?_
    exact z_iret hx hb hlocks hr rfl hF dX10_resultOf_75
  have hF := hF.trans (if_neg g1_5)
  have hok := And.right hok g1_5
  by_cases g1_6 : v0 = 6
  · have hF := hF.trans (if_pos g1_6)
    have hok := And.left hok g1_6
    refine z_tableIn (off := 75) (tgt := 76) hx hb dX10_resultOf_1 (by rw [g1_6]; decide) (by rw [g1_6]; decide) (by rw [g1_6]; rfl) (by decide) ?_
    refine z_iload_n (j := 2) hx hb dX10_resultOf_76 rfl rfl ?_
    refine z_iconst (v := 1) hx hb dX10_resultOf_77 (by decide) ?_
    refine z_isub hx hb dX10_resultOf_78 ?_
    refine z_sipush (v := 255) hx hb dX10_resultOf_79 (by decide) ?_
    refine z_iand hx hb dX10_resultOf_82 ?_
    exact z_iret hx hb hlocks hr rfl hF dX10_resultOf_83
  have hF := hF.trans (if_neg g1_6)
  have hok := And.right hok g1_6
  by_cases g1_7 : v0 = 7
  · have hF := hF.trans (if_pos g1_7)
    have hok := And.left hok g1_7
    refine z_tableIn (off := 83) (tgt := 84) hx hb dX10_resultOf_1 (by rw [g1_7]; decide) (by rw [g1_7]; decide) (by rw [g1_7]; rfl) (by decide) ?_
    refine z_iload_n (j := 2) hx hb dX10_resultOf_84 rfl rfl ?_
    refine z_iconst (v := 1) hx hb dX10_resultOf_85 (by decide) ?_
    refine z_ishr hx hb dX10_resultOf_86 ?_
    exact z_iret hx hb hlocks hr rfl hF dX10_resultOf_87
  have hF := hF.trans (if_neg g1_7)
  have hok := And.right hok g1_7
  have hsw : (v0 : Int32).toInt < 1 ∨ 7 < (v0 : Int32).toInt := by
    have n0 := (lv_neT g1_1 (by decide) : ¬ _ = (1 : Int))
    have n1 := (lv_neT g1_2 (by decide) : ¬ _ = (2 : Int))
    have n2 := (lv_neT g1_3 (by decide) : ¬ _ = (3 : Int))
    have n3 := (lv_neT g1_4 (by decide) : ¬ _ = (4 : Int))
    have n4 := (lv_neT g1_5 (by decide) : ¬ _ = (5 : Int))
    have n5 := (lv_neT g1_6 (by decide) : ¬ _ = (6 : Int))
    have n6 := (lv_neT g1_7 (by decide) : ¬ _ = (7 : Int))
    omega
  refine z_tableOut (tgt := 88) hx hb dX10_resultOf_1 hsw (by decide) ?_
  refine z_iload_n (j := 2) hx hb dX10_resultOf_88 rfl rfl ?_
  exact z_iret hx hb hlocks hr rfl hF dX10_resultOf_89
theorem hX10_resultOf : yX10_resultOf.cls ≠ "java/lang/invoke/MethodHandle" ∧ yX10_resultOf.cls ≠ "java/lang/invoke/VarHandle" ∧ (parseMethodDescriptor yX10_resultOf.desc).map (fun d => d.parameters.length) = some 3 := by decide +kernel
def fX10_hasCarry_58 (q : SS) (s0 : Int32) : Int32 × SS := (s0, q)
def kX10_hasCarry_58 (q : SS) (s0 : Int32) : Prop := narrow .boolean (.int s0) = .int s0 ∧ True
def fX10_hasCarry_69 (q : SS) (s0 : Int32) : Int32 × SS := (s0, q)
def kX10_hasCarry_69 (q : SS) (s0 : Int32) : Prop := narrow .boolean (.int s0) = .int s0 ∧ True
def fX10_hasCarry_82 (q : SS) (s0 : Int32) : Int32 × SS := (s0, q)
def kX10_hasCarry_82 (q : SS) (s0 : Int32) : Prop := narrow .boolean (.int s0) = .int s0 ∧ True
def fX10_hasCarry_92 (q : SS) (s0 : Int32) : Int32 × SS := (s0, q)
def kX10_hasCarry_92 (q : SS) (s0 : Int32) : Prop := narrow .boolean (.int s0) = .int s0 ∧ True
def fX10_hasCarry_105 (q : SS) (s0 : Int32) : Int32 × SS := (s0, q)
def kX10_hasCarry_105 (q : SS) (s0 : Int32) : Prop := narrow .boolean (.int s0) = .int s0 ∧ True
def fX10_hasCarry_106 (q : SS) : Int32 × SS := (0, q)
def kX10_hasCarry_106 (q : SS) : Prop := True
def fX10_hasCarry (q : SS) (v0 : Int32) (v1 : Int32) (v2 : Int32) : Int32 × SS := (if v0 = 1 then (if (v1 + v2) < 256 then fX10_hasCarry_58 q 0 else fX10_hasCarry_58 q 1) else (if v0 = 2 then (if v2 ≤ v1 then fX10_hasCarry_69 q 0 else fX10_hasCarry_69 q 1) else (if v0 = 5 then (if v2 = 255 then fX10_hasCarry_82 q 1 else fX10_hasCarry_82 q 0) else (if v0 = 6 then (if v2 = 0 then fX10_hasCarry_92 q 1 else fX10_hasCarry_92 q 0) else (if v0 = 7 then (if (v2 &&& 1) = 1 then fX10_hasCarry_105 q 1 else fX10_hasCarry_105 q 0) else fX10_hasCarry_106 q)))))
def kX10_hasCarry (q : SS) (v0 : Int32) (v1 : Int32) (v2 : Int32) : Prop := ((v0 = 1 → (((v1 + v2) < 256 → kX10_hasCarry_58 q 0) ∧ (¬ (v1 + v2) < 256 → kX10_hasCarry_58 q 1))) ∧ (¬ v0 = 1 → ((v0 = 2 → ((v2 ≤ v1 → kX10_hasCarry_69 q 0) ∧ (¬ v2 ≤ v1 → kX10_hasCarry_69 q 1))) ∧ (¬ v0 = 2 → ((v0 = 5 → ((v2 = 255 → kX10_hasCarry_82 q 1) ∧ (¬ v2 = 255 → kX10_hasCarry_82 q 0))) ∧ (¬ v0 = 5 → ((v0 = 6 → ((v2 = 0 → kX10_hasCarry_92 q 1) ∧ (¬ v2 = 0 → kX10_hasCarry_92 q 0))) ∧ (¬ v0 = 6 → ((v0 = 7 → (((v2 &&& 1) = 1 → kX10_hasCarry_105 q 1) ∧ (¬ (v2 &&& 1) = 1 → kX10_hasCarry_105 q 0))) ∧ (¬ v0 = 7 → kX10_hasCarry_106 q))))))))))
set_option maxHeartbeats 4000000 in
set_option maxRecDepth 100000 in
theorem ctX10_hasCarry (l : Launch) (hl : l.stackTraces = false) (D : va_G) (kc : Nat → ClassId) (ad wad : Nat → Nat) (q : SS) (v0 : Int32) (v1 : Int32) (v2 : Int32) (hok : kX10_hasCarry q v0 v1 v2) : Ci l yX10_hasCarry (Cond.code yX10_hasCarry cX10_hasCarry 3 (some .boolean) :: lw_G) (zr 0 0 0) 0 0 (PX D kc) (GX D kc ad wad) (GX D kc ad wad) [.int v0, .int v1, .int v2] q (fX10_hasCarry q v0 v1 v2) := by
  refine Ci.of (cc := cX10_hasCarry) (maxL := 3) (ret := (some .boolean)) (by decide) rfl (Nat.le_of_ble_eq_true rfl) ?_
  intro p e s m args below meth c A S hr hlocks hin hA hK
  have hx := S.1
  have hb := S.2.1
  have hE : EV A s s.heap := hK.2
  have hK : va_K D vwCl (tysK kc) s := hK.1
  generalize hFe : fX10_hasCarry q v0 v1 v2 = F
  have hF : F = fX10_hasCarry q v0 v1 v2 := hFe.symm
  have b58 : ∀ (q : SS) (s0 : Int32), kX10_hasCarry_58 q s0 → F = fX10_hasCarry_58 q s0 → Z p l e (zr 0 0 0) s m args below meth c 0 0 (MQ below (va_Qi (fun (x : Int32) (_ : Unit) => x = F.1) (fun _ t => (GX D kc ad wad) A F.2 t.heap) A) args s 0 0 A) 3 A (ZG D vwCl (wX kc ad wad) (PLX wad) A) q 58 [] [.int s0] := by
    intro q s0 hok hF
    have h58 := And.left hok
    have hok := And.right hok
    exact z_iret hx hb hlocks hr h58 hF dX10_hasCarry_58
  have b69 : ∀ (q : SS) (s0 : Int32), kX10_hasCarry_69 q s0 → F = fX10_hasCarry_69 q s0 → Z p l e (zr 0 0 0) s m args below meth c 0 0 (MQ below (va_Qi (fun (x : Int32) (_ : Unit) => x = F.1) (fun _ t => (GX D kc ad wad) A F.2 t.heap) A) args s 0 0 A) 3 A (ZG D vwCl (wX kc ad wad) (PLX wad) A) q 69 [] [.int s0] := by
    intro q s0 hok hF
    have h69 := And.left hok
    have hok := And.right hok
    exact z_iret hx hb hlocks hr h69 hF dX10_hasCarry_69
  have b82 : ∀ (q : SS) (s0 : Int32), kX10_hasCarry_82 q s0 → F = fX10_hasCarry_82 q s0 → Z p l e (zr 0 0 0) s m args below meth c 0 0 (MQ below (va_Qi (fun (x : Int32) (_ : Unit) => x = F.1) (fun _ t => (GX D kc ad wad) A F.2 t.heap) A) args s 0 0 A) 3 A (ZG D vwCl (wX kc ad wad) (PLX wad) A) q 82 [] [.int s0] := by
    intro q s0 hok hF
    have h82 := And.left hok
    have hok := And.right hok
    exact z_iret hx hb hlocks hr h82 hF dX10_hasCarry_82
  have b92 : ∀ (q : SS) (s0 : Int32), kX10_hasCarry_92 q s0 → F = fX10_hasCarry_92 q s0 → Z p l e (zr 0 0 0) s m args below meth c 0 0 (MQ below (va_Qi (fun (x : Int32) (_ : Unit) => x = F.1) (fun _ t => (GX D kc ad wad) A F.2 t.heap) A) args s 0 0 A) 3 A (ZG D vwCl (wX kc ad wad) (PLX wad) A) q 92 [] [.int s0] := by
    intro q s0 hok hF
    have h92 := And.left hok
    have hok := And.right hok
    exact z_iret hx hb hlocks hr h92 hF dX10_hasCarry_92
  have b105 : ∀ (q : SS) (s0 : Int32), kX10_hasCarry_105 q s0 → F = fX10_hasCarry_105 q s0 → Z p l e (zr 0 0 0) s m args below meth c 0 0 (MQ below (va_Qi (fun (x : Int32) (_ : Unit) => x = F.1) (fun _ t => (GX D kc ad wad) A F.2 t.heap) A) args s 0 0 A) 3 A (ZG D vwCl (wX kc ad wad) (PLX wad) A) q 105 [] [.int s0] := by
    intro q s0 hok hF
    have h105 := And.left hok
    have hok := And.right hok
    exact z_iret hx hb hlocks hr h105 hF dX10_hasCarry_105
  have b106 : ∀ (q : SS), kX10_hasCarry_106 q → F = fX10_hasCarry_106 q → Z p l e (zr 0 0 0) s m args below meth c 0 0 (MQ below (va_Qi (fun (x : Int32) (_ : Unit) => x = F.1) (fun _ t => (GX D kc ad wad) A F.2 t.heap) A) args s 0 0 A) 3 A (ZG D vwCl (wX kc ad wad) (PLX wad) A) q 106 [] [] := by
    intro q hok hF
    refine z_iconst (v := 0) hx hb dX10_hasCarry_106 (by decide) ?_
    exact z_iret hx hb hlocks hr (by decide) hF dX10_hasCarry_107
  refine z_iload_n (j := 0) hx hb dX10_hasCarry_0 rfl rfl ?_
  by_cases g1_1 : v0 = 1
  · have hF := hF.trans (if_pos g1_1)
    have hok := And.left hok g1_1
    refine z_tableIn (off := 43) (tgt := 44) hx hb dX10_hasCarry_1 (by rw [g1_1]; decide) (by rw [g1_1]; decide) (by rw [g1_1]; rfl) (by decide) ?_
    refine z_iload_n (j := 1) hx hb dX10_hasCarry_44 rfl rfl ?_
    refine z_iload_n (j := 2) hx hb dX10_hasCarry_45 rfl rfl ?_
    refine z_iadd hx hb dX10_hasCarry_46 ?_
    refine z_sipush (v := 256) hx hb dX10_hasCarry_47 (by decide) ?_
    refine z_icmp_lt (tgt := 57) hx hb dX10_hasCarry_50 (by decide) (fun g50 => ?_) (fun g50 => ?_)
    · have hF := hF.trans (if_pos g50)
      have hok := And.left hok g50
      refine z_iconst (v := 0) hx hb dX10_hasCarry_57 (by decide) ?_
      refine z_sub [] rfl ?_
      exact b58 q 0 hok hF
    · have hF := hF.trans (if_neg g50)
      have hok := And.right hok g50
      refine z_iconst (v := 1) hx hb dX10_hasCarry_53 (by decide) ?_
      refine z_goto (tgt := 58) hx hb dX10_hasCarry_54 (by decide) ?_
      refine z_sub [] rfl ?_
      exact b58 q 1 hok hF
  have hF := hF.trans (if_neg g1_1)
  have hok := And.right hok g1_1
  by_cases g1_2 : v0 = 2
  · have hF := hF.trans (if_pos g1_2)
    have hok := And.left hok g1_2
    refine z_tableIn (off := 58) (tgt := 59) hx hb dX10_hasCarry_1 (by rw [g1_2]; decide) (by rw [g1_2]; decide) (by rw [g1_2]; rfl) (by decide) ?_
    refine z_iload_n (j := 1) hx hb dX10_hasCarry_59 rfl rfl ?_
    refine z_iload_n (j := 2) hx hb dX10_hasCarry_60 rfl rfl ?_
    refine z_icmp_ge (tgt := 68) hx hb dX10_hasCarry_61 (by decide) (fun g61 => ?_) (fun g61 => ?_)
    · have hF := hF.trans (if_pos g61)
      have hok := And.left hok g61
      refine z_iconst (v := 0) hx hb dX10_hasCarry_68 (by decide) ?_
      refine z_sub [] rfl ?_
      exact b69 q 0 hok hF
    · have hF := hF.trans (if_neg g61)
      have hok := And.right hok g61
      refine z_iconst (v := 1) hx hb dX10_hasCarry_64 (by decide) ?_
      refine z_goto (tgt := 69) hx hb dX10_hasCarry_65 (by decide) ?_
      refine z_sub [] rfl ?_
      exact b69 q 1 hok hF
  have hF := hF.trans (if_neg g1_2)
  have hok := And.right hok g1_2
  by_cases g1_5 : v0 = 5
  · have hF := hF.trans (if_pos g1_5)
    have hok := And.left hok g1_5
    refine z_tableIn (off := 69) (tgt := 70) hx hb dX10_hasCarry_1 (by rw [g1_5]; decide) (by rw [g1_5]; decide) (by rw [g1_5]; rfl) (by decide) ?_
    refine z_iload_n (j := 2) hx hb dX10_hasCarry_70 rfl rfl ?_
    refine z_sipush (v := 255) hx hb dX10_hasCarry_71 (by decide) ?_
    refine z_icmp_ne (tgt := 81) hx hb dX10_hasCarry_74 (by decide) (fun g74 => ?_) (fun g74 => ?_)
    · have hF := hF.trans (if_neg g74)
      have hok := And.right hok g74
      refine z_iconst (v := 0) hx hb dX10_hasCarry_81 (by decide) ?_
      refine z_sub [] rfl ?_
      exact b82 q 0 hok hF
    · have hF := hF.trans (if_pos g74)
      have hok := And.left hok g74
      refine z_iconst (v := 1) hx hb dX10_hasCarry_77 (by decide) ?_
      refine z_goto (tgt := 82) hx hb dX10_hasCarry_78 (by decide) ?_
      refine z_sub [] rfl ?_
      exact b82 q 1 hok hF
  have hF := hF.trans (if_neg g1_5)
  have hok := And.right hok g1_5
  by_cases g1_6 : v0 = 6
  · have hF := hF.trans (if_pos g1_6)
    have hok := And.left hok g1_6
    refine z_tableIn (off := 82) (tgt := 83) hx hb dX10_hasCarry_1 (by rw [g1_6]; decide) (by rw [g1_6]; decide) (by rw [g1_6]; rfl) (by decide) ?_
    refine z_iload_n (j := 2) hx hb dX10_hasCarry_83 rfl rfl ?_
    refine z_if_ne (tgt := 91) hx hb dX10_hasCarry_84 (by decide) (fun g84 => ?_) (fun g84 => ?_)
    · have hF := hF.trans (if_neg g84)
      have hok := And.right hok g84
      refine z_iconst (v := 0) hx hb dX10_hasCarry_91 (by decide) ?_
      refine z_sub [] rfl ?_
      exact b92 q 0 hok hF
    · have hF := hF.trans (if_pos g84)
      have hok := And.left hok g84
      refine z_iconst (v := 1) hx hb dX10_hasCarry_87 (by decide) ?_
      refine z_goto (tgt := 92) hx hb dX10_hasCarry_88 (by decide) ?_
      refine z_sub [] rfl ?_
      exact b92 q 1 hok hF
  have hF := hF.trans (if_neg g1_6)
  have hok := And.right hok g1_6
  by_cases g1_7 : v0 = 7
  · have hF := hF.trans (if_pos g1_7)
    have hok := And.left hok g1_7
    refine z_tableIn (off := 92) (tgt := 93) hx hb dX10_hasCarry_1 (by rw [g1_7]; decide) (by rw [g1_7]; decide) (by rw [g1_7]; rfl) (by decide) ?_
    refine z_iload_n (j := 2) hx hb dX10_hasCarry_93 rfl rfl ?_
    refine z_iconst (v := 1) hx hb dX10_hasCarry_94 (by decide) ?_
    refine z_iand hx hb dX10_hasCarry_95 ?_
    refine z_iconst (v := 1) hx hb dX10_hasCarry_96 (by decide) ?_
    refine z_icmp_ne (tgt := 104) hx hb dX10_hasCarry_97 (by decide) (fun g97 => ?_) (fun g97 => ?_)
    · have hF := hF.trans (if_neg g97)
      have hok := And.right hok g97
      refine z_iconst (v := 0) hx hb dX10_hasCarry_104 (by decide) ?_
      refine z_sub [] rfl ?_
      exact b105 q 0 hok hF
    · have hF := hF.trans (if_pos g97)
      have hok := And.left hok g97
      refine z_iconst (v := 1) hx hb dX10_hasCarry_100 (by decide) ?_
      refine z_goto (tgt := 105) hx hb dX10_hasCarry_101 (by decide) ?_
      refine z_sub [] rfl ?_
      exact b105 q 1 hok hF
  have hF := hF.trans (if_neg g1_7)
  have hok := And.right hok g1_7
  by_cases g1_3 : v0 = 3
  · refine z_tableIn (off := 105) (tgt := 106) hx hb dX10_hasCarry_1 (by rw [g1_3]; decide) (by rw [g1_3]; decide) (by rw [g1_3]; rfl) (by decide) ?_
    refine z_sub [] rfl ?_
    exact b106 q hok hF
  by_cases g1_4 : v0 = 4
  · refine z_tableIn (off := 105) (tgt := 106) hx hb dX10_hasCarry_1 (by rw [g1_4]; decide) (by rw [g1_4]; decide) (by rw [g1_4]; rfl) (by decide) ?_
    refine z_sub [] rfl ?_
    exact b106 q hok hF
  have hsw : (v0 : Int32).toInt < 1 ∨ 7 < (v0 : Int32).toInt := by
    have n0 := (lv_neT g1_1 (by decide) : ¬ _ = (1 : Int))
    have n1 := (lv_neT g1_2 (by decide) : ¬ _ = (2 : Int))
    have n2 := (lv_neT g1_3 (by decide) : ¬ _ = (3 : Int))
    have n3 := (lv_neT g1_4 (by decide) : ¬ _ = (4 : Int))
    have n4 := (lv_neT g1_5 (by decide) : ¬ _ = (5 : Int))
    have n5 := (lv_neT g1_6 (by decide) : ¬ _ = (6 : Int))
    have n6 := (lv_neT g1_7 (by decide) : ¬ _ = (7 : Int))
    omega
  refine z_tableOut (tgt := 106) hx hb dX10_hasCarry_1 hsw (by decide) ?_
  refine z_sub [] rfl ?_
  exact b106 q hok hF
theorem hX10_hasCarry : yX10_hasCarry.cls ≠ "java/lang/invoke/MethodHandle" ∧ yX10_hasCarry.cls ≠ "java/lang/invoke/VarHandle" ∧ (parseMethodDescriptor yX10_hasCarry.desc).map (fun d => d.parameters.length) = some 3 := by decide +kernel
def fX10_reasonAgainst_81 (q : SS) : Int32 × SS := (45, q)
def kX10_reasonAgainst_81 (q : SS) : Prop := True
def fX10_reasonAgainst_65 (q : SS) (v0 : Int32) (v3 : Int32) : Int32 × SS := (if (v0 &&& 64) = 0 then fX10_reasonAgainst_81 q else (if v3 = 111 then (107, q) else fX10_reasonAgainst_81 q))
def kX10_reasonAgainst_65 (q : SS) (v0 : Int32) (v3 : Int32) : Prop := (((v0 &&& 64) = 0 → kX10_reasonAgainst_81 q) ∧ (¬ (v0 &&& 64) = 0 → ((v3 = 111 → True) ∧ (¬ v3 = 111 → kX10_reasonAgainst_81 q))))
def fX10_reasonAgainst_51 (q : SS) (v0 : Int32) (v3 : Int32) (v4 : Int32) : Int32 × SS := (if v4 = 0 then fX10_reasonAgainst_65 q v0 v3 else (if v3 = 111 then fX10_reasonAgainst_65 q v0 v3 else (116, q)))
def kX10_reasonAgainst_51 (q : SS) (v0 : Int32) (v3 : Int32) (v4 : Int32) : Prop := ((v4 = 0 → kX10_reasonAgainst_65 q v0 v3) ∧ (¬ v4 = 0 → ((v3 = 111 → kX10_reasonAgainst_65 q v0 v3) ∧ (¬ v3 = 111 → True))))
def fX10_reasonAgainst_44 (q : SS) (v0 : Int32) (v2 : Int32) (v3 : Int32) (v4 : Int32) : Int32 × SS := (if v2 = 0 then fX10_reasonAgainst_51 q v0 v3 v4 else (109, q))
def kX10_reasonAgainst_44 (q : SS) (v0 : Int32) (v2 : Int32) (v3 : Int32) (v4 : Int32) : Prop := ((v2 = 0 → kX10_reasonAgainst_51 q v0 v3 v4) ∧ (¬ v2 = 0 → True))
def fX10_reasonAgainst_32 (q : SS) (v0 : Int32) (v2 : Int32) (v3 : Int32) (v4 : Int32) : Int32 × SS := (if v3 = 99 then fX10_reasonAgainst_44 q v0 v2 v3 v4 else (if v3 = 114 then fX10_reasonAgainst_44 q v0 v2 v3 v4 else fX10_reasonAgainst_51 q v0 v3 v4))
def kX10_reasonAgainst_32 (q : SS) (v0 : Int32) (v2 : Int32) (v3 : Int32) (v4 : Int32) : Prop := ((v3 = 99 → kX10_reasonAgainst_44 q v0 v2 v3 v4) ∧ (¬ v3 = 99 → ((v3 = 114 → kX10_reasonAgainst_44 q v0 v2 v3 v4) ∧ (¬ v3 = 114 → kX10_reasonAgainst_51 q v0 v3 v4))))
def fX10_reasonAgainst_15 (q : SS) (v0 : Int32) (v1 : Int32) (v2 : Int32) (v3 : Int32) (v4 : Int32) : Int32 × SS := (if (v1 &&& 32) = 0 then fX10_reasonAgainst_32 q v0 v2 v3 v4 else (if (v1 &&& 64) = 0 then fX10_reasonAgainst_32 q v0 v2 v3 v4 else (114, q)))
def kX10_reasonAgainst_15 (q : SS) (v0 : Int32) (v1 : Int32) (v2 : Int32) (v3 : Int32) (v4 : Int32) : Prop := (((v1 &&& 32) = 0 → kX10_reasonAgainst_32 q v0 v2 v3 v4) ∧ (¬ (v1 &&& 32) = 0 → (((v1 &&& 64) = 0 → kX10_reasonAgainst_32 q v0 v2 v3 v4) ∧ (¬ (v1 &&& 64) = 0 → True))))
def fX10_reasonAgainst (q : SS) (v0 : Int32) (v1 : Int32) (v2 : Int32) (v3 : Int32) (v4 : Int32) : Int32 × SS := (if v2 = 1 then (if (v1 &&& 8) = 0 then fX10_reasonAgainst_15 q v0 v1 v2 v3 v4 else (100, q)) else fX10_reasonAgainst_15 q v0 v1 v2 v3 v4)
def kX10_reasonAgainst (q : SS) (v0 : Int32) (v1 : Int32) (v2 : Int32) (v3 : Int32) (v4 : Int32) : Prop := ((v2 = 1 → (((v1 &&& 8) = 0 → kX10_reasonAgainst_15 q v0 v1 v2 v3 v4) ∧ (¬ (v1 &&& 8) = 0 → True))) ∧ (¬ v2 = 1 → kX10_reasonAgainst_15 q v0 v1 v2 v3 v4))
set_option maxHeartbeats 4000000 in
set_option maxRecDepth 100000 in
theorem ctX10_reasonAgainst (l : Launch) (hl : l.stackTraces = false) (D : va_G) (kc : Nat → ClassId) (ad wad : Nat → Nat) (q : SS) (v0 : Int32) (v1 : Int32) (v2 : Int32) (v3 : Int32) (v4 : Int32) (hok : kX10_reasonAgainst q v0 v1 v2 v3 v4) : Ci l yX10_reasonAgainst (Cond.code yX10_reasonAgainst cX10_reasonAgainst 5 (some .char) :: lw_G) (zr 0 0 0) 0 0 (PX D kc) (GX D kc ad wad) (GX D kc ad wad) [.int v0, .int v1, .int v2, .int v3, .int v4] q (fX10_reasonAgainst q v0 v1 v2 v3 v4) := by
  refine Ci.of (cc := cX10_reasonAgainst) (maxL := 5) (ret := (some .char)) (by decide) rfl (Nat.le_of_ble_eq_true rfl) ?_
  intro p e s m args below meth c A S hr hlocks hin hA hK
  have hx := S.1
  have hb := S.2.1
  have hE : EV A s s.heap := hK.2
  have hK : va_K D vwCl (tysK kc) s := hK.1
  generalize hFe : fX10_reasonAgainst q v0 v1 v2 v3 v4 = F
  have hF : F = fX10_reasonAgainst q v0 v1 v2 v3 v4 := hFe.symm
  have b81 : ∀ (q : SS), kX10_reasonAgainst_81 q → F = fX10_reasonAgainst_81 q → Z p l e (zr 0 0 0) s m args below meth c 0 0 (MQ below (va_Qi (fun (x : Int32) (_ : Unit) => x = F.1) (fun _ t => (GX D kc ad wad) A F.2 t.heap) A) args s 0 0 A) 5 A (ZG D vwCl (wX kc ad wad) (PLX wad) A) q 81 [] [] := by
    intro q hok hF
    refine z_bipush (v := 45) hx hb dX10_reasonAgainst_81 (by decide) ?_
    exact z_iret hx hb hlocks hr (by decide) hF dX10_reasonAgainst_83
  have b65 : ∀ (q : SS) (v0 : Int32) (v3 : Int32), kX10_reasonAgainst_65 q v0 v3 → F = fX10_reasonAgainst_65 q v0 v3 → Z p l e (zr 0 0 0) s m args below meth c 0 0 (MQ below (va_Qi (fun (x : Int32) (_ : Unit) => x = F.1) (fun _ t => (GX D kc ad wad) A F.2 t.heap) A) args s 0 0 A) 5 A (ZG D vwCl (wX kc ad wad) (PLX wad) A) q 65 [(0, .int v0), (3, .int v3)] [] := by
    intro q v0 v3 hok hF
    refine z_iload_n (j := 0) hx hb dX10_reasonAgainst_65 rfl rfl ?_
    refine z_bipush (v := 64) hx hb dX10_reasonAgainst_66 (by decide) ?_
    refine z_iand hx hb dX10_reasonAgainst_68 ?_
    refine z_if_eq (tgt := 81) hx hb dX10_reasonAgainst_69 (by decide) (fun g69 => ?_) (fun g69 => ?_)
    · have hF := hF.trans (if_pos g69)
      have hok := And.left hok g69
      refine z_sub [] rfl ?_
      exact b81 q hok hF
    · have hF := hF.trans (if_neg g69)
      have hok := And.right hok g69
      refine z_iload_n (j := 1) hx hb dX10_reasonAgainst_72 rfl rfl ?_
      refine z_bipush (v := 111) hx hb dX10_reasonAgainst_73 (by decide) ?_
      refine z_icmp_ne (tgt := 81) hx hb dX10_reasonAgainst_75 (by decide) (fun g75 => ?_) (fun g75 => ?_)
      · have hF := hF.trans (if_neg g75)
        have hok := And.right hok g75
        refine z_sub [] rfl ?_
        exact b81 q hok hF
      · have hF := hF.trans (if_pos g75)
        have hok := And.left hok g75
        refine z_bipush (v := 107) hx hb dX10_reasonAgainst_78 (by decide) ?_
        exact z_iret hx hb hlocks hr (by decide) hF dX10_reasonAgainst_80
  have b51 : ∀ (q : SS) (v0 : Int32) (v3 : Int32) (v4 : Int32), kX10_reasonAgainst_51 q v0 v3 v4 → F = fX10_reasonAgainst_51 q v0 v3 v4 → Z p l e (zr 0 0 0) s m args below meth c 0 0 (MQ below (va_Qi (fun (x : Int32) (_ : Unit) => x = F.1) (fun _ t => (GX D kc ad wad) A F.2 t.heap) A) args s 0 0 A) 5 A (ZG D vwCl (wX kc ad wad) (PLX wad) A) q 51 [(0, .int v0), (3, .int v3), (4, .int v4)] [] := by
    intro q v0 v3 v4 hok hF
    refine z_iload (j := 2) hx hb dX10_reasonAgainst_51 rfl ?_
    refine z_if_eq (tgt := 65) hx hb dX10_reasonAgainst_53 (by decide) (fun g53 => ?_) (fun g53 => ?_)
    · have hF := hF.trans (if_pos g53)
      have hok := And.left hok g53
      refine z_sub [0, 1] rfl ?_
      exact b65 q v0 v3 hok hF
    · have hF := hF.trans (if_neg g53)
      have hok := And.right hok g53
      refine z_iload_n (j := 1) hx hb dX10_reasonAgainst_56 rfl rfl ?_
      refine z_bipush (v := 111) hx hb dX10_reasonAgainst_57 (by decide) ?_
      refine z_icmp_eq (tgt := 65) hx hb dX10_reasonAgainst_59 (by decide) (fun g59 => ?_) (fun g59 => ?_)
      · have hF := hF.trans (if_pos g59)
        have hok := And.left hok g59
        refine z_sub [0, 1] rfl ?_
        exact b65 q v0 v3 hok hF
      · have hF := hF.trans (if_neg g59)
        have hok := And.right hok g59
        refine z_bipush (v := 116) hx hb dX10_reasonAgainst_62 (by decide) ?_
        exact z_iret hx hb hlocks hr (by decide) hF dX10_reasonAgainst_64
  have b44 : ∀ (q : SS) (v0 : Int32) (v2 : Int32) (v3 : Int32) (v4 : Int32), kX10_reasonAgainst_44 q v0 v2 v3 v4 → F = fX10_reasonAgainst_44 q v0 v2 v3 v4 → Z p l e (zr 0 0 0) s m args below meth c 0 0 (MQ below (va_Qi (fun (x : Int32) (_ : Unit) => x = F.1) (fun _ t => (GX D kc ad wad) A F.2 t.heap) A) args s 0 0 A) 5 A (ZG D vwCl (wX kc ad wad) (PLX wad) A) q 44 [(0, .int v0), (2, .int v2), (3, .int v3), (4, .int v4)] [] := by
    intro q v0 v2 v3 v4 hok hF
    refine z_iload_n (j := 1) hx hb dX10_reasonAgainst_44 rfl rfl ?_
    refine z_if_eq (tgt := 51) hx hb dX10_reasonAgainst_45 (by decide) (fun g45 => ?_) (fun g45 => ?_)
    · have hF := hF.trans (if_pos g45)
      have hok := And.left hok g45
      refine z_sub [0, 2, 3] rfl ?_
      exact b51 q v0 v3 v4 hok hF
    · have hF := hF.trans (if_neg g45)
      have hok := And.right hok g45
      refine z_bipush (v := 109) hx hb dX10_reasonAgainst_48 (by decide) ?_
      exact z_iret hx hb hlocks hr (by decide) hF dX10_reasonAgainst_50
  have b32 : ∀ (q : SS) (v0 : Int32) (v2 : Int32) (v3 : Int32) (v4 : Int32), kX10_reasonAgainst_32 q v0 v2 v3 v4 → F = fX10_reasonAgainst_32 q v0 v2 v3 v4 → Z p l e (zr 0 0 0) s m args below meth c 0 0 (MQ below (va_Qi (fun (x : Int32) (_ : Unit) => x = F.1) (fun _ t => (GX D kc ad wad) A F.2 t.heap) A) args s 0 0 A) 5 A (ZG D vwCl (wX kc ad wad) (PLX wad) A) q 32 [(0, .int v0), (2, .int v2), (3, .int v3), (4, .int v4)] [] := by
    intro q v0 v2 v3 v4 hok hF
    refine z_iload_n (j := 2) hx hb dX10_reasonAgainst_32 rfl rfl ?_
    refine z_bipush (v := 99) hx hb dX10_reasonAgainst_33 (by decide) ?_
    refine z_icmp_eq (tgt := 44) hx hb dX10_reasonAgainst_35 (by decide) (fun g35 => ?_) (fun g35 => ?_)
    · have hF := hF.trans (if_pos g35)
      have hok := And.left hok g35
      exact b44 q v0 v2 v3 v4 hok hF
    · have hF := hF.trans (if_neg g35)
      have hok := And.right hok g35
      refine z_iload_n (j := 2) hx hb dX10_reasonAgainst_38 rfl rfl ?_
      refine z_bipush (v := 114) hx hb dX10_reasonAgainst_39 (by decide) ?_
      refine z_icmp_ne (tgt := 51) hx hb dX10_reasonAgainst_41 (by decide) (fun g41 => ?_) (fun g41 => ?_)
      · have hF := hF.trans (if_neg g41)
        have hok := And.right hok g41
        refine z_sub [0, 2, 3] rfl ?_
        exact b51 q v0 v3 v4 hok hF
      · have hF := hF.trans (if_pos g41)
        have hok := And.left hok g41
        exact b44 q v0 v2 v3 v4 hok hF
  have b15 : ∀ (q : SS) (v0 : Int32) (v1 : Int32) (v2 : Int32) (v3 : Int32) (v4 : Int32), kX10_reasonAgainst_15 q v0 v1 v2 v3 v4 → F = fX10_reasonAgainst_15 q v0 v1 v2 v3 v4 → Z p l e (zr 0 0 0) s m args below meth c 0 0 (MQ below (va_Qi (fun (x : Int32) (_ : Unit) => x = F.1) (fun _ t => (GX D kc ad wad) A F.2 t.heap) A) args s 0 0 A) 5 A (ZG D vwCl (wX kc ad wad) (PLX wad) A) q 15 [(0, .int v0), (1, .int v1), (2, .int v2), (3, .int v3), (4, .int v4)] [] := by
    intro q v0 v1 v2 v3 v4 hok hF
    refine z_iload_n (j := 1) hx hb dX10_reasonAgainst_15 rfl rfl ?_
    refine z_bipush (v := 32) hx hb dX10_reasonAgainst_16 (by decide) ?_
    refine z_iand hx hb dX10_reasonAgainst_18 ?_
    refine z_if_eq (tgt := 32) hx hb dX10_reasonAgainst_19 (by decide) (fun g19 => ?_) (fun g19 => ?_)
    · have hF := hF.trans (if_pos g19)
      have hok := And.left hok g19
      refine z_sub [0, 2, 3, 4] rfl ?_
      exact b32 q v0 v2 v3 v4 hok hF
    · have hF := hF.trans (if_neg g19)
      have hok := And.right hok g19
      refine z_iload_n (j := 1) hx hb dX10_reasonAgainst_22 rfl rfl ?_
      refine z_bipush (v := 64) hx hb dX10_reasonAgainst_23 (by decide) ?_
      refine z_iand hx hb dX10_reasonAgainst_25 ?_
      refine z_if_eq (tgt := 32) hx hb dX10_reasonAgainst_26 (by decide) (fun g26 => ?_) (fun g26 => ?_)
      · have hF := hF.trans (if_pos g26)
        have hok := And.left hok g26
        refine z_sub [0, 2, 3, 4] rfl ?_
        exact b32 q v0 v2 v3 v4 hok hF
      · have hF := hF.trans (if_neg g26)
        have hok := And.right hok g26
        refine z_bipush (v := 114) hx hb dX10_reasonAgainst_29 (by decide) ?_
        exact z_iret hx hb hlocks hr (by decide) hF dX10_reasonAgainst_31
  refine z_iload_n (j := 2) hx hb dX10_reasonAgainst_0 rfl rfl ?_
  refine z_iconst (v := 1) hx hb dX10_reasonAgainst_1 (by decide) ?_
  refine z_icmp_ne (tgt := 15) hx hb dX10_reasonAgainst_2 (by decide) (fun g2 => ?_) (fun g2 => ?_)
  · have hF := hF.trans (if_neg g2)
    have hok := And.right hok g2
    exact b15 q v0 v1 v2 v3 v4 hok hF
  · have hF := hF.trans (if_pos g2)
    have hok := And.left hok g2
    refine z_iload_n (j := 1) hx hb dX10_reasonAgainst_5 rfl rfl ?_
    refine z_bipush (v := 8) hx hb dX10_reasonAgainst_6 (by decide) ?_
    refine z_iand hx hb dX10_reasonAgainst_8 ?_
    refine z_if_eq (tgt := 15) hx hb dX10_reasonAgainst_9 (by decide) (fun g9 => ?_) (fun g9 => ?_)
    · have hF := hF.trans (if_pos g9)
      have hok := And.left hok g9
      exact b15 q v0 v1 v2 v3 v4 hok hF
    · have hF := hF.trans (if_neg g9)
      have hok := And.right hok g9
      refine z_bipush (v := 100) hx hb dX10_reasonAgainst_12 (by decide) ?_
      exact z_iret hx hb hlocks hr (by decide) hF dX10_reasonAgainst_14
theorem hX10_reasonAgainst : yX10_reasonAgainst.cls ≠ "java/lang/invoke/MethodHandle" ∧ yX10_reasonAgainst.cls ≠ "java/lang/invoke/VarHandle" ∧ (parseMethodDescriptor yX10_reasonAgainst.desc).map (fun d => d.parameters.length) = some 5 := by decide +kernel
def fX4_tell (q : SS) (v1 : Int32) (v2 : Int32) (v3 : Int32) : SS := (sI (sI (sI (sI q 1000 1) 1001 v1) 1002 v2) 1003 v3)
def kX4_tell (q : SS) (v1 : Int32) (v2 : Int32) (v3 : Int32) : Prop := True
set_option maxHeartbeats 4000000 in
set_option maxRecDepth 100000 in
theorem ctX4_tell (l : Launch) (hl : l.stackTraces = false) (D : va_G) (kc : Nat → ClassId) (ad wad : Nat → Nat) (q : SS) (v1 : Int32) (v2 : Int32) (v3 : Int32) (hok : kX4_tell q v1 v2 v3) : Cv l yX4_tell (Cond.code yX4_tell cX4_tell 4 none :: lw_G) (zr 0 0 0) 0 0 (PX D kc) (GX D kc ad wad) (GX D kc ad wad) [.ref (ad 9), .int v1, .int v2, .int v3] q (fX4_tell q v1 v2 v3) := by
  refine Cv.of (cc := cX4_tell) (maxL := 4) (ret := none) (by decide) rfl (Nat.le_of_ble_eq_true rfl) ?_
  intro p e s m args below meth c A S hr hlocks hin hA hK
  have hx := S.1
  have hb := S.2.1
  have hE : EV A s s.heap := hK.2
  have hK : va_K D vwCl (tysK kc) s := hK.1
  generalize hFe : fX4_tell q v1 v2 v3 = F
  have hF : F = fX4_tell q v1 v2 v3 := hFe.symm
  refine z_aload_n (j := 0) hx hb dX4_tell_0 rfl rfl ?_
  refine z_iconst (v := 1) hx hb dX4_tell_1 (by decide) ?_
  refine z_put (v := .int 1) (q' := (sI q 1000 1)) S hK inX4 tyX4 tyX4_ok nmX4 9 (fun _ => rfl) rfl 0 (by decide) q1_230 rfl rfl rfl rfl (Nat.le_of_ble_eq_true rfl) dX4_tell_2 (wXp1000 kc ad wad _ _) (fun _ h => h) ?_
  refine z_aload_n (j := 0) hx hb dX4_tell_5 rfl rfl ?_
  refine z_iload_n (j := 1) hx hb dX4_tell_6 rfl rfl ?_
  refine z_put (v := .int v1) (q' := (sI (sI q 1000 1) 1001 v1)) S hK inX4 tyX4 tyX4_ok nmX4 9 (fun _ => rfl) rfl 1 (by decide) q1_232 rfl rfl rfl rfl (Nat.le_of_ble_eq_true rfl) dX4_tell_7 (wXp1001 kc ad wad _ _) (fun _ h => h) ?_
  refine z_aload_n (j := 0) hx hb dX4_tell_10 rfl rfl ?_
  refine z_iload_n (j := 2) hx hb dX4_tell_11 rfl rfl ?_
  refine z_put (v := .int v2) (q' := (sI (sI (sI q 1000 1) 1001 v1) 1002 v2)) S hK inX4 tyX4 tyX4_ok nmX4 9 (fun _ => rfl) rfl 2 (by decide) q1_233 rfl rfl rfl rfl (Nat.le_of_ble_eq_true rfl) dX4_tell_12 (wXp1002 kc ad wad _ _) (fun _ h => h) ?_
  refine z_aload_n (j := 0) hx hb dX4_tell_15 rfl rfl ?_
  refine z_iload_n (j := 3) hx hb dX4_tell_16 rfl rfl ?_
  refine z_put (v := .int v3) (q' := (sI (sI (sI (sI q 1000 1) 1001 v1) 1002 v2) 1003 v3)) S hK inX4 tyX4 tyX4_ok nmX4 9 (fun _ => rfl) rfl 3 (by decide) q1_234 rfl rfl rfl rfl (Nat.le_of_ble_eq_true rfl) dX4_tell_17 (wXp1003 kc ad wad _ _) (fun _ h => h) ?_
  exact z_vret hx hb hlocks hr hF dX4_tell_20
theorem hX4_tell : yX4_tell.cls = RX4 ∧ yX4_tell.cls ≠ "java/lang/invoke/MethodHandle" ∧ yX4_tell.cls ≠ "java/lang/invoke/VarHandle" ∧ (parseMethodDescriptor yX4_tell.desc).map (fun d => d.parameters.length) = some 3 := by decide +kernel
def fX4_isZero_23 (q : SS) (s0 : Int32) : Int32 × SS := (s0, q)
def kX4_isZero_23 (q : SS) (s0 : Int32) : Prop := narrow .boolean (.int s0) = .int s0 ∧ True
def fX4_isZero_15 (q : SS) (s0 : Int32) : Int32 × SS := (if s0 = 0 then fX4_isZero_23 q 1 else fX4_isZero_23 q 0)
def kX4_isZero_15 (q : SS) (s0 : Int32) : Prop := ((s0 = 0 → kX4_isZero_23 q 1) ∧ (¬ s0 = 0 → kX4_isZero_23 q 0))
def fX4_isZero (q : SS) : Int32 × SS := fX4_isZero_15 (fX10_resultOf q (gI q 1001) (gI q 1002) (gI q 1003)).2 (fX10_resultOf q (gI q 1001) (gI q 1002) (gI q 1003)).1
def kX4_isZero (q : SS) : Prop := kX10_resultOf q (gI q 1001) (gI q 1002) (gI q 1003) ∧ kX4_isZero_15 (fX10_resultOf q (gI q 1001) (gI q 1002) (gI q 1003)).2 (fX10_resultOf q (gI q 1001) (gI q 1002) (gI q 1003)).1
set_option maxHeartbeats 4000000 in
set_option maxRecDepth 100000 in
theorem ctX4_isZero (l : Launch) (hl : l.stackTraces = false) (D : va_G) (kc : Nat → ClassId) (ad wad : Nat → Nat) (q : SS) (hok : kX4_isZero q) : Ci l yX4_isZero (Cond.code yX4_isZero cX4_isZero 1 (some .boolean) :: lw_G) (zr 1 0 0) 0 0 (PX D kc) (GX D kc ad wad) (GX D kc ad wad) [.ref (ad 9)] q (fX4_isZero q) := by
  refine Ci.of (cc := cX4_isZero) (maxL := 1) (ret := (some .boolean)) (by decide) rfl (Nat.le_of_ble_eq_true rfl) ?_
  intro p e s m args below meth c A S hr hlocks hin hA hK
  have hx := S.1
  have hb := S.2.1
  have hE : EV A s s.heap := hK.2
  have hK : va_K D vwCl (tysK kc) s := hK.1
  generalize hFe : fX4_isZero q = F
  have hF : F = fX4_isZero q := hFe.symm
  have b23 : ∀ (q : SS) (s0 : Int32), kX4_isZero_23 q s0 → F = fX4_isZero_23 q s0 → Z p l e (zr 1 0 0) s m args below meth c 0 0 (MQ below (va_Qi (fun (x : Int32) (_ : Unit) => x = F.1) (fun _ t => (GX D kc ad wad) A F.2 t.heap) A) args s 0 0 A) 1 A (ZG D vwCl (wX kc ad wad) (PLX wad) A) q 23 [] [.int s0] := by
    intro q s0 hok hF
    have h23 := And.left hok
    have hok := And.right hok
    exact z_iret hx hb hlocks hr h23 hF dX4_isZero_23
  have b15 : ∀ (q : SS) (s0 : Int32), kX4_isZero_15 q s0 → F = fX4_isZero_15 q s0 → Z p l e (zr 1 0 0) s m args below meth c 0 0 (MQ below (va_Qi (fun (x : Int32) (_ : Unit) => x = F.1) (fun _ t => (GX D kc ad wad) A F.2 t.heap) A) args s 0 0 A) 1 A (ZG D vwCl (wX kc ad wad) (PLX wad) A) q 15 [] [.int s0] := by
    intro q s0 hok hF
    refine z_if_ne (tgt := 22) hx hb dX4_isZero_15 (by decide) (fun g15 => ?_) (fun g15 => ?_)
    · have hF := hF.trans (if_neg g15)
      have hok := And.right hok g15
      refine z_iconst (v := 0) hx hb dX4_isZero_22 (by decide) ?_
      exact b23 q 0 hok hF
    · have hF := hF.trans (if_pos g15)
      have hok := And.left hok g15
      refine z_iconst (v := 1) hx hb dX4_isZero_18 (by decide) ?_
      refine z_goto (tgt := 23) hx hb dX4_isZero_19 (by decide) ?_
      exact b23 q 1 hok hF
  refine z_aload_n (j := 0) hx hb dX4_isZero_0 rfl rfl ?_
  refine z_get (v := .int (gI q 1001)) S hK inX4 9 (fun _ => rfl) rfl 1 (by decide) q1_232 rfl rfl dX4_isZero_1 ?_
  refine z_aload_n (j := 0) hx hb dX4_isZero_4 rfl rfl ?_
  refine z_get (v := .int (gI q 1002)) S hK inX4 9 (fun _ => rfl) rfl 2 (by decide) q1_233 rfl rfl dX4_isZero_5 ?_
  refine z_aload_n (j := 0) hx hb dX4_isZero_8 rfl rfl ?_
  refine z_get (v := .int (gI q 1003)) S hK inX4 9 (fun _ => rfl) rfl 3 (by decide) q1_234 rfl rfl dX4_isZero_9 ?_
  have h12 := And.left hok
  have hok := And.right hok
  refine z_callSNi (As := [.int (gI q 1001), .int (gI q 1002), .int (gI q 1003)]) S (ctX10_resultOf l hl D kc ad wad q (gI q 1001) (gI q 1002) (gI q 1003) h12) ⟨va_cnB 3 S.2.2.2.2 (gW q5_58) rfl rfl rfl (hE.2.2.2.2.2.1 (RX4, 23, yX10_resultOf) (List.mem_of_getElem? (i := 6) rfl)) (S.2.2.2.2 _ q1_1) hX10_resultOf ⟨Nat.le_of_ble_eq_true rfl, Nat.le_of_ble_eq_true rfl⟩, S.2.2.2.2 _ q5_57, trivial⟩ hA (pbX D kc) (psX hK hE) rfl rfl (Nat.le_of_ble_eq_true rfl) dX4_isZero_12 ⟨Nat.le_of_ble_eq_true rfl, Nat.le_of_ble_eq_true rfl⟩ ?_
  refine z_sub [] rfl ?_
  exact b15 (fX10_resultOf q (gI q 1001) (gI q 1002) (gI q 1003)).2 (fX10_resultOf q (gI q 1001) (gI q 1002) (gI q 1003)).1 hok hF
theorem hX4_isZero : yX4_isZero.cls = RX4 ∧ yX4_isZero.cls ≠ "java/lang/invoke/MethodHandle" ∧ yX4_isZero.cls ≠ "java/lang/invoke/VarHandle" ∧ (parseMethodDescriptor yX4_isZero.desc).map (fun d => d.parameters.length) = some 0 := by decide +kernel
def fX4_isCarry (q : SS) : Int32 × SS := ((fX10_hasCarry q (gI q 1001) (gI q 1002) (gI q 1003)).1, (fX10_hasCarry q (gI q 1001) (gI q 1002) (gI q 1003)).2)
def kX4_isCarry (q : SS) : Prop := kX10_hasCarry q (gI q 1001) (gI q 1002) (gI q 1003) ∧ narrow .boolean (.int (fX10_hasCarry q (gI q 1001) (gI q 1002) (gI q 1003)).1) = .int (fX10_hasCarry q (gI q 1001) (gI q 1002) (gI q 1003)).1 ∧ True
set_option maxHeartbeats 4000000 in
set_option maxRecDepth 100000 in
theorem ctX4_isCarry (l : Launch) (hl : l.stackTraces = false) (D : va_G) (kc : Nat → ClassId) (ad wad : Nat → Nat) (q : SS) (hok : kX4_isCarry q) : Ci l yX4_isCarry (Cond.code yX4_isCarry cX4_isCarry 1 (some .boolean) :: lw_G) (zr 1 0 0) 0 0 (PX D kc) (GX D kc ad wad) (GX D kc ad wad) [.ref (ad 9)] q (fX4_isCarry q) := by
  refine Ci.of (cc := cX4_isCarry) (maxL := 1) (ret := (some .boolean)) (by decide) rfl (Nat.le_of_ble_eq_true rfl) ?_
  intro p e s m args below meth c A S hr hlocks hin hA hK
  have hx := S.1
  have hb := S.2.1
  have hE : EV A s s.heap := hK.2
  have hK : va_K D vwCl (tysK kc) s := hK.1
  generalize hFe : fX4_isCarry q = F
  have hF : F = fX4_isCarry q := hFe.symm
  refine z_aload_n (j := 0) hx hb dX4_isCarry_0 rfl rfl ?_
  refine z_get (v := .int (gI q 1001)) S hK inX4 9 (fun _ => rfl) rfl 1 (by decide) q1_232 rfl rfl dX4_isCarry_1 ?_
  refine z_aload_n (j := 0) hx hb dX4_isCarry_4 rfl rfl ?_
  refine z_get (v := .int (gI q 1002)) S hK inX4 9 (fun _ => rfl) rfl 2 (by decide) q1_233 rfl rfl dX4_isCarry_5 ?_
  refine z_aload_n (j := 0) hx hb dX4_isCarry_8 rfl rfl ?_
  refine z_get (v := .int (gI q 1003)) S hK inX4 9 (fun _ => rfl) rfl 3 (by decide) q1_234 rfl rfl dX4_isCarry_9 ?_
  have h12 := And.left hok
  have hok := And.right hok
  refine z_callSNi (As := [.int (gI q 1001), .int (gI q 1002), .int (gI q 1003)]) S (ctX10_hasCarry l hl D kc ad wad q (gI q 1001) (gI q 1002) (gI q 1003) h12) ⟨va_cnB 3 S.2.2.2.2 (gW q5_117) rfl rfl rfl (hE.2.2.2.2.2.1 (RX4, 29, yX10_hasCarry) (List.mem_of_getElem? (i := 7) rfl)) (S.2.2.2.2 _ q1_1) hX10_hasCarry ⟨Nat.le_of_ble_eq_true rfl, Nat.le_of_ble_eq_true rfl⟩, S.2.2.2.2 _ q5_116, trivial⟩ hA (pbX D kc) (psX hK hE) rfl rfl (Nat.le_of_ble_eq_true rfl) dX4_isCarry_12 ⟨Nat.le_of_ble_eq_true rfl, Nat.le_of_ble_eq_true rfl⟩ ?_
  have h15 := And.left hok
  have hok := And.right hok
  exact z_iret hx hb hlocks hr h15 hF dX4_isCarry_15
theorem hX4_isCarry : yX4_isCarry.cls = RX4 ∧ yX4_isCarry.cls ≠ "java/lang/invoke/MethodHandle" ∧ yX4_isCarry.cls ≠ "java/lang/invoke/VarHandle" ∧ (parseMethodDescriptor yX4_isCarry.desc).map (fun d => d.parameters.length) = some 0 := by decide +kernel
def fX5_pageOf (q : SS) (v1 : Int32) : Int32 × SS := (((v1 &&& 63) / 16), q)
def kX5_pageOf (q : SS) (v1 : Int32) : Prop := True
set_option maxHeartbeats 4000000 in
set_option maxRecDepth 100000 in
theorem ctX5_pageOf (l : Launch) (hl : l.stackTraces = false) (D : va_G) (kc : Nat → ClassId) (ad wad : Nat → Nat) (q : SS) (v1 : Int32) (hok : kX5_pageOf q v1) : Ci l yX5_pageOf (Cond.code yX5_pageOf cX5_pageOf 2 (some .int) :: lw_G) (zr 0 0 0) 0 0 (PX D kc) (GX D kc ad wad) (GX D kc ad wad) [.ref (ad 2), .int v1] q (fX5_pageOf q v1) := by
  refine Ci.of (cc := cX5_pageOf) (maxL := 2) (ret := (some .int)) (by decide) rfl (Nat.le_of_ble_eq_true rfl) ?_
  intro p e s m args below meth c A S hr hlocks hin hA hK
  have hx := S.1
  have hb := S.2.1
  have hE : EV A s s.heap := hK.2
  have hK : va_K D vwCl (tysK kc) s := hK.1
  generalize hFe : fX5_pageOf q v1 = F
  have hF : F = fX5_pageOf q v1 := hFe.symm
  refine z_iload_n (j := 1) hx hb dX5_pageOf_0 rfl rfl ?_
  refine z_bipush (v := 63) hx hb dX5_pageOf_1 (by decide) ?_
  refine z_iand hx hb dX5_pageOf_3 ?_
  refine z_bipush (v := 16) hx hb dX5_pageOf_4 (by decide) ?_
  refine z_idiv hx hb dX5_pageOf_6 (by decide) ?_
  exact z_iret hx hb hlocks hr rfl hF dX5_pageOf_7
theorem hX5_pageOf : yX5_pageOf.cls = RX5 ∧ yX5_pageOf.cls ≠ "java/lang/invoke/MethodHandle" ∧ yX5_pageOf.cls ≠ "java/lang/invoke/VarHandle" ∧ (parseMethodDescriptor yX5_pageOf.desc).map (fun d => d.parameters.length) = some 1 := by decide +kernel
def fX5_isAbsentAt_9 (q : SS) (s0 : Int32) : Int32 × SS := (((gA q 18) (s0 : Int32).toNatClampNeg), q)
def kX5_isAbsentAt_9 (q : SS) (s0 : Int32) : Prop := vp_in s0 4 ∧ narrow .boolean (.int ((gA q 18) (s0 : Int32).toNatClampNeg)) = .int ((gA q 18) (s0 : Int32).toNatClampNeg) ∧ True
def fX5_isAbsentAt (q : SS) (v1 : Int32) : Int32 × SS := fX5_isAbsentAt_9 (fX5_pageOf q v1).2 (fX5_pageOf q v1).1
def kX5_isAbsentAt (q : SS) (v1 : Int32) : Prop := kX5_pageOf q v1 ∧ kX5_isAbsentAt_9 (fX5_pageOf q v1).2 (fX5_pageOf q v1).1
set_option maxHeartbeats 4000000 in
set_option maxRecDepth 100000 in
theorem ctX5_isAbsentAt (l : Launch) (hl : l.stackTraces = false) (D : va_G) (kc : Nat → ClassId) (ad wad : Nat → Nat) (q : SS) (v1 : Int32) (hok : kX5_isAbsentAt q v1) : Ci l yX5_isAbsentAt (Cond.code yX5_isAbsentAt cX5_isAbsentAt 2 (some .boolean) :: lw_G) (zr 1 0 0) 0 0 (PX D kc) (GX D kc ad wad) (GX D kc ad wad) [.ref (ad 2), .int v1] q (fX5_isAbsentAt q v1) := by
  refine Ci.of (cc := cX5_isAbsentAt) (maxL := 2) (ret := (some .boolean)) (by decide) rfl (Nat.le_of_ble_eq_true rfl) ?_
  intro p e s m args below meth c A S hr hlocks hin hA hK
  have hx := S.1
  have hb := S.2.1
  have hE : EV A s s.heap := hK.2
  have hK : va_K D vwCl (tysK kc) s := hK.1
  generalize hFe : fX5_isAbsentAt q v1 = F
  have hF : F = fX5_isAbsentAt q v1 := hFe.symm
  have b9 : ∀ (q : SS) (s0 : Int32), kX5_isAbsentAt_9 q s0 → F = fX5_isAbsentAt_9 q s0 → Z p l e (zr 1 0 0) s m args below meth c 0 0 (MQ below (va_Qi (fun (x : Int32) (_ : Unit) => x = F.1) (fun _ t => (GX D kc ad wad) A F.2 t.heap) A) args s 0 0 A) 2 A (ZG D vwCl (wX kc ad wad) (PLX wad) A) q 9 [] [.int s0, .ref (ad 18)] := by
    intro q s0 hok hF
    have h9 := And.left hok
    have hok := And.right hok
    refine z_zald (f := (gA q 18)) S hK 18 1 (fun _ => rfl) rfl h9 dX5_isAbsentAt_9 ?_
    have h10 := And.left hok
    have hok := And.right hok
    exact z_iret hx hb hlocks hr h10 hF dX5_isAbsentAt_10
  refine z_aload_n (j := 0) hx hb dX5_isAbsentAt_0 rfl rfl ?_
  refine z_get (v := .ref (ad 18)) S hK inX5 2 (fun _ => rfl) rfl 2 (by decide) q1_82 rfl rfl dX5_isAbsentAt_1 ?_
  refine z_aload_n (j := 0) hx hb dX5_isAbsentAt_4 rfl rfl ?_
  refine z_iload_n (j := 1) hx hb dX5_isAbsentAt_5 rfl rfl ?_
  have h6 := And.left hok
  have hok := And.right hok
  refine z_callVi (As := [.int v1]) S (ctX5_pageOf l hl D kc ad wad q v1 h6) (cwV 1 S.2.2.2.2 (gV q5_71 q5_72 q5_73 q1_4 q5_74) rfl rfl rfl hX5_pageOf ⟨Nat.le_of_ble_eq_true rfl, Nat.le_of_ble_eq_true rfl⟩) hA (pbX D kc) (psX hK hE) (z_recv hK 2 (fun _ => rfl) rfl) rfl rfl (Nat.le_of_ble_eq_true rfl) dX5_isAbsentAt_6 ⟨Nat.le_of_ble_eq_true rfl, Nat.le_of_ble_eq_true rfl⟩ ?_
  refine z_sub [] rfl ?_
  exact b9 (fX5_pageOf q v1).2 (fX5_pageOf q v1).1 hok hF
theorem hX5_isAbsentAt : yX5_isAbsentAt.cls = RX5 ∧ yX5_isAbsentAt.cls ≠ "java/lang/invoke/MethodHandle" ∧ yX5_isAbsentAt.cls ≠ "java/lang/invoke/VarHandle" ∧ (parseMethodDescriptor yX5_isAbsentAt.desc).map (fun d => d.parameters.length) = some 1 := by decide +kernel
def fX5_at (q : SS) (v1 : Int32) : Int32 × SS := (((gA q 16) ((v1 &&& 63) : Int32).toNatClampNeg), q)
def kX5_at (q : SS) (v1 : Int32) : Prop := vp_in (v1 &&& 63) 64 ∧ True
set_option maxHeartbeats 4000000 in
set_option maxRecDepth 100000 in
theorem ctX5_at (l : Launch) (hl : l.stackTraces = false) (D : va_G) (kc : Nat → ClassId) (ad wad : Nat → Nat) (q : SS) (v1 : Int32) (hok : kX5_at q v1) : Ci l yX5_at (Cond.code yX5_at cX5_at 2 (some .int) :: lw_G) (zr 0 0 0) 0 0 (PX D kc) (GX D kc ad wad) (GX D kc ad wad) [.ref (ad 2), .int v1] q (fX5_at q v1) := by
  refine Ci.of (cc := cX5_at) (maxL := 2) (ret := (some .int)) (by decide) rfl (Nat.le_of_ble_eq_true rfl) ?_
  intro p e s m args below meth c A S hr hlocks hin hA hK
  have hx := S.1
  have hb := S.2.1
  have hE : EV A s s.heap := hK.2
  have hK : va_K D vwCl (tysK kc) s := hK.1
  generalize hFe : fX5_at q v1 = F
  have hF : F = fX5_at q v1 := hFe.symm
  refine z_aload_n (j := 0) hx hb dX5_at_0 rfl rfl ?_
  refine z_get (v := .ref (ad 16)) S hK inX5 2 (fun _ => rfl) rfl 0 (by decide) q1_79 rfl rfl dX5_at_1 ?_
  refine z_iload_n (j := 1) hx hb dX5_at_4 rfl rfl ?_
  refine z_bipush (v := 63) hx hb dX5_at_5 (by decide) ?_
  refine z_iand hx hb dX5_at_7 ?_
  have h8 := And.left hok
  have hok := And.right hok
  refine z_iald (f := (gA q 16)) S hK 16 0 (fun _ => rfl) rfl h8 dX5_at_8 ?_
  exact z_iret hx hb hlocks hr rfl hF dX5_at_9
theorem hX5_at : yX5_at.cls = RX5 ∧ yX5_at.cls ≠ "java/lang/invoke/MethodHandle" ∧ yX5_at.cls ≠ "java/lang/invoke/VarHandle" ∧ (parseMethodDescriptor yX5_at.desc).map (fun d => d.parameters.length) = some 1 := by decide +kernel
def fX5_put_57 (q : SS) : SS := q
def kX5_put_57 (q : SS) : Prop := True
def fX5_put_37 (q : SS) (v3 : Int32) : SS := fX5_put_57 (sI (sA q 19 (upd (gA q 19) ((gI q 305) : Int32).toNatClampNeg v3)) 305 ((gI q 305) + 1))
def kX5_put_37 (q : SS) (v3 : Int32) : Prop := vp_in (gI q 305) 64 ∧ kX5_put_57 (sI (sA q 19 (upd (gA q 19) ((gI q 305) : Int32).toNatClampNeg v3)) 305 ((gI q 305) + 1))
def fX5_put (q : SS) (v1 : Int32) (v2 : Int32) : SS := (if ((gA q 20) ((v1 &&& 63) : Int32).toNatClampNeg) = 0 then (if 64 ≤ (gI q 305) then fX5_put_57 (sA q 16 (upd (gA q 16) ((v1 &&& 63) : Int32).toNatClampNeg v2)) else fX5_put_37 (sA (sA q 16 (upd (gA q 16) ((v1 &&& 63) : Int32).toNatClampNeg v2)) 20 (upd (gA q 20) ((v1 &&& 63) : Int32).toNatClampNeg (vp_nar .boolean 1))) (v1 &&& 63)) else fX5_put_57 (sA q 16 (upd (gA q 16) ((v1 &&& 63) : Int32).toNatClampNeg v2)))
def kX5_put (q : SS) (v1 : Int32) (v2 : Int32) : Prop := vp_in (v1 &&& 63) 64 ∧ vp_in (v1 &&& 63) 64 ∧ ((((gA q 20) ((v1 &&& 63) : Int32).toNatClampNeg) = 0 → ((64 ≤ (gI q 305) → kX5_put_57 (sA q 16 (upd (gA q 16) ((v1 &&& 63) : Int32).toNatClampNeg v2))) ∧ (¬ 64 ≤ (gI q 305) → vp_in (v1 &&& 63) 64 ∧ kX5_put_37 (sA (sA q 16 (upd (gA q 16) ((v1 &&& 63) : Int32).toNatClampNeg v2)) 20 (upd (gA q 20) ((v1 &&& 63) : Int32).toNatClampNeg (vp_nar .boolean 1))) (v1 &&& 63)))) ∧ (¬ ((gA q 20) ((v1 &&& 63) : Int32).toNatClampNeg) = 0 → kX5_put_57 (sA q 16 (upd (gA q 16) ((v1 &&& 63) : Int32).toNatClampNeg v2))))
set_option maxHeartbeats 4000000 in
set_option maxRecDepth 100000 in
theorem ctX5_put (l : Launch) (hl : l.stackTraces = false) (D : va_G) (kc : Nat → ClassId) (ad wad : Nat → Nat) (q : SS) (v1 : Int32) (v2 : Int32) (hok : kX5_put q v1 v2) : Cv l yX5_put (Cond.code yX5_put cX5_put 4 none :: lw_G) (zr 0 0 0) 0 0 (PX D kc) (GX D kc ad wad) (GX D kc ad wad) [.ref (ad 2), .int v1, .int v2] q (fX5_put q v1 v2) := by
  refine Cv.of (cc := cX5_put) (maxL := 4) (ret := none) (by decide) rfl (Nat.le_of_ble_eq_true rfl) ?_
  intro p e s m args below meth c A S hr hlocks hin hA hK
  have hx := S.1
  have hb := S.2.1
  have hE : EV A s s.heap := hK.2
  have hK : va_K D vwCl (tysK kc) s := hK.1
  generalize hFe : fX5_put q v1 v2 = F
  have hF : F = fX5_put q v1 v2 := hFe.symm
  have b57 : ∀ (q : SS), kX5_put_57 q → F = fX5_put_57 q → Z p l e (zr 0 0 0) s m args below meth c 0 0 (MQ below (va_Qv (fun (_ : Unit) => True) (fun _ t => (GX D kc ad wad) A F t.heap) A) args s 0 0 A) 4 A (ZG D vwCl (wX kc ad wad) (PLX wad) A) q 57 [] [] := by
    intro q hok hF
    exact z_vret hx hb hlocks hr hF dX5_put_57
  have b37 : ∀ (q : SS) (v3 : Int32), kX5_put_37 q v3 → F = fX5_put_37 q v3 → Z p l e (zr 0 0 0) s m args below meth c 0 0 (MQ below (va_Qv (fun (_ : Unit) => True) (fun _ t => (GX D kc ad wad) A F t.heap) A) args s 0 0 A) 4 A (ZG D vwCl (wX kc ad wad) (PLX wad) A) q 37 [(0, .ref (ad 2)), (3, .int v3)] [] := by
    intro q v3 hok hF
    refine z_aload_n (j := 0) hx hb dX5_put_37 rfl rfl ?_
    refine z_get (v := .ref (ad 19)) S hK inX5 2 (fun _ => rfl) rfl 3 (by decide) q1_83 rfl rfl dX5_put_38 ?_
    refine z_aload_n (j := 0) hx hb dX5_put_41 rfl rfl ?_
    refine z_get (v := .int (gI q 305)) S hK inX5 2 (fun _ => rfl) rfl 5 (by decide) q1_85 rfl rfl dX5_put_42 ?_
    refine z_iload_n (j := 1) hx hb dX5_put_45 rfl rfl ?_
    have h46 := And.left hok
    have hok := And.right hok
    refine z_iast (f := (gA q 19)) (q' := (sA q 19 (upd (gA q 19) ((gI q 305) : Int32).toNatClampNeg v3))) S hK 19 0 (fun _ => rfl) rfl h46 dX5_put_46 (wXa19 kc ad wad _ _) (fun _ h => h) ?_
    refine z_aload_n (j := 0) hx hb dX5_put_47 rfl rfl ?_
    refine z_dup hx hb dX5_put_48 rfl ?_
    refine z_get (v := .int (gI q 305)) S hK inX5 2 (fun _ => rfl) rfl 5 (by decide) q1_85 rfl rfl dX5_put_49 ?_
    refine z_iconst (v := 1) hx hb dX5_put_52 (by decide) ?_
    refine z_iadd hx hb dX5_put_53 ?_
    refine z_put (v := .int ((gI q 305) + 1)) (q' := (sI (sA q 19 (upd (gA q 19) ((gI q 305) : Int32).toNatClampNeg v3)) 305 ((gI q 305) + 1))) S hK inX5 tyX5 tyX5_ok nmX5 2 (fun _ => rfl) rfl 5 (by decide) q1_85 rfl rfl rfl rfl (Nat.le_of_ble_eq_true rfl) dX5_put_54 (wXp305 kc ad wad _ _) (fun _ h => h) ?_
    refine z_sub [] rfl ?_
    exact b57 (sI (sA q 19 (upd (gA q 19) ((gI q 305) : Int32).toNatClampNeg v3)) 305 ((gI q 305) + 1)) hok hF
  refine z_iload_n (j := 1) hx hb dX5_put_0 rfl rfl ?_
  refine z_bipush (v := 63) hx hb dX5_put_1 (by decide) ?_
  refine z_iand hx hb dX5_put_3 ?_
  refine z_istore_n (lv' := [(3, .int (v1 &&& 63)), (0, .ref (ad 2)), (1, .int v1), (2, .int v2)]) hx hb dX5_put_4 rfl (by decide) rfl ?_
  refine z_aload_n (j := 1) hx hb dX5_put_5 rfl rfl ?_
  refine z_get (v := .ref (ad 16)) S hK inX5 2 (fun _ => rfl) rfl 0 (by decide) q1_79 rfl rfl dX5_put_6 ?_
  refine z_iload_n (j := 0) hx hb dX5_put_9 rfl rfl ?_
  refine z_iload_n (j := 3) hx hb dX5_put_10 rfl rfl ?_
  have h11 := And.left hok
  have hok := And.right hok
  refine z_iast (f := (gA q 16)) (q' := (sA q 16 (upd (gA q 16) ((v1 &&& 63) : Int32).toNatClampNeg v2))) S hK 16 0 (fun _ => rfl) rfl h11 dX5_put_11 (wXa16 kc ad wad _ _) (fun _ h => h) ?_
  refine z_aload_n (j := 1) hx hb dX5_put_12 rfl rfl ?_
  refine z_get (v := .ref (ad 20)) S hK inX5 2 (fun _ => rfl) rfl 4 (by decide) q1_84 rfl rfl dX5_put_13 ?_
  refine z_iload_n (j := 0) hx hb dX5_put_16 rfl rfl ?_
  have h17 := And.left hok
  have hok := And.right hok
  refine z_zald (f := (gA q 20)) S hK 20 1 (fun _ => rfl) rfl h17 dX5_put_17 ?_
  refine z_if_ne (tgt := 57) hx hb dX5_put_18 (by decide) (fun g18 => ?_) (fun g18 => ?_)
  · have hF := hF.trans (if_neg g18)
    have hok := And.right hok g18
    refine z_sub [] rfl ?_
    exact b57 (sA q 16 (upd (gA q 16) ((v1 &&& 63) : Int32).toNatClampNeg v2)) hok hF
  · have hF := hF.trans (if_pos g18)
    have hok := And.left hok g18
    refine z_aload_n (j := 1) hx hb dX5_put_21 rfl rfl ?_
    refine z_get (v := .int (gI q 305)) S hK inX5 2 (fun _ => rfl) rfl 5 (by decide) q1_85 rfl rfl dX5_put_22 ?_
    refine z_bipush (v := 64) hx hb dX5_put_25 (by decide) ?_
    refine z_icmp_ge (tgt := 57) hx hb dX5_put_27 (by decide) (fun g27 => ?_) (fun g27 => ?_)
    · have hF := hF.trans (if_pos g27)
      have hok := And.left hok g27
      refine z_sub [] rfl ?_
      exact b57 (sA q 16 (upd (gA q 16) ((v1 &&& 63) : Int32).toNatClampNeg v2)) hok hF
    · have hF := hF.trans (if_neg g27)
      have hok := And.right hok g27
      refine z_aload_n (j := 1) hx hb dX5_put_30 rfl rfl ?_
      refine z_get (v := .ref (ad 20)) S hK inX5 2 (fun _ => rfl) rfl 4 (by decide) q1_84 rfl rfl dX5_put_31 ?_
      refine z_iload_n (j := 0) hx hb dX5_put_34 rfl rfl ?_
      refine z_iconst (v := 1) hx hb dX5_put_35 (by decide) ?_
      have h36 := And.left hok
      have hok := And.right hok
      refine z_zast (f := (gA q 20)) (q' := (sA (sA q 16 (upd (gA q 16) ((v1 &&& 63) : Int32).toNatClampNeg v2)) 20 (upd (gA q 20) ((v1 &&& 63) : Int32).toNatClampNeg (vp_nar .boolean 1)))) S hK 20 1 (fun _ => rfl) rfl h36 dX5_put_36 (wXa20 kc ad wad _ _) (fun _ h => h) ?_
      refine z_sub [1, 0] rfl ?_
      exact b37 (sA (sA q 16 (upd (gA q 16) ((v1 &&& 63) : Int32).toNatClampNeg v2)) 20 (upd (gA q 20) ((v1 &&& 63) : Int32).toNatClampNeg (vp_nar .boolean 1))) (v1 &&& 63) hok hF
theorem hX5_put : yX5_put.cls = RX5 ∧ yX5_put.cls ≠ "java/lang/invoke/MethodHandle" ∧ yX5_put.cls ≠ "java/lang/invoke/VarHandle" ∧ (parseMethodDescriptor yX5_put.desc).map (fun d => d.parameters.length) = some 2 := by decide +kernel
def fX5_replace (q : SS) (v1 : Int32) (v2 : Int32) : Int32 × SS := (((gA q 16) (v1 : Int32).toNatClampNeg), (sA (sA q 16 (upd (gA q 16) (v1 : Int32).toNatClampNeg v2)) 17 (upd (gA q 17) (v1 : Int32).toNatClampNeg v2)))
def kX5_replace (q : SS) (v1 : Int32) (v2 : Int32) : Prop := vp_in v1 64 ∧ vp_in v1 64 ∧ vp_in v1 64 ∧ True
set_option maxHeartbeats 4000000 in
set_option maxRecDepth 100000 in
theorem ctX5_replace (l : Launch) (hl : l.stackTraces = false) (D : va_G) (kc : Nat → ClassId) (ad wad : Nat → Nat) (q : SS) (v1 : Int32) (v2 : Int32) (hok : kX5_replace q v1 v2) : Ci l yX5_replace (Cond.code yX5_replace cX5_replace 4 (some .int) :: lw_G) (zr 0 0 0) 0 0 (PX D kc) (GX D kc ad wad) (GX D kc ad wad) [.ref (ad 2), .int v1, .int v2] q (fX5_replace q v1 v2) := by
  refine Ci.of (cc := cX5_replace) (maxL := 4) (ret := (some .int)) (by decide) rfl (Nat.le_of_ble_eq_true rfl) ?_
  intro p e s m args below meth c A S hr hlocks hin hA hK
  have hx := S.1
  have hb := S.2.1
  have hE : EV A s s.heap := hK.2
  have hK : va_K D vwCl (tysK kc) s := hK.1
  generalize hFe : fX5_replace q v1 v2 = F
  have hF : F = fX5_replace q v1 v2 := hFe.symm
  refine z_aload_n (j := 0) hx hb dX5_replace_0 rfl rfl ?_
  refine z_get (v := .ref (ad 16)) S hK inX5 2 (fun _ => rfl) rfl 0 (by decide) q1_79 rfl rfl dX5_replace_1 ?_
  refine z_iload_n (j := 1) hx hb dX5_replace_4 rfl rfl ?_
  have h5 := And.left hok
  have hok := And.right hok
  refine z_iald (f := (gA q 16)) S hK 16 0 (fun _ => rfl) rfl h5 dX5_replace_5 ?_
  refine z_istore_n (lv' := [(3, .int ((gA q 16) (v1 : Int32).toNatClampNeg)), (0, .ref (ad 2)), (1, .int v1), (2, .int v2)]) hx hb dX5_replace_6 rfl (by decide) rfl ?_
  refine z_aload_n (j := 1) hx hb dX5_replace_7 rfl rfl ?_
  refine z_get (v := .ref (ad 16)) S hK inX5 2 (fun _ => rfl) rfl 0 (by decide) q1_79 rfl rfl dX5_replace_8 ?_
  refine z_iload_n (j := 2) hx hb dX5_replace_11 rfl rfl ?_
  refine z_iload_n (j := 3) hx hb dX5_replace_12 rfl rfl ?_
  have h13 := And.left hok
  have hok := And.right hok
  refine z_iast (f := (gA q 16)) (q' := (sA q 16 (upd (gA q 16) (v1 : Int32).toNatClampNeg v2))) S hK 16 0 (fun _ => rfl) rfl h13 dX5_replace_13 (wXa16 kc ad wad _ _) (fun _ h => h) ?_
  refine z_aload_n (j := 1) hx hb dX5_replace_14 rfl rfl ?_
  refine z_get (v := .ref (ad 17)) S hK inX5 2 (fun _ => rfl) rfl 1 (by decide) q1_80 rfl rfl dX5_replace_15 ?_
  refine z_iload_n (j := 2) hx hb dX5_replace_18 rfl rfl ?_
  refine z_iload_n (j := 3) hx hb dX5_replace_19 rfl rfl ?_
  have h20 := And.left hok
  have hok := And.right hok
  refine z_iast (f := (gA q 17)) (q' := (sA (sA q 16 (upd (gA q 16) (v1 : Int32).toNatClampNeg v2)) 17 (upd (gA q 17) (v1 : Int32).toNatClampNeg v2))) S hK 17 0 (fun _ => rfl) rfl h20 dX5_replace_20 (wXa17 kc ad wad _ _) (fun _ h => h) ?_
  refine z_iload_n (j := 0) hx hb dX5_replace_21 rfl rfl ?_
  exact z_iret hx hb hlocks hr rfl hF dX5_replace_22
theorem hX5_replace : yX5_replace.cls = RX5 ∧ yX5_replace.cls ≠ "java/lang/invoke/MethodHandle" ∧ yX5_replace.cls ≠ "java/lang/invoke/VarHandle" ∧ (parseMethodDescriptor yX5_replace.desc).map (fun d => d.parameters.length) = some 2 := by decide +kernel
def fX5_replacePage_29 (q : SS) (v3 : Int32) (s0 : Int32) (s1 : Int32) : Int32 × SS := (v3, (sA q 18 (upd (gA q 18) (s1 : Int32).toNatClampNeg (vp_nar .boolean s0))))
def kX5_replacePage_29 (q : SS) (v3 : Int32) (s0 : Int32) (s1 : Int32) : Prop := vp_in s1 4 ∧ narrow .boolean (.int v3) = .int v3 ∧ True
def fX5_replacePage_14 (q : SS) (v1 : Int32) (v2 : Int32) (s0 : Int32) : Int32 × SS := (if v2 = 0 then fX5_replacePage_29 q s0 1 v1 else fX5_replacePage_29 q s0 0 v1)
def kX5_replacePage_14 (q : SS) (v1 : Int32) (v2 : Int32) (s0 : Int32) : Prop := ((v2 = 0 → kX5_replacePage_29 q s0 1 v1) ∧ (¬ v2 = 0 → kX5_replacePage_29 q s0 0 v1))
def fX5_replacePage (q : SS) (v1 : Int32) (v2 : Int32) : Int32 × SS := (if ((gA q 18) (v1 : Int32).toNatClampNeg) = 0 then fX5_replacePage_14 q v1 v2 1 else fX5_replacePage_14 q v1 v2 0)
def kX5_replacePage (q : SS) (v1 : Int32) (v2 : Int32) : Prop := vp_in v1 4 ∧ ((((gA q 18) (v1 : Int32).toNatClampNeg) = 0 → kX5_replacePage_14 q v1 v2 1) ∧ (¬ ((gA q 18) (v1 : Int32).toNatClampNeg) = 0 → kX5_replacePage_14 q v1 v2 0))
set_option maxHeartbeats 4000000 in
set_option maxRecDepth 100000 in
theorem ctX5_replacePage (l : Launch) (hl : l.stackTraces = false) (D : va_G) (kc : Nat → ClassId) (ad wad : Nat → Nat) (q : SS) (v1 : Int32) (v2 : Int32) (hok : kX5_replacePage q v1 v2) : Ci l yX5_replacePage (Cond.code yX5_replacePage cX5_replacePage 4 (some .boolean) :: lw_G) (zr 0 0 0) 0 0 (PX D kc) (GX D kc ad wad) (GX D kc ad wad) [.ref (ad 2), .int v1, .int v2] q (fX5_replacePage q v1 v2) := by
  refine Ci.of (cc := cX5_replacePage) (maxL := 4) (ret := (some .boolean)) (by decide) rfl (Nat.le_of_ble_eq_true rfl) ?_
  intro p e s m args below meth c A S hr hlocks hin hA hK
  have hx := S.1
  have hb := S.2.1
  have hE : EV A s s.heap := hK.2
  have hK : va_K D vwCl (tysK kc) s := hK.1
  generalize hFe : fX5_replacePage q v1 v2 = F
  have hF : F = fX5_replacePage q v1 v2 := hFe.symm
  have b29 : ∀ (q : SS) (v3 : Int32) (s0 : Int32) (s1 : Int32), kX5_replacePage_29 q v3 s0 s1 → F = fX5_replacePage_29 q v3 s0 s1 → Z p l e (zr 0 0 0) s m args below meth c 0 0 (MQ below (va_Qi (fun (x : Int32) (_ : Unit) => x = F.1) (fun _ t => (GX D kc ad wad) A F.2 t.heap) A) args s 0 0 A) 4 A (ZG D vwCl (wX kc ad wad) (PLX wad) A) q 29 [(3, .int v3)] [.int s0, .int s1, .ref (ad 18)] := by
    intro q v3 s0 s1 hok hF
    have h29 := And.left hok
    have hok := And.right hok
    refine z_zast (f := (gA q 18)) (q' := (sA q 18 (upd (gA q 18) (s1 : Int32).toNatClampNeg (vp_nar .boolean s0)))) S hK 18 1 (fun _ => rfl) rfl h29 dX5_replacePage_29 (wXa18 kc ad wad _ _) (fun _ h => h) ?_
    refine z_iload_n (j := 0) hx hb dX5_replacePage_30 rfl rfl ?_
    have h31 := And.left hok
    have hok := And.right hok
    exact z_iret hx hb hlocks hr h31 hF dX5_replacePage_31
  have b14 : ∀ (q : SS) (v1 : Int32) (v2 : Int32) (s0 : Int32), kX5_replacePage_14 q v1 v2 s0 → F = fX5_replacePage_14 q v1 v2 s0 → Z p l e (zr 0 0 0) s m args below meth c 0 0 (MQ below (va_Qi (fun (x : Int32) (_ : Unit) => x = F.1) (fun _ t => (GX D kc ad wad) A F.2 t.heap) A) args s 0 0 A) 4 A (ZG D vwCl (wX kc ad wad) (PLX wad) A) q 14 [(0, .ref (ad 2)), (1, .int v1), (2, .int v2)] [.int s0] := by
    intro q v1 v2 s0 hok hF
    refine z_istore_n (lv' := [(3, .int s0), (0, .ref (ad 2)), (1, .int v1), (2, .int v2)]) hx hb dX5_replacePage_14 rfl (by decide) rfl ?_
    refine z_aload_n (j := 1) hx hb dX5_replacePage_15 rfl rfl ?_
    refine z_get (v := .ref (ad 18)) S hK inX5 2 (fun _ => rfl) rfl 2 (by decide) q1_82 rfl rfl dX5_replacePage_16 ?_
    refine z_iload_n (j := 2) hx hb dX5_replacePage_19 rfl rfl ?_
    refine z_iload_n (j := 3) hx hb dX5_replacePage_20 rfl rfl ?_
    refine z_if_ne (tgt := 28) hx hb dX5_replacePage_21 (by decide) (fun g21 => ?_) (fun g21 => ?_)
    · have hF := hF.trans (if_neg g21)
      have hok := And.right hok g21
      refine z_iconst (v := 0) hx hb dX5_replacePage_28 (by decide) ?_
      refine z_sub [0] rfl ?_
      exact b29 q s0 0 v1 hok hF
    · have hF := hF.trans (if_pos g21)
      have hok := And.left hok g21
      refine z_iconst (v := 1) hx hb dX5_replacePage_24 (by decide) ?_
      refine z_goto (tgt := 29) hx hb dX5_replacePage_25 (by decide) ?_
      refine z_sub [0] rfl ?_
      exact b29 q s0 1 v1 hok hF
  refine z_aload_n (j := 0) hx hb dX5_replacePage_0 rfl rfl ?_
  refine z_get (v := .ref (ad 18)) S hK inX5 2 (fun _ => rfl) rfl 2 (by decide) q1_82 rfl rfl dX5_replacePage_1 ?_
  refine z_iload_n (j := 1) hx hb dX5_replacePage_4 rfl rfl ?_
  have h5 := And.left hok
  have hok := And.right hok
  refine z_zald (f := (gA q 18)) S hK 18 1 (fun _ => rfl) rfl h5 dX5_replacePage_5 ?_
  refine z_if_ne (tgt := 13) hx hb dX5_replacePage_6 (by decide) (fun g6 => ?_) (fun g6 => ?_)
  · have hF := hF.trans (if_neg g6)
    have hok := And.right hok g6
    refine z_iconst (v := 0) hx hb dX5_replacePage_13 (by decide) ?_
    exact b14 q v1 v2 0 hok hF
  · have hF := hF.trans (if_pos g6)
    have hok := And.left hok g6
    refine z_iconst (v := 1) hx hb dX5_replacePage_9 (by decide) ?_
    refine z_goto (tgt := 14) hx hb dX5_replacePage_10 (by decide) ?_
    exact b14 q v1 v2 1 hok hF
theorem hX5_replacePage : yX5_replacePage.cls = RX5 ∧ yX5_replacePage.cls ≠ "java/lang/invoke/MethodHandle" ∧ yX5_replacePage.cls ≠ "java/lang/invoke/VarHandle" ∧ (parseMethodDescriptor yX5_replacePage.desc).map (fun d => d.parameters.length) = some 2 := by decide +kernel
def fX5_keep_2 : Nat → SS → Int32 → SS
  | 0, q, _ => q
  | n + 1, q, v1 => (if (gI q 305) ≤ v1 then (sI q 305 0) else fX5_keep_2 n (sA (sA q 17 (upd (gA q 17) ((((gA q 19) (v1 : Int32).toNatClampNeg) &&& 63) : Int32).toNatClampNeg ((gA q 16) ((((gA q 19) (v1 : Int32).toNatClampNeg) &&& 63) : Int32).toNatClampNeg))) 20 (upd (gA q 20) ((((gA q 19) (v1 : Int32).toNatClampNeg) &&& 63) : Int32).toNatClampNeg (vp_nar .boolean 0))) (v1 + 1))
def kX5_keep_2 : Nat → SS → Int32 → Prop
  | 0, _, _ => False
  | n + 1, q, v1 => (((gI q 305) ≤ v1 → True) ∧ (¬ (gI q 305) ≤ v1 → vp_in v1 64 ∧ vp_in (((gA q 19) (v1 : Int32).toNatClampNeg) &&& 63) 64 ∧ vp_in (((gA q 19) (v1 : Int32).toNatClampNeg) &&& 63) 64 ∧ vp_in (((gA q 19) (v1 : Int32).toNatClampNeg) &&& 63) 64 ∧ kX5_keep_2 n (sA (sA q 17 (upd (gA q 17) ((((gA q 19) (v1 : Int32).toNatClampNeg) &&& 63) : Int32).toNatClampNeg ((gA q 16) ((((gA q 19) (v1 : Int32).toNatClampNeg) &&& 63) : Int32).toNatClampNeg))) 20 (upd (gA q 20) ((((gA q 19) (v1 : Int32).toNatClampNeg) &&& 63) : Int32).toNatClampNeg (vp_nar .boolean 0))) (v1 + 1)))
def fX5_keep (q : SS) : SS := fX5_keep_2 70 q 0
def kX5_keep (q : SS) : Prop := kX5_keep_2 70 q 0
set_option maxHeartbeats 4000000 in
set_option maxRecDepth 100000 in
theorem ctX5_keep (l : Launch) (hl : l.stackTraces = false) (D : va_G) (kc : Nat → ClassId) (ad wad : Nat → Nat) (q : SS) (hok : kX5_keep q) : Cv l yX5_keep (Cond.code yX5_keep cX5_keep 3 none :: lw_G) (zr 0 0 0) 0 0 (PX D kc) (GX D kc ad wad) (GX D kc ad wad) [.ref (ad 2)] q (fX5_keep q) := by
  refine Cv.of (cc := cX5_keep) (maxL := 3) (ret := none) (by decide) rfl (Nat.le_of_ble_eq_true rfl) ?_
  intro p e s m args below meth c A S hr hlocks hin hA hK
  have hx := S.1
  have hb := S.2.1
  have hE : EV A s s.heap := hK.2
  have hK : va_K D vwCl (tysK kc) s := hK.1
  generalize hFe : fX5_keep q = F
  have hF : F = fX5_keep q := hFe.symm
  have b2 : ∀ (n : Nat) (q : SS) (v1 : Int32), kX5_keep_2 n q v1 → F = fX5_keep_2 n q v1 → Z p l e (zr 0 0 0) s m args below meth c 0 0 (MQ below (va_Qv (fun (_ : Unit) => True) (fun _ t => (GX D kc ad wad) A F t.heap) A) args s 0 0 A) 3 A (ZG D vwCl (wX kc ad wad) (PLX wad) A) q 2 [(0, .ref (ad 2)), (1, .int v1)] [] := by
    intro n
    induction n with
    | zero => intro q v1 hok hF; exact False.elim hok
    | succ n ih =>
      intro q v1 hok hF
      refine z_iload_n (j := 1) hx hb dX5_keep_2 rfl rfl ?_
      refine z_aload_n (j := 0) hx hb dX5_keep_3 rfl rfl ?_
      refine z_get (v := .int (gI q 305)) S hK inX5 2 (fun _ => rfl) rfl 5 (by decide) q1_85 rfl rfl dX5_keep_4 ?_
      refine z_icmp_ge (tgt := 45) hx hb dX5_keep_7 (by decide) (fun g7 => ?_) (fun g7 => ?_)
      · have hF := hF.trans (if_pos g7)
        have hok := And.left hok g7
        refine z_aload_n (j := 0) hx hb dX5_keep_45 rfl rfl ?_
        refine z_iconst (v := 0) hx hb dX5_keep_46 (by decide) ?_
        refine z_put (v := .int 0) (q' := (sI q 305 0)) S hK inX5 tyX5 tyX5_ok nmX5 2 (fun _ => rfl) rfl 5 (by decide) q1_85 rfl rfl rfl rfl (Nat.le_of_ble_eq_true rfl) dX5_keep_47 (wXp305 kc ad wad _ _) (fun _ h => h) ?_
        exact z_vret hx hb hlocks hr hF dX5_keep_50
      · have hF := hF.trans (if_neg g7)
        have hok := And.right hok g7
        refine z_aload_n (j := 0) hx hb dX5_keep_10 rfl rfl ?_
        refine z_get (v := .ref (ad 19)) S hK inX5 2 (fun _ => rfl) rfl 3 (by decide) q1_83 rfl rfl dX5_keep_11 ?_
        refine z_iload_n (j := 1) hx hb dX5_keep_14 rfl rfl ?_
        have h15 := And.left hok
        have hok := And.right hok
        refine z_iald (f := (gA q 19)) S hK 19 0 (fun _ => rfl) rfl h15 dX5_keep_15 ?_
        refine z_bipush (v := 63) hx hb dX5_keep_16 (by decide) ?_
        refine z_iand hx hb dX5_keep_18 ?_
        refine z_istore_n (lv' := [(2, .int (((gA q 19) (v1 : Int32).toNatClampNeg) &&& 63)), (0, .ref (ad 2)), (1, .int v1)]) hx hb dX5_keep_19 rfl (by decide) rfl ?_
        refine z_aload_n (j := 1) hx hb dX5_keep_20 rfl rfl ?_
        refine z_get (v := .ref (ad 17)) S hK inX5 2 (fun _ => rfl) rfl 1 (by decide) q1_80 rfl rfl dX5_keep_21 ?_
        refine z_iload_n (j := 0) hx hb dX5_keep_24 rfl rfl ?_
        refine z_aload_n (j := 1) hx hb dX5_keep_25 rfl rfl ?_
        refine z_get (v := .ref (ad 16)) S hK inX5 2 (fun _ => rfl) rfl 0 (by decide) q1_79 rfl rfl dX5_keep_26 ?_
        refine z_iload_n (j := 0) hx hb dX5_keep_29 rfl rfl ?_
        have h30 := And.left hok
        have hok := And.right hok
        refine z_iald (f := (gA q 16)) S hK 16 0 (fun _ => rfl) rfl h30 dX5_keep_30 ?_
        have h31 := And.left hok
        have hok := And.right hok
        refine z_iast (f := (gA q 17)) (q' := (sA q 17 (upd (gA q 17) ((((gA q 19) (v1 : Int32).toNatClampNeg) &&& 63) : Int32).toNatClampNeg ((gA q 16) ((((gA q 19) (v1 : Int32).toNatClampNeg) &&& 63) : Int32).toNatClampNeg)))) S hK 17 0 (fun _ => rfl) rfl h31 dX5_keep_31 (wXa17 kc ad wad _ _) (fun _ h => h) ?_
        refine z_aload_n (j := 1) hx hb dX5_keep_32 rfl rfl ?_
        refine z_get (v := .ref (ad 20)) S hK inX5 2 (fun _ => rfl) rfl 4 (by decide) q1_84 rfl rfl dX5_keep_33 ?_
        refine z_iload_n (j := 0) hx hb dX5_keep_36 rfl rfl ?_
        refine z_iconst (v := 0) hx hb dX5_keep_37 (by decide) ?_
        have h38 := And.left hok
        have hok := And.right hok
        refine z_zast (f := (gA q 20)) (q' := (sA (sA q 17 (upd (gA q 17) ((((gA q 19) (v1 : Int32).toNatClampNeg) &&& 63) : Int32).toNatClampNeg ((gA q 16) ((((gA q 19) (v1 : Int32).toNatClampNeg) &&& 63) : Int32).toNatClampNeg))) 20 (upd (gA q 20) ((((gA q 19) (v1 : Int32).toNatClampNeg) &&& 63) : Int32).toNatClampNeg (vp_nar .boolean 0)))) S hK 20 1 (fun _ => rfl) rfl h38 dX5_keep_38 (wXa20 kc ad wad _ _) (fun _ h => h) ?_
        refine z_iinc (k := 2) (v := (v1 + 1)) (lv' := [(1, .int (v1 + 1)), (2, .int (((gA q 19) (v1 : Int32).toNatClampNeg) &&& 63)), (0, .ref (ad 2))]) hx hb dX5_keep_39 rfl rfl (by decide) rfl ?_
        refine z_goto (tgt := 2) hx hb dX5_keep_42 (by decide) ?_
        refine z_sub [2, 0] rfl ?_
        exact ih (sA (sA q 17 (upd (gA q 17) ((((gA q 19) (v1 : Int32).toNatClampNeg) &&& 63) : Int32).toNatClampNeg ((gA q 16) ((((gA q 19) (v1 : Int32).toNatClampNeg) &&& 63) : Int32).toNatClampNeg))) 20 (upd (gA q 20) ((((gA q 19) (v1 : Int32).toNatClampNeg) &&& 63) : Int32).toNatClampNeg (vp_nar .boolean 0))) (v1 + 1) hok hF
  refine z_iconst (v := 0) hx hb dX5_keep_0 (by decide) ?_
  refine z_istore_n (lv' := [(1, .int 0), (0, .ref (ad 2))]) hx hb dX5_keep_1 rfl (by decide) rfl ?_
  refine z_sub [1, 0] rfl ?_
  exact b2 70 q 0 hok hF
theorem hX5_keep : yX5_keep.cls = RX5 ∧ yX5_keep.cls ≠ "java/lang/invoke/MethodHandle" ∧ yX5_keep.cls ≠ "java/lang/invoke/VarHandle" ∧ (parseMethodDescriptor yX5_keep.desc).map (fun d => d.parameters.length) = some 0 := by decide +kernel
def fX5_takeBack_2 : Nat → SS → Int32 → SS
  | 0, q, _ => q
  | n + 1, q, v1 => (if (gI q 305) ≤ v1 then (sI q 305 0) else fX5_takeBack_2 n (sA (sA q 16 (upd (gA q 16) ((((gA q 19) (v1 : Int32).toNatClampNeg) &&& 63) : Int32).toNatClampNeg ((gA q 17) ((((gA q 19) (v1 : Int32).toNatClampNeg) &&& 63) : Int32).toNatClampNeg))) 20 (upd (gA q 20) ((((gA q 19) (v1 : Int32).toNatClampNeg) &&& 63) : Int32).toNatClampNeg (vp_nar .boolean 0))) (v1 + 1))
def kX5_takeBack_2 : Nat → SS → Int32 → Prop
  | 0, _, _ => False
  | n + 1, q, v1 => (((gI q 305) ≤ v1 → True) ∧ (¬ (gI q 305) ≤ v1 → vp_in v1 64 ∧ vp_in (((gA q 19) (v1 : Int32).toNatClampNeg) &&& 63) 64 ∧ vp_in (((gA q 19) (v1 : Int32).toNatClampNeg) &&& 63) 64 ∧ vp_in (((gA q 19) (v1 : Int32).toNatClampNeg) &&& 63) 64 ∧ kX5_takeBack_2 n (sA (sA q 16 (upd (gA q 16) ((((gA q 19) (v1 : Int32).toNatClampNeg) &&& 63) : Int32).toNatClampNeg ((gA q 17) ((((gA q 19) (v1 : Int32).toNatClampNeg) &&& 63) : Int32).toNatClampNeg))) 20 (upd (gA q 20) ((((gA q 19) (v1 : Int32).toNatClampNeg) &&& 63) : Int32).toNatClampNeg (vp_nar .boolean 0))) (v1 + 1)))
def fX5_takeBack (q : SS) : SS := fX5_takeBack_2 70 q 0
def kX5_takeBack (q : SS) : Prop := kX5_takeBack_2 70 q 0
set_option maxHeartbeats 4000000 in
set_option maxRecDepth 100000 in
theorem ctX5_takeBack (l : Launch) (hl : l.stackTraces = false) (D : va_G) (kc : Nat → ClassId) (ad wad : Nat → Nat) (q : SS) (hok : kX5_takeBack q) : Cv l yX5_takeBack (Cond.code yX5_takeBack cX5_takeBack 3 none :: lw_G) (zr 0 0 0) 0 0 (PX D kc) (GX D kc ad wad) (GX D kc ad wad) [.ref (ad 2)] q (fX5_takeBack q) := by
  refine Cv.of (cc := cX5_takeBack) (maxL := 3) (ret := none) (by decide) rfl (Nat.le_of_ble_eq_true rfl) ?_
  intro p e s m args below meth c A S hr hlocks hin hA hK
  have hx := S.1
  have hb := S.2.1
  have hE : EV A s s.heap := hK.2
  have hK : va_K D vwCl (tysK kc) s := hK.1
  generalize hFe : fX5_takeBack q = F
  have hF : F = fX5_takeBack q := hFe.symm
  have b2 : ∀ (n : Nat) (q : SS) (v1 : Int32), kX5_takeBack_2 n q v1 → F = fX5_takeBack_2 n q v1 → Z p l e (zr 0 0 0) s m args below meth c 0 0 (MQ below (va_Qv (fun (_ : Unit) => True) (fun _ t => (GX D kc ad wad) A F t.heap) A) args s 0 0 A) 3 A (ZG D vwCl (wX kc ad wad) (PLX wad) A) q 2 [(0, .ref (ad 2)), (1, .int v1)] [] := by
    intro n
    induction n with
    | zero => intro q v1 hok hF; exact False.elim hok
    | succ n ih =>
      intro q v1 hok hF
      refine z_iload_n (j := 1) hx hb dX5_takeBack_2 rfl rfl ?_
      refine z_aload_n (j := 0) hx hb dX5_takeBack_3 rfl rfl ?_
      refine z_get (v := .int (gI q 305)) S hK inX5 2 (fun _ => rfl) rfl 5 (by decide) q1_85 rfl rfl dX5_takeBack_4 ?_
      refine z_icmp_ge (tgt := 45) hx hb dX5_takeBack_7 (by decide) (fun g7 => ?_) (fun g7 => ?_)
      · have hF := hF.trans (if_pos g7)
        have hok := And.left hok g7
        refine z_aload_n (j := 0) hx hb dX5_takeBack_45 rfl rfl ?_
        refine z_iconst (v := 0) hx hb dX5_takeBack_46 (by decide) ?_
        refine z_put (v := .int 0) (q' := (sI q 305 0)) S hK inX5 tyX5 tyX5_ok nmX5 2 (fun _ => rfl) rfl 5 (by decide) q1_85 rfl rfl rfl rfl (Nat.le_of_ble_eq_true rfl) dX5_takeBack_47 (wXp305 kc ad wad _ _) (fun _ h => h) ?_
        exact z_vret hx hb hlocks hr hF dX5_takeBack_50
      · have hF := hF.trans (if_neg g7)
        have hok := And.right hok g7
        refine z_aload_n (j := 0) hx hb dX5_takeBack_10 rfl rfl ?_
        refine z_get (v := .ref (ad 19)) S hK inX5 2 (fun _ => rfl) rfl 3 (by decide) q1_83 rfl rfl dX5_takeBack_11 ?_
        refine z_iload_n (j := 1) hx hb dX5_takeBack_14 rfl rfl ?_
        have h15 := And.left hok
        have hok := And.right hok
        refine z_iald (f := (gA q 19)) S hK 19 0 (fun _ => rfl) rfl h15 dX5_takeBack_15 ?_
        refine z_bipush (v := 63) hx hb dX5_takeBack_16 (by decide) ?_
        refine z_iand hx hb dX5_takeBack_18 ?_
        refine z_istore_n (lv' := [(2, .int (((gA q 19) (v1 : Int32).toNatClampNeg) &&& 63)), (0, .ref (ad 2)), (1, .int v1)]) hx hb dX5_takeBack_19 rfl (by decide) rfl ?_
        refine z_aload_n (j := 1) hx hb dX5_takeBack_20 rfl rfl ?_
        refine z_get (v := .ref (ad 16)) S hK inX5 2 (fun _ => rfl) rfl 0 (by decide) q1_79 rfl rfl dX5_takeBack_21 ?_
        refine z_iload_n (j := 0) hx hb dX5_takeBack_24 rfl rfl ?_
        refine z_aload_n (j := 1) hx hb dX5_takeBack_25 rfl rfl ?_
        refine z_get (v := .ref (ad 17)) S hK inX5 2 (fun _ => rfl) rfl 1 (by decide) q1_80 rfl rfl dX5_takeBack_26 ?_
        refine z_iload_n (j := 0) hx hb dX5_takeBack_29 rfl rfl ?_
        have h30 := And.left hok
        have hok := And.right hok
        refine z_iald (f := (gA q 17)) S hK 17 0 (fun _ => rfl) rfl h30 dX5_takeBack_30 ?_
        have h31 := And.left hok
        have hok := And.right hok
        refine z_iast (f := (gA q 16)) (q' := (sA q 16 (upd (gA q 16) ((((gA q 19) (v1 : Int32).toNatClampNeg) &&& 63) : Int32).toNatClampNeg ((gA q 17) ((((gA q 19) (v1 : Int32).toNatClampNeg) &&& 63) : Int32).toNatClampNeg)))) S hK 16 0 (fun _ => rfl) rfl h31 dX5_takeBack_31 (wXa16 kc ad wad _ _) (fun _ h => h) ?_
        refine z_aload_n (j := 1) hx hb dX5_takeBack_32 rfl rfl ?_
        refine z_get (v := .ref (ad 20)) S hK inX5 2 (fun _ => rfl) rfl 4 (by decide) q1_84 rfl rfl dX5_takeBack_33 ?_
        refine z_iload_n (j := 0) hx hb dX5_takeBack_36 rfl rfl ?_
        refine z_iconst (v := 0) hx hb dX5_takeBack_37 (by decide) ?_
        have h38 := And.left hok
        have hok := And.right hok
        refine z_zast (f := (gA q 20)) (q' := (sA (sA q 16 (upd (gA q 16) ((((gA q 19) (v1 : Int32).toNatClampNeg) &&& 63) : Int32).toNatClampNeg ((gA q 17) ((((gA q 19) (v1 : Int32).toNatClampNeg) &&& 63) : Int32).toNatClampNeg))) 20 (upd (gA q 20) ((((gA q 19) (v1 : Int32).toNatClampNeg) &&& 63) : Int32).toNatClampNeg (vp_nar .boolean 0)))) S hK 20 1 (fun _ => rfl) rfl h38 dX5_takeBack_38 (wXa20 kc ad wad _ _) (fun _ h => h) ?_
        refine z_iinc (k := 2) (v := (v1 + 1)) (lv' := [(1, .int (v1 + 1)), (2, .int (((gA q 19) (v1 : Int32).toNatClampNeg) &&& 63)), (0, .ref (ad 2))]) hx hb dX5_takeBack_39 rfl rfl (by decide) rfl ?_
        refine z_goto (tgt := 2) hx hb dX5_takeBack_42 (by decide) ?_
        refine z_sub [2, 0] rfl ?_
        exact ih (sA (sA q 16 (upd (gA q 16) ((((gA q 19) (v1 : Int32).toNatClampNeg) &&& 63) : Int32).toNatClampNeg ((gA q 17) ((((gA q 19) (v1 : Int32).toNatClampNeg) &&& 63) : Int32).toNatClampNeg))) 20 (upd (gA q 20) ((((gA q 19) (v1 : Int32).toNatClampNeg) &&& 63) : Int32).toNatClampNeg (vp_nar .boolean 0))) (v1 + 1) hok hF
  refine z_iconst (v := 0) hx hb dX5_takeBack_0 (by decide) ?_
  refine z_istore_n (lv' := [(1, .int 0), (0, .ref (ad 2))]) hx hb dX5_takeBack_1 rfl (by decide) rfl ?_
  refine z_sub [1, 0] rfl ?_
  exact b2 70 q 0 hok hF
theorem hX5_takeBack : yX5_takeBack.cls = RX5 ∧ yX5_takeBack.cls ≠ "java/lang/invoke/MethodHandle" ∧ yX5_takeBack.cls ≠ "java/lang/invoke/VarHandle" ∧ (parseMethodDescriptor yX5_takeBack.desc).map (fun d => d.parameters.length) = some 0 := by decide +kernel
def fX5_isKeptBut_62 (k18 : SS → Int32 → Int32 → Int32 × SS) (q : SS) (v1 : Int32) (v3 : Int32) : Int32 × SS := k18 q v1 (v3 + 1)
def kX5_isKeptBut_62 (kk18 : SS → Int32 → Int32 → Prop) (q : SS) (v1 : Int32) (v3 : Int32) : Prop := kk18 q v1 (v3 + 1)
def fX5_isKeptBut_18 : Nat → SS → Int32 → Int32 → Int32 × SS
  | 0, q, _, _ => (0, q)
  | n + 1, q, v1, v3 => (if (gI q 305) ≤ v3 then (1, q) else (if (((gA q 19) (v3 : Int32).toNatClampNeg) &&& 63) = v1 then fX5_isKeptBut_62 (fX5_isKeptBut_18 n) q v1 v3 else (if ((gA q 16) ((((gA q 19) (v3 : Int32).toNatClampNeg) &&& 63) : Int32).toNatClampNeg) = ((gA q 17) ((((gA q 19) (v3 : Int32).toNatClampNeg) &&& 63) : Int32).toNatClampNeg) then fX5_isKeptBut_62 (fX5_isKeptBut_18 n) q v1 v3 else (0, q))))
def kX5_isKeptBut_18 : Nat → SS → Int32 → Int32 → Prop
  | 0, _, _, _ => False
  | n + 1, q, v1, v3 => (((gI q 305) ≤ v3 → True) ∧ (¬ (gI q 305) ≤ v3 → vp_in v3 64 ∧ (((((gA q 19) (v3 : Int32).toNatClampNeg) &&& 63) = v1 → kX5_isKeptBut_62 (kX5_isKeptBut_18 n) q v1 v3) ∧ (¬ (((gA q 19) (v3 : Int32).toNatClampNeg) &&& 63) = v1 → vp_in (((gA q 19) (v3 : Int32).toNatClampNeg) &&& 63) 64 ∧ vp_in (((gA q 19) (v3 : Int32).toNatClampNeg) &&& 63) 64 ∧ ((((gA q 16) ((((gA q 19) (v3 : Int32).toNatClampNeg) &&& 63) : Int32).toNatClampNeg) = ((gA q 17) ((((gA q 19) (v3 : Int32).toNatClampNeg) &&& 63) : Int32).toNatClampNeg) → kX5_isKeptBut_62 (kX5_isKeptBut_18 n) q v1 v3) ∧ (¬ ((gA q 16) ((((gA q 19) (v3 : Int32).toNatClampNeg) &&& 63) : Int32).toNatClampNeg) = ((gA q 17) ((((gA q 19) (v3 : Int32).toNatClampNeg) &&& 63) : Int32).toNatClampNeg) → True))))))
def fX5_isKeptBut_16 (q : SS) (v1 : Int32) : Int32 × SS := fX5_isKeptBut_18 70 q v1 0
def kX5_isKeptBut_16 (q : SS) (v1 : Int32) : Prop := kX5_isKeptBut_18 70 q v1 0
def fX5_isKeptBut_10 (q : SS) (v1 : Int32) (v2 : Int32) (s0 : Int32) : Int32 × SS := (if s0 = v2 then fX5_isKeptBut_16 q v1 else (0, q))
def kX5_isKeptBut_10 (q : SS) (v1 : Int32) (v2 : Int32) (s0 : Int32) : Prop := ((s0 = v2 → kX5_isKeptBut_16 q v1) ∧ (¬ s0 = v2 → True))
def fX5_isKeptBut (q : SS) (v1 : Int32) (v2 : Int32) : Int32 × SS := (if v1 = (-1) then fX5_isKeptBut_16 q v1 else fX5_isKeptBut_10 (fX5_at q v1).2 v1 v2 (fX5_at q v1).1)
def kX5_isKeptBut (q : SS) (v1 : Int32) (v2 : Int32) : Prop := ((v1 = (-1) → kX5_isKeptBut_16 q v1) ∧ (¬ v1 = (-1) → kX5_at q v1 ∧ kX5_isKeptBut_10 (fX5_at q v1).2 v1 v2 (fX5_at q v1).1))
set_option maxHeartbeats 4000000 in
set_option maxRecDepth 100000 in
theorem ctX5_isKeptBut (l : Launch) (hl : l.stackTraces = false) (D : va_G) (kc : Nat → ClassId) (ad wad : Nat → Nat) (q : SS) (v1 : Int32) (v2 : Int32) (hok : kX5_isKeptBut q v1 v2) : Ci l yX5_isKeptBut (Cond.code yX5_isKeptBut cX5_isKeptBut 5 (some .boolean) :: lw_G) (zr 1 0 0) 0 0 (PX D kc) (GX D kc ad wad) (GX D kc ad wad) [.ref (ad 2), .int v1, .int v2] q (fX5_isKeptBut q v1 v2) := by
  refine Ci.of (cc := cX5_isKeptBut) (maxL := 5) (ret := (some .boolean)) (by decide) rfl (Nat.le_of_ble_eq_true rfl) ?_
  intro p e s m args below meth c A S hr hlocks hin hA hK
  have hx := S.1
  have hb := S.2.1
  have hE : EV A s s.heap := hK.2
  have hK : va_K D vwCl (tysK kc) s := hK.1
  generalize hFe : fX5_isKeptBut q v1 v2 = F
  have hF : F = fX5_isKeptBut q v1 v2 := hFe.symm
  have b62 : ∀ (k18 : SS → Int32 → Int32 → Int32 × SS) (kk18 : SS → Int32 → Int32 → Prop) (_ : ∀ (q : SS) (v1 : Int32) (v3 : Int32), kk18 q v1 v3 → F = k18 q v1 v3 → Z p l e (zr 1 0 0) s m args below meth c 0 0 (MQ below (va_Qi (fun (x : Int32) (_ : Unit) => x = F.1) (fun _ t => (GX D kc ad wad) A F.2 t.heap) A) args s 0 0 A) 5 A (ZG D vwCl (wX kc ad wad) (PLX wad) A) q 18 [(0, .ref (ad 2)), (1, .int v1), (3, .int v3)] []) (q : SS) (v1 : Int32) (v3 : Int32), kX5_isKeptBut_62 kk18 q v1 v3 → F = fX5_isKeptBut_62 k18 q v1 v3 → Z p l e (zr 1 0 0) s m args below meth c 0 0 (MQ below (va_Qi (fun (x : Int32) (_ : Unit) => x = F.1) (fun _ t => (GX D kc ad wad) A F.2 t.heap) A) args s 0 0 A) 5 A (ZG D vwCl (wX kc ad wad) (PLX wad) A) q 62 [(0, .ref (ad 2)), (1, .int v1), (3, .int v3)] [] := by
    intro k18 kk18 hk18 q v1 v3 hok hF
    refine z_iinc (k := 2) (v := (v3 + 1)) (lv' := [(3, .int (v3 + 1)), (0, .ref (ad 2)), (1, .int v1)]) hx hb dX5_isKeptBut_62 rfl rfl (by decide) rfl ?_
    refine z_goto (tgt := 18) hx hb dX5_isKeptBut_65 (by decide) ?_
    refine z_sub [1, 2, 0] rfl ?_
    exact hk18 q v1 (v3 + 1) hok hF
  have b18 : ∀ (n : Nat) (q : SS) (v1 : Int32) (v3 : Int32), kX5_isKeptBut_18 n q v1 v3 → F = fX5_isKeptBut_18 n q v1 v3 → Z p l e (zr 1 0 0) s m args below meth c 0 0 (MQ below (va_Qi (fun (x : Int32) (_ : Unit) => x = F.1) (fun _ t => (GX D kc ad wad) A F.2 t.heap) A) args s 0 0 A) 5 A (ZG D vwCl (wX kc ad wad) (PLX wad) A) q 18 [(0, .ref (ad 2)), (1, .int v1), (3, .int v3)] [] := by
    intro n
    induction n with
    | zero => intro q v1 v3 hok hF; exact False.elim hok
    | succ n ih =>
      intro q v1 v3 hok hF
      refine z_iload_n (j := 2) hx hb dX5_isKeptBut_18 rfl rfl ?_
      refine z_aload_n (j := 0) hx hb dX5_isKeptBut_19 rfl rfl ?_
      refine z_get (v := .int (gI q 305)) S hK inX5 2 (fun _ => rfl) rfl 5 (by decide) q1_85 rfl rfl dX5_isKeptBut_20 ?_
      refine z_icmp_ge (tgt := 68) hx hb dX5_isKeptBut_23 (by decide) (fun g23 => ?_) (fun g23 => ?_)
      · have hF := hF.trans (if_pos g23)
        have hok := And.left hok g23
        refine z_iconst (v := 1) hx hb dX5_isKeptBut_68 (by decide) ?_
        exact z_iret hx hb hlocks hr (by decide) hF dX5_isKeptBut_69
      · have hF := hF.trans (if_neg g23)
        have hok := And.right hok g23
        refine z_aload_n (j := 0) hx hb dX5_isKeptBut_26 rfl rfl ?_
        refine z_get (v := .ref (ad 19)) S hK inX5 2 (fun _ => rfl) rfl 3 (by decide) q1_83 rfl rfl dX5_isKeptBut_27 ?_
        refine z_iload_n (j := 2) hx hb dX5_isKeptBut_30 rfl rfl ?_
        have h31 := And.left hok
        have hok := And.right hok
        refine z_iald (f := (gA q 19)) S hK 19 0 (fun _ => rfl) rfl h31 dX5_isKeptBut_31 ?_
        refine z_bipush (v := 63) hx hb dX5_isKeptBut_32 (by decide) ?_
        refine z_iand hx hb dX5_isKeptBut_34 ?_
        refine z_istore (lv' := [(4, .int (((gA q 19) (v3 : Int32).toNatClampNeg) &&& 63)), (0, .ref (ad 2)), (1, .int v1), (3, .int v3)]) hx hb dX5_isKeptBut_35 (by decide) rfl ?_
        refine z_iload (j := 0) hx hb dX5_isKeptBut_37 rfl ?_
        refine z_iload_n (j := 2) hx hb dX5_isKeptBut_39 rfl rfl ?_
        refine z_icmp_eq (tgt := 62) hx hb dX5_isKeptBut_40 (by decide) (fun g40 => ?_) (fun g40 => ?_)
        · have hF := hF.trans (if_pos g40)
          have hok := And.left hok g40
          refine z_sub [1, 2, 3] rfl ?_
          exact b62 (fX5_isKeptBut_18 n) (kX5_isKeptBut_18 n) ih q v1 v3 hok hF
        · have hF := hF.trans (if_neg g40)
          have hok := And.right hok g40
          refine z_aload_n (j := 1) hx hb dX5_isKeptBut_43 rfl rfl ?_
          refine z_get (v := .ref (ad 16)) S hK inX5 2 (fun _ => rfl) rfl 0 (by decide) q1_79 rfl rfl dX5_isKeptBut_44 ?_
          refine z_iload (j := 0) hx hb dX5_isKeptBut_47 rfl ?_
          have h49 := And.left hok
          have hok := And.right hok
          refine z_iald (f := (gA q 16)) S hK 16 0 (fun _ => rfl) rfl h49 dX5_isKeptBut_49 ?_
          refine z_aload_n (j := 1) hx hb dX5_isKeptBut_50 rfl rfl ?_
          refine z_get (v := .ref (ad 17)) S hK inX5 2 (fun _ => rfl) rfl 1 (by decide) q1_80 rfl rfl dX5_isKeptBut_51 ?_
          refine z_iload (j := 0) hx hb dX5_isKeptBut_54 rfl ?_
          have h56 := And.left hok
          have hok := And.right hok
          refine z_iald (f := (gA q 17)) S hK 17 0 (fun _ => rfl) rfl h56 dX5_isKeptBut_56 ?_
          refine z_icmp_eq (tgt := 62) hx hb dX5_isKeptBut_57 (by decide) (fun g57 => ?_) (fun g57 => ?_)
          · have hF := hF.trans (if_pos g57)
            have hok := And.left hok g57
            refine z_sub [1, 2, 3] rfl ?_
            exact b62 (fX5_isKeptBut_18 n) (kX5_isKeptBut_18 n) ih q v1 v3 hok hF
          · have hF := hF.trans (if_neg g57)
            have hok := And.right hok g57
            refine z_iconst (v := 0) hx hb dX5_isKeptBut_60 (by decide) ?_
            exact z_iret hx hb hlocks hr (by decide) hF dX5_isKeptBut_61
  have b16 : ∀ (q : SS) (v1 : Int32), kX5_isKeptBut_16 q v1 → F = fX5_isKeptBut_16 q v1 → Z p l e (zr 1 0 0) s m args below meth c 0 0 (MQ below (va_Qi (fun (x : Int32) (_ : Unit) => x = F.1) (fun _ t => (GX D kc ad wad) A F.2 t.heap) A) args s 0 0 A) 5 A (ZG D vwCl (wX kc ad wad) (PLX wad) A) q 16 [(0, .ref (ad 2)), (1, .int v1)] [] := by
    intro q v1 hok hF
    refine z_iconst (v := 0) hx hb dX5_isKeptBut_16 (by decide) ?_
    refine z_istore_n (lv' := [(3, .int 0), (0, .ref (ad 2)), (1, .int v1)]) hx hb dX5_isKeptBut_17 rfl (by decide) rfl ?_
    refine z_sub [1, 2, 0] rfl ?_
    exact b18 70 q v1 0 hok hF
  have b10 : ∀ (q : SS) (v1 : Int32) (v2 : Int32) (s0 : Int32), kX5_isKeptBut_10 q v1 v2 s0 → F = fX5_isKeptBut_10 q v1 v2 s0 → Z p l e (zr 1 0 0) s m args below meth c 0 0 (MQ below (va_Qi (fun (x : Int32) (_ : Unit) => x = F.1) (fun _ t => (GX D kc ad wad) A F.2 t.heap) A) args s 0 0 A) 5 A (ZG D vwCl (wX kc ad wad) (PLX wad) A) q 10 [(0, .ref (ad 2)), (1, .int v1), (2, .int v2)] [.int s0] := by
    intro q v1 v2 s0 hok hF
    refine z_iload_n (j := 2) hx hb dX5_isKeptBut_10 rfl rfl ?_
    refine z_icmp_eq (tgt := 16) hx hb dX5_isKeptBut_11 (by decide) (fun g11 => ?_) (fun g11 => ?_)
    · have hF := hF.trans (if_pos g11)
      have hok := And.left hok g11
      refine z_sub [0, 1] rfl ?_
      exact b16 q v1 hok hF
    · have hF := hF.trans (if_neg g11)
      have hok := And.right hok g11
      refine z_iconst (v := 0) hx hb dX5_isKeptBut_14 (by decide) ?_
      exact z_iret hx hb hlocks hr (by decide) hF dX5_isKeptBut_15
  refine z_iload_n (j := 1) hx hb dX5_isKeptBut_0 rfl rfl ?_
  refine z_iconst (v := (-1)) hx hb dX5_isKeptBut_1 (by decide) ?_
  refine z_icmp_eq (tgt := 16) hx hb dX5_isKeptBut_2 (by decide) (fun g2 => ?_) (fun g2 => ?_)
  · have hF := hF.trans (if_pos g2)
    have hok := And.left hok g2
    refine z_sub [0, 1] rfl ?_
    exact b16 q v1 hok hF
  · have hF := hF.trans (if_neg g2)
    have hok := And.right hok g2
    refine z_aload_n (j := 0) hx hb dX5_isKeptBut_5 rfl rfl ?_
    refine z_iload_n (j := 1) hx hb dX5_isKeptBut_6 rfl rfl ?_
    have h7 := And.left hok
    have hok := And.right hok
    refine z_callVi (As := [.int v1]) S (ctX5_at l hl D kc ad wad q v1 h7) (cwV 1 S.2.2.2.2 (gV q5_154 q5_85 q5_86 q1_4 q5_87) rfl rfl rfl hX5_at ⟨Nat.le_of_ble_eq_true rfl, Nat.le_of_ble_eq_true rfl⟩) hA (pbX D kc) (psX hK hE) (z_recv hK 2 (fun _ => rfl) rfl) rfl rfl (Nat.le_of_ble_eq_true rfl) dX5_isKeptBut_7 ⟨Nat.le_of_ble_eq_true rfl, Nat.le_of_ble_eq_true rfl⟩ ?_
    exact b10 (fX5_at q v1).2 v1 v2 (fX5_at q v1).1 hok hF
theorem hX5_isKeptBut : yX5_isKeptBut.cls = RX5 ∧ yX5_isKeptBut.cls ≠ "java/lang/invoke/MethodHandle" ∧ yX5_isKeptBut.cls ≠ "java/lang/invoke/VarHandle" ∧ (parseMethodDescriptor yX5_isKeptBut.desc).map (fun d => d.parameters.length) = some 2 := by decide +kernel
def fX1_countEnd_40 (q : SS) : SS := (sI q 401 ((gI q 401) + 1))
def kX1_countEnd_40 (q : SS) : Prop := True
def fX1_countEnd (q : SS) (v1 : Int32) (v2 : Int32) : SS := fX1_countEnd_40 (sL (sB q 21 (vp_updL (gB q 21) ((((v1 &&& 1) * 16) + (v2 &&& 15)) : Int32).toNatClampNeg (((gB q 21) ((((v1 &&& 1) * 16) + (v2 &&& 15)) : Int32).toNatClampNeg) + ((gL q 408) - (gL q 409))))) 409 (gL q 408))
def kX1_countEnd (q : SS) (v1 : Int32) (v2 : Int32) : Prop := vp_in (((v1 &&& 1) * 16) + (v2 &&& 15)) 32 ∧ vp_in (((v1 &&& 1) * 16) + (v2 &&& 15)) 32 ∧ kX1_countEnd_40 (sL (sB q 21 (vp_updL (gB q 21) ((((v1 &&& 1) * 16) + (v2 &&& 15)) : Int32).toNatClampNeg (((gB q 21) ((((v1 &&& 1) * 16) + (v2 &&& 15)) : Int32).toNatClampNeg) + ((gL q 408) - (gL q 409))))) 409 (gL q 408))
set_option maxHeartbeats 4000000 in
set_option maxRecDepth 100000 in
theorem ctX1_countEnd (l : Launch) (hl : l.stackTraces = false) (D : va_G) (kc : Nat → ClassId) (ad wad : Nat → Nat) (q : SS) (v1 : Int32) (v2 : Int32) (hok : kX1_countEnd q v1 v2) : Cv l yX1_countEnd (Cond.code yX1_countEnd cX1_countEnd 5 none :: lw_G) (zr 0 0 0) 0 0 (PX D kc) (GX D kc ad wad) (GX D kc ad wad) [.ref (ad 3), .int v1, .int v2] q (fX1_countEnd q v1 v2) := by
  refine Cv.of (cc := cX1_countEnd) (maxL := 5) (ret := none) (by decide) rfl (Nat.le_of_ble_eq_true rfl) ?_
  intro p e s m args below meth c A S hr hlocks hin hA hK
  have hx := S.1
  have hb := S.2.1
  have hE : EV A s s.heap := hK.2
  have hK : va_K D vwCl (tysK kc) s := hK.1
  generalize hFe : fX1_countEnd q v1 v2 = F
  have hF : F = fX1_countEnd q v1 v2 := hFe.symm
  have b40 : ∀ (q : SS), kX1_countEnd_40 q → F = fX1_countEnd_40 q → Z p l e (zr 0 0 0) s m args below meth c 0 0 (MQ below (va_Qv (fun (_ : Unit) => True) (fun _ t => (GX D kc ad wad) A F t.heap) A) args s 0 0 A) 5 A (ZG D vwCl (wX kc ad wad) (PLX wad) A) q 40 [] [.ref (ad 3), .ref (ad 3)] := by
    intro q hok hF
    refine z_get (v := .int (gI q 401)) S hK inX1 3 (fun _ => rfl) rfl 1 (by decide) q1_107 rfl rfl dX1_countEnd_40 ?_
    refine z_iconst (v := 1) hx hb dX1_countEnd_43 (by decide) ?_
    refine z_iadd hx hb dX1_countEnd_44 ?_
    refine z_put (v := .int ((gI q 401) + 1)) (q' := (sI q 401 ((gI q 401) + 1))) S hK inX1 tyX1 tyX1_ok nmX1 3 (fun _ => rfl) rfl 1 (by decide) q1_107 rfl rfl rfl rfl (Nat.le_of_ble_eq_true rfl) dX1_countEnd_45 (wXp401 kc ad wad _ _) (fun _ h => h) ?_
    exact z_vret hx hb hlocks hr hF dX1_countEnd_48
  refine z_aload_n (j := 0) hx hb dX1_countEnd_0 rfl rfl ?_
  refine z_get (v := .long (gL q 408)) S hK inX1 3 (fun _ => rfl) rfl 8 (by decide) q1_121 rfl rfl dX1_countEnd_1 ?_
  refine z_aload_n (j := 0) hx hb dX1_countEnd_4 rfl rfl ?_
  refine z_get (v := .long (gL q 409)) S hK inX1 3 (fun _ => rfl) rfl 9 (by decide) q1_124 rfl rfl dX1_countEnd_5 ?_
  refine z_lsub hx hb dX1_countEnd_8 ?_
  refine z_lstore_n (lv' := [(3, .long ((gL q 408) - (gL q 409))), (0, .ref (ad 3)), (1, .int v1), (2, .int v2)]) hx hb dX1_countEnd_9 rfl (by decide) rfl ?_
  refine z_aload_n (j := 1) hx hb dX1_countEnd_10 rfl rfl ?_
  refine z_get (v := .ref (ad 21)) S hK inX1 3 (fun _ => rfl) rfl 0 (by decide) q1_105 rfl rfl dX1_countEnd_11 ?_
  refine z_iload_n (j := 2) hx hb dX1_countEnd_14 rfl rfl ?_
  refine z_iconst (v := 1) hx hb dX1_countEnd_15 (by decide) ?_
  refine z_iand hx hb dX1_countEnd_16 ?_
  refine z_bipush (v := 16) hx hb dX1_countEnd_17 (by decide) ?_
  refine z_imul hx hb dX1_countEnd_19 ?_
  refine z_iload_n (j := 3) hx hb dX1_countEnd_20 rfl rfl ?_
  refine z_bipush (v := 15) hx hb dX1_countEnd_21 (by decide) ?_
  refine z_iand hx hb dX1_countEnd_23 ?_
  refine z_iadd hx hb dX1_countEnd_24 ?_
  refine z_dup2_11 hx hb dX1_countEnd_25 rfl rfl ?_
  have h26 := And.left hok
  have hok := And.right hok
  refine z_lald (f := (gB q 21)) S hK 21 2 (fun _ => rfl) rfl h26 dX1_countEnd_26 ?_
  refine z_lload_n (j := 0) hx hb dX1_countEnd_27 rfl rfl ?_
  refine z_ladd hx hb dX1_countEnd_28 ?_
  have h29 := And.left hok
  have hok := And.right hok
  refine z_last (f := (gB q 21)) (q' := (sB q 21 (vp_updL (gB q 21) ((((v1 &&& 1) * 16) + (v2 &&& 15)) : Int32).toNatClampNeg (((gB q 21) ((((v1 &&& 1) * 16) + (v2 &&& 15)) : Int32).toNatClampNeg) + ((gL q 408) - (gL q 409)))))) S hK 21 2 (fun _ => rfl) rfl h29 dX1_countEnd_29 (wXa21 kc ad wad _ _) (fun _ h => h) ?_
  refine z_aload_n (j := 1) hx hb dX1_countEnd_30 rfl rfl ?_
  refine z_aload_n (j := 1) hx hb dX1_countEnd_31 rfl rfl ?_
  refine z_get (v := .long (gL q 408)) S hK inX1 3 (fun _ => rfl) rfl 8 (by decide) q1_121 rfl rfl dX1_countEnd_32 ?_
  refine z_put (v := .long (gL q 408)) (q' := (sL (sB q 21 (vp_updL (gB q 21) ((((v1 &&& 1) * 16) + (v2 &&& 15)) : Int32).toNatClampNeg (((gB q 21) ((((v1 &&& 1) * 16) + (v2 &&& 15)) : Int32).toNatClampNeg) + ((gL q 408) - (gL q 409))))) 409 (gL q 408))) S hK inX1 tyX1 tyX1_ok nmX1 3 (fun _ => rfl) rfl 9 (by decide) q1_124 rfl rfl rfl rfl (Nat.le_of_ble_eq_true rfl) dX1_countEnd_35 (wXp409 kc ad wad _ _) (fun _ h => h) ?_
  refine z_aload_n (j := 1) hx hb dX1_countEnd_38 rfl rfl ?_
  refine z_dup hx hb dX1_countEnd_39 rfl ?_
  refine z_sub [] rfl ?_
  exact b40 (sL (sB q 21 (vp_updL (gB q 21) ((((v1 &&& 1) * 16) + (v2 &&& 15)) : Int32).toNatClampNeg (((gB q 21) ((((v1 &&& 1) * 16) + (v2 &&& 15)) : Int32).toNatClampNeg) + ((gL q 408) - (gL q 409))))) 409 (gL q 408)) hok hF
theorem hX1_countEnd : yX1_countEnd.cls = RX1 ∧ yX1_countEnd.cls ≠ "java/lang/invoke/MethodHandle" ∧ yX1_countEnd.cls ≠ "java/lang/invoke/VarHandle" ∧ (parseMethodDescriptor yX1_countEnd.desc).map (fun d => d.parameters.length) = some 2 := by decide +kernel
def fX1_countWrong_12 (q : SS) : SS := (sI q 402 ((gI q 402) + 1))
def kX1_countWrong_12 (q : SS) : Prop := True
def fX1_countWrong (q : SS) (v1 : Int32) : SS := (if (gI q 402) = 0 then fX1_countWrong_12 (sI q 403 v1) else fX1_countWrong_12 q)
def kX1_countWrong (q : SS) (v1 : Int32) : Prop := (((gI q 402) = 0 → kX1_countWrong_12 (sI q 403 v1)) ∧ (¬ (gI q 402) = 0 → kX1_countWrong_12 q))
set_option maxHeartbeats 4000000 in
set_option maxRecDepth 100000 in
theorem ctX1_countWrong (l : Launch) (hl : l.stackTraces = false) (D : va_G) (kc : Nat → ClassId) (ad wad : Nat → Nat) (q : SS) (v1 : Int32) (hok : kX1_countWrong q v1) : Cv l yX1_countWrong (Cond.code yX1_countWrong cX1_countWrong 2 none :: lw_G) (zr 0 0 0) 0 0 (PX D kc) (GX D kc ad wad) (GX D kc ad wad) [.ref (ad 3), .int v1] q (fX1_countWrong q v1) := by
  refine Cv.of (cc := cX1_countWrong) (maxL := 2) (ret := none) (by decide) rfl (Nat.le_of_ble_eq_true rfl) ?_
  intro p e s m args below meth c A S hr hlocks hin hA hK
  have hx := S.1
  have hb := S.2.1
  have hE : EV A s s.heap := hK.2
  have hK : va_K D vwCl (tysK kc) s := hK.1
  generalize hFe : fX1_countWrong q v1 = F
  have hF : F = fX1_countWrong q v1 := hFe.symm
  have b12 : ∀ (q : SS), kX1_countWrong_12 q → F = fX1_countWrong_12 q → Z p l e (zr 0 0 0) s m args below meth c 0 0 (MQ below (va_Qv (fun (_ : Unit) => True) (fun _ t => (GX D kc ad wad) A F t.heap) A) args s 0 0 A) 2 A (ZG D vwCl (wX kc ad wad) (PLX wad) A) q 12 [(0, .ref (ad 3))] [] := by
    intro q hok hF
    refine z_aload_n (j := 0) hx hb dX1_countWrong_12 rfl rfl ?_
    refine z_dup hx hb dX1_countWrong_13 rfl ?_
    refine z_get (v := .int (gI q 402)) S hK inX1 3 (fun _ => rfl) rfl 2 (by decide) q1_109 rfl rfl dX1_countWrong_14 ?_
    refine z_iconst (v := 1) hx hb dX1_countWrong_17 (by decide) ?_
    refine z_iadd hx hb dX1_countWrong_18 ?_
    refine z_put (v := .int ((gI q 402) + 1)) (q' := (sI q 402 ((gI q 402) + 1))) S hK inX1 tyX1 tyX1_ok nmX1 3 (fun _ => rfl) rfl 2 (by decide) q1_109 rfl rfl rfl rfl (Nat.le_of_ble_eq_true rfl) dX1_countWrong_19 (wXp402 kc ad wad _ _) (fun _ h => h) ?_
    exact z_vret hx hb hlocks hr hF dX1_countWrong_22
  refine z_aload_n (j := 0) hx hb dX1_countWrong_0 rfl rfl ?_
  refine z_get (v := .int (gI q 402)) S hK inX1 3 (fun _ => rfl) rfl 2 (by decide) q1_109 rfl rfl dX1_countWrong_1 ?_
  refine z_if_ne (tgt := 12) hx hb dX1_countWrong_4 (by decide) (fun g4 => ?_) (fun g4 => ?_)
  · have hF := hF.trans (if_neg g4)
    have hok := And.right hok g4
    refine z_sub [0] rfl ?_
    exact b12 q hok hF
  · have hF := hF.trans (if_pos g4)
    have hok := And.left hok g4
    refine z_aload_n (j := 0) hx hb dX1_countWrong_7 rfl rfl ?_
    refine z_iload_n (j := 1) hx hb dX1_countWrong_8 rfl rfl ?_
    refine z_put (v := .int v1) (q' := (sI q 403 v1)) S hK inX1 tyX1 tyX1_ok nmX1 3 (fun _ => rfl) rfl 3 (by decide) q1_111 rfl rfl rfl rfl (Nat.le_of_ble_eq_true rfl) dX1_countWrong_9 (wXp403 kc ad wad _ _) (fun _ h => h) ?_
    refine z_sub [0] rfl ?_
    exact b12 (sI q 403 v1) hok hF
theorem hX1_countWrong : yX1_countWrong.cls = RX1 ∧ yX1_countWrong.cls ≠ "java/lang/invoke/MethodHandle" ∧ yX1_countWrong.cls ≠ "java/lang/invoke/VarHandle" ∧ (parseMethodDescriptor yX1_countWrong.desc).map (fun d => d.parameters.length) = some 1 := by decide +kernel
