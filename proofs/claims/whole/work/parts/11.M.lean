def fX11_setCell_20 (q : SS) (v1 : Int32) (v2 : Int32) (s0 : Int32) : Int32 × SS := (if s0 = 0 then ((fX11_refuse q 2).1, (fX11_refuse q 2).2) else (if (gI q 25) = 0 then (((gA q 17) (v1 : Int32).toNatClampNeg), (sA (sA q 17 (upd (gA q 17) (v1 : Int32).toNatClampNeg v2)) 18 (upd (gA q 18) (v1 : Int32).toNatClampNeg v2))) else ((fX11_refuse q 3).1, (fX11_refuse q 3).2)))
def kX11_setCell_20 (q : SS) (v1 : Int32) (v2 : Int32) (s0 : Int32) : Prop := ((s0 = 0 → kX11_refuse q 2 ∧ True) ∧ (¬ s0 = 0 → (((gI q 25) = 0 → vp_in v1 64 ∧ vp_in v1 64 ∧ vp_in v1 64 ∧ True) ∧ (¬ (gI q 25) = 0 → kX11_refuse q 3 ∧ True))))
def fX11_setCell_7 (q : SS) (v1 : Int32) (v2 : Int32) (s0 : Int32) : Int32 × SS := (if s0 = 0 then fX11_setCell_20 (fX11_isIn q v2 0 255).2 v1 v2 (fX11_isIn q v2 0 255).1 else (0, q))
def kX11_setCell_7 (q : SS) (v1 : Int32) (v2 : Int32) (s0 : Int32) : Prop := ((s0 = 0 → kX11_isIn q v2 0 255 ∧ kX11_setCell_20 (fX11_isIn q v2 0 255).2 v1 v2 (fX11_isIn q v2 0 255).1) ∧ (¬ s0 = 0 → True))
def fX11_setCell (q : SS) (v1 : Int32) (v2 : Int32) : Int32 × SS := fX11_setCell_7 (fX11_out q v1 64).2 v1 v2 (fX11_out q v1 64).1
def kX11_setCell (q : SS) (v1 : Int32) (v2 : Int32) : Prop := kX11_out q v1 64 ∧ kX11_setCell_7 (fX11_out q v1 64).2 v1 v2 (fX11_out q v1 64).1
set_option maxHeartbeats 4000000 in
set_option maxRecDepth 100000 in
theorem ctX11_setCell (l : Launch) (D : va_G) (kc : Nat → ClassId) (ad : Nat → Nat) (q : SS) (v1 : Int32) (v2 : Int32) (hok : kX11_setCell q v1 v2) : Ci l yX11_setCell (Cond.code yX11_setCell cX11_setCell 4 (some .int) :: lw_G) (zr 2 0 0) 0 0 (PM D kc) (GM D kc ad) (GM D kc ad) [.ref (ad 0), .int v1, .int v2] q (fX11_setCell q v1 v2) := by
  refine Ci.of (cc := cX11_setCell) (maxL := 4) (ret := (some .int)) (by decide) rfl (Nat.le_of_ble_eq_true rfl) ?_
  intro p e s m args below meth c A S hr hlocks hin hA hK
  have hx := S.1
  have hb := S.2.1
  have hK : va_K D vwCl (tysK kc) s := hK
  generalize hFe : fX11_setCell q v1 v2 = F
  have hF : F = fX11_setCell q v1 v2 := hFe.symm
  have b20 : ∀ (q : SS) (v1 : Int32) (v2 : Int32) (s0 : Int32), kX11_setCell_20 q v1 v2 s0 → F = fX11_setCell_20 q v1 v2 s0 → Z p l e (zr 2 0 0) s m args below meth c 0 0 (MQ below (va_Qi (fun (x : Int32) (_ : Unit) => x = F.1) (fun _ t => (GM D kc ad) A F.2 t.heap) A) args s 0 0 A) 4 A (ZG D vwCl (wM kc ad) (fun _ tl => tl = []) A) q 20 [(0, .ref (ad 0)), (1, .int v1), (2, .int v2)] [.int s0] := by
    intro q v1 v2 s0 hok hF
    refine z_if_ne (tgt := 29) hx hb dX11_setCell_20 (by decide) (fun g20 => ?_) (fun g20 => ?_)
    · have hF := hF.trans (if_neg g20)
      have hok := And.right hok g20
      refine z_aload_n (j := 0) hx hb dX11_setCell_29 rfl rfl ?_
      refine z_get (v := .int (gI q 25)) S hK inX11 0 (fun _ => rfl) rfl 25 (by decide) q6_122 rfl rfl dX11_setCell_30 ?_
      refine z_if_eq (tgt := 42) hx hb dX11_setCell_33 (by decide) (fun g33 => ?_) (fun g33 => ?_)
      · have hF := hF.trans (if_pos g33)
        have hok := And.left hok g33
        refine z_aload_n (j := 0) hx hb dX11_setCell_42 rfl rfl ?_
        refine z_get (v := .ref (ad 17)) S hK inX11 0 (fun _ => rfl) rfl 44 (by decide) q6_141 rfl rfl dX11_setCell_43 ?_
        refine z_iload_n (j := 1) hx hb dX11_setCell_46 rfl rfl ?_
        have h47 := And.left hok
        have hok := And.right hok
        refine z_iald (f := (gA q 17)) S hK 17 0 (fun _ => rfl) rfl h47 dX11_setCell_47 ?_
        refine z_istore_n (lv' := [(3, .int ((gA q 17) (v1 : Int32).toNatClampNeg)), (0, .ref (ad 0)), (1, .int v1), (2, .int v2)]) hx hb dX11_setCell_48 rfl (by decide) rfl ?_
        refine z_aload_n (j := 1) hx hb dX11_setCell_49 rfl rfl ?_
        refine z_get (v := .ref (ad 17)) S hK inX11 0 (fun _ => rfl) rfl 44 (by decide) q6_141 rfl rfl dX11_setCell_50 ?_
        refine z_iload_n (j := 2) hx hb dX11_setCell_53 rfl rfl ?_
        refine z_iload_n (j := 3) hx hb dX11_setCell_54 rfl rfl ?_
        have h55 := And.left hok
        have hok := And.right hok
        refine z_iast (f := (gA q 17)) (q' := (sA q 17 (upd (gA q 17) (v1 : Int32).toNatClampNeg v2))) S hK 17 0 (fun _ => rfl) rfl h55 dX11_setCell_55 (wMa17 kc ad _ _) (fun _ h => h) ?_
        refine z_aload_n (j := 1) hx hb dX11_setCell_56 rfl rfl ?_
        refine z_get (v := .ref (ad 18)) S hK inX11 0 (fun _ => rfl) rfl 45 (by decide) q6_142 rfl rfl dX11_setCell_57 ?_
        refine z_iload_n (j := 2) hx hb dX11_setCell_60 rfl rfl ?_
        refine z_iload_n (j := 3) hx hb dX11_setCell_61 rfl rfl ?_
        have h62 := And.left hok
        have hok := And.right hok
        refine z_iast (f := (gA q 18)) (q' := (sA (sA q 17 (upd (gA q 17) (v1 : Int32).toNatClampNeg v2)) 18 (upd (gA q 18) (v1 : Int32).toNatClampNeg v2))) S hK 18 0 (fun _ => rfl) rfl h62 dX11_setCell_62 (wMa18 kc ad _ _) (fun _ h => h) ?_
        refine z_iload_n (j := 0) hx hb dX11_setCell_63 rfl rfl ?_
        exact z_iret hx hb hlocks hr rfl hF dX11_setCell_64
      · have hF := hF.trans (if_neg g33)
        have hok := And.right hok g33
        refine z_aload_n (j := 0) hx hb dX11_setCell_36 rfl rfl ?_
        refine z_iconst (v := 3) hx hb dX11_setCell_37 (by decide) ?_
        have h38 := And.left hok
        have hok := And.right hok
        refine z_callVi (As := [.int 3]) S (ctX11_refuse l D kc ad q 3 h38) (cwV 1 S.2.2.2.2 (gV q7_30 q7_32 qp2_8 q1_12 q7_33) rfl rfl rfl hX11_refuse ⟨Nat.le_of_ble_eq_true rfl, Nat.le_of_ble_eq_true rfl⟩) hA (pbM D kc) (psM hK) (z_recv hK 0 (fun _ => rfl) rfl) rfl rfl (Nat.le_of_ble_eq_true rfl) dX11_setCell_38 ⟨Nat.le_of_ble_eq_true rfl, Nat.le_of_ble_eq_true rfl⟩ ?_
        exact z_iret hx hb hlocks hr rfl hF dX11_setCell_41
    · have hF := hF.trans (if_pos g20)
      have hok := And.left hok g20
      refine z_aload_n (j := 0) hx hb dX11_setCell_23 rfl rfl ?_
      refine z_iconst (v := 2) hx hb dX11_setCell_24 (by decide) ?_
      have h25 := And.left hok
      have hok := And.right hok
      refine z_callVi (As := [.int 2]) S (ctX11_refuse l D kc ad q 2 h25) (cwV 1 S.2.2.2.2 (gV q7_30 q7_32 qp2_8 q1_12 q7_33) rfl rfl rfl hX11_refuse ⟨Nat.le_of_ble_eq_true rfl, Nat.le_of_ble_eq_true rfl⟩) hA (pbM D kc) (psM hK) (z_recv hK 0 (fun _ => rfl) rfl) rfl rfl (Nat.le_of_ble_eq_true rfl) dX11_setCell_25 ⟨Nat.le_of_ble_eq_true rfl, Nat.le_of_ble_eq_true rfl⟩ ?_
      exact z_iret hx hb hlocks hr rfl hF dX11_setCell_28
  have b7 : ∀ (q : SS) (v1 : Int32) (v2 : Int32) (s0 : Int32), kX11_setCell_7 q v1 v2 s0 → F = fX11_setCell_7 q v1 v2 s0 → Z p l e (zr 2 0 0) s m args below meth c 0 0 (MQ below (va_Qi (fun (x : Int32) (_ : Unit) => x = F.1) (fun _ t => (GM D kc ad) A F.2 t.heap) A) args s 0 0 A) 4 A (ZG D vwCl (wM kc ad) (fun _ tl => tl = []) A) q 7 [(0, .ref (ad 0)), (1, .int v1), (2, .int v2)] [.int s0] := by
    intro q v1 v2 s0 hok hF
    refine z_if_eq (tgt := 12) hx hb dX11_setCell_7 (by decide) (fun g7 => ?_) (fun g7 => ?_)
    · have hF := hF.trans (if_pos g7)
      have hok := And.left hok g7
      refine z_iload_n (j := 2) hx hb dX11_setCell_12 rfl rfl ?_
      refine z_iconst (v := 0) hx hb dX11_setCell_13 (by decide) ?_
      refine z_sipush (v := 255) hx hb dX11_setCell_14 (by decide) ?_
      have h17 := And.left hok
      have hok := And.right hok
      refine z_callSi (As := [.int v2, .int 0, .int 255]) S (ctX11_isIn l D kc ad q v2 0 255 h17) (va_cwS 3 S.2.2.2.2 (gS q7_21 q7_22 q1_12 q7_23) rfl rfl rfl hX11_isIn ⟨Nat.le_of_ble_eq_true rfl, Nat.le_of_ble_eq_true rfl⟩) hA (pbM D kc) (psM hK) rfl rfl (Nat.le_of_ble_eq_true rfl) dX11_setCell_17 ⟨Nat.le_of_ble_eq_true rfl, Nat.le_of_ble_eq_true rfl⟩ ?_
      exact b20 (fX11_isIn q v2 0 255).2 v1 v2 (fX11_isIn q v2 0 255).1 hok hF
    · have hF := hF.trans (if_neg g7)
      have hok := And.right hok g7
      refine z_iconst (v := 0) hx hb dX11_setCell_10 (by decide) ?_
      exact z_iret hx hb hlocks hr rfl hF dX11_setCell_11
  refine z_aload_n (j := 0) hx hb dX11_setCell_0 rfl rfl ?_
  refine z_iload_n (j := 1) hx hb dX11_setCell_1 rfl rfl ?_
  refine z_bipush (v := 64) hx hb dX11_setCell_2 (by decide) ?_
  have h4 := And.left hok
  have hok := And.right hok
  refine z_callVi (As := [.int v1, .int 64]) S (ctX11_out l D kc ad q v1 64 h4) (cwV 2 S.2.2.2.2 (gV q7_17 q7_19 qp2_7 q1_12 q7_20) rfl rfl rfl hX11_out ⟨Nat.le_of_ble_eq_true rfl, Nat.le_of_ble_eq_true rfl⟩) hA (pbM D kc) (psM hK) (z_recv hK 0 (fun _ => rfl) rfl) rfl rfl (Nat.le_of_ble_eq_true rfl) dX11_setCell_4 ⟨Nat.le_of_ble_eq_true rfl, Nat.le_of_ble_eq_true rfl⟩ ?_
  exact b7 (fX11_out q v1 64).2 v1 v2 (fX11_out q v1 64).1 hok hF
theorem hX11_setCell : yX11_setCell.cls = RX11 ∧ yX11_setCell.cls ≠ "java/lang/invoke/MethodHandle" ∧ yX11_setCell.cls ≠ "java/lang/invoke/VarHandle" ∧ (parseMethodDescriptor yX11_setCell.desc).map (fun d => d.parameters.length) = some 2 := by decide +kernel
def fX11_setRegister_19 (q : SS) (v1 : Int32) (v2 : Int32) (s0 : Int32) : Int32 × SS := (if s0 = 0 then ((fX11_refuse q 2).1, (fX11_refuse q 2).2) else (if (gI q 25) = 0 then (((gA q 15) (v1 : Int32).toNatClampNeg), (sA (sA q 15 (upd (gA q 15) (v1 : Int32).toNatClampNeg v2)) 16 (upd (gA q 16) (v1 : Int32).toNatClampNeg v2))) else ((fX11_refuse q 3).1, (fX11_refuse q 3).2)))
def kX11_setRegister_19 (q : SS) (v1 : Int32) (v2 : Int32) (s0 : Int32) : Prop := ((s0 = 0 → kX11_refuse q 2 ∧ True) ∧ (¬ s0 = 0 → (((gI q 25) = 0 → vp_in v1 16 ∧ vp_in v1 16 ∧ vp_in v1 16 ∧ True) ∧ (¬ (gI q 25) = 0 → kX11_refuse q 3 ∧ True))))
def fX11_setRegister_6 (q : SS) (v1 : Int32) (v2 : Int32) (s0 : Int32) : Int32 × SS := (if s0 = 0 then fX11_setRegister_19 (fX11_isIn q v2 0 255).2 v1 v2 (fX11_isIn q v2 0 255).1 else (0, q))
def kX11_setRegister_6 (q : SS) (v1 : Int32) (v2 : Int32) (s0 : Int32) : Prop := ((s0 = 0 → kX11_isIn q v2 0 255 ∧ kX11_setRegister_19 (fX11_isIn q v2 0 255).2 v1 v2 (fX11_isIn q v2 0 255).1) ∧ (¬ s0 = 0 → True))
def fX11_setRegister (q : SS) (v1 : Int32) (v2 : Int32) : Int32 × SS := fX11_setRegister_6 (fX11_out q v1 4).2 v1 v2 (fX11_out q v1 4).1
def kX11_setRegister (q : SS) (v1 : Int32) (v2 : Int32) : Prop := kX11_out q v1 4 ∧ kX11_setRegister_6 (fX11_out q v1 4).2 v1 v2 (fX11_out q v1 4).1
set_option maxHeartbeats 4000000 in
set_option maxRecDepth 100000 in
theorem ctX11_setRegister (l : Launch) (D : va_G) (kc : Nat → ClassId) (ad : Nat → Nat) (q : SS) (v1 : Int32) (v2 : Int32) (hok : kX11_setRegister q v1 v2) : Ci l yX11_setRegister (Cond.code yX11_setRegister cX11_setRegister 4 (some .int) :: lw_G) (zr 2 0 0) 0 0 (PM D kc) (GM D kc ad) (GM D kc ad) [.ref (ad 0), .int v1, .int v2] q (fX11_setRegister q v1 v2) := by
  refine Ci.of (cc := cX11_setRegister) (maxL := 4) (ret := (some .int)) (by decide) rfl (Nat.le_of_ble_eq_true rfl) ?_
  intro p e s m args below meth c A S hr hlocks hin hA hK
  have hx := S.1
  have hb := S.2.1
  have hK : va_K D vwCl (tysK kc) s := hK
  generalize hFe : fX11_setRegister q v1 v2 = F
  have hF : F = fX11_setRegister q v1 v2 := hFe.symm
  have b19 : ∀ (q : SS) (v1 : Int32) (v2 : Int32) (s0 : Int32), kX11_setRegister_19 q v1 v2 s0 → F = fX11_setRegister_19 q v1 v2 s0 → Z p l e (zr 2 0 0) s m args below meth c 0 0 (MQ below (va_Qi (fun (x : Int32) (_ : Unit) => x = F.1) (fun _ t => (GM D kc ad) A F.2 t.heap) A) args s 0 0 A) 4 A (ZG D vwCl (wM kc ad) (fun _ tl => tl = []) A) q 19 [(0, .ref (ad 0)), (1, .int v1), (2, .int v2)] [.int s0] := by
    intro q v1 v2 s0 hok hF
    refine z_if_ne (tgt := 28) hx hb dX11_setRegister_19 (by decide) (fun g19 => ?_) (fun g19 => ?_)
    · have hF := hF.trans (if_neg g19)
      have hok := And.right hok g19
      refine z_aload_n (j := 0) hx hb dX11_setRegister_28 rfl rfl ?_
      refine z_get (v := .int (gI q 25)) S hK inX11 0 (fun _ => rfl) rfl 25 (by decide) q6_122 rfl rfl dX11_setRegister_29 ?_
      refine z_if_eq (tgt := 41) hx hb dX11_setRegister_32 (by decide) (fun g32 => ?_) (fun g32 => ?_)
      · have hF := hF.trans (if_pos g32)
        have hok := And.left hok g32
        refine z_aload_n (j := 0) hx hb dX11_setRegister_41 rfl rfl ?_
        refine z_get (v := .ref (ad 15)) S hK inX11 0 (fun _ => rfl) rfl 42 (by decide) q6_139 rfl rfl dX11_setRegister_42 ?_
        refine z_iload_n (j := 1) hx hb dX11_setRegister_45 rfl rfl ?_
        have h46 := And.left hok
        have hok := And.right hok
        refine z_iald (f := (gA q 15)) S hK 15 0 (fun _ => rfl) rfl h46 dX11_setRegister_46 ?_
        refine z_istore_n (lv' := [(3, .int ((gA q 15) (v1 : Int32).toNatClampNeg)), (0, .ref (ad 0)), (1, .int v1), (2, .int v2)]) hx hb dX11_setRegister_47 rfl (by decide) rfl ?_
        refine z_aload_n (j := 1) hx hb dX11_setRegister_48 rfl rfl ?_
        refine z_get (v := .ref (ad 15)) S hK inX11 0 (fun _ => rfl) rfl 42 (by decide) q6_139 rfl rfl dX11_setRegister_49 ?_
        refine z_iload_n (j := 2) hx hb dX11_setRegister_52 rfl rfl ?_
        refine z_iload_n (j := 3) hx hb dX11_setRegister_53 rfl rfl ?_
        have h54 := And.left hok
        have hok := And.right hok
        refine z_iast (f := (gA q 15)) (q' := (sA q 15 (upd (gA q 15) (v1 : Int32).toNatClampNeg v2))) S hK 15 0 (fun _ => rfl) rfl h54 dX11_setRegister_54 (wMa15 kc ad _ _) (fun _ h => h) ?_
        refine z_aload_n (j := 1) hx hb dX11_setRegister_55 rfl rfl ?_
        refine z_get (v := .ref (ad 16)) S hK inX11 0 (fun _ => rfl) rfl 43 (by decide) q6_140 rfl rfl dX11_setRegister_56 ?_
        refine z_iload_n (j := 2) hx hb dX11_setRegister_59 rfl rfl ?_
        refine z_iload_n (j := 3) hx hb dX11_setRegister_60 rfl rfl ?_
        have h61 := And.left hok
        have hok := And.right hok
        refine z_iast (f := (gA q 16)) (q' := (sA (sA q 15 (upd (gA q 15) (v1 : Int32).toNatClampNeg v2)) 16 (upd (gA q 16) (v1 : Int32).toNatClampNeg v2))) S hK 16 0 (fun _ => rfl) rfl h61 dX11_setRegister_61 (wMa16 kc ad _ _) (fun _ h => h) ?_
        refine z_iload_n (j := 0) hx hb dX11_setRegister_62 rfl rfl ?_
        exact z_iret hx hb hlocks hr rfl hF dX11_setRegister_63
      · have hF := hF.trans (if_neg g32)
        have hok := And.right hok g32
        refine z_aload_n (j := 0) hx hb dX11_setRegister_35 rfl rfl ?_
        refine z_iconst (v := 3) hx hb dX11_setRegister_36 (by decide) ?_
        have h37 := And.left hok
        have hok := And.right hok
        refine z_callVi (As := [.int 3]) S (ctX11_refuse l D kc ad q 3 h37) (cwV 1 S.2.2.2.2 (gV q7_30 q7_32 qp2_8 q1_12 q7_33) rfl rfl rfl hX11_refuse ⟨Nat.le_of_ble_eq_true rfl, Nat.le_of_ble_eq_true rfl⟩) hA (pbM D kc) (psM hK) (z_recv hK 0 (fun _ => rfl) rfl) rfl rfl (Nat.le_of_ble_eq_true rfl) dX11_setRegister_37 ⟨Nat.le_of_ble_eq_true rfl, Nat.le_of_ble_eq_true rfl⟩ ?_
        exact z_iret hx hb hlocks hr rfl hF dX11_setRegister_40
    · have hF := hF.trans (if_pos g19)
      have hok := And.left hok g19
      refine z_aload_n (j := 0) hx hb dX11_setRegister_22 rfl rfl ?_
      refine z_iconst (v := 2) hx hb dX11_setRegister_23 (by decide) ?_
      have h24 := And.left hok
      have hok := And.right hok
      refine z_callVi (As := [.int 2]) S (ctX11_refuse l D kc ad q 2 h24) (cwV 1 S.2.2.2.2 (gV q7_30 q7_32 qp2_8 q1_12 q7_33) rfl rfl rfl hX11_refuse ⟨Nat.le_of_ble_eq_true rfl, Nat.le_of_ble_eq_true rfl⟩) hA (pbM D kc) (psM hK) (z_recv hK 0 (fun _ => rfl) rfl) rfl rfl (Nat.le_of_ble_eq_true rfl) dX11_setRegister_24 ⟨Nat.le_of_ble_eq_true rfl, Nat.le_of_ble_eq_true rfl⟩ ?_
      exact z_iret hx hb hlocks hr rfl hF dX11_setRegister_27
  have b6 : ∀ (q : SS) (v1 : Int32) (v2 : Int32) (s0 : Int32), kX11_setRegister_6 q v1 v2 s0 → F = fX11_setRegister_6 q v1 v2 s0 → Z p l e (zr 2 0 0) s m args below meth c 0 0 (MQ below (va_Qi (fun (x : Int32) (_ : Unit) => x = F.1) (fun _ t => (GM D kc ad) A F.2 t.heap) A) args s 0 0 A) 4 A (ZG D vwCl (wM kc ad) (fun _ tl => tl = []) A) q 6 [(0, .ref (ad 0)), (1, .int v1), (2, .int v2)] [.int s0] := by
    intro q v1 v2 s0 hok hF
    refine z_if_eq (tgt := 11) hx hb dX11_setRegister_6 (by decide) (fun g6 => ?_) (fun g6 => ?_)
    · have hF := hF.trans (if_pos g6)
      have hok := And.left hok g6
      refine z_iload_n (j := 2) hx hb dX11_setRegister_11 rfl rfl ?_
      refine z_iconst (v := 0) hx hb dX11_setRegister_12 (by decide) ?_
      refine z_sipush (v := 255) hx hb dX11_setRegister_13 (by decide) ?_
      have h16 := And.left hok
      have hok := And.right hok
      refine z_callSi (As := [.int v2, .int 0, .int 255]) S (ctX11_isIn l D kc ad q v2 0 255 h16) (va_cwS 3 S.2.2.2.2 (gS q7_21 q7_22 q1_12 q7_23) rfl rfl rfl hX11_isIn ⟨Nat.le_of_ble_eq_true rfl, Nat.le_of_ble_eq_true rfl⟩) hA (pbM D kc) (psM hK) rfl rfl (Nat.le_of_ble_eq_true rfl) dX11_setRegister_16 ⟨Nat.le_of_ble_eq_true rfl, Nat.le_of_ble_eq_true rfl⟩ ?_
      exact b19 (fX11_isIn q v2 0 255).2 v1 v2 (fX11_isIn q v2 0 255).1 hok hF
    · have hF := hF.trans (if_neg g6)
      have hok := And.right hok g6
      refine z_iconst (v := 0) hx hb dX11_setRegister_9 (by decide) ?_
      exact z_iret hx hb hlocks hr rfl hF dX11_setRegister_10
  refine z_aload_n (j := 0) hx hb dX11_setRegister_0 rfl rfl ?_
  refine z_iload_n (j := 1) hx hb dX11_setRegister_1 rfl rfl ?_
  refine z_iconst (v := 4) hx hb dX11_setRegister_2 (by decide) ?_
  have h3 := And.left hok
  have hok := And.right hok
  refine z_callVi (As := [.int v1, .int 4]) S (ctX11_out l D kc ad q v1 4 h3) (cwV 2 S.2.2.2.2 (gV q7_17 q7_19 qp2_7 q1_12 q7_20) rfl rfl rfl hX11_out ⟨Nat.le_of_ble_eq_true rfl, Nat.le_of_ble_eq_true rfl⟩) hA (pbM D kc) (psM hK) (z_recv hK 0 (fun _ => rfl) rfl) rfl rfl (Nat.le_of_ble_eq_true rfl) dX11_setRegister_3 ⟨Nat.le_of_ble_eq_true rfl, Nat.le_of_ble_eq_true rfl⟩ ?_
  exact b6 (fX11_out q v1 4).2 v1 v2 (fX11_out q v1 4).1 hok hF
theorem hX11_setRegister : yX11_setRegister.cls = RX11 ∧ yX11_setRegister.cls ≠ "java/lang/invoke/MethodHandle" ∧ yX11_setRegister.cls ≠ "java/lang/invoke/VarHandle" ∧ (parseMethodDescriptor yX11_setRegister.desc).map (fun d => d.parameters.length) = some 2 := by decide +kernel
def fX11_start_19 (q : SS) : Int32 × SS := ((fX11_refuse q 1).1, (fX11_refuse q 1).2)
def kX11_start_19 (q : SS) : Prop := kX11_refuse q 1 ∧ True
def fX11_start_85 : Nat → SS → Int32 → Int32 → Int32 × SS
  | 0, q, _, _ => (0, q)
  | n + 1, q, v4, v5 => (if 8 < v5 then (v4, q) else fX11_start_85 n (sA q 16 (upd (gA q 16) (v5 : Int32).toNatClampNeg ((gA q 15) (v5 : Int32).toNatClampNeg))) v4 (v5 + 1))
def kX11_start_85 : Nat → SS → Int32 → Int32 → Prop
  | 0, _, _, _ => False
  | n + 1, q, v4, v5 => ((8 < v5 → True) ∧ (¬ 8 < v5 → vp_in v5 16 ∧ vp_in v5 16 ∧ kX11_start_85 n (sA q 16 (upd (gA q 16) (v5 : Int32).toNatClampNeg ((gA q 15) (v5 : Int32).toNatClampNeg))) v4 (v5 + 1)))
def fX11_start_81 (q : SS) (v4 : Int32) (s0 : Int32) (s1 : Int32) : Int32 × SS := fX11_start_85 130 (sA q 15 (upd (gA q 15) (s1 : Int32).toNatClampNeg s0)) v4 4
def kX11_start_81 (q : SS) (v4 : Int32) (s0 : Int32) (s1 : Int32) : Prop := vp_in s1 16 ∧ kX11_start_85 130 (sA q 15 (upd (gA q 15) (s1 : Int32).toNatClampNeg s0)) v4 4
def fX11_start_16 (q : SS) (v1 : Int32) (v2 : Int32) (v3 : Int32) (s0 : Int32) : Int32 × SS := (if s0 = 0 then fX11_start_19 q else (if (gI q 25) = 0 then (if v3 = 0 then fX11_start_81 (sA (sA (sI q 0 0) 15 (upd (gA q 15) (4 : Int32).toNatClampNeg v1)) 15 (upd (upd (gA q 15) (4 : Int32).toNatClampNeg v1) (7 : Int32).toNatClampNeg v2)) ((gA q 15) (4 : Int32).toNatClampNeg) 0 8 else fX11_start_81 (sA (sA (sI q 0 0) 15 (upd (gA q 15) (4 : Int32).toNatClampNeg v1)) 15 (upd (upd (gA q 15) (4 : Int32).toNatClampNeg v1) (7 : Int32).toNatClampNeg v2)) ((gA q 15) (4 : Int32).toNatClampNeg) 1 8) else ((fX11_refuse q 2).1, (fX11_refuse q 2).2)))
def kX11_start_16 (q : SS) (v1 : Int32) (v2 : Int32) (v3 : Int32) (s0 : Int32) : Prop := ((s0 = 0 → kX11_start_19 q) ∧ (¬ s0 = 0 → (((gI q 25) = 0 → ((v3 = 0 → kX11_start_81 (sA (sA (sI q 0 0) 15 (upd (gA q 15) (4 : Int32).toNatClampNeg v1)) 15 (upd (upd (gA q 15) (4 : Int32).toNatClampNeg v1) (7 : Int32).toNatClampNeg v2)) ((gA q 15) (4 : Int32).toNatClampNeg) 0 8) ∧ (¬ v3 = 0 → kX11_start_81 (sA (sA (sI q 0 0) 15 (upd (gA q 15) (4 : Int32).toNatClampNeg v1)) 15 (upd (upd (gA q 15) (4 : Int32).toNatClampNeg v1) (7 : Int32).toNatClampNeg v2)) ((gA q 15) (4 : Int32).toNatClampNeg) 1 8))) ∧ (¬ (gI q 25) = 0 → kX11_refuse q 2 ∧ True))))
def fX11_start_7 (q : SS) (v1 : Int32) (v2 : Int32) (v3 : Int32) (s0 : Int32) : Int32 × SS := (if s0 = 0 then fX11_start_19 q else fX11_start_16 (fX11_isIn q v2 0 1).2 v1 v2 v3 (fX11_isIn q v2 0 1).1)
def kX11_start_7 (q : SS) (v1 : Int32) (v2 : Int32) (v3 : Int32) (s0 : Int32) : Prop := ((s0 = 0 → kX11_start_19 q) ∧ (¬ s0 = 0 → kX11_isIn q v2 0 1 ∧ kX11_start_16 (fX11_isIn q v2 0 1).2 v1 v2 v3 (fX11_isIn q v2 0 1).1))
def fX11_start (q : SS) (v1 : Int32) (v2 : Int32) (v3 : Int32) : Int32 × SS := fX11_start_7 (fX11_isIn q v1 0 63).2 v1 v2 v3 (fX11_isIn q v1 0 63).1
def kX11_start (q : SS) (v1 : Int32) (v2 : Int32) (v3 : Int32) : Prop := kX11_isIn q v1 0 63 ∧ kX11_start_7 (fX11_isIn q v1 0 63).2 v1 v2 v3 (fX11_isIn q v1 0 63).1
set_option maxHeartbeats 4000000 in
set_option maxRecDepth 100000 in
theorem ctX11_start (l : Launch) (D : va_G) (kc : Nat → ClassId) (ad : Nat → Nat) (q : SS) (v1 : Int32) (v2 : Int32) (v3 : Int32) (hok : kX11_start q v1 v2 v3) : Ci l yX11_start (Cond.code yX11_start cX11_start 6 (some .int) :: lw_G) (zr 1 0 0) 0 0 (PM D kc) (GM D kc ad) (GM D kc ad) [.ref (ad 0), .int v1, .int v2, .int v3] q (fX11_start q v1 v2 v3) := by
  refine Ci.of (cc := cX11_start) (maxL := 6) (ret := (some .int)) (by decide) rfl (Nat.le_of_ble_eq_true rfl) ?_
  intro p e s m args below meth c A S hr hlocks hin hA hK
  have hx := S.1
  have hb := S.2.1
  have hK : va_K D vwCl (tysK kc) s := hK
  generalize hFe : fX11_start q v1 v2 v3 = F
  have hF : F = fX11_start q v1 v2 v3 := hFe.symm
  have b19 : ∀ (q : SS), kX11_start_19 q → F = fX11_start_19 q → Z p l e (zr 1 0 0) s m args below meth c 0 0 (MQ below (va_Qi (fun (x : Int32) (_ : Unit) => x = F.1) (fun _ t => (GM D kc ad) A F.2 t.heap) A) args s 0 0 A) 6 A (ZG D vwCl (wM kc ad) (fun _ tl => tl = []) A) q 19 [(0, .ref (ad 0))] [] := by
    intro q hok hF
    refine z_aload_n (j := 0) hx hb dX11_start_19 rfl rfl ?_
    refine z_iconst (v := 1) hx hb dX11_start_20 (by decide) ?_
    have h21 := And.left hok
    have hok := And.right hok
    refine z_callVi (As := [.int 1]) S (ctX11_refuse l D kc ad q 1 h21) (cwV 1 S.2.2.2.2 (gV q7_30 q7_32 qp2_8 q1_12 q7_33) rfl rfl rfl hX11_refuse ⟨Nat.le_of_ble_eq_true rfl, Nat.le_of_ble_eq_true rfl⟩) hA (pbM D kc) (psM hK) (z_recv hK 0 (fun _ => rfl) rfl) rfl rfl (Nat.le_of_ble_eq_true rfl) dX11_start_21 ⟨Nat.le_of_ble_eq_true rfl, Nat.le_of_ble_eq_true rfl⟩ ?_
    exact z_iret hx hb hlocks hr rfl hF dX11_start_24
  have b85 : ∀ (n : Nat) (q : SS) (v4 : Int32) (v5 : Int32), kX11_start_85 n q v4 v5 → F = fX11_start_85 n q v4 v5 → Z p l e (zr 1 0 0) s m args below meth c 0 0 (MQ below (va_Qi (fun (x : Int32) (_ : Unit) => x = F.1) (fun _ t => (GM D kc ad) A F.2 t.heap) A) args s 0 0 A) 6 A (ZG D vwCl (wM kc ad) (fun _ tl => tl = []) A) q 85 [(0, .ref (ad 0)), (4, .int v4), (5, .int v5)] [] := by
    intro n
    induction n with
    | zero => intro q v4 v5 hok hF; exact False.elim hok
    | succ n ih =>
      intro q v4 v5 hok hF
      refine z_iload (j := 2) hx hb dX11_start_85 rfl ?_
      refine z_bipush (v := 8) hx hb dX11_start_87 (by decide) ?_
      refine z_icmp_gt (tgt := 112) hx hb dX11_start_89 (by decide) (fun g89 => ?_) (fun g89 => ?_)
      · have hF := hF.trans (if_pos g89)
        have hok := And.left hok g89
        refine z_iload (j := 1) hx hb dX11_start_112 rfl ?_
        exact z_iret hx hb hlocks hr rfl hF dX11_start_114
      · have hF := hF.trans (if_neg g89)
        have hok := And.right hok g89
        refine z_aload_n (j := 0) hx hb dX11_start_92 rfl rfl ?_
        refine z_get (v := .ref (ad 16)) S hK inX11 0 (fun _ => rfl) rfl 43 (by decide) q6_140 rfl rfl dX11_start_93 ?_
        refine z_iload (j := 2) hx hb dX11_start_96 rfl ?_
        refine z_aload_n (j := 0) hx hb dX11_start_98 rfl rfl ?_
        refine z_get (v := .ref (ad 15)) S hK inX11 0 (fun _ => rfl) rfl 42 (by decide) q6_139 rfl rfl dX11_start_99 ?_
        refine z_iload (j := 2) hx hb dX11_start_102 rfl ?_
        have h104 := And.left hok
        have hok := And.right hok
        refine z_iald (f := (gA q 15)) S hK 15 0 (fun _ => rfl) rfl h104 dX11_start_104 ?_
        have h105 := And.left hok
        have hok := And.right hok
        refine z_iast (f := (gA q 16)) (q' := (sA q 16 (upd (gA q 16) (v5 : Int32).toNatClampNeg ((gA q 15) (v5 : Int32).toNatClampNeg)))) S hK 16 0 (fun _ => rfl) rfl h105 dX11_start_105 (wMa16 kc ad _ _) (fun _ h => h) ?_
        refine z_iinc (k := 2) (v := (v5 + 1)) (lv' := [(5, .int (v5 + 1)), (0, .ref (ad 0)), (4, .int v4)]) hx hb dX11_start_106 rfl rfl (by decide) rfl ?_
        refine z_goto (tgt := 85) hx hb dX11_start_109 (by decide) ?_
        refine z_sub [1, 2, 0] rfl ?_
        exact ih (sA q 16 (upd (gA q 16) (v5 : Int32).toNatClampNeg ((gA q 15) (v5 : Int32).toNatClampNeg))) v4 (v5 + 1) hok hF
  have b81 : ∀ (q : SS) (v4 : Int32) (s0 : Int32) (s1 : Int32), kX11_start_81 q v4 s0 s1 → F = fX11_start_81 q v4 s0 s1 → Z p l e (zr 1 0 0) s m args below meth c 0 0 (MQ below (va_Qi (fun (x : Int32) (_ : Unit) => x = F.1) (fun _ t => (GM D kc ad) A F.2 t.heap) A) args s 0 0 A) 6 A (ZG D vwCl (wM kc ad) (fun _ tl => tl = []) A) q 81 [(0, .ref (ad 0)), (4, .int v4)] [.int s0, .int s1, .ref (ad 15)] := by
    intro q v4 s0 s1 hok hF
    have h81 := And.left hok
    have hok := And.right hok
    refine z_iast (f := (gA q 15)) (q' := (sA q 15 (upd (gA q 15) (s1 : Int32).toNatClampNeg s0))) S hK 15 0 (fun _ => rfl) rfl h81 dX11_start_81 (wMa15 kc ad _ _) (fun _ h => h) ?_
    refine z_iconst (v := 4) hx hb dX11_start_82 (by decide) ?_
    refine z_istore (lv' := [(5, .int 4), (0, .ref (ad 0)), (4, .int v4)]) hx hb dX11_start_83 (by decide) rfl ?_
    refine z_sub [1, 2, 0] rfl ?_
    exact b85 130 (sA q 15 (upd (gA q 15) (s1 : Int32).toNatClampNeg s0)) v4 4 hok hF
  have b16 : ∀ (q : SS) (v1 : Int32) (v2 : Int32) (v3 : Int32) (s0 : Int32), kX11_start_16 q v1 v2 v3 s0 → F = fX11_start_16 q v1 v2 v3 s0 → Z p l e (zr 1 0 0) s m args below meth c 0 0 (MQ below (va_Qi (fun (x : Int32) (_ : Unit) => x = F.1) (fun _ t => (GM D kc ad) A F.2 t.heap) A) args s 0 0 A) 6 A (ZG D vwCl (wM kc ad) (fun _ tl => tl = []) A) q 16 [(0, .ref (ad 0)), (1, .int v1), (2, .int v2), (3, .int v3)] [.int s0] := by
    intro q v1 v2 v3 s0 hok hF
    refine z_if_ne (tgt := 25) hx hb dX11_start_16 (by decide) (fun g16 => ?_) (fun g16 => ?_)
    · have hF := hF.trans (if_neg g16)
      have hok := And.right hok g16
      refine z_aload_n (j := 0) hx hb dX11_start_25 rfl rfl ?_
      refine z_get (v := .int (gI q 25)) S hK inX11 0 (fun _ => rfl) rfl 25 (by decide) q6_122 rfl rfl dX11_start_26 ?_
      refine z_if_eq (tgt := 38) hx hb dX11_start_29 (by decide) (fun g29 => ?_) (fun g29 => ?_)
      · have hF := hF.trans (if_pos g29)
        have hok := And.left hok g29
        refine z_aload_n (j := 0) hx hb dX11_start_38 rfl rfl ?_
        refine z_iconst (v := 0) hx hb dX11_start_39 (by decide) ?_
        refine z_put (v := .int 0) (q' := (sI q 0 0)) S hK inX11 tyX11 tyX11_ok nmX11 0 (fun _ => rfl) rfl 0 (by decide) q6_97 rfl rfl rfl rfl (Nat.le_of_ble_eq_true rfl) dX11_start_40 (wMp0 kc ad _ _) (fun _ h => h) ?_
        refine z_aload_n (j := 0) hx hb dX11_start_43 rfl rfl ?_
        refine z_get (v := .ref (ad 15)) S hK inX11 0 (fun _ => rfl) rfl 42 (by decide) q6_139 rfl rfl dX11_start_44 ?_
        refine z_iconst (v := 4) hx hb dX11_start_47 (by decide) ?_
        refine z_iald (f := (gA q 15)) S hK 15 0 (fun _ => rfl) rfl (show ¬ (_ ∨ _) from by decide) dX11_start_48 ?_
        refine z_istore (lv' := [(4, .int ((gA q 15) (4 : Int32).toNatClampNeg)), (0, .ref (ad 0)), (1, .int v1), (2, .int v2), (3, .int v3)]) hx hb dX11_start_49 (by decide) rfl ?_
        refine z_aload_n (j := 1) hx hb dX11_start_51 rfl rfl ?_
        refine z_get (v := .ref (ad 15)) S hK inX11 0 (fun _ => rfl) rfl 42 (by decide) q6_139 rfl rfl dX11_start_52 ?_
        refine z_iconst (v := 4) hx hb dX11_start_55 (by decide) ?_
        refine z_iload_n (j := 2) hx hb dX11_start_56 rfl rfl ?_
        refine z_iast (f := (gA q 15)) (q' := (sA (sI q 0 0) 15 (upd (gA q 15) (4 : Int32).toNatClampNeg v1))) S hK 15 0 (fun _ => rfl) rfl (show ¬ (_ ∨ _) from by decide) dX11_start_57 (wMa15 kc ad _ _) (fun _ h => h) ?_
        refine z_aload_n (j := 1) hx hb dX11_start_58 rfl rfl ?_
        refine z_get (v := .ref (ad 15)) S hK inX11 0 (fun _ => rfl) rfl 42 (by decide) q6_139 rfl rfl dX11_start_59 ?_
        refine z_bipush (v := 7) hx hb dX11_start_62 (by decide) ?_
        refine z_iload_n (j := 3) hx hb dX11_start_64 rfl rfl ?_
        refine z_iast (f := (upd (gA q 15) (4 : Int32).toNatClampNeg v1)) (q' := (sA (sA (sI q 0 0) 15 (upd (gA q 15) (4 : Int32).toNatClampNeg v1)) 15 (upd (upd (gA q 15) (4 : Int32).toNatClampNeg v1) (7 : Int32).toNatClampNeg v2))) S hK 15 0 (fun _ => rfl) rfl (show ¬ (_ ∨ _) from by decide) dX11_start_65 (wMa15 kc ad _ _) (fun _ h => h) ?_
        refine z_aload_n (j := 1) hx hb dX11_start_66 rfl rfl ?_
        refine z_get (v := .ref (ad 15)) S hK inX11 0 (fun _ => rfl) rfl 42 (by decide) q6_139 rfl rfl dX11_start_67 ?_
        refine z_bipush (v := 8) hx hb dX11_start_70 (by decide) ?_
        refine z_iload_n (j := 4) hx hb dX11_start_72 rfl rfl ?_
        refine z_if_eq (tgt := 80) hx hb dX11_start_73 (by decide) (fun g73 => ?_) (fun g73 => ?_)
        · have hF := hF.trans (if_pos g73)
          have hok := And.left hok g73
          refine z_iconst (v := 0) hx hb dX11_start_80 (by decide) ?_
          refine z_sub [1, 0] rfl ?_
          exact b81 (sA (sA (sI q 0 0) 15 (upd (gA q 15) (4 : Int32).toNatClampNeg v1)) 15 (upd (upd (gA q 15) (4 : Int32).toNatClampNeg v1) (7 : Int32).toNatClampNeg v2)) ((gA q 15) (4 : Int32).toNatClampNeg) 0 8 hok hF
        · have hF := hF.trans (if_neg g73)
          have hok := And.right hok g73
          refine z_iconst (v := 1) hx hb dX11_start_76 (by decide) ?_
          refine z_goto (tgt := 81) hx hb dX11_start_77 (by decide) ?_
          refine z_sub [1, 0] rfl ?_
          exact b81 (sA (sA (sI q 0 0) 15 (upd (gA q 15) (4 : Int32).toNatClampNeg v1)) 15 (upd (upd (gA q 15) (4 : Int32).toNatClampNeg v1) (7 : Int32).toNatClampNeg v2)) ((gA q 15) (4 : Int32).toNatClampNeg) 1 8 hok hF
      · have hF := hF.trans (if_neg g29)
        have hok := And.right hok g29
        refine z_aload_n (j := 0) hx hb dX11_start_32 rfl rfl ?_
        refine z_iconst (v := 2) hx hb dX11_start_33 (by decide) ?_
        have h34 := And.left hok
        have hok := And.right hok
        refine z_callVi (As := [.int 2]) S (ctX11_refuse l D kc ad q 2 h34) (cwV 1 S.2.2.2.2 (gV q7_30 q7_32 qp2_8 q1_12 q7_33) rfl rfl rfl hX11_refuse ⟨Nat.le_of_ble_eq_true rfl, Nat.le_of_ble_eq_true rfl⟩) hA (pbM D kc) (psM hK) (z_recv hK 0 (fun _ => rfl) rfl) rfl rfl (Nat.le_of_ble_eq_true rfl) dX11_start_34 ⟨Nat.le_of_ble_eq_true rfl, Nat.le_of_ble_eq_true rfl⟩ ?_
        exact z_iret hx hb hlocks hr rfl hF dX11_start_37
    · have hF := hF.trans (if_pos g16)
      have hok := And.left hok g16
      refine z_sub [0] rfl ?_
      exact b19 q hok hF
  have b7 : ∀ (q : SS) (v1 : Int32) (v2 : Int32) (v3 : Int32) (s0 : Int32), kX11_start_7 q v1 v2 v3 s0 → F = fX11_start_7 q v1 v2 v3 s0 → Z p l e (zr 1 0 0) s m args below meth c 0 0 (MQ below (va_Qi (fun (x : Int32) (_ : Unit) => x = F.1) (fun _ t => (GM D kc ad) A F.2 t.heap) A) args s 0 0 A) 6 A (ZG D vwCl (wM kc ad) (fun _ tl => tl = []) A) q 7 [(0, .ref (ad 0)), (1, .int v1), (2, .int v2), (3, .int v3)] [.int s0] := by
    intro q v1 v2 v3 s0 hok hF
    refine z_if_eq (tgt := 19) hx hb dX11_start_7 (by decide) (fun g7 => ?_) (fun g7 => ?_)
    · have hF := hF.trans (if_pos g7)
      have hok := And.left hok g7
      refine z_sub [0] rfl ?_
      exact b19 q hok hF
    · have hF := hF.trans (if_neg g7)
      have hok := And.right hok g7
      refine z_iload_n (j := 2) hx hb dX11_start_10 rfl rfl ?_
      refine z_iconst (v := 0) hx hb dX11_start_11 (by decide) ?_
      refine z_iconst (v := 1) hx hb dX11_start_12 (by decide) ?_
      have h13 := And.left hok
      have hok := And.right hok
      refine z_callSi (As := [.int v2, .int 0, .int 1]) S (ctX11_isIn l D kc ad q v2 0 1 h13) (va_cwS 3 S.2.2.2.2 (gS q7_21 q7_22 q1_12 q7_23) rfl rfl rfl hX11_isIn ⟨Nat.le_of_ble_eq_true rfl, Nat.le_of_ble_eq_true rfl⟩) hA (pbM D kc) (psM hK) rfl rfl (Nat.le_of_ble_eq_true rfl) dX11_start_13 ⟨Nat.le_of_ble_eq_true rfl, Nat.le_of_ble_eq_true rfl⟩ ?_
      exact b16 (fX11_isIn q v2 0 1).2 v1 v2 v3 (fX11_isIn q v2 0 1).1 hok hF
  refine z_iload_n (j := 1) hx hb dX11_start_0 rfl rfl ?_
  refine z_iconst (v := 0) hx hb dX11_start_1 (by decide) ?_
  refine z_bipush (v := 63) hx hb dX11_start_2 (by decide) ?_
  have h4 := And.left hok
  have hok := And.right hok
  refine z_callSi (As := [.int v1, .int 0, .int 63]) S (ctX11_isIn l D kc ad q v1 0 63 h4) (va_cwS 3 S.2.2.2.2 (gS q7_21 q7_22 q1_12 q7_23) rfl rfl rfl hX11_isIn ⟨Nat.le_of_ble_eq_true rfl, Nat.le_of_ble_eq_true rfl⟩) hA (pbM D kc) (psM hK) rfl rfl (Nat.le_of_ble_eq_true rfl) dX11_start_4 ⟨Nat.le_of_ble_eq_true rfl, Nat.le_of_ble_eq_true rfl⟩ ?_
  exact b7 (fX11_isIn q v1 0 63).2 v1 v2 v3 (fX11_isIn q v1 0 63).1 hok hF
theorem hX11_start : yX11_start.cls = RX11 ∧ yX11_start.cls ≠ "java/lang/invoke/MethodHandle" ∧ yX11_start.cls ≠ "java/lang/invoke/VarHandle" ∧ (parseMethodDescriptor yX11_start.desc).map (fun d => d.parameters.length) = some 3 := by decide +kernel
def fX11_setPage_68 (q : SS) (v3 : Int32) : Int32 × SS := (v3, q)
def kX11_setPage_68 (q : SS) (v3 : Int32) : Prop := narrow .boolean (.int v3) = .int v3 ∧ True
def fX11_setPage_40 (q : SS) (v1 : Int32) (v2 : Int32) (v3 : Int32) (s0 : Int32) (s1 : Int32) : Int32 × SS := (if v2 = 0 then fX11_setPage_68 (sA q 13 (upd (gA q 13) (s1 : Int32).toNatClampNeg (vp_nar .boolean s0))) v3 else (if (gI q 23) = 119 then (if (gI q 5) = v1 then fX11_setPage_68 (sI (sA q 13 (upd (gA q 13) (s1 : Int32).toNatClampNeg (vp_nar .boolean s0))) 23 114) v3 else fX11_setPage_68 (sA q 13 (upd (gA q 13) (s1 : Int32).toNatClampNeg (vp_nar .boolean s0))) v3) else fX11_setPage_68 (sA q 13 (upd (gA q 13) (s1 : Int32).toNatClampNeg (vp_nar .boolean s0))) v3))
def kX11_setPage_40 (q : SS) (v1 : Int32) (v2 : Int32) (v3 : Int32) (s0 : Int32) (s1 : Int32) : Prop := vp_in s1 4 ∧ ((v2 = 0 → kX11_setPage_68 (sA q 13 (upd (gA q 13) (s1 : Int32).toNatClampNeg (vp_nar .boolean s0))) v3) ∧ (¬ v2 = 0 → (((gI q 23) = 119 → (((gI q 5) = v1 → kX11_setPage_68 (sI (sA q 13 (upd (gA q 13) (s1 : Int32).toNatClampNeg (vp_nar .boolean s0))) 23 114) v3) ∧ (¬ (gI q 5) = v1 → kX11_setPage_68 (sA q 13 (upd (gA q 13) (s1 : Int32).toNatClampNeg (vp_nar .boolean s0))) v3))) ∧ (¬ (gI q 23) = 119 → kX11_setPage_68 (sA q 13 (upd (gA q 13) (s1 : Int32).toNatClampNeg (vp_nar .boolean s0))) v3))))
def fX11_setPage_25 (q : SS) (v1 : Int32) (v2 : Int32) (s0 : Int32) : Int32 × SS := (if v2 = 0 then fX11_setPage_40 q v1 v2 s0 1 v1 else fX11_setPage_40 q v1 v2 s0 0 v1)
def kX11_setPage_25 (q : SS) (v1 : Int32) (v2 : Int32) (s0 : Int32) : Prop := ((v2 = 0 → kX11_setPage_40 q v1 v2 s0 1 v1) ∧ (¬ v2 = 0 → kX11_setPage_40 q v1 v2 s0 0 v1))
def fX11_setPage_6 (q : SS) (v1 : Int32) (v2 : Int32) (s0 : Int32) : Int32 × SS := (if s0 = 0 then (if ((gA q 13) (v1 : Int32).toNatClampNeg) = 0 then fX11_setPage_25 q v1 v2 1 else fX11_setPage_25 q v1 v2 0) else (0, q))
def kX11_setPage_6 (q : SS) (v1 : Int32) (v2 : Int32) (s0 : Int32) : Prop := ((s0 = 0 → vp_in v1 4 ∧ ((((gA q 13) (v1 : Int32).toNatClampNeg) = 0 → kX11_setPage_25 q v1 v2 1) ∧ (¬ ((gA q 13) (v1 : Int32).toNatClampNeg) = 0 → kX11_setPage_25 q v1 v2 0))) ∧ (¬ s0 = 0 → True))
def fX11_setPage (q : SS) (v1 : Int32) (v2 : Int32) : Int32 × SS := fX11_setPage_6 (fX11_out q v1 4).2 v1 v2 (fX11_out q v1 4).1
def kX11_setPage (q : SS) (v1 : Int32) (v2 : Int32) : Prop := kX11_out q v1 4 ∧ kX11_setPage_6 (fX11_out q v1 4).2 v1 v2 (fX11_out q v1 4).1
set_option maxHeartbeats 4000000 in
set_option maxRecDepth 100000 in
theorem ctX11_setPage (l : Launch) (D : va_G) (kc : Nat → ClassId) (ad : Nat → Nat) (q : SS) (v1 : Int32) (v2 : Int32) (hok : kX11_setPage q v1 v2) : Ci l yX11_setPage (Cond.code yX11_setPage cX11_setPage 4 (some .boolean) :: lw_G) (zr 2 0 0) 0 0 (PM D kc) (GM D kc ad) (GM D kc ad) [.ref (ad 0), .int v1, .int v2] q (fX11_setPage q v1 v2) := by
  refine Ci.of (cc := cX11_setPage) (maxL := 4) (ret := (some .boolean)) (by decide) rfl (Nat.le_of_ble_eq_true rfl) ?_
  intro p e s m args below meth c A S hr hlocks hin hA hK
  have hx := S.1
  have hb := S.2.1
  have hK : va_K D vwCl (tysK kc) s := hK
  generalize hFe : fX11_setPage q v1 v2 = F
  have hF : F = fX11_setPage q v1 v2 := hFe.symm
  have b68 : ∀ (q : SS) (v3 : Int32), kX11_setPage_68 q v3 → F = fX11_setPage_68 q v3 → Z p l e (zr 2 0 0) s m args below meth c 0 0 (MQ below (va_Qi (fun (x : Int32) (_ : Unit) => x = F.1) (fun _ t => (GM D kc ad) A F.2 t.heap) A) args s 0 0 A) 4 A (ZG D vwCl (wM kc ad) (fun _ tl => tl = []) A) q 68 [(3, .int v3)] [] := by
    intro q v3 hok hF
    refine z_iload_n (j := 0) hx hb dX11_setPage_68 rfl rfl ?_
    have h69 := And.left hok
    have hok := And.right hok
    exact z_iret hx hb hlocks hr h69 hF dX11_setPage_69
  have b40 : ∀ (q : SS) (v1 : Int32) (v2 : Int32) (v3 : Int32) (s0 : Int32) (s1 : Int32), kX11_setPage_40 q v1 v2 v3 s0 s1 → F = fX11_setPage_40 q v1 v2 v3 s0 s1 → Z p l e (zr 2 0 0) s m args below meth c 0 0 (MQ below (va_Qi (fun (x : Int32) (_ : Unit) => x = F.1) (fun _ t => (GM D kc ad) A F.2 t.heap) A) args s 0 0 A) 4 A (ZG D vwCl (wM kc ad) (fun _ tl => tl = []) A) q 40 [(0, .ref (ad 0)), (1, .int v1), (2, .int v2), (3, .int v3)] [.int s0, .int s1, .ref (ad 13)] := by
    intro q v1 v2 v3 s0 s1 hok hF
    have h40 := And.left hok
    have hok := And.right hok
    refine z_zast (f := (gA q 13)) (q' := (sA q 13 (upd (gA q 13) (s1 : Int32).toNatClampNeg (vp_nar .boolean s0)))) S hK 13 1 (fun _ => rfl) rfl h40 dX11_setPage_40 (wMa13 kc ad _ _) (fun _ h => h) ?_
    refine z_iload_n (j := 2) hx hb dX11_setPage_41 rfl rfl ?_
    refine z_if_eq (tgt := 68) hx hb dX11_setPage_42 (by decide) (fun g42 => ?_) (fun g42 => ?_)
    · have hF := hF.trans (if_pos g42)
      have hok := And.left hok g42
      refine z_sub [3] rfl ?_
      exact b68 (sA q 13 (upd (gA q 13) (s1 : Int32).toNatClampNeg (vp_nar .boolean s0))) v3 hok hF
    · have hF := hF.trans (if_neg g42)
      have hok := And.right hok g42
      refine z_aload_n (j := 0) hx hb dX11_setPage_45 rfl rfl ?_
      refine z_get (v := .int (gI q 23)) S hK inX11 0 (fun _ => rfl) rfl 23 (by decide) q6_120 rfl rfl dX11_setPage_46 ?_
      refine z_bipush (v := 119) hx hb dX11_setPage_49 (by decide) ?_
      refine z_icmp_ne (tgt := 68) hx hb dX11_setPage_51 (by decide) (fun g51 => ?_) (fun g51 => ?_)
      · have hF := hF.trans (if_neg g51)
        have hok := And.right hok g51
        refine z_sub [3] rfl ?_
        exact b68 (sA q 13 (upd (gA q 13) (s1 : Int32).toNatClampNeg (vp_nar .boolean s0))) v3 hok hF
      · have hF := hF.trans (if_pos g51)
        have hok := And.left hok g51
        refine z_aload_n (j := 0) hx hb dX11_setPage_54 rfl rfl ?_
        refine z_get (v := .int (gI q 5)) S hK inX11 0 (fun _ => rfl) rfl 5 (by decide) q6_102 rfl rfl dX11_setPage_55 ?_
        refine z_iload_n (j := 1) hx hb dX11_setPage_58 rfl rfl ?_
        refine z_icmp_ne (tgt := 68) hx hb dX11_setPage_59 (by decide) (fun g59 => ?_) (fun g59 => ?_)
        · have hF := hF.trans (if_neg g59)
          have hok := And.right hok g59
          refine z_sub [3] rfl ?_
          exact b68 (sA q 13 (upd (gA q 13) (s1 : Int32).toNatClampNeg (vp_nar .boolean s0))) v3 hok hF
        · have hF := hF.trans (if_pos g59)
          have hok := And.left hok g59
          refine z_aload_n (j := 0) hx hb dX11_setPage_62 rfl rfl ?_
          refine z_bipush (v := 114) hx hb dX11_setPage_63 (by decide) ?_
          refine z_put (v := .int 114) (q' := (sI (sA q 13 (upd (gA q 13) (s1 : Int32).toNatClampNeg (vp_nar .boolean s0))) 23 114)) S hK inX11 tyX11 tyX11_ok nmX11 0 (fun _ => rfl) rfl 23 (by decide) q6_120 rfl rfl rfl rfl (Nat.le_of_ble_eq_true rfl) dX11_setPage_65 (wMp23 kc ad _ _) (fun _ h => h) ?_
          refine z_sub [3] rfl ?_
          exact b68 (sI (sA q 13 (upd (gA q 13) (s1 : Int32).toNatClampNeg (vp_nar .boolean s0))) 23 114) v3 hok hF
  have b25 : ∀ (q : SS) (v1 : Int32) (v2 : Int32) (s0 : Int32), kX11_setPage_25 q v1 v2 s0 → F = fX11_setPage_25 q v1 v2 s0 → Z p l e (zr 2 0 0) s m args below meth c 0 0 (MQ below (va_Qi (fun (x : Int32) (_ : Unit) => x = F.1) (fun _ t => (GM D kc ad) A F.2 t.heap) A) args s 0 0 A) 4 A (ZG D vwCl (wM kc ad) (fun _ tl => tl = []) A) q 25 [(0, .ref (ad 0)), (1, .int v1), (2, .int v2)] [.int s0] := by
    intro q v1 v2 s0 hok hF
    refine z_istore_n (lv' := [(3, .int s0), (0, .ref (ad 0)), (1, .int v1), (2, .int v2)]) hx hb dX11_setPage_25 rfl (by decide) rfl ?_
    refine z_aload_n (j := 1) hx hb dX11_setPage_26 rfl rfl ?_
    refine z_get (v := .ref (ad 13)) S hK inX11 0 (fun _ => rfl) rfl 40 (by decide) q6_137 rfl rfl dX11_setPage_27 ?_
    refine z_iload_n (j := 2) hx hb dX11_setPage_30 rfl rfl ?_
    refine z_iload_n (j := 3) hx hb dX11_setPage_31 rfl rfl ?_
    refine z_if_ne (tgt := 39) hx hb dX11_setPage_32 (by decide) (fun g32 => ?_) (fun g32 => ?_)
    · have hF := hF.trans (if_neg g32)
      have hok := And.right hok g32
      refine z_iconst (v := 0) hx hb dX11_setPage_39 (by decide) ?_
      refine z_sub [1, 2, 3, 0] rfl ?_
      exact b40 q v1 v2 s0 0 v1 hok hF
    · have hF := hF.trans (if_pos g32)
      have hok := And.left hok g32
      refine z_iconst (v := 1) hx hb dX11_setPage_35 (by decide) ?_
      refine z_goto (tgt := 40) hx hb dX11_setPage_36 (by decide) ?_
      refine z_sub [1, 2, 3, 0] rfl ?_
      exact b40 q v1 v2 s0 1 v1 hok hF
  have b6 : ∀ (q : SS) (v1 : Int32) (v2 : Int32) (s0 : Int32), kX11_setPage_6 q v1 v2 s0 → F = fX11_setPage_6 q v1 v2 s0 → Z p l e (zr 2 0 0) s m args below meth c 0 0 (MQ below (va_Qi (fun (x : Int32) (_ : Unit) => x = F.1) (fun _ t => (GM D kc ad) A F.2 t.heap) A) args s 0 0 A) 4 A (ZG D vwCl (wM kc ad) (fun _ tl => tl = []) A) q 6 [(0, .ref (ad 0)), (1, .int v1), (2, .int v2)] [.int s0] := by
    intro q v1 v2 s0 hok hF
    refine z_if_eq (tgt := 11) hx hb dX11_setPage_6 (by decide) (fun g6 => ?_) (fun g6 => ?_)
    · have hF := hF.trans (if_pos g6)
      have hok := And.left hok g6
      refine z_aload_n (j := 0) hx hb dX11_setPage_11 rfl rfl ?_
      refine z_get (v := .ref (ad 13)) S hK inX11 0 (fun _ => rfl) rfl 40 (by decide) q6_137 rfl rfl dX11_setPage_12 ?_
      refine z_iload_n (j := 1) hx hb dX11_setPage_15 rfl rfl ?_
      have h16 := And.left hok
      have hok := And.right hok
      refine z_zald (f := (gA q 13)) S hK 13 1 (fun _ => rfl) rfl h16 dX11_setPage_16 ?_
      refine z_if_ne (tgt := 24) hx hb dX11_setPage_17 (by decide) (fun g17 => ?_) (fun g17 => ?_)
      · have hF := hF.trans (if_neg g17)
        have hok := And.right hok g17
        refine z_iconst (v := 0) hx hb dX11_setPage_24 (by decide) ?_
        exact b25 q v1 v2 0 hok hF
      · have hF := hF.trans (if_pos g17)
        have hok := And.left hok g17
        refine z_iconst (v := 1) hx hb dX11_setPage_20 (by decide) ?_
        refine z_goto (tgt := 25) hx hb dX11_setPage_21 (by decide) ?_
        exact b25 q v1 v2 1 hok hF
    · have hF := hF.trans (if_neg g6)
      have hok := And.right hok g6
      refine z_iconst (v := 0) hx hb dX11_setPage_9 (by decide) ?_
      exact z_iret hx hb hlocks hr (by decide) hF dX11_setPage_10
  refine z_aload_n (j := 0) hx hb dX11_setPage_0 rfl rfl ?_
  refine z_iload_n (j := 1) hx hb dX11_setPage_1 rfl rfl ?_
  refine z_iconst (v := 4) hx hb dX11_setPage_2 (by decide) ?_
  have h3 := And.left hok
  have hok := And.right hok
  refine z_callVi (As := [.int v1, .int 4]) S (ctX11_out l D kc ad q v1 4 h3) (cwV 2 S.2.2.2.2 (gV q7_17 q7_19 qp2_7 q1_12 q7_20) rfl rfl rfl hX11_out ⟨Nat.le_of_ble_eq_true rfl, Nat.le_of_ble_eq_true rfl⟩) hA (pbM D kc) (psM hK) (z_recv hK 0 (fun _ => rfl) rfl) rfl rfl (Nat.le_of_ble_eq_true rfl) dX11_setPage_3 ⟨Nat.le_of_ble_eq_true rfl, Nat.le_of_ble_eq_true rfl⟩ ?_
  exact b6 (fX11_out q v1 4).2 v1 v2 (fX11_out q v1 4).1 hok hF
theorem hX11_setPage : yX11_setPage.cls = RX11 ∧ yX11_setPage.cls ≠ "java/lang/invoke/MethodHandle" ∧ yX11_setPage.cls ≠ "java/lang/invoke/VarHandle" ∧ (parseMethodDescriptor yX11_setPage.desc).map (fun d => d.parameters.length) = some 2 := by decide +kernel
def fX11_setWait_7 (q : SS) (v1 : Int32) (s0 : Int32) : Int32 × SS := (if s0 = 0 then ((fX11_refuse q 1).1, (fX11_refuse q 1).2) else ((gI q 3), (sI (sI q 0 0) 3 v1)))
def kX11_setWait_7 (q : SS) (v1 : Int32) (s0 : Int32) : Prop := ((s0 = 0 → kX11_refuse q 1 ∧ True) ∧ (¬ s0 = 0 → True))
def fX11_setWait (q : SS) (v1 : Int32) : Int32 × SS := fX11_setWait_7 (fX11_isIn q v1 0 9).2 v1 (fX11_isIn q v1 0 9).1
def kX11_setWait (q : SS) (v1 : Int32) : Prop := kX11_isIn q v1 0 9 ∧ kX11_setWait_7 (fX11_isIn q v1 0 9).2 v1 (fX11_isIn q v1 0 9).1
set_option maxHeartbeats 4000000 in
set_option maxRecDepth 100000 in
theorem ctX11_setWait (l : Launch) (D : va_G) (kc : Nat → ClassId) (ad : Nat → Nat) (q : SS) (v1 : Int32) (hok : kX11_setWait q v1) : Ci l yX11_setWait (Cond.code yX11_setWait cX11_setWait 3 (some .int) :: lw_G) (zr 1 0 0) 0 0 (PM D kc) (GM D kc ad) (GM D kc ad) [.ref (ad 0), .int v1] q (fX11_setWait q v1) := by
  refine Ci.of (cc := cX11_setWait) (maxL := 3) (ret := (some .int)) (by decide) rfl (Nat.le_of_ble_eq_true rfl) ?_
  intro p e s m args below meth c A S hr hlocks hin hA hK
  have hx := S.1
  have hb := S.2.1
  have hK : va_K D vwCl (tysK kc) s := hK
  generalize hFe : fX11_setWait q v1 = F
  have hF : F = fX11_setWait q v1 := hFe.symm
  have b7 : ∀ (q : SS) (v1 : Int32) (s0 : Int32), kX11_setWait_7 q v1 s0 → F = fX11_setWait_7 q v1 s0 → Z p l e (zr 1 0 0) s m args below meth c 0 0 (MQ below (va_Qi (fun (x : Int32) (_ : Unit) => x = F.1) (fun _ t => (GM D kc ad) A F.2 t.heap) A) args s 0 0 A) 3 A (ZG D vwCl (wM kc ad) (fun _ tl => tl = []) A) q 7 [(0, .ref (ad 0)), (1, .int v1)] [.int s0] := by
    intro q v1 s0 hok hF
    refine z_if_ne (tgt := 16) hx hb dX11_setWait_7 (by decide) (fun g7 => ?_) (fun g7 => ?_)
    · have hF := hF.trans (if_neg g7)
      have hok := And.right hok g7
      refine z_aload_n (j := 0) hx hb dX11_setWait_16 rfl rfl ?_
      refine z_iconst (v := 0) hx hb dX11_setWait_17 (by decide) ?_
      refine z_put (v := .int 0) (q' := (sI q 0 0)) S hK inX11 tyX11 tyX11_ok nmX11 0 (fun _ => rfl) rfl 0 (by decide) q6_97 rfl rfl rfl rfl (Nat.le_of_ble_eq_true rfl) dX11_setWait_18 (wMp0 kc ad _ _) (fun _ h => h) ?_
      refine z_aload_n (j := 0) hx hb dX11_setWait_21 rfl rfl ?_
      refine z_get (v := .int (gI q 3)) S hK inX11 0 (fun _ => rfl) rfl 3 (by decide) q6_100 rfl rfl dX11_setWait_22 ?_
      refine z_istore_n (lv' := [(2, .int (gI q 3)), (0, .ref (ad 0)), (1, .int v1)]) hx hb dX11_setWait_25 rfl (by decide) rfl ?_
      refine z_aload_n (j := 1) hx hb dX11_setWait_26 rfl rfl ?_
      refine z_iload_n (j := 2) hx hb dX11_setWait_27 rfl rfl ?_
      refine z_put (v := .int v1) (q' := (sI (sI q 0 0) 3 v1)) S hK inX11 tyX11 tyX11_ok nmX11 0 (fun _ => rfl) rfl 3 (by decide) q6_100 rfl rfl rfl rfl (Nat.le_of_ble_eq_true rfl) dX11_setWait_28 (wMp3 kc ad _ _) (fun _ h => h) ?_
      refine z_iload_n (j := 0) hx hb dX11_setWait_31 rfl rfl ?_
      exact z_iret hx hb hlocks hr rfl hF dX11_setWait_32
    · have hF := hF.trans (if_pos g7)
      have hok := And.left hok g7
      refine z_aload_n (j := 0) hx hb dX11_setWait_10 rfl rfl ?_
      refine z_iconst (v := 1) hx hb dX11_setWait_11 (by decide) ?_
      have h12 := And.left hok
      have hok := And.right hok
      refine z_callVi (As := [.int 1]) S (ctX11_refuse l D kc ad q 1 h12) (cwV 1 S.2.2.2.2 (gV q7_30 q7_32 qp2_8 q1_12 q7_33) rfl rfl rfl hX11_refuse ⟨Nat.le_of_ble_eq_true rfl, Nat.le_of_ble_eq_true rfl⟩) hA (pbM D kc) (psM hK) (z_recv hK 0 (fun _ => rfl) rfl) rfl rfl (Nat.le_of_ble_eq_true rfl) dX11_setWait_12 ⟨Nat.le_of_ble_eq_true rfl, Nat.le_of_ble_eq_true rfl⟩ ?_
      exact z_iret hx hb hlocks hr rfl hF dX11_setWait_15
  refine z_iload_n (j := 1) hx hb dX11_setWait_0 rfl rfl ?_
  refine z_iconst (v := 0) hx hb dX11_setWait_1 (by decide) ?_
  refine z_bipush (v := 9) hx hb dX11_setWait_2 (by decide) ?_
  have h4 := And.left hok
  have hok := And.right hok
  refine z_callSi (As := [.int v1, .int 0, .int 9]) S (ctX11_isIn l D kc ad q v1 0 9 h4) (va_cwS 3 S.2.2.2.2 (gS q7_21 q7_22 q1_12 q7_23) rfl rfl rfl hX11_isIn ⟨Nat.le_of_ble_eq_true rfl, Nat.le_of_ble_eq_true rfl⟩) hA (pbM D kc) (psM hK) rfl rfl (Nat.le_of_ble_eq_true rfl) dX11_setWait_4 ⟨Nat.le_of_ble_eq_true rfl, Nat.le_of_ble_eq_true rfl⟩ ?_
  exact b7 (fX11_isIn q v1 0 9).2 v1 (fX11_isIn q v1 0 9).1 hok hF
theorem hX11_setWait : yX11_setWait.cls = RX11 ∧ yX11_setWait.cls ≠ "java/lang/invoke/MethodHandle" ∧ yX11_setWait.cls ≠ "java/lang/invoke/VarHandle" ∧ (parseMethodDescriptor yX11_setWait.desc).map (fun d => d.parameters.length) = some 1 := by decide +kernel
def fX11_setVector_7 (q : SS) (v1 : Int32) (s0 : Int32) : Int32 × SS := (if s0 = 0 then ((fX11_refuse q 1).1, (fX11_refuse q 1).2) else ((gI q 4), (sI (sI q 0 0) 4 v1)))
def kX11_setVector_7 (q : SS) (v1 : Int32) (s0 : Int32) : Prop := ((s0 = 0 → kX11_refuse q 1 ∧ True) ∧ (¬ s0 = 0 → True))
def fX11_setVector (q : SS) (v1 : Int32) : Int32 × SS := fX11_setVector_7 (fX11_isIn q v1 0 63).2 v1 (fX11_isIn q v1 0 63).1
def kX11_setVector (q : SS) (v1 : Int32) : Prop := kX11_isIn q v1 0 63 ∧ kX11_setVector_7 (fX11_isIn q v1 0 63).2 v1 (fX11_isIn q v1 0 63).1
set_option maxHeartbeats 4000000 in
set_option maxRecDepth 100000 in
theorem ctX11_setVector (l : Launch) (D : va_G) (kc : Nat → ClassId) (ad : Nat → Nat) (q : SS) (v1 : Int32) (hok : kX11_setVector q v1) : Ci l yX11_setVector (Cond.code yX11_setVector cX11_setVector 3 (some .int) :: lw_G) (zr 1 0 0) 0 0 (PM D kc) (GM D kc ad) (GM D kc ad) [.ref (ad 0), .int v1] q (fX11_setVector q v1) := by
  refine Ci.of (cc := cX11_setVector) (maxL := 3) (ret := (some .int)) (by decide) rfl (Nat.le_of_ble_eq_true rfl) ?_
  intro p e s m args below meth c A S hr hlocks hin hA hK
  have hx := S.1
  have hb := S.2.1
  have hK : va_K D vwCl (tysK kc) s := hK
  generalize hFe : fX11_setVector q v1 = F
  have hF : F = fX11_setVector q v1 := hFe.symm
  have b7 : ∀ (q : SS) (v1 : Int32) (s0 : Int32), kX11_setVector_7 q v1 s0 → F = fX11_setVector_7 q v1 s0 → Z p l e (zr 1 0 0) s m args below meth c 0 0 (MQ below (va_Qi (fun (x : Int32) (_ : Unit) => x = F.1) (fun _ t => (GM D kc ad) A F.2 t.heap) A) args s 0 0 A) 3 A (ZG D vwCl (wM kc ad) (fun _ tl => tl = []) A) q 7 [(0, .ref (ad 0)), (1, .int v1)] [.int s0] := by
    intro q v1 s0 hok hF
    refine z_if_ne (tgt := 16) hx hb dX11_setVector_7 (by decide) (fun g7 => ?_) (fun g7 => ?_)
    · have hF := hF.trans (if_neg g7)
      have hok := And.right hok g7
      refine z_aload_n (j := 0) hx hb dX11_setVector_16 rfl rfl ?_
      refine z_iconst (v := 0) hx hb dX11_setVector_17 (by decide) ?_
      refine z_put (v := .int 0) (q' := (sI q 0 0)) S hK inX11 tyX11 tyX11_ok nmX11 0 (fun _ => rfl) rfl 0 (by decide) q6_97 rfl rfl rfl rfl (Nat.le_of_ble_eq_true rfl) dX11_setVector_18 (wMp0 kc ad _ _) (fun _ h => h) ?_
      refine z_aload_n (j := 0) hx hb dX11_setVector_21 rfl rfl ?_
      refine z_get (v := .int (gI q 4)) S hK inX11 0 (fun _ => rfl) rfl 4 (by decide) q6_101 rfl rfl dX11_setVector_22 ?_
      refine z_istore_n (lv' := [(2, .int (gI q 4)), (0, .ref (ad 0)), (1, .int v1)]) hx hb dX11_setVector_25 rfl (by decide) rfl ?_
      refine z_aload_n (j := 1) hx hb dX11_setVector_26 rfl rfl ?_
      refine z_iload_n (j := 2) hx hb dX11_setVector_27 rfl rfl ?_
      refine z_put (v := .int v1) (q' := (sI (sI q 0 0) 4 v1)) S hK inX11 tyX11 tyX11_ok nmX11 0 (fun _ => rfl) rfl 4 (by decide) q6_101 rfl rfl rfl rfl (Nat.le_of_ble_eq_true rfl) dX11_setVector_28 (wMp4 kc ad _ _) (fun _ h => h) ?_
      refine z_iload_n (j := 0) hx hb dX11_setVector_31 rfl rfl ?_
      exact z_iret hx hb hlocks hr rfl hF dX11_setVector_32
    · have hF := hF.trans (if_pos g7)
      have hok := And.left hok g7
      refine z_aload_n (j := 0) hx hb dX11_setVector_10 rfl rfl ?_
      refine z_iconst (v := 1) hx hb dX11_setVector_11 (by decide) ?_
      have h12 := And.left hok
      have hok := And.right hok
      refine z_callVi (As := [.int 1]) S (ctX11_refuse l D kc ad q 1 h12) (cwV 1 S.2.2.2.2 (gV q7_30 q7_32 qp2_8 q1_12 q7_33) rfl rfl rfl hX11_refuse ⟨Nat.le_of_ble_eq_true rfl, Nat.le_of_ble_eq_true rfl⟩) hA (pbM D kc) (psM hK) (z_recv hK 0 (fun _ => rfl) rfl) rfl rfl (Nat.le_of_ble_eq_true rfl) dX11_setVector_12 ⟨Nat.le_of_ble_eq_true rfl, Nat.le_of_ble_eq_true rfl⟩ ?_
      exact z_iret hx hb hlocks hr rfl hF dX11_setVector_15
  refine z_iload_n (j := 1) hx hb dX11_setVector_0 rfl rfl ?_
  refine z_iconst (v := 0) hx hb dX11_setVector_1 (by decide) ?_
  refine z_bipush (v := 63) hx hb dX11_setVector_2 (by decide) ?_
  have h4 := And.left hok
  have hok := And.right hok
  refine z_callSi (As := [.int v1, .int 0, .int 63]) S (ctX11_isIn l D kc ad q v1 0 63 h4) (va_cwS 3 S.2.2.2.2 (gS q7_21 q7_22 q1_12 q7_23) rfl rfl rfl hX11_isIn ⟨Nat.le_of_ble_eq_true rfl, Nat.le_of_ble_eq_true rfl⟩) hA (pbM D kc) (psM hK) rfl rfl (Nat.le_of_ble_eq_true rfl) dX11_setVector_4 ⟨Nat.le_of_ble_eq_true rfl, Nat.le_of_ble_eq_true rfl⟩ ?_
  exact b7 (fX11_isIn q v1 0 63).2 v1 (fX11_isIn q v1 0 63).1 hok hF
theorem hX11_setVector : yX11_setVector.cls = RX11 ∧ yX11_setVector.cls ≠ "java/lang/invoke/MethodHandle" ∧ yX11_setVector.cls ≠ "java/lang/invoke/VarHandle" ∧ (parseMethodDescriptor yX11_setVector.desc).map (fun d => d.parameters.length) = some 1 := by decide +kernel
def fX11_interrupt (q : SS) : Int32 × SS := ((gI q 24), (sI q 24 1))
def kX11_interrupt (q : SS) : Prop := narrow .boolean (.int (gI q 24)) = .int (gI q 24) ∧ True
set_option maxHeartbeats 4000000 in
set_option maxRecDepth 100000 in
theorem ctX11_interrupt (l : Launch) (D : va_G) (kc : Nat → ClassId) (ad : Nat → Nat) (q : SS) (hok : kX11_interrupt q) : Ci l yX11_interrupt (Cond.code yX11_interrupt cX11_interrupt 2 (some .boolean) :: lw_G) (zr 0 0 0) 0 0 (PM D kc) (GM D kc ad) (GM D kc ad) [.ref (ad 0)] q (fX11_interrupt q) := by
  refine Ci.of (cc := cX11_interrupt) (maxL := 2) (ret := (some .boolean)) (by decide) rfl (Nat.le_of_ble_eq_true rfl) ?_
  intro p e s m args below meth c A S hr hlocks hin hA hK
  have hx := S.1
  have hb := S.2.1
  have hK : va_K D vwCl (tysK kc) s := hK
  generalize hFe : fX11_interrupt q = F
  have hF : F = fX11_interrupt q := hFe.symm
  refine z_aload_n (j := 0) hx hb dX11_interrupt_0 rfl rfl ?_
  refine z_get (v := .int (gI q 24)) S hK inX11 0 (fun _ => rfl) rfl 24 (by decide) q6_121 rfl rfl dX11_interrupt_1 ?_
  refine z_istore_n (lv' := [(1, .int (gI q 24)), (0, .ref (ad 0))]) hx hb dX11_interrupt_4 rfl (by decide) rfl ?_
  refine z_aload_n (j := 1) hx hb dX11_interrupt_5 rfl rfl ?_
  refine z_iconst (v := 1) hx hb dX11_interrupt_6 (by decide) ?_
  refine z_put (v := .int 1) (q' := (sI q 24 1)) S hK inX11 tyX11 tyX11_ok nmX11 0 (fun _ => rfl) rfl 24 (by decide) q6_121 rfl rfl rfl rfl (Nat.le_of_ble_eq_true rfl) dX11_interrupt_7 (wMp24 kc ad _ _) (fun _ h => h) ?_
  refine z_iload_n (j := 0) hx hb dX11_interrupt_10 rfl rfl ?_
  have h11 := And.left hok
  have hok := And.right hok
  exact z_iret hx hb hlocks hr h11 hF dX11_interrupt_11
theorem hX11_interrupt : yX11_interrupt.cls = RX11 ∧ yX11_interrupt.cls ≠ "java/lang/invoke/MethodHandle" ∧ yX11_interrupt.cls ≠ "java/lang/invoke/VarHandle" ∧ (parseMethodDescriptor yX11_interrupt.desc).map (fun d => d.parameters.length) = some 0 := by decide +kernel
def fX11_again (q : SS) : SS := (sI (sI (sI (sA q 15 (upd (gA q 15) (15 : Int32).toNatClampNeg 0)) 7 0) 6 0) 25 0)
def kX11_again (q : SS) : Prop := True
set_option maxHeartbeats 4000000 in
set_option maxRecDepth 100000 in
theorem ctX11_again (l : Launch) (D : va_G) (kc : Nat → ClassId) (ad : Nat → Nat) (q : SS) (hok : kX11_again q) : Cv l yX11_again (Cond.code yX11_again cX11_again 1 none :: lw_G) (zr 0 0 0) 0 0 (PM D kc) (GM D kc ad) (GM D kc ad) [.ref (ad 0)] q (fX11_again q) := by
  refine Cv.of (cc := cX11_again) (maxL := 1) (ret := none) (by decide) rfl (Nat.le_of_ble_eq_true rfl) ?_
  intro p e s m args below meth c A S hr hlocks hin hA hK
  have hx := S.1
  have hb := S.2.1
  have hK : va_K D vwCl (tysK kc) s := hK
  generalize hFe : fX11_again q = F
  have hF : F = fX11_again q := hFe.symm
  refine z_aload_n (j := 0) hx hb dX11_again_0 rfl rfl ?_
  refine z_get (v := .ref (ad 15)) S hK inX11 0 (fun _ => rfl) rfl 42 (by decide) q6_139 rfl rfl dX11_again_1 ?_
  refine z_bipush (v := 15) hx hb dX11_again_4 (by decide) ?_
  refine z_iconst (v := 0) hx hb dX11_again_6 (by decide) ?_
  refine z_iast (f := (gA q 15)) (q' := (sA q 15 (upd (gA q 15) (15 : Int32).toNatClampNeg 0))) S hK 15 0 (fun _ => rfl) rfl (show ¬ (_ ∨ _) from by decide) dX11_again_7 (wMa15 kc ad _ _) (fun _ h => h) ?_
  refine z_aload_n (j := 0) hx hb dX11_again_8 rfl rfl ?_
  refine z_iconst (v := 0) hx hb dX11_again_9 (by decide) ?_
  refine z_put (v := .int 0) (q' := (sI (sA q 15 (upd (gA q 15) (15 : Int32).toNatClampNeg 0)) 7 0)) S hK inX11 tyX11 tyX11_ok nmX11 0 (fun _ => rfl) rfl 7 (by decide) q6_104 rfl rfl rfl rfl (Nat.le_of_ble_eq_true rfl) dX11_again_10 (wMp7 kc ad _ _) (fun _ h => h) ?_
  refine z_aload_n (j := 0) hx hb dX11_again_13 rfl rfl ?_
  refine z_iconst (v := 0) hx hb dX11_again_14 (by decide) ?_
  refine z_put (v := .int 0) (q' := (sI (sI (sA q 15 (upd (gA q 15) (15 : Int32).toNatClampNeg 0)) 7 0) 6 0)) S hK inX11 tyX11 tyX11_ok nmX11 0 (fun _ => rfl) rfl 6 (by decide) q6_103 rfl rfl rfl rfl (Nat.le_of_ble_eq_true rfl) dX11_again_15 (wMp6 kc ad _ _) (fun _ h => h) ?_
  refine z_aload_n (j := 0) hx hb dX11_again_18 rfl rfl ?_
  refine z_iconst (v := 0) hx hb dX11_again_19 (by decide) ?_
  refine z_put (v := .int 0) (q' := (sI (sI (sI (sA q 15 (upd (gA q 15) (15 : Int32).toNatClampNeg 0)) 7 0) 6 0) 25 0)) S hK inX11 tyX11 tyX11_ok nmX11 0 (fun _ => rfl) rfl 25 (by decide) q6_122 rfl rfl rfl rfl (Nat.le_of_ble_eq_true rfl) dX11_again_20 (wMp25 kc ad _ _) (fun _ h => h) ?_
  exact z_vret hx hb hlocks hr hF dX11_again_23
theorem hX11_again : yX11_again.cls = RX11 ∧ yX11_again.cls ≠ "java/lang/invoke/MethodHandle" ∧ yX11_again.cls ≠ "java/lang/invoke/VarHandle" ∧ (parseMethodDescriptor yX11_again.desc).map (fun d => d.parameters.length) = some 0 := by decide +kernel
def fX11_begins_28 : Nat → SS → Int32 → SS
  | 0, q, _ => q
  | n + 1, q, v1 => (if 64 ≤ v1 then (fX11_again q) else fX11_begins_28 n (sA q 18 (upd (gA q 18) (v1 : Int32).toNatClampNeg ((gA q 17) (v1 : Int32).toNatClampNeg))) (v1 + 1))
def kX11_begins_28 : Nat → SS → Int32 → Prop
  | 0, _, _ => False
  | n + 1, q, v1 => ((64 ≤ v1 → kX11_again q ∧ True) ∧ (¬ 64 ≤ v1 → vp_in v1 64 ∧ vp_in v1 64 ∧ kX11_begins_28 n (sA q 18 (upd (gA q 18) (v1 : Int32).toNatClampNeg ((gA q 17) (v1 : Int32).toNatClampNeg))) (v1 + 1)))
def fX11_begins_2 : Nat → SS → Int32 → SS
  | 0, q, _ => q
  | n + 1, q, v1 => (if 10 ≤ v1 then fX11_begins_28 130 q 0 else fX11_begins_2 n (sA q 16 (upd (gA q 16) (v1 : Int32).toNatClampNeg ((gA q 15) (v1 : Int32).toNatClampNeg))) (v1 + 1))
def kX11_begins_2 : Nat → SS → Int32 → Prop
  | 0, _, _ => False
  | n + 1, q, v1 => ((10 ≤ v1 → kX11_begins_28 130 q 0) ∧ (¬ 10 ≤ v1 → vp_in v1 16 ∧ vp_in v1 16 ∧ kX11_begins_2 n (sA q 16 (upd (gA q 16) (v1 : Int32).toNatClampNeg ((gA q 15) (v1 : Int32).toNatClampNeg))) (v1 + 1)))
def fX11_begins (q : SS) : SS := fX11_begins_2 130 q 0
def kX11_begins (q : SS) : Prop := kX11_begins_2 130 q 0
set_option maxHeartbeats 4000000 in
set_option maxRecDepth 100000 in
theorem ctX11_begins (l : Launch) (D : va_G) (kc : Nat → ClassId) (ad : Nat → Nat) (q : SS) (hok : kX11_begins q) : Cv l yX11_begins (Cond.code yX11_begins cX11_begins 2 none :: lw_G) (zr 1 0 0) 0 0 (PM D kc) (GM D kc ad) (GM D kc ad) [.ref (ad 0)] q (fX11_begins q) := by
  refine Cv.of (cc := cX11_begins) (maxL := 2) (ret := none) (by decide) rfl (Nat.le_of_ble_eq_true rfl) ?_
  intro p e s m args below meth c A S hr hlocks hin hA hK
  have hx := S.1
  have hb := S.2.1
  have hK : va_K D vwCl (tysK kc) s := hK
  generalize hFe : fX11_begins q = F
  have hF : F = fX11_begins q := hFe.symm
  have b28 : ∀ (n : Nat) (q : SS) (v1 : Int32), kX11_begins_28 n q v1 → F = fX11_begins_28 n q v1 → Z p l e (zr 1 0 0) s m args below meth c 0 0 (MQ below (va_Qv (fun (_ : Unit) => True) (fun _ t => (GM D kc ad) A F t.heap) A) args s 0 0 A) 2 A (ZG D vwCl (wM kc ad) (fun _ tl => tl = []) A) q 28 [(0, .ref (ad 0)), (1, .int v1)] [] := by
    intro n
    induction n with
    | zero => intro q v1 hok hF; exact False.elim hok
    | succ n ih =>
      intro q v1 hok hF
      refine z_iload_n (j := 1) hx hb dX11_begins_28 rfl rfl ?_
      refine z_bipush (v := 64) hx hb dX11_begins_29 (by decide) ?_
      refine z_icmp_ge (tgt := 52) hx hb dX11_begins_31 (by decide) (fun g31 => ?_) (fun g31 => ?_)
      · have hF := hF.trans (if_pos g31)
        have hok := And.left hok g31
        refine z_aload_n (j := 0) hx hb dX11_begins_52 rfl rfl ?_
        have h53 := And.left hok
        have hok := And.right hok
        refine z_callVv (As := []) S (ctX11_again l D kc ad q h53) (cwV 0 S.2.2.2.2 (gV q7_109 q7_111 qp2_12 q1_12 q7_112) rfl rfl rfl hX11_again ⟨Nat.le_of_ble_eq_true rfl, Nat.le_of_ble_eq_true rfl⟩) hA (pbM D kc) (psM hK) (z_recv hK 0 (fun _ => rfl) rfl) rfl rfl (Nat.le_of_ble_eq_true rfl) dX11_begins_53 ⟨Nat.le_of_ble_eq_true rfl, Nat.le_of_ble_eq_true rfl⟩ ?_
        exact z_vret hx hb hlocks hr hF dX11_begins_56
      · have hF := hF.trans (if_neg g31)
        have hok := And.right hok g31
        refine z_aload_n (j := 0) hx hb dX11_begins_34 rfl rfl ?_
        refine z_get (v := .ref (ad 18)) S hK inX11 0 (fun _ => rfl) rfl 45 (by decide) q6_142 rfl rfl dX11_begins_35 ?_
        refine z_iload_n (j := 1) hx hb dX11_begins_38 rfl rfl ?_
        refine z_aload_n (j := 0) hx hb dX11_begins_39 rfl rfl ?_
        refine z_get (v := .ref (ad 17)) S hK inX11 0 (fun _ => rfl) rfl 44 (by decide) q6_141 rfl rfl dX11_begins_40 ?_
        refine z_iload_n (j := 1) hx hb dX11_begins_43 rfl rfl ?_
        have h44 := And.left hok
        have hok := And.right hok
        refine z_iald (f := (gA q 17)) S hK 17 0 (fun _ => rfl) rfl h44 dX11_begins_44 ?_
        have h45 := And.left hok
        have hok := And.right hok
        refine z_iast (f := (gA q 18)) (q' := (sA q 18 (upd (gA q 18) (v1 : Int32).toNatClampNeg ((gA q 17) (v1 : Int32).toNatClampNeg)))) S hK 18 0 (fun _ => rfl) rfl h45 dX11_begins_45 (wMa18 kc ad _ _) (fun _ h => h) ?_
        refine z_iinc (k := 1) (v := (v1 + 1)) (lv' := [(1, .int (v1 + 1)), (0, .ref (ad 0))]) hx hb dX11_begins_46 rfl rfl (by decide) rfl ?_
        refine z_goto (tgt := 28) hx hb dX11_begins_49 (by decide) ?_
        refine z_sub [1, 0] rfl ?_
        exact ih (sA q 18 (upd (gA q 18) (v1 : Int32).toNatClampNeg ((gA q 17) (v1 : Int32).toNatClampNeg))) (v1 + 1) hok hF
  have b2 : ∀ (n : Nat) (q : SS) (v1 : Int32), kX11_begins_2 n q v1 → F = fX11_begins_2 n q v1 → Z p l e (zr 1 0 0) s m args below meth c 0 0 (MQ below (va_Qv (fun (_ : Unit) => True) (fun _ t => (GM D kc ad) A F t.heap) A) args s 0 0 A) 2 A (ZG D vwCl (wM kc ad) (fun _ tl => tl = []) A) q 2 [(0, .ref (ad 0)), (1, .int v1)] [] := by
    intro n
    induction n with
    | zero => intro q v1 hok hF; exact False.elim hok
    | succ n ih =>
      intro q v1 hok hF
      refine z_iload_n (j := 1) hx hb dX11_begins_2 rfl rfl ?_
      refine z_bipush (v := 10) hx hb dX11_begins_3 (by decide) ?_
      refine z_icmp_ge (tgt := 26) hx hb dX11_begins_5 (by decide) (fun g5 => ?_) (fun g5 => ?_)
      · have hF := hF.trans (if_pos g5)
        have hok := And.left hok g5
        refine z_iconst (v := 0) hx hb dX11_begins_26 (by decide) ?_
        refine z_istore_n (lv' := [(1, .int 0), (0, .ref (ad 0))]) hx hb dX11_begins_27 rfl (by decide) rfl ?_
        refine z_sub [1, 0] rfl ?_
        exact b28 130 q 0 hok hF
      · have hF := hF.trans (if_neg g5)
        have hok := And.right hok g5
        refine z_aload_n (j := 0) hx hb dX11_begins_8 rfl rfl ?_
        refine z_get (v := .ref (ad 16)) S hK inX11 0 (fun _ => rfl) rfl 43 (by decide) q6_140 rfl rfl dX11_begins_9 ?_
        refine z_iload_n (j := 1) hx hb dX11_begins_12 rfl rfl ?_
        refine z_aload_n (j := 0) hx hb dX11_begins_13 rfl rfl ?_
        refine z_get (v := .ref (ad 15)) S hK inX11 0 (fun _ => rfl) rfl 42 (by decide) q6_139 rfl rfl dX11_begins_14 ?_
        refine z_iload_n (j := 1) hx hb dX11_begins_17 rfl rfl ?_
        have h18 := And.left hok
        have hok := And.right hok
        refine z_iald (f := (gA q 15)) S hK 15 0 (fun _ => rfl) rfl h18 dX11_begins_18 ?_
        have h19 := And.left hok
        have hok := And.right hok
        refine z_iast (f := (gA q 16)) (q' := (sA q 16 (upd (gA q 16) (v1 : Int32).toNatClampNeg ((gA q 15) (v1 : Int32).toNatClampNeg)))) S hK 16 0 (fun _ => rfl) rfl h19 dX11_begins_19 (wMa16 kc ad _ _) (fun _ h => h) ?_
        refine z_iinc (k := 1) (v := (v1 + 1)) (lv' := [(1, .int (v1 + 1)), (0, .ref (ad 0))]) hx hb dX11_begins_20 rfl rfl (by decide) rfl ?_
        refine z_goto (tgt := 2) hx hb dX11_begins_23 (by decide) ?_
        refine z_sub [1, 0] rfl ?_
        exact ih (sA q 16 (upd (gA q 16) (v1 : Int32).toNatClampNeg ((gA q 15) (v1 : Int32).toNatClampNeg))) (v1 + 1) hok hF
  refine z_iconst (v := 0) hx hb dX11_begins_0 (by decide) ?_
  refine z_istore_n (lv' := [(1, .int 0), (0, .ref (ad 0))]) hx hb dX11_begins_1 rfl (by decide) rfl ?_
  refine z_sub [1, 0] rfl ?_
  exact b2 130 q 0 hok hF
theorem hX11_begins : yX11_begins.cls = RX11 ∧ yX11_begins.cls ≠ "java/lang/invoke/MethodHandle" ∧ yX11_begins.cls ≠ "java/lang/invoke/VarHandle" ∧ (parseMethodDescriptor yX11_begins.desc).map (fun d => d.parameters.length) = some 0 := by decide +kernel
def fX11_back_28 : Nat → SS → Int32 → SS
  | 0, q, _ => q
  | n + 1, q, v1 => (if 64 ≤ v1 then (fX11_again (sI q 26 0)) else fX11_back_28 n (sA q 17 (upd (gA q 17) (v1 : Int32).toNatClampNeg ((gA q 18) (v1 : Int32).toNatClampNeg))) (v1 + 1))
def kX11_back_28 : Nat → SS → Int32 → Prop
  | 0, _, _ => False
  | n + 1, q, v1 => ((64 ≤ v1 → kX11_again (sI q 26 0) ∧ True) ∧ (¬ 64 ≤ v1 → vp_in v1 64 ∧ vp_in v1 64 ∧ kX11_back_28 n (sA q 17 (upd (gA q 17) (v1 : Int32).toNatClampNeg ((gA q 18) (v1 : Int32).toNatClampNeg))) (v1 + 1)))
def fX11_back_2 : Nat → SS → Int32 → SS
  | 0, q, _ => q
  | n + 1, q, v1 => (if 10 ≤ v1 then fX11_back_28 130 q 0 else fX11_back_2 n (sA q 15 (upd (gA q 15) (v1 : Int32).toNatClampNeg ((gA q 16) (v1 : Int32).toNatClampNeg))) (v1 + 1))
def kX11_back_2 : Nat → SS → Int32 → Prop
  | 0, _, _ => False
  | n + 1, q, v1 => ((10 ≤ v1 → kX11_back_28 130 q 0) ∧ (¬ 10 ≤ v1 → vp_in v1 16 ∧ vp_in v1 16 ∧ kX11_back_2 n (sA q 15 (upd (gA q 15) (v1 : Int32).toNatClampNeg ((gA q 16) (v1 : Int32).toNatClampNeg))) (v1 + 1)))
def fX11_back (q : SS) : SS := fX11_back_2 130 q 0
def kX11_back (q : SS) : Prop := kX11_back_2 130 q 0
set_option maxHeartbeats 4000000 in
set_option maxRecDepth 100000 in
theorem ctX11_back (l : Launch) (D : va_G) (kc : Nat → ClassId) (ad : Nat → Nat) (q : SS) (hok : kX11_back q) : Cv l yX11_back (Cond.code yX11_back cX11_back 2 none :: lw_G) (zr 1 0 0) 0 0 (PM D kc) (GM D kc ad) (GM D kc ad) [.ref (ad 0)] q (fX11_back q) := by
  refine Cv.of (cc := cX11_back) (maxL := 2) (ret := none) (by decide) rfl (Nat.le_of_ble_eq_true rfl) ?_
  intro p e s m args below meth c A S hr hlocks hin hA hK
  have hx := S.1
  have hb := S.2.1
  have hK : va_K D vwCl (tysK kc) s := hK
  generalize hFe : fX11_back q = F
  have hF : F = fX11_back q := hFe.symm
  have b28 : ∀ (n : Nat) (q : SS) (v1 : Int32), kX11_back_28 n q v1 → F = fX11_back_28 n q v1 → Z p l e (zr 1 0 0) s m args below meth c 0 0 (MQ below (va_Qv (fun (_ : Unit) => True) (fun _ t => (GM D kc ad) A F t.heap) A) args s 0 0 A) 2 A (ZG D vwCl (wM kc ad) (fun _ tl => tl = []) A) q 28 [(0, .ref (ad 0)), (1, .int v1)] [] := by
    intro n
    induction n with
    | zero => intro q v1 hok hF; exact False.elim hok
    | succ n ih =>
      intro q v1 hok hF
      refine z_iload_n (j := 1) hx hb dX11_back_28 rfl rfl ?_
      refine z_bipush (v := 64) hx hb dX11_back_29 (by decide) ?_
      refine z_icmp_ge (tgt := 52) hx hb dX11_back_31 (by decide) (fun g31 => ?_) (fun g31 => ?_)
      · have hF := hF.trans (if_pos g31)
        have hok := And.left hok g31
        refine z_aload_n (j := 0) hx hb dX11_back_52 rfl rfl ?_
        refine z_iconst (v := 0) hx hb dX11_back_53 (by decide) ?_
        refine z_put (v := .int 0) (q' := (sI q 26 0)) S hK inX11 tyX11 tyX11_ok nmX11 0 (fun _ => rfl) rfl 26 (by decide) q6_123 rfl rfl rfl rfl (Nat.le_of_ble_eq_true rfl) dX11_back_54 (wMp26 kc ad _ _) (fun _ h => h) ?_
        refine z_aload_n (j := 0) hx hb dX11_back_57 rfl rfl ?_
        have h58 := And.left hok
        have hok := And.right hok
        refine z_callVv (As := []) S (ctX11_again l D kc ad (sI q 26 0) h58) (cwV 0 S.2.2.2.2 (gV q7_109 q7_111 qp2_12 q1_12 q7_112) rfl rfl rfl hX11_again ⟨Nat.le_of_ble_eq_true rfl, Nat.le_of_ble_eq_true rfl⟩) hA (pbM D kc) (psM hK) (z_recv hK 0 (fun _ => rfl) rfl) rfl rfl (Nat.le_of_ble_eq_true rfl) dX11_back_58 ⟨Nat.le_of_ble_eq_true rfl, Nat.le_of_ble_eq_true rfl⟩ ?_
        exact z_vret hx hb hlocks hr hF dX11_back_61
      · have hF := hF.trans (if_neg g31)
        have hok := And.right hok g31
        refine z_aload_n (j := 0) hx hb dX11_back_34 rfl rfl ?_
        refine z_get (v := .ref (ad 17)) S hK inX11 0 (fun _ => rfl) rfl 44 (by decide) q6_141 rfl rfl dX11_back_35 ?_
        refine z_iload_n (j := 1) hx hb dX11_back_38 rfl rfl ?_
        refine z_aload_n (j := 0) hx hb dX11_back_39 rfl rfl ?_
        refine z_get (v := .ref (ad 18)) S hK inX11 0 (fun _ => rfl) rfl 45 (by decide) q6_142 rfl rfl dX11_back_40 ?_
        refine z_iload_n (j := 1) hx hb dX11_back_43 rfl rfl ?_
        have h44 := And.left hok
        have hok := And.right hok
        refine z_iald (f := (gA q 18)) S hK 18 0 (fun _ => rfl) rfl h44 dX11_back_44 ?_
        have h45 := And.left hok
        have hok := And.right hok
        refine z_iast (f := (gA q 17)) (q' := (sA q 17 (upd (gA q 17) (v1 : Int32).toNatClampNeg ((gA q 18) (v1 : Int32).toNatClampNeg)))) S hK 17 0 (fun _ => rfl) rfl h45 dX11_back_45 (wMa17 kc ad _ _) (fun _ h => h) ?_
        refine z_iinc (k := 1) (v := (v1 + 1)) (lv' := [(1, .int (v1 + 1)), (0, .ref (ad 0))]) hx hb dX11_back_46 rfl rfl (by decide) rfl ?_
        refine z_goto (tgt := 28) hx hb dX11_back_49 (by decide) ?_
        refine z_sub [1, 0] rfl ?_
        exact ih (sA q 17 (upd (gA q 17) (v1 : Int32).toNatClampNeg ((gA q 18) (v1 : Int32).toNatClampNeg))) (v1 + 1) hok hF
  have b2 : ∀ (n : Nat) (q : SS) (v1 : Int32), kX11_back_2 n q v1 → F = fX11_back_2 n q v1 → Z p l e (zr 1 0 0) s m args below meth c 0 0 (MQ below (va_Qv (fun (_ : Unit) => True) (fun _ t => (GM D kc ad) A F t.heap) A) args s 0 0 A) 2 A (ZG D vwCl (wM kc ad) (fun _ tl => tl = []) A) q 2 [(0, .ref (ad 0)), (1, .int v1)] [] := by
    intro n
    induction n with
    | zero => intro q v1 hok hF; exact False.elim hok
    | succ n ih =>
      intro q v1 hok hF
      refine z_iload_n (j := 1) hx hb dX11_back_2 rfl rfl ?_
      refine z_bipush (v := 10) hx hb dX11_back_3 (by decide) ?_
      refine z_icmp_ge (tgt := 26) hx hb dX11_back_5 (by decide) (fun g5 => ?_) (fun g5 => ?_)
      · have hF := hF.trans (if_pos g5)
        have hok := And.left hok g5
        refine z_iconst (v := 0) hx hb dX11_back_26 (by decide) ?_
        refine z_istore_n (lv' := [(1, .int 0), (0, .ref (ad 0))]) hx hb dX11_back_27 rfl (by decide) rfl ?_
        refine z_sub [1, 0] rfl ?_
        exact b28 130 q 0 hok hF
      · have hF := hF.trans (if_neg g5)
        have hok := And.right hok g5
        refine z_aload_n (j := 0) hx hb dX11_back_8 rfl rfl ?_
        refine z_get (v := .ref (ad 15)) S hK inX11 0 (fun _ => rfl) rfl 42 (by decide) q6_139 rfl rfl dX11_back_9 ?_
        refine z_iload_n (j := 1) hx hb dX11_back_12 rfl rfl ?_
        refine z_aload_n (j := 0) hx hb dX11_back_13 rfl rfl ?_
        refine z_get (v := .ref (ad 16)) S hK inX11 0 (fun _ => rfl) rfl 43 (by decide) q6_140 rfl rfl dX11_back_14 ?_
        refine z_iload_n (j := 1) hx hb dX11_back_17 rfl rfl ?_
        have h18 := And.left hok
        have hok := And.right hok
        refine z_iald (f := (gA q 16)) S hK 16 0 (fun _ => rfl) rfl h18 dX11_back_18 ?_
        have h19 := And.left hok
        have hok := And.right hok
        refine z_iast (f := (gA q 15)) (q' := (sA q 15 (upd (gA q 15) (v1 : Int32).toNatClampNeg ((gA q 16) (v1 : Int32).toNatClampNeg)))) S hK 15 0 (fun _ => rfl) rfl h19 dX11_back_19 (wMa15 kc ad _ _) (fun _ h => h) ?_
        refine z_iinc (k := 1) (v := (v1 + 1)) (lv' := [(1, .int (v1 + 1)), (0, .ref (ad 0))]) hx hb dX11_back_20 rfl rfl (by decide) rfl ?_
        refine z_goto (tgt := 2) hx hb dX11_back_23 (by decide) ?_
        refine z_sub [1, 0] rfl ?_
        exact ih (sA q 15 (upd (gA q 15) (v1 : Int32).toNatClampNeg ((gA q 16) (v1 : Int32).toNatClampNeg))) (v1 + 1) hok hF
  refine z_iconst (v := 0) hx hb dX11_back_0 (by decide) ?_
  refine z_istore_n (lv' := [(1, .int 0), (0, .ref (ad 0))]) hx hb dX11_back_1 rfl (by decide) rfl ?_
  refine z_sub [1, 0] rfl ?_
  exact b2 130 q 0 hok hF
theorem hX11_back : yX11_back.cls = RX11 ∧ yX11_back.cls ≠ "java/lang/invoke/MethodHandle" ∧ yX11_back.cls ≠ "java/lang/invoke/VarHandle" ∧ (parseMethodDescriptor yX11_back.desc).map (fun d => d.parameters.length) = some 0 := by decide +kernel
def fX11_asks_17 (q : SS) : SS := q
def kX11_asks_17 (q : SS) : Prop := True
def fX11_asks_63 (q : SS) : SS := (sI q 15 ((gI q 15) + 1))
def kX11_asks_63 (q : SS) : Prop := True
def fX11_asks (q : SS) : SS := (if (gI q 24) = 0 then fX11_asks_17 q else (if ((gA q 15) (8 : Int32).toNatClampNeg) = 0 then fX11_asks_17 q else fX11_asks_63 (sI (sA (sA (sA (sA q 15 (upd (gA q 15) (9 : Int32).toNatClampNeg ((gA q 15) (4 : Int32).toNatClampNeg))) 15 (upd (upd (gA q 15) (9 : Int32).toNatClampNeg ((gA q 15) (4 : Int32).toNatClampNeg)) (4 : Int32).toNatClampNeg (gI q 4))) 15 (upd (upd (upd (gA q 15) (9 : Int32).toNatClampNeg ((gA q 15) (4 : Int32).toNatClampNeg)) (4 : Int32).toNatClampNeg (gI q 4)) (7 : Int32).toNatClampNeg 0)) 15 (upd (upd (upd (upd (gA q 15) (9 : Int32).toNatClampNeg ((gA q 15) (4 : Int32).toNatClampNeg)) (4 : Int32).toNatClampNeg (gI q 4)) (7 : Int32).toNatClampNeg 0) (8 : Int32).toNatClampNeg 0)) 24 0)))
def kX11_asks (q : SS) : Prop := (((gI q 24) = 0 → kX11_asks_17 q) ∧ (¬ (gI q 24) = 0 → ((((gA q 15) (8 : Int32).toNatClampNeg) = 0 → kX11_asks_17 q) ∧ (¬ ((gA q 15) (8 : Int32).toNatClampNeg) = 0 → kX11_asks_63 (sI (sA (sA (sA (sA q 15 (upd (gA q 15) (9 : Int32).toNatClampNeg ((gA q 15) (4 : Int32).toNatClampNeg))) 15 (upd (upd (gA q 15) (9 : Int32).toNatClampNeg ((gA q 15) (4 : Int32).toNatClampNeg)) (4 : Int32).toNatClampNeg (gI q 4))) 15 (upd (upd (upd (gA q 15) (9 : Int32).toNatClampNeg ((gA q 15) (4 : Int32).toNatClampNeg)) (4 : Int32).toNatClampNeg (gI q 4)) (7 : Int32).toNatClampNeg 0)) 15 (upd (upd (upd (upd (gA q 15) (9 : Int32).toNatClampNeg ((gA q 15) (4 : Int32).toNatClampNeg)) (4 : Int32).toNatClampNeg (gI q 4)) (7 : Int32).toNatClampNeg 0) (8 : Int32).toNatClampNeg 0)) 24 0)))))
set_option maxHeartbeats 4000000 in
set_option maxRecDepth 100000 in
theorem ctX11_asks (l : Launch) (D : va_G) (kc : Nat → ClassId) (ad : Nat → Nat) (q : SS) (hok : kX11_asks q) : Cv l yX11_asks (Cond.code yX11_asks cX11_asks 1 none :: lw_G) (zr 0 0 0) 0 0 (PM D kc) (GM D kc ad) (GM D kc ad) [.ref (ad 0)] q (fX11_asks q) := by
  refine Cv.of (cc := cX11_asks) (maxL := 1) (ret := none) (by decide) rfl (Nat.le_of_ble_eq_true rfl) ?_
  intro p e s m args below meth c A S hr hlocks hin hA hK
  have hx := S.1
  have hb := S.2.1
  have hK : va_K D vwCl (tysK kc) s := hK
  generalize hFe : fX11_asks q = F
  have hF : F = fX11_asks q := hFe.symm
  have b17 : ∀ (q : SS), kX11_asks_17 q → F = fX11_asks_17 q → Z p l e (zr 0 0 0) s m args below meth c 0 0 (MQ below (va_Qv (fun (_ : Unit) => True) (fun _ t => (GM D kc ad) A F t.heap) A) args s 0 0 A) 1 A (ZG D vwCl (wM kc ad) (fun _ tl => tl = []) A) q 17 [] [] := by
    intro q hok hF
    exact z_vret hx hb hlocks hr hF dX11_asks_17
  have b63 : ∀ (q : SS), kX11_asks_63 q → F = fX11_asks_63 q → Z p l e (zr 0 0 0) s m args below meth c 0 0 (MQ below (va_Qv (fun (_ : Unit) => True) (fun _ t => (GM D kc ad) A F t.heap) A) args s 0 0 A) 1 A (ZG D vwCl (wM kc ad) (fun _ tl => tl = []) A) q 63 [] [.ref (ad 0)] := by
    intro q hok hF
    refine z_dup hx hb dX11_asks_63 rfl ?_
    refine z_get (v := .int (gI q 15)) S hK inX11 0 (fun _ => rfl) rfl 15 (by decide) q6_112 rfl rfl dX11_asks_64 ?_
    refine z_iconst (v := 1) hx hb dX11_asks_67 (by decide) ?_
    refine z_iadd hx hb dX11_asks_68 ?_
    refine z_put (v := .int ((gI q 15) + 1)) (q' := (sI q 15 ((gI q 15) + 1))) S hK inX11 tyX11 tyX11_ok nmX11 0 (fun _ => rfl) rfl 15 (by decide) q6_112 rfl rfl rfl rfl (Nat.le_of_ble_eq_true rfl) dX11_asks_69 (wMp15 kc ad _ _) (fun _ h => h) ?_
    exact z_vret hx hb hlocks hr hF dX11_asks_72
  refine z_aload_n (j := 0) hx hb dX11_asks_0 rfl rfl ?_
  refine z_get (v := .int (gI q 24)) S hK inX11 0 (fun _ => rfl) rfl 24 (by decide) q6_121 rfl rfl dX11_asks_1 ?_
  refine z_if_eq (tgt := 17) hx hb dX11_asks_4 (by decide) (fun g4 => ?_) (fun g4 => ?_)
  · have hF := hF.trans (if_pos g4)
    have hok := And.left hok g4
    refine z_sub [] rfl ?_
    exact b17 q hok hF
  · have hF := hF.trans (if_neg g4)
    have hok := And.right hok g4
    refine z_aload_n (j := 0) hx hb dX11_asks_7 rfl rfl ?_
    refine z_get (v := .ref (ad 15)) S hK inX11 0 (fun _ => rfl) rfl 42 (by decide) q6_139 rfl rfl dX11_asks_8 ?_
    refine z_bipush (v := 8) hx hb dX11_asks_11 (by decide) ?_
    refine z_iald (f := (gA q 15)) S hK 15 0 (fun _ => rfl) rfl (show ¬ (_ ∨ _) from by decide) dX11_asks_13 ?_
    refine z_if_ne (tgt := 18) hx hb dX11_asks_14 (by decide) (fun g14 => ?_) (fun g14 => ?_)
    · have hF := hF.trans (if_neg g14)
      have hok := And.right hok g14
      refine z_aload_n (j := 0) hx hb dX11_asks_18 rfl rfl ?_
      refine z_get (v := .ref (ad 15)) S hK inX11 0 (fun _ => rfl) rfl 42 (by decide) q6_139 rfl rfl dX11_asks_19 ?_
      refine z_bipush (v := 9) hx hb dX11_asks_22 (by decide) ?_
      refine z_aload_n (j := 0) hx hb dX11_asks_24 rfl rfl ?_
      refine z_get (v := .ref (ad 15)) S hK inX11 0 (fun _ => rfl) rfl 42 (by decide) q6_139 rfl rfl dX11_asks_25 ?_
      refine z_iconst (v := 4) hx hb dX11_asks_28 (by decide) ?_
      refine z_iald (f := (gA q 15)) S hK 15 0 (fun _ => rfl) rfl (show ¬ (_ ∨ _) from by decide) dX11_asks_29 ?_
      refine z_iast (f := (gA q 15)) (q' := (sA q 15 (upd (gA q 15) (9 : Int32).toNatClampNeg ((gA q 15) (4 : Int32).toNatClampNeg)))) S hK 15 0 (fun _ => rfl) rfl (show ¬ (_ ∨ _) from by decide) dX11_asks_30 (wMa15 kc ad _ _) (fun _ h => h) ?_
      refine z_aload_n (j := 0) hx hb dX11_asks_31 rfl rfl ?_
      refine z_get (v := .ref (ad 15)) S hK inX11 0 (fun _ => rfl) rfl 42 (by decide) q6_139 rfl rfl dX11_asks_32 ?_
      refine z_iconst (v := 4) hx hb dX11_asks_35 (by decide) ?_
      refine z_aload_n (j := 0) hx hb dX11_asks_36 rfl rfl ?_
      refine z_get (v := .int (gI q 4)) S hK inX11 0 (fun _ => rfl) rfl 4 (by decide) q6_101 rfl rfl dX11_asks_37 ?_
      refine z_iast (f := (upd (gA q 15) (9 : Int32).toNatClampNeg ((gA q 15) (4 : Int32).toNatClampNeg))) (q' := (sA (sA q 15 (upd (gA q 15) (9 : Int32).toNatClampNeg ((gA q 15) (4 : Int32).toNatClampNeg))) 15 (upd (upd (gA q 15) (9 : Int32).toNatClampNeg ((gA q 15) (4 : Int32).toNatClampNeg)) (4 : Int32).toNatClampNeg (gI q 4)))) S hK 15 0 (fun _ => rfl) rfl (show ¬ (_ ∨ _) from by decide) dX11_asks_40 (wMa15 kc ad _ _) (fun _ h => h) ?_
      refine z_aload_n (j := 0) hx hb dX11_asks_41 rfl rfl ?_
      refine z_get (v := .ref (ad 15)) S hK inX11 0 (fun _ => rfl) rfl 42 (by decide) q6_139 rfl rfl dX11_asks_42 ?_
      refine z_bipush (v := 7) hx hb dX11_asks_45 (by decide) ?_
      refine z_iconst (v := 0) hx hb dX11_asks_47 (by decide) ?_
      refine z_iast (f := (upd (upd (gA q 15) (9 : Int32).toNatClampNeg ((gA q 15) (4 : Int32).toNatClampNeg)) (4 : Int32).toNatClampNeg (gI q 4))) (q' := (sA (sA (sA q 15 (upd (gA q 15) (9 : Int32).toNatClampNeg ((gA q 15) (4 : Int32).toNatClampNeg))) 15 (upd (upd (gA q 15) (9 : Int32).toNatClampNeg ((gA q 15) (4 : Int32).toNatClampNeg)) (4 : Int32).toNatClampNeg (gI q 4))) 15 (upd (upd (upd (gA q 15) (9 : Int32).toNatClampNeg ((gA q 15) (4 : Int32).toNatClampNeg)) (4 : Int32).toNatClampNeg (gI q 4)) (7 : Int32).toNatClampNeg 0))) S hK 15 0 (fun _ => rfl) rfl (show ¬ (_ ∨ _) from by decide) dX11_asks_48 (wMa15 kc ad _ _) (fun _ h => h) ?_
      refine z_aload_n (j := 0) hx hb dX11_asks_49 rfl rfl ?_
      refine z_get (v := .ref (ad 15)) S hK inX11 0 (fun _ => rfl) rfl 42 (by decide) q6_139 rfl rfl dX11_asks_50 ?_
      refine z_bipush (v := 8) hx hb dX11_asks_53 (by decide) ?_
      refine z_iconst (v := 0) hx hb dX11_asks_55 (by decide) ?_
      refine z_iast (f := (upd (upd (upd (gA q 15) (9 : Int32).toNatClampNeg ((gA q 15) (4 : Int32).toNatClampNeg)) (4 : Int32).toNatClampNeg (gI q 4)) (7 : Int32).toNatClampNeg 0)) (q' := (sA (sA (sA (sA q 15 (upd (gA q 15) (9 : Int32).toNatClampNeg ((gA q 15) (4 : Int32).toNatClampNeg))) 15 (upd (upd (gA q 15) (9 : Int32).toNatClampNeg ((gA q 15) (4 : Int32).toNatClampNeg)) (4 : Int32).toNatClampNeg (gI q 4))) 15 (upd (upd (upd (gA q 15) (9 : Int32).toNatClampNeg ((gA q 15) (4 : Int32).toNatClampNeg)) (4 : Int32).toNatClampNeg (gI q 4)) (7 : Int32).toNatClampNeg 0)) 15 (upd (upd (upd (upd (gA q 15) (9 : Int32).toNatClampNeg ((gA q 15) (4 : Int32).toNatClampNeg)) (4 : Int32).toNatClampNeg (gI q 4)) (7 : Int32).toNatClampNeg 0) (8 : Int32).toNatClampNeg 0))) S hK 15 0 (fun _ => rfl) rfl (show ¬ (_ ∨ _) from by decide) dX11_asks_56 (wMa15 kc ad _ _) (fun _ h => h) ?_
      refine z_aload_n (j := 0) hx hb dX11_asks_57 rfl rfl ?_
      refine z_iconst (v := 0) hx hb dX11_asks_58 (by decide) ?_
      refine z_put (v := .int 0) (q' := (sI (sA (sA (sA (sA q 15 (upd (gA q 15) (9 : Int32).toNatClampNeg ((gA q 15) (4 : Int32).toNatClampNeg))) 15 (upd (upd (gA q 15) (9 : Int32).toNatClampNeg ((gA q 15) (4 : Int32).toNatClampNeg)) (4 : Int32).toNatClampNeg (gI q 4))) 15 (upd (upd (upd (gA q 15) (9 : Int32).toNatClampNeg ((gA q 15) (4 : Int32).toNatClampNeg)) (4 : Int32).toNatClampNeg (gI q 4)) (7 : Int32).toNatClampNeg 0)) 15 (upd (upd (upd (upd (gA q 15) (9 : Int32).toNatClampNeg ((gA q 15) (4 : Int32).toNatClampNeg)) (4 : Int32).toNatClampNeg (gI q 4)) (7 : Int32).toNatClampNeg 0) (8 : Int32).toNatClampNeg 0)) 24 0)) S hK inX11 tyX11 tyX11_ok nmX11 0 (fun _ => rfl) rfl 24 (by decide) q6_121 rfl rfl rfl rfl (Nat.le_of_ble_eq_true rfl) dX11_asks_59 (wMp24 kc ad _ _) (fun _ h => h) ?_
      refine z_aload_n (j := 0) hx hb dX11_asks_62 rfl rfl ?_
      refine z_sub [] rfl ?_
      exact b63 (sI (sA (sA (sA (sA q 15 (upd (gA q 15) (9 : Int32).toNatClampNeg ((gA q 15) (4 : Int32).toNatClampNeg))) 15 (upd (upd (gA q 15) (9 : Int32).toNatClampNeg ((gA q 15) (4 : Int32).toNatClampNeg)) (4 : Int32).toNatClampNeg (gI q 4))) 15 (upd (upd (upd (gA q 15) (9 : Int32).toNatClampNeg ((gA q 15) (4 : Int32).toNatClampNeg)) (4 : Int32).toNatClampNeg (gI q 4)) (7 : Int32).toNatClampNeg 0)) 15 (upd (upd (upd (upd (gA q 15) (9 : Int32).toNatClampNeg ((gA q 15) (4 : Int32).toNatClampNeg)) (4 : Int32).toNatClampNeg (gI q 4)) (7 : Int32).toNatClampNeg 0) (8 : Int32).toNatClampNeg 0)) 24 0) hok hF
    · have hF := hF.trans (if_pos g14)
      have hok := And.left hok g14
      refine z_sub [] rfl ?_
      exact b17 q hok hF
theorem hX11_asks : yX11_asks.cls = RX11 ∧ yX11_asks.cls ≠ "java/lang/invoke/MethodHandle" ∧ yX11_asks.cls ≠ "java/lang/invoke/VarHandle" ∧ (parseMethodDescriptor yX11_asks.desc).map (fun d => d.parameters.length) = some 0 := by decide +kernel
def fX11_combined_90 (q : SS) (s0 : Int32) : Int32 × SS := (s0, q)
def kX11_combined_90 (q : SS) (s0 : Int32) : Prop := True
def fX11_combined (q : SS) (v0 : Int32) (v1 : Int32) (v2 : Int32) : Int32 × SS := (if v0 = 0 then (v2, q) else (if v0 = 1 then (((v1 + v2) - (v1 + v2) / 256 * 256), q) else (if v0 = 2 then ((((v1 + 256) - v2) - ((v1 + 256) - v2) / 256 * 256), q) else (if v0 = 3 then ((v1 &&& v2), q) else (if v0 = 4 then ((v1 ^^^ v2), q) else (if v0 = 5 then fX11_combined_90 q ((v2 + 1) - (v2 + 1) / 256 * 256) else (if v0 = 6 then fX11_combined_90 q ((v2 + 255) - (v2 + 255) / 256 * 256) else fX11_combined_90 q (v2 / 2))))))))
def kX11_combined (q : SS) (v0 : Int32) (v1 : Int32) (v2 : Int32) : Prop := ((v0 = 0 → True) ∧ (¬ v0 = 0 → ((v0 = 1 → True) ∧ (¬ v0 = 1 → ((v0 = 2 → True) ∧ (¬ v0 = 2 → ((v0 = 3 → True) ∧ (¬ v0 = 3 → ((v0 = 4 → True) ∧ (¬ v0 = 4 → ((v0 = 5 → kX11_combined_90 q ((v2 + 1) - (v2 + 1) / 256 * 256)) ∧ (¬ v0 = 5 → ((v0 = 6 → kX11_combined_90 q ((v2 + 255) - (v2 + 255) / 256 * 256)) ∧ (¬ v0 = 6 → kX11_combined_90 q (v2 / 2)))))))))))))))
set_option maxHeartbeats 4000000 in
set_option maxRecDepth 100000 in
theorem ctX11_combined (l : Launch) (D : va_G) (kc : Nat → ClassId) (ad : Nat → Nat) (q : SS) (v0 : Int32) (v1 : Int32) (v2 : Int32) (hok : kX11_combined q v0 v1 v2) : Ci l yX11_combined (Cond.code yX11_combined cX11_combined 3 (some .int) :: lw_G) (zr 0 0 0) 0 0 (PM D kc) (GM D kc ad) (GM D kc ad) [.int v0, .int v1, .int v2] q (fX11_combined q v0 v1 v2) := by
  refine Ci.of (cc := cX11_combined) (maxL := 3) (ret := (some .int)) (by decide) rfl (Nat.le_of_ble_eq_true rfl) ?_
  intro p e s m args below meth c A S hr hlocks hin hA hK
  have hx := S.1
  have hb := S.2.1
  have hK : va_K D vwCl (tysK kc) s := hK
  generalize hFe : fX11_combined q v0 v1 v2 = F
  have hF : F = fX11_combined q v0 v1 v2 := hFe.symm
  have b90 : ∀ (q : SS) (s0 : Int32), kX11_combined_90 q s0 → F = fX11_combined_90 q s0 → Z p l e (zr 0 0 0) s m args below meth c 0 0 (MQ below (va_Qi (fun (x : Int32) (_ : Unit) => x = F.1) (fun _ t => (GM D kc ad) A F.2 t.heap) A) args s 0 0 A) 3 A (ZG D vwCl (wM kc ad) (fun _ tl => tl = []) A) q 90 [] [.int s0] := by
    intro q s0 hok hF
    exact z_iret hx hb hlocks hr rfl hF dX11_combined_90
  refine z_iload_n (j := 0) hx hb dX11_combined_0 rfl rfl ?_
  refine z_if_ne (tgt := 6) hx hb dX11_combined_1 (by decide) (fun g1 => ?_) (fun g1 => ?_)
  · have hF := hF.trans (if_neg g1)
    have hok := And.right hok g1
    refine z_iload_n (j := 0) hx hb dX11_combined_6 rfl rfl ?_
    refine z_iconst (v := 1) hx hb dX11_combined_7 (by decide) ?_
    refine z_icmp_ne (tgt := 19) hx hb dX11_combined_8 (by decide) (fun g8 => ?_) (fun g8 => ?_)
    · have hF := hF.trans (if_neg g8)
      have hok := And.right hok g8
      refine z_iload_n (j := 0) hx hb dX11_combined_19 rfl rfl ?_
      refine z_iconst (v := 2) hx hb dX11_combined_20 (by decide) ?_
      refine z_icmp_ne (tgt := 36) hx hb dX11_combined_21 (by decide) (fun g21 => ?_) (fun g21 => ?_)
      · have hF := hF.trans (if_neg g21)
        have hok := And.right hok g21
        refine z_iload_n (j := 0) hx hb dX11_combined_36 rfl rfl ?_
        refine z_iconst (v := 3) hx hb dX11_combined_37 (by decide) ?_
        refine z_icmp_ne (tgt := 45) hx hb dX11_combined_38 (by decide) (fun g38 => ?_) (fun g38 => ?_)
        · have hF := hF.trans (if_neg g38)
          have hok := And.right hok g38
          refine z_iload_n (j := 0) hx hb dX11_combined_45 rfl rfl ?_
          refine z_iconst (v := 4) hx hb dX11_combined_46 (by decide) ?_
          refine z_icmp_ne (tgt := 54) hx hb dX11_combined_47 (by decide) (fun g47 => ?_) (fun g47 => ?_)
          · have hF := hF.trans (if_neg g47)
            have hok := And.right hok g47
            refine z_iload_n (j := 0) hx hb dX11_combined_54 rfl rfl ?_
            refine z_iconst (v := 5) hx hb dX11_combined_55 (by decide) ?_
            refine z_icmp_ne (tgt := 69) hx hb dX11_combined_56 (by decide) (fun g56 => ?_) (fun g56 => ?_)
            · have hF := hF.trans (if_neg g56)
              have hok := And.right hok g56
              refine z_iload_n (j := 0) hx hb dX11_combined_69 rfl rfl ?_
              refine z_bipush (v := 6) hx hb dX11_combined_70 (by decide) ?_
              refine z_icmp_ne (tgt := 87) hx hb dX11_combined_72 (by decide) (fun g72 => ?_) (fun g72 => ?_)
              · have hF := hF.trans (if_neg g72)
                have hok := And.right hok g72
                refine z_iload_n (j := 2) hx hb dX11_combined_87 rfl rfl ?_
                refine z_iconst (v := 2) hx hb dX11_combined_88 (by decide) ?_
                refine z_idiv hx hb dX11_combined_89 (by decide) ?_
                refine z_sub [] rfl ?_
                exact b90 q (v2 / 2) hok hF
              · have hF := hF.trans (if_pos g72)
                have hok := And.left hok g72
                refine z_iload_n (j := 2) hx hb dX11_combined_75 rfl rfl ?_
                refine z_sipush (v := 255) hx hb dX11_combined_76 (by decide) ?_
                refine z_iadd hx hb dX11_combined_79 ?_
                refine z_sipush (v := 256) hx hb dX11_combined_80 (by decide) ?_
                refine z_irem hx hb dX11_combined_83 (by decide) ?_
                refine z_goto (tgt := 90) hx hb dX11_combined_84 (by decide) ?_
                refine z_sub [] rfl ?_
                exact b90 q ((v2 + 255) - (v2 + 255) / 256 * 256) hok hF
            · have hF := hF.trans (if_pos g56)
              have hok := And.left hok g56
              refine z_iload_n (j := 2) hx hb dX11_combined_59 rfl rfl ?_
              refine z_iconst (v := 1) hx hb dX11_combined_60 (by decide) ?_
              refine z_iadd hx hb dX11_combined_61 ?_
              refine z_sipush (v := 256) hx hb dX11_combined_62 (by decide) ?_
              refine z_irem hx hb dX11_combined_65 (by decide) ?_
              refine z_goto (tgt := 90) hx hb dX11_combined_66 (by decide) ?_
              refine z_sub [] rfl ?_
              exact b90 q ((v2 + 1) - (v2 + 1) / 256 * 256) hok hF
          · have hF := hF.trans (if_pos g47)
            have hok := And.left hok g47
            refine z_iload_n (j := 1) hx hb dX11_combined_50 rfl rfl ?_
            refine z_iload_n (j := 2) hx hb dX11_combined_51 rfl rfl ?_
            refine z_ixor hx hb dX11_combined_52 ?_
            exact z_iret hx hb hlocks hr rfl hF dX11_combined_53
        · have hF := hF.trans (if_pos g38)
          have hok := And.left hok g38
          refine z_iload_n (j := 1) hx hb dX11_combined_41 rfl rfl ?_
          refine z_iload_n (j := 2) hx hb dX11_combined_42 rfl rfl ?_
          refine z_iand hx hb dX11_combined_43 ?_
          exact z_iret hx hb hlocks hr rfl hF dX11_combined_44
      · have hF := hF.trans (if_pos g21)
        have hok := And.left hok g21
        refine z_iload_n (j := 1) hx hb dX11_combined_24 rfl rfl ?_
        refine z_sipush (v := 256) hx hb dX11_combined_25 (by decide) ?_
        refine z_iadd hx hb dX11_combined_28 ?_
        refine z_iload_n (j := 2) hx hb dX11_combined_29 rfl rfl ?_
        refine z_isub hx hb dX11_combined_30 ?_
        refine z_sipush (v := 256) hx hb dX11_combined_31 (by decide) ?_
        refine z_irem hx hb dX11_combined_34 (by decide) ?_
        exact z_iret hx hb hlocks hr rfl hF dX11_combined_35
    · have hF := hF.trans (if_pos g8)
      have hok := And.left hok g8
      refine z_iload_n (j := 1) hx hb dX11_combined_11 rfl rfl ?_
      refine z_iload_n (j := 2) hx hb dX11_combined_12 rfl rfl ?_
      refine z_iadd hx hb dX11_combined_13 ?_
      refine z_sipush (v := 256) hx hb dX11_combined_14 (by decide) ?_
      refine z_irem hx hb dX11_combined_17 (by decide) ?_
      exact z_iret hx hb hlocks hr rfl hF dX11_combined_18
  · have hF := hF.trans (if_pos g1)
    have hok := And.left hok g1
    refine z_iload_n (j := 2) hx hb dX11_combined_4 rfl rfl ?_
    exact z_iret hx hb hlocks hr rfl hF dX11_combined_5
theorem hX11_combined : yX11_combined.cls ≠ "java/lang/invoke/MethodHandle" ∧ yX11_combined.cls ≠ "java/lang/invoke/VarHandle" ∧ (parseMethodDescriptor yX11_combined.desc).map (fun d => d.parameters.length) = some 3 := by decide +kernel
def fX11_carry_74 (q : SS) (s0 : Int32) : Int32 × SS := (s0, q)
def kX11_carry_74 (q : SS) (s0 : Int32) : Prop := True
def fX11_carry_64 (q : SS) (s0 : Int32) : Int32 × SS := (if s0 = 0 then fX11_carry_74 q 0 else fX11_carry_74 q 1)
def kX11_carry_64 (q : SS) (s0 : Int32) : Prop := ((s0 = 0 → kX11_carry_74 q 0) ∧ (¬ s0 = 0 → kX11_carry_74 q 1))
def fX11_carry_63 (q : SS) : Int32 × SS := fX11_carry_64 q 0
def kX11_carry_63 (q : SS) : Prop := kX11_carry_64 q 0
def fX11_carry_59 (q : SS) : Int32 × SS := fX11_carry_64 q 1
def kX11_carry_59 (q : SS) : Prop := kX11_carry_64 q 1
def fX11_carry_46 (q : SS) (v0 : Int32) (v2 : Int32) : Int32 × SS := (if v0 = 7 then (if (v2 - v2 / 2 * 2) = 1 then fX11_carry_59 q else fX11_carry_63 q) else fX11_carry_63 q)
def kX11_carry_46 (q : SS) (v0 : Int32) (v2 : Int32) : Prop := ((v0 = 7 → (((v2 - v2 / 2 * 2) = 1 → kX11_carry_59 q) ∧ (¬ (v2 - v2 / 2 * 2) = 1 → kX11_carry_63 q))) ∧ (¬ v0 = 7 → kX11_carry_63 q))
def fX11_carry_36 (q : SS) (v0 : Int32) (v2 : Int32) : Int32 × SS := (if v0 = 6 then (if v2 = 0 then fX11_carry_59 q else fX11_carry_46 q v0 v2) else fX11_carry_46 q v0 v2)
def kX11_carry_36 (q : SS) (v0 : Int32) (v2 : Int32) : Prop := ((v0 = 6 → ((v2 = 0 → kX11_carry_59 q) ∧ (¬ v2 = 0 → kX11_carry_46 q v0 v2))) ∧ (¬ v0 = 6 → kX11_carry_46 q v0 v2))
def fX11_carry_24 (q : SS) (v0 : Int32) (v2 : Int32) : Int32 × SS := (if v0 = 5 then (if v2 = 255 then fX11_carry_59 q else fX11_carry_36 q v0 v2) else fX11_carry_36 q v0 v2)
def kX11_carry_24 (q : SS) (v0 : Int32) (v2 : Int32) : Prop := ((v0 = 5 → ((v2 = 255 → kX11_carry_59 q) ∧ (¬ v2 = 255 → kX11_carry_36 q v0 v2))) ∧ (¬ v0 = 5 → kX11_carry_36 q v0 v2))
def fX11_carry_14 (q : SS) (v0 : Int32) (v1 : Int32) (v2 : Int32) : Int32 × SS := (if v0 = 2 then (if v1 < v2 then fX11_carry_59 q else fX11_carry_24 q v0 v2) else fX11_carry_24 q v0 v2)
def kX11_carry_14 (q : SS) (v0 : Int32) (v1 : Int32) (v2 : Int32) : Prop := ((v0 = 2 → ((v1 < v2 → kX11_carry_59 q) ∧ (¬ v1 < v2 → kX11_carry_24 q v0 v2))) ∧ (¬ v0 = 2 → kX11_carry_24 q v0 v2))
def fX11_carry (q : SS) (v0 : Int32) (v1 : Int32) (v2 : Int32) : Int32 × SS := (if v0 = 1 then (if 255 < (v1 + v2) then fX11_carry_59 q else fX11_carry_14 q v0 v1 v2) else fX11_carry_14 q v0 v1 v2)
def kX11_carry (q : SS) (v0 : Int32) (v1 : Int32) (v2 : Int32) : Prop := ((v0 = 1 → ((255 < (v1 + v2) → kX11_carry_59 q) ∧ (¬ 255 < (v1 + v2) → kX11_carry_14 q v0 v1 v2))) ∧ (¬ v0 = 1 → kX11_carry_14 q v0 v1 v2))
set_option maxHeartbeats 4000000 in
set_option maxRecDepth 100000 in
theorem ctX11_carry (l : Launch) (D : va_G) (kc : Nat → ClassId) (ad : Nat → Nat) (q : SS) (v0 : Int32) (v1 : Int32) (v2 : Int32) (hok : kX11_carry q v0 v1 v2) : Ci l yX11_carry (Cond.code yX11_carry cX11_carry 4 (some .int) :: lw_G) (zr 0 0 0) 0 0 (PM D kc) (GM D kc ad) (GM D kc ad) [.int v0, .int v1, .int v2] q (fX11_carry q v0 v1 v2) := by
  refine Ci.of (cc := cX11_carry) (maxL := 4) (ret := (some .int)) (by decide) rfl (Nat.le_of_ble_eq_true rfl) ?_
  intro p e s m args below meth c A S hr hlocks hin hA hK
  have hx := S.1
  have hb := S.2.1
  have hK : va_K D vwCl (tysK kc) s := hK
  generalize hFe : fX11_carry q v0 v1 v2 = F
  have hF : F = fX11_carry q v0 v1 v2 := hFe.symm
  have b74 : ∀ (q : SS) (s0 : Int32), kX11_carry_74 q s0 → F = fX11_carry_74 q s0 → Z p l e (zr 0 0 0) s m args below meth c 0 0 (MQ below (va_Qi (fun (x : Int32) (_ : Unit) => x = F.1) (fun _ t => (GM D kc ad) A F.2 t.heap) A) args s 0 0 A) 4 A (ZG D vwCl (wM kc ad) (fun _ tl => tl = []) A) q 74 [] [.int s0] := by
    intro q s0 hok hF
    exact z_iret hx hb hlocks hr rfl hF dX11_carry_74
  have b64 : ∀ (q : SS) (s0 : Int32), kX11_carry_64 q s0 → F = fX11_carry_64 q s0 → Z p l e (zr 0 0 0) s m args below meth c 0 0 (MQ below (va_Qi (fun (x : Int32) (_ : Unit) => x = F.1) (fun _ t => (GM D kc ad) A F.2 t.heap) A) args s 0 0 A) 4 A (ZG D vwCl (wM kc ad) (fun _ tl => tl = []) A) q 64 [] [.int s0] := by
    intro q s0 hok hF
    refine z_istore_n (lv' := [(3, .int s0)]) hx hb dX11_carry_64 rfl (by decide) rfl ?_
    refine z_iload_n (j := 0) hx hb dX11_carry_65 rfl rfl ?_
    refine z_if_eq (tgt := 73) hx hb dX11_carry_66 (by decide) (fun g66 => ?_) (fun g66 => ?_)
    · have hF := hF.trans (if_pos g66)
      have hok := And.left hok g66
      refine z_iconst (v := 0) hx hb dX11_carry_73 (by decide) ?_
      refine z_sub [] rfl ?_
      exact b74 q 0 hok hF
    · have hF := hF.trans (if_neg g66)
      have hok := And.right hok g66
      refine z_iconst (v := 1) hx hb dX11_carry_69 (by decide) ?_
      refine z_goto (tgt := 74) hx hb dX11_carry_70 (by decide) ?_
      refine z_sub [] rfl ?_
      exact b74 q 1 hok hF
  have b63 : ∀ (q : SS), kX11_carry_63 q → F = fX11_carry_63 q → Z p l e (zr 0 0 0) s m args below meth c 0 0 (MQ below (va_Qi (fun (x : Int32) (_ : Unit) => x = F.1) (fun _ t => (GM D kc ad) A F.2 t.heap) A) args s 0 0 A) 4 A (ZG D vwCl (wM kc ad) (fun _ tl => tl = []) A) q 63 [] [] := by
    intro q hok hF
    refine z_iconst (v := 0) hx hb dX11_carry_63 (by decide) ?_
    exact b64 q 0 hok hF
  have b59 : ∀ (q : SS), kX11_carry_59 q → F = fX11_carry_59 q → Z p l e (zr 0 0 0) s m args below meth c 0 0 (MQ below (va_Qi (fun (x : Int32) (_ : Unit) => x = F.1) (fun _ t => (GM D kc ad) A F.2 t.heap) A) args s 0 0 A) 4 A (ZG D vwCl (wM kc ad) (fun _ tl => tl = []) A) q 59 [] [] := by
    intro q hok hF
    refine z_iconst (v := 1) hx hb dX11_carry_59 (by decide) ?_
    refine z_goto (tgt := 64) hx hb dX11_carry_60 (by decide) ?_
    exact b64 q 1 hok hF
  have b46 : ∀ (q : SS) (v0 : Int32) (v2 : Int32), kX11_carry_46 q v0 v2 → F = fX11_carry_46 q v0 v2 → Z p l e (zr 0 0 0) s m args below meth c 0 0 (MQ below (va_Qi (fun (x : Int32) (_ : Unit) => x = F.1) (fun _ t => (GM D kc ad) A F.2 t.heap) A) args s 0 0 A) 4 A (ZG D vwCl (wM kc ad) (fun _ tl => tl = []) A) q 46 [(0, .int v0), (2, .int v2)] [] := by
    intro q v0 v2 hok hF
    refine z_iload_n (j := 0) hx hb dX11_carry_46 rfl rfl ?_
    refine z_bipush (v := 7) hx hb dX11_carry_47 (by decide) ?_
    refine z_icmp_ne (tgt := 63) hx hb dX11_carry_49 (by decide) (fun g49 => ?_) (fun g49 => ?_)
    · have hF := hF.trans (if_neg g49)
      have hok := And.right hok g49
      refine z_sub [] rfl ?_
      exact b63 q hok hF
    · have hF := hF.trans (if_pos g49)
      have hok := And.left hok g49
      refine z_iload_n (j := 1) hx hb dX11_carry_52 rfl rfl ?_
      refine z_iconst (v := 2) hx hb dX11_carry_53 (by decide) ?_
      refine z_irem hx hb dX11_carry_54 (by decide) ?_
      refine z_iconst (v := 1) hx hb dX11_carry_55 (by decide) ?_
      refine z_icmp_ne (tgt := 63) hx hb dX11_carry_56 (by decide) (fun g56 => ?_) (fun g56 => ?_)
      · have hF := hF.trans (if_neg g56)
        have hok := And.right hok g56
        refine z_sub [] rfl ?_
        exact b63 q hok hF
      · have hF := hF.trans (if_pos g56)
        have hok := And.left hok g56
        refine z_sub [] rfl ?_
        exact b59 q hok hF
  have b36 : ∀ (q : SS) (v0 : Int32) (v2 : Int32), kX11_carry_36 q v0 v2 → F = fX11_carry_36 q v0 v2 → Z p l e (zr 0 0 0) s m args below meth c 0 0 (MQ below (va_Qi (fun (x : Int32) (_ : Unit) => x = F.1) (fun _ t => (GM D kc ad) A F.2 t.heap) A) args s 0 0 A) 4 A (ZG D vwCl (wM kc ad) (fun _ tl => tl = []) A) q 36 [(0, .int v0), (2, .int v2)] [] := by
    intro q v0 v2 hok hF
    refine z_iload_n (j := 0) hx hb dX11_carry_36 rfl rfl ?_
    refine z_bipush (v := 6) hx hb dX11_carry_37 (by decide) ?_
    refine z_icmp_ne (tgt := 46) hx hb dX11_carry_39 (by decide) (fun g39 => ?_) (fun g39 => ?_)
    · have hF := hF.trans (if_neg g39)
      have hok := And.right hok g39
      exact b46 q v0 v2 hok hF
    · have hF := hF.trans (if_pos g39)
      have hok := And.left hok g39
      refine z_iload_n (j := 1) hx hb dX11_carry_42 rfl rfl ?_
      refine z_if_eq (tgt := 59) hx hb dX11_carry_43 (by decide) (fun g43 => ?_) (fun g43 => ?_)
      · have hF := hF.trans (if_pos g43)
        have hok := And.left hok g43
        refine z_sub [] rfl ?_
        exact b59 q hok hF
      · have hF := hF.trans (if_neg g43)
        have hok := And.right hok g43
        exact b46 q v0 v2 hok hF
  have b24 : ∀ (q : SS) (v0 : Int32) (v2 : Int32), kX11_carry_24 q v0 v2 → F = fX11_carry_24 q v0 v2 → Z p l e (zr 0 0 0) s m args below meth c 0 0 (MQ below (va_Qi (fun (x : Int32) (_ : Unit) => x = F.1) (fun _ t => (GM D kc ad) A F.2 t.heap) A) args s 0 0 A) 4 A (ZG D vwCl (wM kc ad) (fun _ tl => tl = []) A) q 24 [(0, .int v0), (2, .int v2)] [] := by
    intro q v0 v2 hok hF
    refine z_iload_n (j := 0) hx hb dX11_carry_24 rfl rfl ?_
    refine z_iconst (v := 5) hx hb dX11_carry_25 (by decide) ?_
    refine z_icmp_ne (tgt := 36) hx hb dX11_carry_26 (by decide) (fun g26 => ?_) (fun g26 => ?_)
    · have hF := hF.trans (if_neg g26)
      have hok := And.right hok g26
      exact b36 q v0 v2 hok hF
    · have hF := hF.trans (if_pos g26)
      have hok := And.left hok g26
      refine z_iload_n (j := 1) hx hb dX11_carry_29 rfl rfl ?_
      refine z_sipush (v := 255) hx hb dX11_carry_30 (by decide) ?_
      refine z_icmp_eq (tgt := 59) hx hb dX11_carry_33 (by decide) (fun g33 => ?_) (fun g33 => ?_)
      · have hF := hF.trans (if_pos g33)
        have hok := And.left hok g33
        refine z_sub [] rfl ?_
        exact b59 q hok hF
      · have hF := hF.trans (if_neg g33)
        have hok := And.right hok g33
        exact b36 q v0 v2 hok hF
  have b14 : ∀ (q : SS) (v0 : Int32) (v1 : Int32) (v2 : Int32), kX11_carry_14 q v0 v1 v2 → F = fX11_carry_14 q v0 v1 v2 → Z p l e (zr 0 0 0) s m args below meth c 0 0 (MQ below (va_Qi (fun (x : Int32) (_ : Unit) => x = F.1) (fun _ t => (GM D kc ad) A F.2 t.heap) A) args s 0 0 A) 4 A (ZG D vwCl (wM kc ad) (fun _ tl => tl = []) A) q 14 [(0, .int v0), (1, .int v1), (2, .int v2)] [] := by
    intro q v0 v1 v2 hok hF
    refine z_iload_n (j := 0) hx hb dX11_carry_14 rfl rfl ?_
    refine z_iconst (v := 2) hx hb dX11_carry_15 (by decide) ?_
    refine z_icmp_ne (tgt := 24) hx hb dX11_carry_16 (by decide) (fun g16 => ?_) (fun g16 => ?_)
    · have hF := hF.trans (if_neg g16)
      have hok := And.right hok g16
      refine z_sub [0, 2] rfl ?_
      exact b24 q v0 v2 hok hF
    · have hF := hF.trans (if_pos g16)
      have hok := And.left hok g16
      refine z_iload_n (j := 1) hx hb dX11_carry_19 rfl rfl ?_
      refine z_iload_n (j := 2) hx hb dX11_carry_20 rfl rfl ?_
      refine z_icmp_lt (tgt := 59) hx hb dX11_carry_21 (by decide) (fun g21 => ?_) (fun g21 => ?_)
      · have hF := hF.trans (if_pos g21)
        have hok := And.left hok g21
        refine z_sub [] rfl ?_
        exact b59 q hok hF
      · have hF := hF.trans (if_neg g21)
        have hok := And.right hok g21
        refine z_sub [0, 2] rfl ?_
        exact b24 q v0 v2 hok hF
  refine z_iload_n (j := 0) hx hb dX11_carry_0 rfl rfl ?_
  refine z_iconst (v := 1) hx hb dX11_carry_1 (by decide) ?_
  refine z_icmp_ne (tgt := 14) hx hb dX11_carry_2 (by decide) (fun g2 => ?_) (fun g2 => ?_)
  · have hF := hF.trans (if_neg g2)
    have hok := And.right hok g2
    exact b14 q v0 v1 v2 hok hF
  · have hF := hF.trans (if_pos g2)
    have hok := And.left hok g2
    refine z_iload_n (j := 1) hx hb dX11_carry_5 rfl rfl ?_
    refine z_iload_n (j := 2) hx hb dX11_carry_6 rfl rfl ?_
    refine z_iadd hx hb dX11_carry_7 ?_
    refine z_sipush (v := 255) hx hb dX11_carry_8 (by decide) ?_
    refine z_icmp_gt (tgt := 59) hx hb dX11_carry_11 (by decide) (fun g11 => ?_) (fun g11 => ?_)
    · have hF := hF.trans (if_pos g11)
      have hok := And.left hok g11
      refine z_sub [] rfl ?_
      exact b59 q hok hF
    · have hF := hF.trans (if_neg g11)
      have hok := And.right hok g11
      exact b14 q v0 v1 v2 hok hF
theorem hX11_carry : yX11_carry.cls ≠ "java/lang/invoke/MethodHandle" ∧ yX11_carry.cls ≠ "java/lang/invoke/VarHandle" ∧ (parseMethodDescriptor yX11_carry.desc).map (fun d => d.parameters.length) = some 3 := by decide +kernel
def fX11_finds_63 (q : SS) (s0 : Int32) (s1 : Int32) : SS := (sI (sA q 15 (upd (gA q 15) (s1 : Int32).toNatClampNeg s0)) 16 ((gI q 16) + 1))
def kX11_finds_63 (q : SS) (s0 : Int32) (s1 : Int32) : Prop := vp_in s1 16 ∧ True
def fX11_finds_41 (q : SS) (s0 : Int32) (s1 : Int32) : SS := fX11_finds_63 (fX11_carry (sA q 15 (upd (gA q 15) (s1 : Int32).toNatClampNeg s0)) (gI q 18) (gI q 19) (gI q 20)).2 (fX11_carry (sA q 15 (upd (gA q 15) (s1 : Int32).toNatClampNeg s0)) (gI q 18) (gI q 19) (gI q 20)).1 6
def kX11_finds_41 (q : SS) (s0 : Int32) (s1 : Int32) : Prop := vp_in s1 16 ∧ kX11_carry (sA q 15 (upd (gA q 15) (s1 : Int32).toNatClampNeg s0)) (gI q 18) (gI q 19) (gI q 20) ∧ kX11_finds_63 (fX11_carry (sA q 15 (upd (gA q 15) (s1 : Int32).toNatClampNeg s0)) (gI q 18) (gI q 19) (gI q 20)).2 (fX11_carry (sA q 15 (upd (gA q 15) (s1 : Int32).toNatClampNeg s0)) (gI q 18) (gI q 19) (gI q 20)).1 6
def fX11_finds_33 (q : SS) (s0 : Int32) (s1 : Int32) : SS := (if s0 = 0 then fX11_finds_41 q 1 s1 else fX11_finds_41 q 0 s1)
def kX11_finds_33 (q : SS) (s0 : Int32) (s1 : Int32) : Prop := ((s0 = 0 → kX11_finds_41 q 1 s1) ∧ (¬ s0 = 0 → kX11_finds_41 q 0 s1))
def fX11_finds (q : SS) : SS := (if (gI q 26) = 0 then q else fX11_finds_33 (fX11_combined (sI q 26 0) (gI q 18) (gI q 19) (gI q 20)).2 (fX11_combined (sI q 26 0) (gI q 18) (gI q 19) (gI q 20)).1 5)
def kX11_finds (q : SS) : Prop := (((gI q 26) = 0 → True) ∧ (¬ (gI q 26) = 0 → kX11_combined (sI q 26 0) (gI q 18) (gI q 19) (gI q 20) ∧ kX11_finds_33 (fX11_combined (sI q 26 0) (gI q 18) (gI q 19) (gI q 20)).2 (fX11_combined (sI q 26 0) (gI q 18) (gI q 19) (gI q 20)).1 5))
set_option maxHeartbeats 4000000 in
set_option maxRecDepth 100000 in
theorem ctX11_finds (l : Launch) (D : va_G) (kc : Nat → ClassId) (ad : Nat → Nat) (q : SS) (hok : kX11_finds q) : Cv l yX11_finds (Cond.code yX11_finds cX11_finds 1 none :: lw_G) (zr 1 0 0) 0 0 (PM D kc) (GM D kc ad) (GM D kc ad) [.ref (ad 0)] q (fX11_finds q) := by
  refine Cv.of (cc := cX11_finds) (maxL := 1) (ret := none) (by decide) rfl (Nat.le_of_ble_eq_true rfl) ?_
  intro p e s m args below meth c A S hr hlocks hin hA hK
  have hx := S.1
  have hb := S.2.1
  have hK : va_K D vwCl (tysK kc) s := hK
  generalize hFe : fX11_finds q = F
  have hF : F = fX11_finds q := hFe.symm
  have b63 : ∀ (q : SS) (s0 : Int32) (s1 : Int32), kX11_finds_63 q s0 s1 → F = fX11_finds_63 q s0 s1 → Z p l e (zr 1 0 0) s m args below meth c 0 0 (MQ below (va_Qv (fun (_ : Unit) => True) (fun _ t => (GM D kc ad) A F t.heap) A) args s 0 0 A) 1 A (ZG D vwCl (wM kc ad) (fun _ tl => tl = []) A) q 63 [(0, .ref (ad 0))] [.int s0, .int s1, .ref (ad 15)] := by
    intro q s0 s1 hok hF
    have h63 := And.left hok
    have hok := And.right hok
    refine z_iast (f := (gA q 15)) (q' := (sA q 15 (upd (gA q 15) (s1 : Int32).toNatClampNeg s0))) S hK 15 0 (fun _ => rfl) rfl h63 dX11_finds_63 (wMa15 kc ad _ _) (fun _ h => h) ?_
    refine z_aload_n (j := 0) hx hb dX11_finds_64 rfl rfl ?_
    refine z_dup hx hb dX11_finds_65 rfl ?_
    refine z_get (v := .int (gI q 16)) S hK inX11 0 (fun _ => rfl) rfl 16 (by decide) q6_113 rfl rfl dX11_finds_66 ?_
    refine z_iconst (v := 1) hx hb dX11_finds_69 (by decide) ?_
    refine z_iadd hx hb dX11_finds_70 ?_
    refine z_put (v := .int ((gI q 16) + 1)) (q' := (sI (sA q 15 (upd (gA q 15) (s1 : Int32).toNatClampNeg s0)) 16 ((gI q 16) + 1))) S hK inX11 tyX11 tyX11_ok nmX11 0 (fun _ => rfl) rfl 16 (by decide) q6_113 rfl rfl rfl rfl (Nat.le_of_ble_eq_true rfl) dX11_finds_71 (wMp16 kc ad _ _) (fun _ h => h) ?_
    exact z_vret hx hb hlocks hr hF dX11_finds_74
  have b41 : ∀ (q : SS) (s0 : Int32) (s1 : Int32), kX11_finds_41 q s0 s1 → F = fX11_finds_41 q s0 s1 → Z p l e (zr 1 0 0) s m args below meth c 0 0 (MQ below (va_Qv (fun (_ : Unit) => True) (fun _ t => (GM D kc ad) A F t.heap) A) args s 0 0 A) 1 A (ZG D vwCl (wM kc ad) (fun _ tl => tl = []) A) q 41 [(0, .ref (ad 0))] [.int s0, .int s1, .ref (ad 15)] := by
    intro q s0 s1 hok hF
    have h41 := And.left hok
    have hok := And.right hok
    refine z_iast (f := (gA q 15)) (q' := (sA q 15 (upd (gA q 15) (s1 : Int32).toNatClampNeg s0))) S hK 15 0 (fun _ => rfl) rfl h41 dX11_finds_41 (wMa15 kc ad _ _) (fun _ h => h) ?_
    refine z_aload_n (j := 0) hx hb dX11_finds_42 rfl rfl ?_
    refine z_get (v := .ref (ad 15)) S hK inX11 0 (fun _ => rfl) rfl 42 (by decide) q6_139 rfl rfl dX11_finds_43 ?_
    refine z_bipush (v := 6) hx hb dX11_finds_46 (by decide) ?_
    refine z_aload_n (j := 0) hx hb dX11_finds_48 rfl rfl ?_
    refine z_get (v := .int (gI q 18)) S hK inX11 0 (fun _ => rfl) rfl 18 (by decide) q6_115 rfl rfl dX11_finds_49 ?_
    refine z_aload_n (j := 0) hx hb dX11_finds_52 rfl rfl ?_
    refine z_get (v := .int (gI q 19)) S hK inX11 0 (fun _ => rfl) rfl 19 (by decide) q6_116 rfl rfl dX11_finds_53 ?_
    refine z_aload_n (j := 0) hx hb dX11_finds_56 rfl rfl ?_
    refine z_get (v := .int (gI q 20)) S hK inX11 0 (fun _ => rfl) rfl 20 (by decide) q6_117 rfl rfl dX11_finds_57 ?_
    have h60 := And.left hok
    have hok := And.right hok
    refine z_callSi (As := [.int (gI q 18), .int (gI q 19), .int (gI q 20)]) S (ctX11_carry l D kc ad (sA q 15 (upd (gA q 15) (s1 : Int32).toNatClampNeg s0)) (gI q 18) (gI q 19) (gI q 20) h60) (va_cwS 3 S.2.2.2.2 (gS q7_164 q7_165 q1_12 q7_166) rfl rfl rfl hX11_carry ⟨Nat.le_of_ble_eq_true rfl, Nat.le_of_ble_eq_true rfl⟩) hA (pbM D kc) (psM hK) rfl rfl (Nat.le_of_ble_eq_true rfl) dX11_finds_60 ⟨Nat.le_of_ble_eq_true rfl, Nat.le_of_ble_eq_true rfl⟩ ?_
    exact b63 (fX11_carry (sA q 15 (upd (gA q 15) (s1 : Int32).toNatClampNeg s0)) (gI q 18) (gI q 19) (gI q 20)).2 (fX11_carry (sA q 15 (upd (gA q 15) (s1 : Int32).toNatClampNeg s0)) (gI q 18) (gI q 19) (gI q 20)).1 6 hok hF
  have b33 : ∀ (q : SS) (s0 : Int32) (s1 : Int32), kX11_finds_33 q s0 s1 → F = fX11_finds_33 q s0 s1 → Z p l e (zr 1 0 0) s m args below meth c 0 0 (MQ below (va_Qv (fun (_ : Unit) => True) (fun _ t => (GM D kc ad) A F t.heap) A) args s 0 0 A) 1 A (ZG D vwCl (wM kc ad) (fun _ tl => tl = []) A) q 33 [(0, .ref (ad 0))] [.int s0, .int s1, .ref (ad 15)] := by
    intro q s0 s1 hok hF
    refine z_if_ne (tgt := 40) hx hb dX11_finds_33 (by decide) (fun g33 => ?_) (fun g33 => ?_)
    · have hF := hF.trans (if_neg g33)
      have hok := And.right hok g33
      refine z_iconst (v := 0) hx hb dX11_finds_40 (by decide) ?_
      exact b41 q 0 s1 hok hF
    · have hF := hF.trans (if_pos g33)
      have hok := And.left hok g33
      refine z_iconst (v := 1) hx hb dX11_finds_36 (by decide) ?_
      refine z_goto (tgt := 41) hx hb dX11_finds_37 (by decide) ?_
      exact b41 q 1 s1 hok hF
  refine z_aload_n (j := 0) hx hb dX11_finds_0 rfl rfl ?_
  refine z_get (v := .int (gI q 26)) S hK inX11 0 (fun _ => rfl) rfl 26 (by decide) q6_123 rfl rfl dX11_finds_1 ?_
  refine z_if_ne (tgt := 8) hx hb dX11_finds_4 (by decide) (fun g4 => ?_) (fun g4 => ?_)
  · have hF := hF.trans (if_neg g4)
    have hok := And.right hok g4
    refine z_aload_n (j := 0) hx hb dX11_finds_8 rfl rfl ?_
    refine z_iconst (v := 0) hx hb dX11_finds_9 (by decide) ?_
    refine z_put (v := .int 0) (q' := (sI q 26 0)) S hK inX11 tyX11 tyX11_ok nmX11 0 (fun _ => rfl) rfl 26 (by decide) q6_123 rfl rfl rfl rfl (Nat.le_of_ble_eq_true rfl) dX11_finds_10 (wMp26 kc ad _ _) (fun _ h => h) ?_
    refine z_aload_n (j := 0) hx hb dX11_finds_13 rfl rfl ?_
    refine z_get (v := .ref (ad 15)) S hK inX11 0 (fun _ => rfl) rfl 42 (by decide) q6_139 rfl rfl dX11_finds_14 ?_
    refine z_iconst (v := 5) hx hb dX11_finds_17 (by decide) ?_
    refine z_aload_n (j := 0) hx hb dX11_finds_18 rfl rfl ?_
    refine z_get (v := .int (gI q 18)) S hK inX11 0 (fun _ => rfl) rfl 18 (by decide) q6_115 rfl rfl dX11_finds_19 ?_
    refine z_aload_n (j := 0) hx hb dX11_finds_22 rfl rfl ?_
    refine z_get (v := .int (gI q 19)) S hK inX11 0 (fun _ => rfl) rfl 19 (by decide) q6_116 rfl rfl dX11_finds_23 ?_
    refine z_aload_n (j := 0) hx hb dX11_finds_26 rfl rfl ?_
    refine z_get (v := .int (gI q 20)) S hK inX11 0 (fun _ => rfl) rfl 20 (by decide) q6_117 rfl rfl dX11_finds_27 ?_
    have h30 := And.left hok
    have hok := And.right hok
    refine z_callSi (As := [.int (gI q 18), .int (gI q 19), .int (gI q 20)]) S (ctX11_combined l D kc ad (sI q 26 0) (gI q 18) (gI q 19) (gI q 20) h30) (va_cwS 3 S.2.2.2.2 (gS q7_133 q7_134 q1_12 q7_135) rfl rfl rfl hX11_combined ⟨Nat.le_of_ble_eq_true rfl, Nat.le_of_ble_eq_true rfl⟩) hA (pbM D kc) (psM hK) rfl rfl (Nat.le_of_ble_eq_true rfl) dX11_finds_30 ⟨Nat.le_of_ble_eq_true rfl, Nat.le_of_ble_eq_true rfl⟩ ?_
    exact b33 (fX11_combined (sI q 26 0) (gI q 18) (gI q 19) (gI q 20)).2 (fX11_combined (sI q 26 0) (gI q 18) (gI q 19) (gI q 20)).1 5 hok hF
  · have hF := hF.trans (if_pos g4)
    have hok := And.left hok g4
    exact z_vret hx hb hlocks hr hF dX11_finds_7
theorem hX11_finds : yX11_finds.cls = RX11 ∧ yX11_finds.cls ≠ "java/lang/invoke/MethodHandle" ∧ yX11_finds.cls ≠ "java/lang/invoke/VarHandle" ∧ (parseMethodDescriptor yX11_finds.desc).map (fun d => d.parameters.length) = some 0 := by decide +kernel
def fX11_registerOf_60 (q : SS) (s0 : Int32) : Int32 × SS := (s0, q)
def kX11_registerOf_60 (q : SS) (s0 : Int32) : Prop := True
def fX11_registerOf_32 (q : SS) (s0 : Int32) : Int32 × SS := (if s0 = 0 then fX11_registerOf_60 q ((((gA q 15) (14 : Int32).toNatClampNeg) / 4) - (((gA q 15) (14 : Int32).toNatClampNeg) / 4) / 4 * 4) else fX11_registerOf_60 q (((gA q 15) (14 : Int32).toNatClampNeg) - ((gA q 15) (14 : Int32).toNatClampNeg) / 4 * 4))
def kX11_registerOf_32 (q : SS) (s0 : Int32) : Prop := ((s0 = 0 → kX11_registerOf_60 q ((((gA q 15) (14 : Int32).toNatClampNeg) / 4) - (((gA q 15) (14 : Int32).toNatClampNeg) / 4) / 4 * 4)) ∧ (¬ s0 = 0 → kX11_registerOf_60 q (((gA q 15) (14 : Int32).toNatClampNeg) - ((gA q 15) (14 : Int32).toNatClampNeg) / 4 * 4)))
def fX11_registerOf_24 (q : SS) (s0 : Int32) (s1 : Int32) : Int32 × SS := (if s1 = s0 then fX11_registerOf_32 q 1 else fX11_registerOf_32 q 0)
def kX11_registerOf_24 (q : SS) (s0 : Int32) (s1 : Int32) : Prop := ((s1 = s0 → kX11_registerOf_32 q 1) ∧ (¬ s1 = s0 → kX11_registerOf_32 q 0))
def fX11_registerOf_9 (q : SS) (s0 : Int32) : Int32 × SS := (if ((gA q 15) (15 : Int32).toNatClampNeg) = 0 then fX11_registerOf_24 q 1 s0 else fX11_registerOf_24 q 0 s0)
def kX11_registerOf_9 (q : SS) (s0 : Int32) : Prop := ((((gA q 15) (15 : Int32).toNatClampNeg) = 0 → kX11_registerOf_24 q 1 s0) ∧ (¬ ((gA q 15) (15 : Int32).toNatClampNeg) = 0 → kX11_registerOf_24 q 0 s0))
def fX11_registerOf (q : SS) (v1 : Int32) : Int32 × SS := (if v1 = 0 then fX11_registerOf_9 q 1 else fX11_registerOf_9 q 0)
def kX11_registerOf (q : SS) (v1 : Int32) : Prop := ((v1 = 0 → kX11_registerOf_9 q 1) ∧ (¬ v1 = 0 → kX11_registerOf_9 q 0))
set_option maxHeartbeats 4000000 in
set_option maxRecDepth 100000 in
theorem ctX11_registerOf (l : Launch) (D : va_G) (kc : Nat → ClassId) (ad : Nat → Nat) (q : SS) (v1 : Int32) (hok : kX11_registerOf q v1) : Ci l yX11_registerOf (Cond.code yX11_registerOf cX11_registerOf 3 (some .int) :: lw_G) (zr 0 0 0) 0 0 (PM D kc) (GM D kc ad) (GM D kc ad) [.ref (ad 0), .int v1] q (fX11_registerOf q v1) := by
  refine Ci.of (cc := cX11_registerOf) (maxL := 3) (ret := (some .int)) (by decide) rfl (Nat.le_of_ble_eq_true rfl) ?_
  intro p e s m args below meth c A S hr hlocks hin hA hK
  have hx := S.1
  have hb := S.2.1
  have hK : va_K D vwCl (tysK kc) s := hK
  generalize hFe : fX11_registerOf q v1 = F
  have hF : F = fX11_registerOf q v1 := hFe.symm
  have b60 : ∀ (q : SS) (s0 : Int32), kX11_registerOf_60 q s0 → F = fX11_registerOf_60 q s0 → Z p l e (zr 0 0 0) s m args below meth c 0 0 (MQ below (va_Qi (fun (x : Int32) (_ : Unit) => x = F.1) (fun _ t => (GM D kc ad) A F.2 t.heap) A) args s 0 0 A) 3 A (ZG D vwCl (wM kc ad) (fun _ tl => tl = []) A) q 60 [] [.int s0] := by
    intro q s0 hok hF
    exact z_iret hx hb hlocks hr rfl hF dX11_registerOf_60
  have b32 : ∀ (q : SS) (s0 : Int32), kX11_registerOf_32 q s0 → F = fX11_registerOf_32 q s0 → Z p l e (zr 0 0 0) s m args below meth c 0 0 (MQ below (va_Qi (fun (x : Int32) (_ : Unit) => x = F.1) (fun _ t => (GM D kc ad) A F.2 t.heap) A) args s 0 0 A) 3 A (ZG D vwCl (wM kc ad) (fun _ tl => tl = []) A) q 32 [(0, .ref (ad 0))] [.int s0] := by
    intro q s0 hok hF
    refine z_istore_n (lv' := [(2, .int s0), (0, .ref (ad 0))]) hx hb dX11_registerOf_32 rfl (by decide) rfl ?_
    refine z_iload_n (j := 0) hx hb dX11_registerOf_33 rfl rfl ?_
    refine z_if_eq (tgt := 49) hx hb dX11_registerOf_34 (by decide) (fun g34 => ?_) (fun g34 => ?_)
    · have hF := hF.trans (if_pos g34)
      have hok := And.left hok g34
      refine z_aload_n (j := 1) hx hb dX11_registerOf_49 rfl rfl ?_
      refine z_get (v := .ref (ad 15)) S hK inX11 0 (fun _ => rfl) rfl 42 (by decide) q6_139 rfl rfl dX11_registerOf_50 ?_
      refine z_bipush (v := 14) hx hb dX11_registerOf_53 (by decide) ?_
      refine z_iald (f := (gA q 15)) S hK 15 0 (fun _ => rfl) rfl (show ¬ (_ ∨ _) from by decide) dX11_registerOf_55 ?_
      refine z_iconst (v := 4) hx hb dX11_registerOf_56 (by decide) ?_
      refine z_idiv hx hb dX11_registerOf_57 (by decide) ?_
      refine z_iconst (v := 4) hx hb dX11_registerOf_58 (by decide) ?_
      refine z_irem hx hb dX11_registerOf_59 (by decide) ?_
      refine z_sub [] rfl ?_
      exact b60 q ((((gA q 15) (14 : Int32).toNatClampNeg) / 4) - (((gA q 15) (14 : Int32).toNatClampNeg) / 4) / 4 * 4) hok hF
    · have hF := hF.trans (if_neg g34)
      have hok := And.right hok g34
      refine z_aload_n (j := 1) hx hb dX11_registerOf_37 rfl rfl ?_
      refine z_get (v := .ref (ad 15)) S hK inX11 0 (fun _ => rfl) rfl 42 (by decide) q6_139 rfl rfl dX11_registerOf_38 ?_
      refine z_bipush (v := 14) hx hb dX11_registerOf_41 (by decide) ?_
      refine z_iald (f := (gA q 15)) S hK 15 0 (fun _ => rfl) rfl (show ¬ (_ ∨ _) from by decide) dX11_registerOf_43 ?_
      refine z_iconst (v := 4) hx hb dX11_registerOf_44 (by decide) ?_
      refine z_irem hx hb dX11_registerOf_45 (by decide) ?_
      refine z_goto (tgt := 60) hx hb dX11_registerOf_46 (by decide) ?_
      refine z_sub [] rfl ?_
      exact b60 q (((gA q 15) (14 : Int32).toNatClampNeg) - ((gA q 15) (14 : Int32).toNatClampNeg) / 4 * 4) hok hF
  have b24 : ∀ (q : SS) (s0 : Int32) (s1 : Int32), kX11_registerOf_24 q s0 s1 → F = fX11_registerOf_24 q s0 s1 → Z p l e (zr 0 0 0) s m args below meth c 0 0 (MQ below (va_Qi (fun (x : Int32) (_ : Unit) => x = F.1) (fun _ t => (GM D kc ad) A F.2 t.heap) A) args s 0 0 A) 3 A (ZG D vwCl (wM kc ad) (fun _ tl => tl = []) A) q 24 [(0, .ref (ad 0))] [.int s0, .int s1] := by
    intro q s0 s1 hok hF
    refine z_icmp_ne (tgt := 31) hx hb dX11_registerOf_24 (by decide) (fun g24 => ?_) (fun g24 => ?_)
    · have hF := hF.trans (if_neg g24)
      have hok := And.right hok g24
      refine z_iconst (v := 0) hx hb dX11_registerOf_31 (by decide) ?_
      exact b32 q 0 hok hF
    · have hF := hF.trans (if_pos g24)
      have hok := And.left hok g24
      refine z_iconst (v := 1) hx hb dX11_registerOf_27 (by decide) ?_
      refine z_goto (tgt := 32) hx hb dX11_registerOf_28 (by decide) ?_
      exact b32 q 1 hok hF
  have b9 : ∀ (q : SS) (s0 : Int32), kX11_registerOf_9 q s0 → F = fX11_registerOf_9 q s0 → Z p l e (zr 0 0 0) s m args below meth c 0 0 (MQ below (va_Qi (fun (x : Int32) (_ : Unit) => x = F.1) (fun _ t => (GM D kc ad) A F.2 t.heap) A) args s 0 0 A) 3 A (ZG D vwCl (wM kc ad) (fun _ tl => tl = []) A) q 9 [(0, .ref (ad 0))] [.int s0] := by
    intro q s0 hok hF
    refine z_aload_n (j := 0) hx hb dX11_registerOf_9 rfl rfl ?_
    refine z_get (v := .ref (ad 15)) S hK inX11 0 (fun _ => rfl) rfl 42 (by decide) q6_139 rfl rfl dX11_registerOf_10 ?_
    refine z_bipush (v := 15) hx hb dX11_registerOf_13 (by decide) ?_
    refine z_iald (f := (gA q 15)) S hK 15 0 (fun _ => rfl) rfl (show ¬ (_ ∨ _) from by decide) dX11_registerOf_15 ?_
    refine z_if_ne (tgt := 23) hx hb dX11_registerOf_16 (by decide) (fun g16 => ?_) (fun g16 => ?_)
    · have hF := hF.trans (if_neg g16)
      have hok := And.right hok g16
      refine z_iconst (v := 0) hx hb dX11_registerOf_23 (by decide) ?_
      exact b24 q 0 s0 hok hF
    · have hF := hF.trans (if_pos g16)
      have hok := And.left hok g16
      refine z_iconst (v := 1) hx hb dX11_registerOf_19 (by decide) ?_
      refine z_goto (tgt := 24) hx hb dX11_registerOf_20 (by decide) ?_
      exact b24 q 1 s0 hok hF
  refine z_iload_n (j := 1) hx hb dX11_registerOf_0 rfl rfl ?_
  refine z_if_ne (tgt := 8) hx hb dX11_registerOf_1 (by decide) (fun g1 => ?_) (fun g1 => ?_)
  · have hF := hF.trans (if_neg g1)
    have hok := And.right hok g1
    refine z_iconst (v := 0) hx hb dX11_registerOf_8 (by decide) ?_
    refine z_sub [0] rfl ?_
    exact b9 q 0 hok hF
  · have hF := hF.trans (if_pos g1)
    have hok := And.left hok g1
    refine z_iconst (v := 1) hx hb dX11_registerOf_4 (by decide) ?_
    refine z_goto (tgt := 9) hx hb dX11_registerOf_5 (by decide) ?_
    refine z_sub [0] rfl ?_
    exact b9 q 1 hok hF
theorem hX11_registerOf : yX11_registerOf.cls = RX11 ∧ yX11_registerOf.cls ≠ "java/lang/invoke/MethodHandle" ∧ yX11_registerOf.cls ≠ "java/lang/invoke/VarHandle" ∧ (parseMethodDescriptor yX11_registerOf.desc).map (fun d => d.parameters.length) = some 1 := by decide +kernel
def fX11_listens_151 (q : SS) : SS := q
def kX11_listens_151 (q : SS) : Prop := True
def fX11_listens_134 (q : SS) (v2 : Int32) (v5 : Int32) : SS := (if (v5 &&& 128) = 0 then fX11_listens_151 q else fX11_listens_151 (sA q 15 (upd (gA q 15) (14 : Int32).toNatClampNeg v2)))
def kX11_listens_134 (q : SS) (v2 : Int32) (v5 : Int32) : Prop := (((v5 &&& 128) = 0 → kX11_listens_151 q) ∧ (¬ (v5 &&& 128) = 0 → kX11_listens_151 (sA q 15 (upd (gA q 15) (14 : Int32).toNatClampNeg v2))))
def fX11_listens_118 (q : SS) (v2 : Int32) (v4 : Int32) (v5 : Int32) : SS := (if (v5 &&& 64) = 0 then fX11_listens_134 q v2 v5 else fX11_listens_134 (sA q 15 (upd (gA q 15) (v4 : Int32).toNatClampNeg v2)) v2 v5)
def kX11_listens_118 (q : SS) (v2 : Int32) (v4 : Int32) (v5 : Int32) : Prop := (((v5 &&& 64) = 0 → kX11_listens_134 q v2 v5) ∧ (¬ (v5 &&& 64) = 0 → vp_in v4 16 ∧ kX11_listens_134 (sA q 15 (upd (gA q 15) (v4 : Int32).toNatClampNeg v2)) v2 v5))
def fX11_listens_103 (q : SS) (v2 : Int32) (v3 : Int32) (v4 : Int32) (v5 : Int32) : SS := (if (v5 &&& 32) = 0 then fX11_listens_118 q v2 v4 v5 else fX11_listens_118 (sA q 15 (upd (gA q 15) (v3 : Int32).toNatClampNeg v2)) v2 v4 v5)
def kX11_listens_103 (q : SS) (v2 : Int32) (v3 : Int32) (v4 : Int32) (v5 : Int32) : Prop := (((v5 &&& 32) = 0 → kX11_listens_118 q v2 v4 v5) ∧ (¬ (v5 &&& 32) = 0 → vp_in v3 16 ∧ kX11_listens_118 (sA q 15 (upd (gA q 15) (v3 : Int32).toNatClampNeg v2)) v2 v4 v5))
def fX11_listens_85 (q : SS) (v2 : Int32) (v3 : Int32) (v4 : Int32) (v5 : Int32) : SS := (if (v5 &&& 16) = 0 then fX11_listens_103 q v2 v3 v4 v5 else fX11_listens_103 (sA q 15 (upd (gA q 15) (4 : Int32).toNatClampNeg (v2 - v2 / 64 * 64))) v2 v3 v4 v5)
def kX11_listens_85 (q : SS) (v2 : Int32) (v3 : Int32) (v4 : Int32) (v5 : Int32) : Prop := (((v5 &&& 16) = 0 → kX11_listens_103 q v2 v3 v4 v5) ∧ (¬ (v5 &&& 16) = 0 → kX11_listens_103 (sA q 15 (upd (gA q 15) (4 : Int32).toNatClampNeg (v2 - v2 / 64 * 64))) v2 v3 v4 v5))
def fX11_listens_69 (q : SS) (v2 : Int32) (v3 : Int32) (v4 : Int32) (v5 : Int32) : SS := (if (v5 &&& 8) = 0 then fX11_listens_85 q v2 v3 v4 v5 else fX11_listens_85 (sA q 15 (upd (gA q 15) (13 : Int32).toNatClampNeg v2)) v2 v3 v4 v5)
def kX11_listens_69 (q : SS) (v2 : Int32) (v3 : Int32) (v4 : Int32) (v5 : Int32) : Prop := (((v5 &&& 8) = 0 → kX11_listens_85 q v2 v3 v4 v5) ∧ (¬ (v5 &&& 8) = 0 → kX11_listens_85 (sA q 15 (upd (gA q 15) (13 : Int32).toNatClampNeg v2)) v2 v3 v4 v5))
def fX11_listens_51 (q : SS) (v2 : Int32) (v3 : Int32) (v4 : Int32) (v5 : Int32) : SS := (if (v5 &&& 4) = 0 then fX11_listens_69 q v2 v3 v4 v5 else fX11_listens_69 (sA q 15 (upd (gA q 15) (12 : Int32).toNatClampNeg (v2 - v2 / 64 * 64))) v2 v3 v4 v5)
def kX11_listens_51 (q : SS) (v2 : Int32) (v3 : Int32) (v4 : Int32) (v5 : Int32) : Prop := (((v5 &&& 4) = 0 → kX11_listens_69 q v2 v3 v4 v5) ∧ (¬ (v5 &&& 4) = 0 → kX11_listens_69 (sA q 15 (upd (gA q 15) (12 : Int32).toNatClampNeg (v2 - v2 / 64 * 64))) v2 v3 v4 v5))
def fX11_listens_36 (q : SS) (v2 : Int32) (v3 : Int32) (v4 : Int32) (v5 : Int32) : SS := (if (v5 &&& 2) = 0 then fX11_listens_51 q v2 v3 v4 v5 else fX11_listens_51 (sA q 15 (upd (gA q 15) (11 : Int32).toNatClampNeg v2)) v2 v3 v4 v5)
def kX11_listens_36 (q : SS) (v2 : Int32) (v3 : Int32) (v4 : Int32) (v5 : Int32) : Prop := (((v5 &&& 2) = 0 → kX11_listens_51 q v2 v3 v4 v5) ∧ (¬ (v5 &&& 2) = 0 → kX11_listens_51 (sA q 15 (upd (gA q 15) (11 : Int32).toNatClampNeg v2)) v2 v3 v4 v5))
def fX11_listens_11 (q : SS) (v1 : Int32) (v2 : Int32) (v3 : Int32) (s0 : Int32) : SS := (if (((gA q 3) (v1 : Int32).toNatClampNeg) &&& 1) = 0 then fX11_listens_36 q v2 v3 s0 ((gA q 3) (v1 : Int32).toNatClampNeg) else fX11_listens_36 (sA q 15 (upd (gA q 15) (10 : Int32).toNatClampNeg v2)) v2 v3 s0 ((gA q 3) (v1 : Int32).toNatClampNeg))
def kX11_listens_11 (q : SS) (v1 : Int32) (v2 : Int32) (v3 : Int32) (s0 : Int32) : Prop := vp_in v1 80 ∧ (((((gA q 3) (v1 : Int32).toNatClampNeg) &&& 1) = 0 → kX11_listens_36 q v2 v3 s0 ((gA q 3) (v1 : Int32).toNatClampNeg)) ∧ (¬ (((gA q 3) (v1 : Int32).toNatClampNeg) &&& 1) = 0 → kX11_listens_36 (sA q 15 (upd (gA q 15) (10 : Int32).toNatClampNeg v2)) v2 v3 s0 ((gA q 3) (v1 : Int32).toNatClampNeg)))
def fX11_listens_5 (q : SS) (v1 : Int32) (v2 : Int32) (s0 : Int32) : SS := fX11_listens_11 (fX11_registerOf q 1).2 v1 v2 s0 (fX11_registerOf q 1).1
def kX11_listens_5 (q : SS) (v1 : Int32) (v2 : Int32) (s0 : Int32) : Prop := kX11_registerOf q 1 ∧ kX11_listens_11 (fX11_registerOf q 1).2 v1 v2 s0 (fX11_registerOf q 1).1
def fX11_listens (q : SS) (v1 : Int32) (v2 : Int32) : SS := fX11_listens_5 (fX11_registerOf q 0).2 v1 v2 (fX11_registerOf q 0).1
def kX11_listens (q : SS) (v1 : Int32) (v2 : Int32) : Prop := kX11_registerOf q 0 ∧ kX11_listens_5 (fX11_registerOf q 0).2 v1 v2 (fX11_registerOf q 0).1
set_option maxHeartbeats 4000000 in
set_option maxRecDepth 100000 in
theorem ctX11_listens (l : Launch) (D : va_G) (kc : Nat → ClassId) (ad : Nat → Nat) (q : SS) (v1 : Int32) (v2 : Int32) (hok : kX11_listens q v1 v2) : Cv l yX11_listens (Cond.code yX11_listens cX11_listens 6 none :: lw_G) (zr 1 0 0) 0 0 (PM D kc) (GM D kc ad) (GM D kc ad) [.ref (ad 0), .int v1, .int v2] q (fX11_listens q v1 v2) := by
  refine Cv.of (cc := cX11_listens) (maxL := 6) (ret := none) (by decide) rfl (Nat.le_of_ble_eq_true rfl) ?_
  intro p e s m args below meth c A S hr hlocks hin hA hK
  have hx := S.1
  have hb := S.2.1
  have hK : va_K D vwCl (tysK kc) s := hK
  generalize hFe : fX11_listens q v1 v2 = F
  have hF : F = fX11_listens q v1 v2 := hFe.symm
  have b151 : ∀ (q : SS), kX11_listens_151 q → F = fX11_listens_151 q → Z p l e (zr 1 0 0) s m args below meth c 0 0 (MQ below (va_Qv (fun (_ : Unit) => True) (fun _ t => (GM D kc ad) A F t.heap) A) args s 0 0 A) 6 A (ZG D vwCl (wM kc ad) (fun _ tl => tl = []) A) q 151 [] [] := by
    intro q hok hF
    exact z_vret hx hb hlocks hr hF dX11_listens_151
  have b134 : ∀ (q : SS) (v2 : Int32) (v5 : Int32), kX11_listens_134 q v2 v5 → F = fX11_listens_134 q v2 v5 → Z p l e (zr 1 0 0) s m args below meth c 0 0 (MQ below (va_Qv (fun (_ : Unit) => True) (fun _ t => (GM D kc ad) A F t.heap) A) args s 0 0 A) 6 A (ZG D vwCl (wM kc ad) (fun _ tl => tl = []) A) q 134 [(0, .ref (ad 0)), (2, .int v2), (5, .int v5)] [] := by
    intro q v2 v5 hok hF
    refine z_iload (j := 2) hx hb dX11_listens_134 rfl ?_
    refine z_sipush (v := 128) hx hb dX11_listens_136 (by decide) ?_
    refine z_iand hx hb dX11_listens_139 ?_
    refine z_if_eq (tgt := 151) hx hb dX11_listens_140 (by decide) (fun g140 => ?_) (fun g140 => ?_)
    · have hF := hF.trans (if_pos g140)
      have hok := And.left hok g140
      refine z_sub [] rfl ?_
      exact b151 q hok hF
    · have hF := hF.trans (if_neg g140)
      have hok := And.right hok g140
      refine z_aload_n (j := 0) hx hb dX11_listens_143 rfl rfl ?_
      refine z_get (v := .ref (ad 15)) S hK inX11 0 (fun _ => rfl) rfl 42 (by decide) q6_139 rfl rfl dX11_listens_144 ?_
      refine z_bipush (v := 14) hx hb dX11_listens_147 (by decide) ?_
      refine z_iload_n (j := 1) hx hb dX11_listens_149 rfl rfl ?_
      refine z_iast (f := (gA q 15)) (q' := (sA q 15 (upd (gA q 15) (14 : Int32).toNatClampNeg v2))) S hK 15 0 (fun _ => rfl) rfl (show ¬ (_ ∨ _) from by decide) dX11_listens_150 (wMa15 kc ad _ _) (fun _ h => h) ?_
      refine z_sub [] rfl ?_
      exact b151 (sA q 15 (upd (gA q 15) (14 : Int32).toNatClampNeg v2)) hok hF
  have b118 : ∀ (q : SS) (v2 : Int32) (v4 : Int32) (v5 : Int32), kX11_listens_118 q v2 v4 v5 → F = fX11_listens_118 q v2 v4 v5 → Z p l e (zr 1 0 0) s m args below meth c 0 0 (MQ below (va_Qv (fun (_ : Unit) => True) (fun _ t => (GM D kc ad) A F t.heap) A) args s 0 0 A) 6 A (ZG D vwCl (wM kc ad) (fun _ tl => tl = []) A) q 118 [(0, .ref (ad 0)), (2, .int v2), (4, .int v4), (5, .int v5)] [] := by
    intro q v2 v4 v5 hok hF
    refine z_iload (j := 3) hx hb dX11_listens_118 rfl ?_
    refine z_bipush (v := 64) hx hb dX11_listens_120 (by decide) ?_
    refine z_iand hx hb dX11_listens_122 ?_
    refine z_if_eq (tgt := 134) hx hb dX11_listens_123 (by decide) (fun g123 => ?_) (fun g123 => ?_)
    · have hF := hF.trans (if_pos g123)
      have hok := And.left hok g123
      refine z_sub [0, 1, 3] rfl ?_
      exact b134 q v2 v5 hok hF
    · have hF := hF.trans (if_neg g123)
      have hok := And.right hok g123
      refine z_aload_n (j := 0) hx hb dX11_listens_126 rfl rfl ?_
      refine z_get (v := .ref (ad 15)) S hK inX11 0 (fun _ => rfl) rfl 42 (by decide) q6_139 rfl rfl dX11_listens_127 ?_
      refine z_iload (j := 2) hx hb dX11_listens_130 rfl ?_
      refine z_iload_n (j := 1) hx hb dX11_listens_132 rfl rfl ?_
      have h133 := And.left hok
      have hok := And.right hok
      refine z_iast (f := (gA q 15)) (q' := (sA q 15 (upd (gA q 15) (v4 : Int32).toNatClampNeg v2))) S hK 15 0 (fun _ => rfl) rfl h133 dX11_listens_133 (wMa15 kc ad _ _) (fun _ h => h) ?_
      refine z_sub [0, 1, 3] rfl ?_
      exact b134 (sA q 15 (upd (gA q 15) (v4 : Int32).toNatClampNeg v2)) v2 v5 hok hF
  have b103 : ∀ (q : SS) (v2 : Int32) (v3 : Int32) (v4 : Int32) (v5 : Int32), kX11_listens_103 q v2 v3 v4 v5 → F = fX11_listens_103 q v2 v3 v4 v5 → Z p l e (zr 1 0 0) s m args below meth c 0 0 (MQ below (va_Qv (fun (_ : Unit) => True) (fun _ t => (GM D kc ad) A F t.heap) A) args s 0 0 A) 6 A (ZG D vwCl (wM kc ad) (fun _ tl => tl = []) A) q 103 [(0, .ref (ad 0)), (2, .int v2), (3, .int v3), (4, .int v4), (5, .int v5)] [] := by
    intro q v2 v3 v4 v5 hok hF
    refine z_iload (j := 4) hx hb dX11_listens_103 rfl ?_
    refine z_bipush (v := 32) hx hb dX11_listens_105 (by decide) ?_
    refine z_iand hx hb dX11_listens_107 ?_
    refine z_if_eq (tgt := 118) hx hb dX11_listens_108 (by decide) (fun g108 => ?_) (fun g108 => ?_)
    · have hF := hF.trans (if_pos g108)
      have hok := And.left hok g108
      refine z_sub [0, 1, 3, 4] rfl ?_
      exact b118 q v2 v4 v5 hok hF
    · have hF := hF.trans (if_neg g108)
      have hok := And.right hok g108
      refine z_aload_n (j := 0) hx hb dX11_listens_111 rfl rfl ?_
      refine z_get (v := .ref (ad 15)) S hK inX11 0 (fun _ => rfl) rfl 42 (by decide) q6_139 rfl rfl dX11_listens_112 ?_
      refine z_iload_n (j := 2) hx hb dX11_listens_115 rfl rfl ?_
      refine z_iload_n (j := 1) hx hb dX11_listens_116 rfl rfl ?_
      have h117 := And.left hok
      have hok := And.right hok
      refine z_iast (f := (gA q 15)) (q' := (sA q 15 (upd (gA q 15) (v3 : Int32).toNatClampNeg v2))) S hK 15 0 (fun _ => rfl) rfl h117 dX11_listens_117 (wMa15 kc ad _ _) (fun _ h => h) ?_
      refine z_sub [0, 1, 3, 4] rfl ?_
      exact b118 (sA q 15 (upd (gA q 15) (v3 : Int32).toNatClampNeg v2)) v2 v4 v5 hok hF
  have b85 : ∀ (q : SS) (v2 : Int32) (v3 : Int32) (v4 : Int32) (v5 : Int32), kX11_listens_85 q v2 v3 v4 v5 → F = fX11_listens_85 q v2 v3 v4 v5 → Z p l e (zr 1 0 0) s m args below meth c 0 0 (MQ below (va_Qv (fun (_ : Unit) => True) (fun _ t => (GM D kc ad) A F t.heap) A) args s 0 0 A) 6 A (ZG D vwCl (wM kc ad) (fun _ tl => tl = []) A) q 85 [(0, .ref (ad 0)), (2, .int v2), (3, .int v3), (4, .int v4), (5, .int v5)] [] := by
    intro q v2 v3 v4 v5 hok hF
    refine z_iload (j := 4) hx hb dX11_listens_85 rfl ?_
    refine z_bipush (v := 16) hx hb dX11_listens_87 (by decide) ?_
    refine z_iand hx hb dX11_listens_89 ?_
    refine z_if_eq (tgt := 103) hx hb dX11_listens_90 (by decide) (fun g90 => ?_) (fun g90 => ?_)
    · have hF := hF.trans (if_pos g90)
      have hok := And.left hok g90
      exact b103 q v2 v3 v4 v5 hok hF
    · have hF := hF.trans (if_neg g90)
      have hok := And.right hok g90
      refine z_aload_n (j := 0) hx hb dX11_listens_93 rfl rfl ?_
      refine z_get (v := .ref (ad 15)) S hK inX11 0 (fun _ => rfl) rfl 42 (by decide) q6_139 rfl rfl dX11_listens_94 ?_
      refine z_iconst (v := 4) hx hb dX11_listens_97 (by decide) ?_
      refine z_iload_n (j := 1) hx hb dX11_listens_98 rfl rfl ?_
      refine z_bipush (v := 64) hx hb dX11_listens_99 (by decide) ?_
      refine z_irem hx hb dX11_listens_101 (by decide) ?_
      refine z_iast (f := (gA q 15)) (q' := (sA q 15 (upd (gA q 15) (4 : Int32).toNatClampNeg (v2 - v2 / 64 * 64)))) S hK 15 0 (fun _ => rfl) rfl (show ¬ (_ ∨ _) from by decide) dX11_listens_102 (wMa15 kc ad _ _) (fun _ h => h) ?_
      exact b103 (sA q 15 (upd (gA q 15) (4 : Int32).toNatClampNeg (v2 - v2 / 64 * 64))) v2 v3 v4 v5 hok hF
  have b69 : ∀ (q : SS) (v2 : Int32) (v3 : Int32) (v4 : Int32) (v5 : Int32), kX11_listens_69 q v2 v3 v4 v5 → F = fX11_listens_69 q v2 v3 v4 v5 → Z p l e (zr 1 0 0) s m args below meth c 0 0 (MQ below (va_Qv (fun (_ : Unit) => True) (fun _ t => (GM D kc ad) A F t.heap) A) args s 0 0 A) 6 A (ZG D vwCl (wM kc ad) (fun _ tl => tl = []) A) q 69 [(0, .ref (ad 0)), (2, .int v2), (3, .int v3), (4, .int v4), (5, .int v5)] [] := by
    intro q v2 v3 v4 v5 hok hF
    refine z_iload (j := 4) hx hb dX11_listens_69 rfl ?_
    refine z_bipush (v := 8) hx hb dX11_listens_71 (by decide) ?_
    refine z_iand hx hb dX11_listens_73 ?_
    refine z_if_eq (tgt := 85) hx hb dX11_listens_74 (by decide) (fun g74 => ?_) (fun g74 => ?_)
    · have hF := hF.trans (if_pos g74)
      have hok := And.left hok g74
      exact b85 q v2 v3 v4 v5 hok hF
    · have hF := hF.trans (if_neg g74)
      have hok := And.right hok g74
      refine z_aload_n (j := 0) hx hb dX11_listens_77 rfl rfl ?_
      refine z_get (v := .ref (ad 15)) S hK inX11 0 (fun _ => rfl) rfl 42 (by decide) q6_139 rfl rfl dX11_listens_78 ?_
      refine z_bipush (v := 13) hx hb dX11_listens_81 (by decide) ?_
      refine z_iload_n (j := 1) hx hb dX11_listens_83 rfl rfl ?_
      refine z_iast (f := (gA q 15)) (q' := (sA q 15 (upd (gA q 15) (13 : Int32).toNatClampNeg v2))) S hK 15 0 (fun _ => rfl) rfl (show ¬ (_ ∨ _) from by decide) dX11_listens_84 (wMa15 kc ad _ _) (fun _ h => h) ?_
      exact b85 (sA q 15 (upd (gA q 15) (13 : Int32).toNatClampNeg v2)) v2 v3 v4 v5 hok hF
  have b51 : ∀ (q : SS) (v2 : Int32) (v3 : Int32) (v4 : Int32) (v5 : Int32), kX11_listens_51 q v2 v3 v4 v5 → F = fX11_listens_51 q v2 v3 v4 v5 → Z p l e (zr 1 0 0) s m args below meth c 0 0 (MQ below (va_Qv (fun (_ : Unit) => True) (fun _ t => (GM D kc ad) A F t.heap) A) args s 0 0 A) 6 A (ZG D vwCl (wM kc ad) (fun _ tl => tl = []) A) q 51 [(0, .ref (ad 0)), (2, .int v2), (3, .int v3), (4, .int v4), (5, .int v5)] [] := by
    intro q v2 v3 v4 v5 hok hF
    refine z_iload (j := 4) hx hb dX11_listens_51 rfl ?_
    refine z_iconst (v := 4) hx hb dX11_listens_53 (by decide) ?_
    refine z_iand hx hb dX11_listens_54 ?_
    refine z_if_eq (tgt := 69) hx hb dX11_listens_55 (by decide) (fun g55 => ?_) (fun g55 => ?_)
    · have hF := hF.trans (if_pos g55)
      have hok := And.left hok g55
      exact b69 q v2 v3 v4 v5 hok hF
    · have hF := hF.trans (if_neg g55)
      have hok := And.right hok g55
      refine z_aload_n (j := 0) hx hb dX11_listens_58 rfl rfl ?_
      refine z_get (v := .ref (ad 15)) S hK inX11 0 (fun _ => rfl) rfl 42 (by decide) q6_139 rfl rfl dX11_listens_59 ?_
      refine z_bipush (v := 12) hx hb dX11_listens_62 (by decide) ?_
      refine z_iload_n (j := 1) hx hb dX11_listens_64 rfl rfl ?_
      refine z_bipush (v := 64) hx hb dX11_listens_65 (by decide) ?_
      refine z_irem hx hb dX11_listens_67 (by decide) ?_
      refine z_iast (f := (gA q 15)) (q' := (sA q 15 (upd (gA q 15) (12 : Int32).toNatClampNeg (v2 - v2 / 64 * 64)))) S hK 15 0 (fun _ => rfl) rfl (show ¬ (_ ∨ _) from by decide) dX11_listens_68 (wMa15 kc ad _ _) (fun _ h => h) ?_
      exact b69 (sA q 15 (upd (gA q 15) (12 : Int32).toNatClampNeg (v2 - v2 / 64 * 64))) v2 v3 v4 v5 hok hF
  have b36 : ∀ (q : SS) (v2 : Int32) (v3 : Int32) (v4 : Int32) (v5 : Int32), kX11_listens_36 q v2 v3 v4 v5 → F = fX11_listens_36 q v2 v3 v4 v5 → Z p l e (zr 1 0 0) s m args below meth c 0 0 (MQ below (va_Qv (fun (_ : Unit) => True) (fun _ t => (GM D kc ad) A F t.heap) A) args s 0 0 A) 6 A (ZG D vwCl (wM kc ad) (fun _ tl => tl = []) A) q 36 [(0, .ref (ad 0)), (2, .int v2), (3, .int v3), (4, .int v4), (5, .int v5)] [] := by
    intro q v2 v3 v4 v5 hok hF
    refine z_iload (j := 4) hx hb dX11_listens_36 rfl ?_
    refine z_iconst (v := 2) hx hb dX11_listens_38 (by decide) ?_
    refine z_iand hx hb dX11_listens_39 ?_
    refine z_if_eq (tgt := 51) hx hb dX11_listens_40 (by decide) (fun g40 => ?_) (fun g40 => ?_)
    · have hF := hF.trans (if_pos g40)
      have hok := And.left hok g40
      exact b51 q v2 v3 v4 v5 hok hF
    · have hF := hF.trans (if_neg g40)
      have hok := And.right hok g40
      refine z_aload_n (j := 0) hx hb dX11_listens_43 rfl rfl ?_
      refine z_get (v := .ref (ad 15)) S hK inX11 0 (fun _ => rfl) rfl 42 (by decide) q6_139 rfl rfl dX11_listens_44 ?_
      refine z_bipush (v := 11) hx hb dX11_listens_47 (by decide) ?_
      refine z_iload_n (j := 1) hx hb dX11_listens_49 rfl rfl ?_
      refine z_iast (f := (gA q 15)) (q' := (sA q 15 (upd (gA q 15) (11 : Int32).toNatClampNeg v2))) S hK 15 0 (fun _ => rfl) rfl (show ¬ (_ ∨ _) from by decide) dX11_listens_50 (wMa15 kc ad _ _) (fun _ h => h) ?_
      exact b51 (sA q 15 (upd (gA q 15) (11 : Int32).toNatClampNeg v2)) v2 v3 v4 v5 hok hF
  have b11 : ∀ (q : SS) (v1 : Int32) (v2 : Int32) (v3 : Int32) (s0 : Int32), kX11_listens_11 q v1 v2 v3 s0 → F = fX11_listens_11 q v1 v2 v3 s0 → Z p l e (zr 1 0 0) s m args below meth c 0 0 (MQ below (va_Qv (fun (_ : Unit) => True) (fun _ t => (GM D kc ad) A F t.heap) A) args s 0 0 A) 6 A (ZG D vwCl (wM kc ad) (fun _ tl => tl = []) A) q 11 [(0, .ref (ad 0)), (1, .int v1), (2, .int v2), (3, .int v3)] [.int s0] := by
    intro q v1 v2 v3 s0 hok hF
    refine z_istore (lv' := [(4, .int s0), (0, .ref (ad 0)), (1, .int v1), (2, .int v2), (3, .int v3)]) hx hb dX11_listens_11 (by decide) rfl ?_
    refine z_aload_n (j := 1) hx hb dX11_listens_13 rfl rfl ?_
    refine z_get (v := .ref (ad 3)) S hK inX11 0 (fun _ => rfl) rfl 30 (by decide) q6_127 rfl rfl dX11_listens_14 ?_
    refine z_iload_n (j := 2) hx hb dX11_listens_17 rfl rfl ?_
    have h18 := And.left hok
    have hok := And.right hok
    refine z_iald (f := (gA q 3)) S hK 3 0 (fun _ => rfl) rfl h18 dX11_listens_18 ?_
    refine z_istore (lv' := [(5, .int ((gA q 3) (v1 : Int32).toNatClampNeg)), (4, .int s0), (0, .ref (ad 0)), (1, .int v1), (2, .int v2), (3, .int v3)]) hx hb dX11_listens_19 (by decide) rfl ?_
    refine z_iload (j := 0) hx hb dX11_listens_21 rfl ?_
    refine z_iconst (v := 1) hx hb dX11_listens_23 (by decide) ?_
    refine z_iand hx hb dX11_listens_24 ?_
    refine z_if_eq (tgt := 36) hx hb dX11_listens_25 (by decide) (fun g25 => ?_) (fun g25 => ?_)
    · have hF := hF.trans (if_pos g25)
      have hok := And.left hok g25
      refine z_sub [2, 4, 5, 1, 0] rfl ?_
      exact b36 q v2 v3 s0 ((gA q 3) (v1 : Int32).toNatClampNeg) hok hF
    · have hF := hF.trans (if_neg g25)
      have hok := And.right hok g25
      refine z_aload_n (j := 2) hx hb dX11_listens_28 rfl rfl ?_
      refine z_get (v := .ref (ad 15)) S hK inX11 0 (fun _ => rfl) rfl 42 (by decide) q6_139 rfl rfl dX11_listens_29 ?_
      refine z_bipush (v := 10) hx hb dX11_listens_32 (by decide) ?_
      refine z_iload_n (j := 4) hx hb dX11_listens_34 rfl rfl ?_
      refine z_iast (f := (gA q 15)) (q' := (sA q 15 (upd (gA q 15) (10 : Int32).toNatClampNeg v2))) S hK 15 0 (fun _ => rfl) rfl (show ¬ (_ ∨ _) from by decide) dX11_listens_35 (wMa15 kc ad _ _) (fun _ h => h) ?_
      refine z_sub [2, 4, 5, 1, 0] rfl ?_
      exact b36 (sA q 15 (upd (gA q 15) (10 : Int32).toNatClampNeg v2)) v2 v3 s0 ((gA q 3) (v1 : Int32).toNatClampNeg) hok hF
  have b5 : ∀ (q : SS) (v1 : Int32) (v2 : Int32) (s0 : Int32), kX11_listens_5 q v1 v2 s0 → F = fX11_listens_5 q v1 v2 s0 → Z p l e (zr 1 0 0) s m args below meth c 0 0 (MQ below (va_Qv (fun (_ : Unit) => True) (fun _ t => (GM D kc ad) A F t.heap) A) args s 0 0 A) 6 A (ZG D vwCl (wM kc ad) (fun _ tl => tl = []) A) q 5 [(0, .ref (ad 0)), (1, .int v1), (2, .int v2)] [.int s0] := by
    intro q v1 v2 s0 hok hF
    refine z_istore_n (lv' := [(3, .int s0), (0, .ref (ad 0)), (1, .int v1), (2, .int v2)]) hx hb dX11_listens_5 rfl (by decide) rfl ?_
    refine z_aload_n (j := 1) hx hb dX11_listens_6 rfl rfl ?_
    refine z_iconst (v := 1) hx hb dX11_listens_7 (by decide) ?_
    have h8 := And.left hok
    have hok := And.right hok
    refine z_callVi (As := [.int 1]) S (ctX11_registerOf l D kc ad q 1 h8) (cwV 1 S.2.2.2.2 (gV q7_129 q7_131 qp3_0 q1_12 q7_132) rfl rfl rfl hX11_registerOf ⟨Nat.le_of_ble_eq_true rfl, Nat.le_of_ble_eq_true rfl⟩) hA (pbM D kc) (psM hK) (z_recv hK 0 (fun _ => rfl) rfl) rfl rfl (Nat.le_of_ble_eq_true rfl) dX11_listens_8 ⟨Nat.le_of_ble_eq_true rfl, Nat.le_of_ble_eq_true rfl⟩ ?_
    refine z_sub [1, 2, 3, 0] rfl ?_
    exact b11 (fX11_registerOf q 1).2 v1 v2 s0 (fX11_registerOf q 1).1 hok hF
  refine z_aload_n (j := 0) hx hb dX11_listens_0 rfl rfl ?_
  refine z_iconst (v := 0) hx hb dX11_listens_1 (by decide) ?_
  have h2 := And.left hok
  have hok := And.right hok
  refine z_callVi (As := [.int 0]) S (ctX11_registerOf l D kc ad q 0 h2) (cwV 1 S.2.2.2.2 (gV q7_129 q7_131 qp3_0 q1_12 q7_132) rfl rfl rfl hX11_registerOf ⟨Nat.le_of_ble_eq_true rfl, Nat.le_of_ble_eq_true rfl⟩) hA (pbM D kc) (psM hK) (z_recv hK 0 (fun _ => rfl) rfl) rfl rfl (Nat.le_of_ble_eq_true rfl) dX11_listens_2 ⟨Nat.le_of_ble_eq_true rfl, Nat.le_of_ble_eq_true rfl⟩ ?_
  exact b5 (fX11_registerOf q 0).2 v1 v2 (fX11_registerOf q 0).1 hok hF
theorem hX11_listens : yX11_listens.cls = RX11 ∧ yX11_listens.cls ≠ "java/lang/invoke/MethodHandle" ∧ yX11_listens.cls ≠ "java/lang/invoke/VarHandle" ∧ (parseMethodDescriptor yX11_listens.desc).map (fun d => d.parameters.length) = some 2 := by decide +kernel
def fX11_bits_107 (q : SS) (s0 : Int32) (s1 : Int32) : Int32 × SS := ((s1 ||| s0), q)
def kX11_bits_107 (q : SS) (s0 : Int32) (s1 : Int32) : Prop := True
def fX11_bits_106 (q : SS) (s0 : Int32) : Int32 × SS := fX11_bits_107 q 0 s0
def kX11_bits_106 (q : SS) (s0 : Int32) : Prop := kX11_bits_107 q 0 s0
def fX11_bits_70 (q : SS) (v1 : Int32) (s0 : Int32) (s1 : Int32) : Int32 × SS := (if (((gA q 6) (v1 : Int32).toNatClampNeg) &&& 4) = 0 then fX11_bits_106 q (s1 ||| s0) else (if (gI q 24) = 0 then fX11_bits_106 q (s1 ||| s0) else (if ((gA q 15) (8 : Int32).toNatClampNeg) = 1 then fX11_bits_107 q 4 (s1 ||| s0) else fX11_bits_106 q (s1 ||| s0))))
def kX11_bits_70 (q : SS) (v1 : Int32) (s0 : Int32) (s1 : Int32) : Prop := vp_in v1 80 ∧ (((((gA q 6) (v1 : Int32).toNatClampNeg) &&& 4) = 0 → kX11_bits_106 q (s1 ||| s0)) ∧ (¬ (((gA q 6) (v1 : Int32).toNatClampNeg) &&& 4) = 0 → (((gI q 24) = 0 → kX11_bits_106 q (s1 ||| s0)) ∧ (¬ (gI q 24) = 0 → ((((gA q 15) (8 : Int32).toNatClampNeg) = 1 → kX11_bits_107 q 4 (s1 ||| s0)) ∧ (¬ ((gA q 15) (8 : Int32).toNatClampNeg) = 1 → kX11_bits_106 q (s1 ||| s0)))))))
def fX11_bits_69 (q : SS) (v1 : Int32) (s0 : Int32) : Int32 × SS := fX11_bits_70 q v1 0 s0
def kX11_bits_69 (q : SS) (v1 : Int32) (s0 : Int32) : Prop := kX11_bits_70 q v1 0 s0
def fX11_bits_41 (q : SS) (v1 : Int32) (s0 : Int32) : Int32 × SS := (if (((gA q 6) (v1 : Int32).toNatClampNeg) &&& 2) = 0 then fX11_bits_69 q v1 s0 else (if ((gA q 15) (6 : Int32).toNatClampNeg) = 1 then fX11_bits_70 q v1 2 s0 else fX11_bits_69 q v1 s0))
def kX11_bits_41 (q : SS) (v1 : Int32) (s0 : Int32) : Prop := vp_in v1 80 ∧ (((((gA q 6) (v1 : Int32).toNatClampNeg) &&& 2) = 0 → kX11_bits_69 q v1 s0) ∧ (¬ (((gA q 6) (v1 : Int32).toNatClampNeg) &&& 2) = 0 → ((((gA q 15) (6 : Int32).toNatClampNeg) = 1 → kX11_bits_70 q v1 2 s0) ∧ (¬ ((gA q 15) (6 : Int32).toNatClampNeg) = 1 → kX11_bits_69 q v1 s0))))
def fX11_bits_40 (q : SS) (v1 : Int32) : Int32 × SS := fX11_bits_41 q v1 0
def kX11_bits_40 (q : SS) (v1 : Int32) : Prop := kX11_bits_41 q v1 0
def fX11_bits_15 (q : SS) (v1 : Int32) : Int32 × SS := (if (((gA q 6) (v1 : Int32).toNatClampNeg) &&& 1) = 0 then fX11_bits_40 q v1 else (if ((gA q 15) (5 : Int32).toNatClampNeg) = 1 then fX11_bits_41 q v1 1 else fX11_bits_40 q v1))
def kX11_bits_15 (q : SS) (v1 : Int32) : Prop := vp_in v1 80 ∧ (((((gA q 6) (v1 : Int32).toNatClampNeg) &&& 1) = 0 → kX11_bits_40 q v1) ∧ (¬ (((gA q 6) (v1 : Int32).toNatClampNeg) &&& 1) = 0 → ((((gA q 15) (5 : Int32).toNatClampNeg) = 1 → kX11_bits_41 q v1 1) ∧ (¬ ((gA q 15) (5 : Int32).toNatClampNeg) = 1 → kX11_bits_40 q v1))))
def fX11_bits (q : SS) (v1 : Int32) : Int32 × SS := (if (((gA q 6) (v1 : Int32).toNatClampNeg) &&& 3) = 0 then fX11_bits_15 q v1 else fX11_bits_15 (fX11_finds q) v1)
def kX11_bits (q : SS) (v1 : Int32) : Prop := vp_in v1 80 ∧ (((((gA q 6) (v1 : Int32).toNatClampNeg) &&& 3) = 0 → kX11_bits_15 q v1) ∧ (¬ (((gA q 6) (v1 : Int32).toNatClampNeg) &&& 3) = 0 → kX11_finds q ∧ kX11_bits_15 (fX11_finds q) v1))
set_option maxHeartbeats 4000000 in
set_option maxRecDepth 100000 in
theorem ctX11_bits (l : Launch) (D : va_G) (kc : Nat → ClassId) (ad : Nat → Nat) (q : SS) (v1 : Int32) (hok : kX11_bits q v1) : Ci l yX11_bits (Cond.code yX11_bits cX11_bits 3 (some .int) :: lw_G) (zr 2 0 0) 0 0 (PM D kc) (GM D kc ad) (GM D kc ad) [.ref (ad 0), .int v1] q (fX11_bits q v1) := by
  refine Ci.of (cc := cX11_bits) (maxL := 3) (ret := (some .int)) (by decide) rfl (Nat.le_of_ble_eq_true rfl) ?_
  intro p e s m args below meth c A S hr hlocks hin hA hK
  have hx := S.1
  have hb := S.2.1
  have hK : va_K D vwCl (tysK kc) s := hK
  generalize hFe : fX11_bits q v1 = F
  have hF : F = fX11_bits q v1 := hFe.symm
  have b107 : ∀ (q : SS) (s0 : Int32) (s1 : Int32), kX11_bits_107 q s0 s1 → F = fX11_bits_107 q s0 s1 → Z p l e (zr 2 0 0) s m args below meth c 0 0 (MQ below (va_Qi (fun (x : Int32) (_ : Unit) => x = F.1) (fun _ t => (GM D kc ad) A F.2 t.heap) A) args s 0 0 A) 3 A (ZG D vwCl (wM kc ad) (fun _ tl => tl = []) A) q 107 [] [.int s0, .int s1] := by
    intro q s0 s1 hok hF
    refine z_ior hx hb dX11_bits_107 ?_
    exact z_iret hx hb hlocks hr rfl hF dX11_bits_108
  have b106 : ∀ (q : SS) (s0 : Int32), kX11_bits_106 q s0 → F = fX11_bits_106 q s0 → Z p l e (zr 2 0 0) s m args below meth c 0 0 (MQ below (va_Qi (fun (x : Int32) (_ : Unit) => x = F.1) (fun _ t => (GM D kc ad) A F.2 t.heap) A) args s 0 0 A) 3 A (ZG D vwCl (wM kc ad) (fun _ tl => tl = []) A) q 106 [] [.int s0] := by
    intro q s0 hok hF
    refine z_iconst (v := 0) hx hb dX11_bits_106 (by decide) ?_
    exact b107 q 0 s0 hok hF
  have b70 : ∀ (q : SS) (v1 : Int32) (s0 : Int32) (s1 : Int32), kX11_bits_70 q v1 s0 s1 → F = fX11_bits_70 q v1 s0 s1 → Z p l e (zr 2 0 0) s m args below meth c 0 0 (MQ below (va_Qi (fun (x : Int32) (_ : Unit) => x = F.1) (fun _ t => (GM D kc ad) A F.2 t.heap) A) args s 0 0 A) 3 A (ZG D vwCl (wM kc ad) (fun _ tl => tl = []) A) q 70 [(0, .ref (ad 0)), (1, .int v1)] [.int s0, .int s1] := by
    intro q v1 s0 s1 hok hF
    refine z_ior hx hb dX11_bits_70 ?_
    refine z_istore_n (lv' := [(2, .int (s1 ||| s0)), (0, .ref (ad 0)), (1, .int v1)]) hx hb dX11_bits_71 rfl (by decide) rfl ?_
    refine z_iload_n (j := 0) hx hb dX11_bits_72 rfl rfl ?_
    refine z_aload_n (j := 1) hx hb dX11_bits_73 rfl rfl ?_
    refine z_get (v := .ref (ad 6)) S hK inX11 0 (fun _ => rfl) rfl 33 (by decide) q6_130 rfl rfl dX11_bits_74 ?_
    refine z_iload_n (j := 2) hx hb dX11_bits_77 rfl rfl ?_
    have h78 := And.left hok
    have hok := And.right hok
    refine z_iald (f := (gA q 6)) S hK 6 0 (fun _ => rfl) rfl h78 dX11_bits_78 ?_
    refine z_iconst (v := 4) hx hb dX11_bits_79 (by decide) ?_
    refine z_iand hx hb dX11_bits_80 ?_
    refine z_if_eq (tgt := 106) hx hb dX11_bits_81 (by decide) (fun g81 => ?_) (fun g81 => ?_)
    · have hF := hF.trans (if_pos g81)
      have hok := And.left hok g81
      refine z_sub [] rfl ?_
      exact b106 q (s1 ||| s0) hok hF
    · have hF := hF.trans (if_neg g81)
      have hok := And.right hok g81
      refine z_aload_n (j := 1) hx hb dX11_bits_84 rfl rfl ?_
      refine z_get (v := .int (gI q 24)) S hK inX11 0 (fun _ => rfl) rfl 24 (by decide) q6_121 rfl rfl dX11_bits_85 ?_
      refine z_if_eq (tgt := 106) hx hb dX11_bits_88 (by decide) (fun g88 => ?_) (fun g88 => ?_)
      · have hF := hF.trans (if_pos g88)
        have hok := And.left hok g88
        refine z_sub [] rfl ?_
        exact b106 q (s1 ||| s0) hok hF
      · have hF := hF.trans (if_neg g88)
        have hok := And.right hok g88
        refine z_aload_n (j := 1) hx hb dX11_bits_91 rfl rfl ?_
        refine z_get (v := .ref (ad 15)) S hK inX11 0 (fun _ => rfl) rfl 42 (by decide) q6_139 rfl rfl dX11_bits_92 ?_
        refine z_bipush (v := 8) hx hb dX11_bits_95 (by decide) ?_
        refine z_iald (f := (gA q 15)) S hK 15 0 (fun _ => rfl) rfl (show ¬ (_ ∨ _) from by decide) dX11_bits_97 ?_
        refine z_iconst (v := 1) hx hb dX11_bits_98 (by decide) ?_
        refine z_icmp_ne (tgt := 106) hx hb dX11_bits_99 (by decide) (fun g99 => ?_) (fun g99 => ?_)
        · have hF := hF.trans (if_neg g99)
          have hok := And.right hok g99
          refine z_sub [] rfl ?_
          exact b106 q (s1 ||| s0) hok hF
        · have hF := hF.trans (if_pos g99)
          have hok := And.left hok g99
          refine z_iconst (v := 4) hx hb dX11_bits_102 (by decide) ?_
          refine z_goto (tgt := 107) hx hb dX11_bits_103 (by decide) ?_
          refine z_sub [] rfl ?_
          exact b107 q 4 (s1 ||| s0) hok hF
  have b69 : ∀ (q : SS) (v1 : Int32) (s0 : Int32), kX11_bits_69 q v1 s0 → F = fX11_bits_69 q v1 s0 → Z p l e (zr 2 0 0) s m args below meth c 0 0 (MQ below (va_Qi (fun (x : Int32) (_ : Unit) => x = F.1) (fun _ t => (GM D kc ad) A F.2 t.heap) A) args s 0 0 A) 3 A (ZG D vwCl (wM kc ad) (fun _ tl => tl = []) A) q 69 [(0, .ref (ad 0)), (1, .int v1)] [.int s0] := by
    intro q v1 s0 hok hF
    refine z_iconst (v := 0) hx hb dX11_bits_69 (by decide) ?_
    exact b70 q v1 0 s0 hok hF
  have b41 : ∀ (q : SS) (v1 : Int32) (s0 : Int32), kX11_bits_41 q v1 s0 → F = fX11_bits_41 q v1 s0 → Z p l e (zr 2 0 0) s m args below meth c 0 0 (MQ below (va_Qi (fun (x : Int32) (_ : Unit) => x = F.1) (fun _ t => (GM D kc ad) A F.2 t.heap) A) args s 0 0 A) 3 A (ZG D vwCl (wM kc ad) (fun _ tl => tl = []) A) q 41 [(0, .ref (ad 0)), (1, .int v1)] [.int s0] := by
    intro q v1 s0 hok hF
    refine z_istore_n (lv' := [(2, .int s0), (0, .ref (ad 0)), (1, .int v1)]) hx hb dX11_bits_41 rfl (by decide) rfl ?_
    refine z_iload_n (j := 0) hx hb dX11_bits_42 rfl rfl ?_
    refine z_aload_n (j := 1) hx hb dX11_bits_43 rfl rfl ?_
    refine z_get (v := .ref (ad 6)) S hK inX11 0 (fun _ => rfl) rfl 33 (by decide) q6_130 rfl rfl dX11_bits_44 ?_
    refine z_iload_n (j := 2) hx hb dX11_bits_47 rfl rfl ?_
    have h48 := And.left hok
    have hok := And.right hok
    refine z_iald (f := (gA q 6)) S hK 6 0 (fun _ => rfl) rfl h48 dX11_bits_48 ?_
    refine z_iconst (v := 2) hx hb dX11_bits_49 (by decide) ?_
    refine z_iand hx hb dX11_bits_50 ?_
    refine z_if_eq (tgt := 69) hx hb dX11_bits_51 (by decide) (fun g51 => ?_) (fun g51 => ?_)
    · have hF := hF.trans (if_pos g51)
      have hok := And.left hok g51
      refine z_sub [1, 2] rfl ?_
      exact b69 q v1 s0 hok hF
    · have hF := hF.trans (if_neg g51)
      have hok := And.right hok g51
      refine z_aload_n (j := 1) hx hb dX11_bits_54 rfl rfl ?_
      refine z_get (v := .ref (ad 15)) S hK inX11 0 (fun _ => rfl) rfl 42 (by decide) q6_139 rfl rfl dX11_bits_55 ?_
      refine z_bipush (v := 6) hx hb dX11_bits_58 (by decide) ?_
      refine z_iald (f := (gA q 15)) S hK 15 0 (fun _ => rfl) rfl (show ¬ (_ ∨ _) from by decide) dX11_bits_60 ?_
      refine z_iconst (v := 1) hx hb dX11_bits_61 (by decide) ?_
      refine z_icmp_ne (tgt := 69) hx hb dX11_bits_62 (by decide) (fun g62 => ?_) (fun g62 => ?_)
      · have hF := hF.trans (if_neg g62)
        have hok := And.right hok g62
        refine z_sub [1, 2] rfl ?_
        exact b69 q v1 s0 hok hF
      · have hF := hF.trans (if_pos g62)
        have hok := And.left hok g62
        refine z_iconst (v := 2) hx hb dX11_bits_65 (by decide) ?_
        refine z_goto (tgt := 70) hx hb dX11_bits_66 (by decide) ?_
        refine z_sub [1, 2] rfl ?_
        exact b70 q v1 2 s0 hok hF
  have b40 : ∀ (q : SS) (v1 : Int32), kX11_bits_40 q v1 → F = fX11_bits_40 q v1 → Z p l e (zr 2 0 0) s m args below meth c 0 0 (MQ below (va_Qi (fun (x : Int32) (_ : Unit) => x = F.1) (fun _ t => (GM D kc ad) A F.2 t.heap) A) args s 0 0 A) 3 A (ZG D vwCl (wM kc ad) (fun _ tl => tl = []) A) q 40 [(0, .ref (ad 0)), (1, .int v1)] [] := by
    intro q v1 hok hF
    refine z_iconst (v := 0) hx hb dX11_bits_40 (by decide) ?_
    exact b41 q v1 0 hok hF
  have b15 : ∀ (q : SS) (v1 : Int32), kX11_bits_15 q v1 → F = fX11_bits_15 q v1 → Z p l e (zr 2 0 0) s m args below meth c 0 0 (MQ below (va_Qi (fun (x : Int32) (_ : Unit) => x = F.1) (fun _ t => (GM D kc ad) A F.2 t.heap) A) args s 0 0 A) 3 A (ZG D vwCl (wM kc ad) (fun _ tl => tl = []) A) q 15 [(0, .ref (ad 0)), (1, .int v1)] [] := by
    intro q v1 hok hF
    refine z_aload_n (j := 0) hx hb dX11_bits_15 rfl rfl ?_
    refine z_get (v := .ref (ad 6)) S hK inX11 0 (fun _ => rfl) rfl 33 (by decide) q6_130 rfl rfl dX11_bits_16 ?_
    refine z_iload_n (j := 1) hx hb dX11_bits_19 rfl rfl ?_
    have h20 := And.left hok
    have hok := And.right hok
    refine z_iald (f := (gA q 6)) S hK 6 0 (fun _ => rfl) rfl h20 dX11_bits_20 ?_
    refine z_iconst (v := 1) hx hb dX11_bits_21 (by decide) ?_
    refine z_iand hx hb dX11_bits_22 ?_
    refine z_if_eq (tgt := 40) hx hb dX11_bits_23 (by decide) (fun g23 => ?_) (fun g23 => ?_)
    · have hF := hF.trans (if_pos g23)
      have hok := And.left hok g23
      exact b40 q v1 hok hF
    · have hF := hF.trans (if_neg g23)
      have hok := And.right hok g23
      refine z_aload_n (j := 0) hx hb dX11_bits_26 rfl rfl ?_
      refine z_get (v := .ref (ad 15)) S hK inX11 0 (fun _ => rfl) rfl 42 (by decide) q6_139 rfl rfl dX11_bits_27 ?_
      refine z_iconst (v := 5) hx hb dX11_bits_30 (by decide) ?_
      refine z_iald (f := (gA q 15)) S hK 15 0 (fun _ => rfl) rfl (show ¬ (_ ∨ _) from by decide) dX11_bits_31 ?_
      refine z_iconst (v := 1) hx hb dX11_bits_32 (by decide) ?_
      refine z_icmp_ne (tgt := 40) hx hb dX11_bits_33 (by decide) (fun g33 => ?_) (fun g33 => ?_)
      · have hF := hF.trans (if_neg g33)
        have hok := And.right hok g33
        exact b40 q v1 hok hF
      · have hF := hF.trans (if_pos g33)
        have hok := And.left hok g33
        refine z_iconst (v := 1) hx hb dX11_bits_36 (by decide) ?_
        refine z_goto (tgt := 41) hx hb dX11_bits_37 (by decide) ?_
        exact b41 q v1 1 hok hF
  refine z_aload_n (j := 0) hx hb dX11_bits_0 rfl rfl ?_
  refine z_get (v := .ref (ad 6)) S hK inX11 0 (fun _ => rfl) rfl 33 (by decide) q6_130 rfl rfl dX11_bits_1 ?_
  refine z_iload_n (j := 1) hx hb dX11_bits_4 rfl rfl ?_
  have h5 := And.left hok
  have hok := And.right hok
  refine z_iald (f := (gA q 6)) S hK 6 0 (fun _ => rfl) rfl h5 dX11_bits_5 ?_
  refine z_iconst (v := 3) hx hb dX11_bits_6 (by decide) ?_
  refine z_iand hx hb dX11_bits_7 ?_
  refine z_if_eq (tgt := 15) hx hb dX11_bits_8 (by decide) (fun g8 => ?_) (fun g8 => ?_)
  · have hF := hF.trans (if_pos g8)
    have hok := And.left hok g8
    exact b15 q v1 hok hF
  · have hF := hF.trans (if_neg g8)
    have hok := And.right hok g8
    refine z_aload_n (j := 0) hx hb dX11_bits_11 rfl rfl ?_
    have h12 := And.left hok
    have hok := And.right hok
    refine z_callVv (As := []) S (ctX11_finds l D kc ad q h12) (cwV 0 S.2.2.2.2 (gV q7_160 q7_162 qp3_7 q1_12 q7_163) rfl rfl rfl hX11_finds ⟨Nat.le_of_ble_eq_true rfl, Nat.le_of_ble_eq_true rfl⟩) hA (pbM D kc) (psM hK) (z_recv hK 0 (fun _ => rfl) rfl) rfl rfl (Nat.le_of_ble_eq_true rfl) dX11_bits_12 ⟨Nat.le_of_ble_eq_true rfl, Nat.le_of_ble_eq_true rfl⟩ ?_
    exact b15 (fX11_finds q) v1 hok hF
theorem hX11_bits : yX11_bits.cls = RX11 ∧ yX11_bits.cls ≠ "java/lang/invoke/MethodHandle" ∧ yX11_bits.cls ≠ "java/lang/invoke/VarHandle" ∧ (parseMethodDescriptor yX11_bits.desc).map (fun d => d.parameters.length) = some 1 := by decide +kernel
def fX11_leads_131 (q : SS) (v1 : Int32) : Int32 × SS := (((gA q 5) (v1 : Int32).toNatClampNeg), (sI (sA q 19 (upd (gA q 19) ((gI q 7) : Int32).toNatClampNeg (v1 + 1))) 7 ((gI q 7) + 1)))
def kX11_leads_131 (q : SS) (v1 : Int32) : Prop := vp_in (gI q 7) 4 ∧ vp_in v1 80 ∧ True
def fX11_leads_101 : Nat → SS → Int32 → Int32 → Int32 × SS
  | 0, q, _, _ => (0, q)
  | n + 1, q, v1, v2 => (if 3 ≤ v2 then fX11_leads_131 (sI q 7 3) v1 else fX11_leads_101 n (sA q 19 (upd (gA q 19) (v2 : Int32).toNatClampNeg ((gA q 19) ((v2 + 1) : Int32).toNatClampNeg))) v1 (v2 + 1))
def kX11_leads_101 : Nat → SS → Int32 → Int32 → Prop
  | 0, _, _, _ => False
  | n + 1, q, v1, v2 => ((3 ≤ v2 → kX11_leads_131 (sI q 7 3) v1) ∧ (¬ 3 ≤ v2 → vp_in (v2 + 1) 4 ∧ vp_in v2 4 ∧ kX11_leads_101 n (sA q 19 (upd (gA q 19) (v2 : Int32).toNatClampNeg ((gA q 19) ((v2 + 1) : Int32).toNatClampNeg))) v1 (v2 + 1)))
def fX11_leads_40 (q : SS) (s0 : Int32) (s1 : Int32) : Int32 × SS := ((s1 ||| s0), q)
def kX11_leads_40 (q : SS) (s0 : Int32) (s1 : Int32) : Prop := True
def fX11_leads (q : SS) (v1 : Int32) : Int32 × SS := (if ((gA q 9) (v1 : Int32).toNatClampNeg) = 110 then (((gA q 5) (v1 : Int32).toNatClampNeg), q) else (if ((gA q 9) (v1 : Int32).toNatClampNeg) = 111 then fX11_leads_40 (fX11_bits q v1).2 (fX11_bits q v1).1 ((gA q 5) (v1 : Int32).toNatClampNeg) else (if ((gA q 9) (v1 : Int32).toNatClampNeg) = 100 then (((gA q 14) (((16 * ((gA q 15) (7 : Int32).toNatClampNeg)) + (((gA q 15) (14 : Int32).toNatClampNeg) / 16)) : Int32).toNatClampNeg), q) else (if ((gA q 9) (v1 : Int32).toNatClampNeg) = 99 then (if (gI q 7) = 4 then fX11_leads_101 130 q v1 0 else fX11_leads_131 q v1) else (if ((gA q 9) (v1 : Int32).toNatClampNeg) = 112 then (0, (sA q 15 (upd (gA q 15) (15 : Int32).toNatClampNeg (1 - ((gA q 15) (15 : Int32).toNatClampNeg))))) else (if (gI q 7) = 0 then ((-1), q) else (((gA q 19) (((gI q 7) - 1) : Int32).toNatClampNeg), (sI q 7 ((gI q 7) - 1)))))))))
def kX11_leads (q : SS) (v1 : Int32) : Prop := vp_in v1 80 ∧ ((((gA q 9) (v1 : Int32).toNatClampNeg) = 110 → vp_in v1 80 ∧ True) ∧ (¬ ((gA q 9) (v1 : Int32).toNatClampNeg) = 110 → vp_in v1 80 ∧ ((((gA q 9) (v1 : Int32).toNatClampNeg) = 111 → vp_in v1 80 ∧ kX11_bits q v1 ∧ kX11_leads_40 (fX11_bits q v1).2 (fX11_bits q v1).1 ((gA q 5) (v1 : Int32).toNatClampNeg)) ∧ (¬ ((gA q 9) (v1 : Int32).toNatClampNeg) = 111 → vp_in v1 80 ∧ ((((gA q 9) (v1 : Int32).toNatClampNeg) = 100 → vp_in ((16 * ((gA q 15) (7 : Int32).toNatClampNeg)) + (((gA q 15) (14 : Int32).toNatClampNeg) / 16)) 32 ∧ True) ∧ (¬ ((gA q 9) (v1 : Int32).toNatClampNeg) = 100 → vp_in v1 80 ∧ ((((gA q 9) (v1 : Int32).toNatClampNeg) = 99 → (((gI q 7) = 4 → kX11_leads_101 130 q v1 0) ∧ (¬ (gI q 7) = 4 → kX11_leads_131 q v1))) ∧ (¬ ((gA q 9) (v1 : Int32).toNatClampNeg) = 99 → vp_in v1 80 ∧ ((((gA q 9) (v1 : Int32).toNatClampNeg) = 112 → True) ∧ (¬ ((gA q 9) (v1 : Int32).toNatClampNeg) = 112 → (((gI q 7) = 0 → True) ∧ (¬ (gI q 7) = 0 → vp_in ((gI q 7) - 1) 4 ∧ True))))))))))))
set_option maxHeartbeats 4000000 in
set_option maxRecDepth 100000 in
theorem ctX11_leads (l : Launch) (D : va_G) (kc : Nat → ClassId) (ad : Nat → Nat) (q : SS) (v1 : Int32) (hok : kX11_leads q v1) : Ci l yX11_leads (Cond.code yX11_leads cX11_leads 3 (some .int) :: lw_G) (zr 3 0 0) 0 0 (PM D kc) (GM D kc ad) (GM D kc ad) [.ref (ad 0), .int v1] q (fX11_leads q v1) := by
  refine Ci.of (cc := cX11_leads) (maxL := 3) (ret := (some .int)) (by decide) rfl (Nat.le_of_ble_eq_true rfl) ?_
  intro p e s m args below meth c A S hr hlocks hin hA hK
  have hx := S.1
  have hb := S.2.1
  have hK : va_K D vwCl (tysK kc) s := hK
  generalize hFe : fX11_leads q v1 = F
  have hF : F = fX11_leads q v1 := hFe.symm
  have b131 : ∀ (q : SS) (v1 : Int32), kX11_leads_131 q v1 → F = fX11_leads_131 q v1 → Z p l e (zr 3 0 0) s m args below meth c 0 0 (MQ below (va_Qi (fun (x : Int32) (_ : Unit) => x = F.1) (fun _ t => (GM D kc ad) A F.2 t.heap) A) args s 0 0 A) 3 A (ZG D vwCl (wM kc ad) (fun _ tl => tl = []) A) q 131 [(0, .ref (ad 0)), (1, .int v1)] [] := by
    intro q v1 hok hF
    refine z_aload_n (j := 0) hx hb dX11_leads_131 rfl rfl ?_
    refine z_get (v := .ref (ad 19)) S hK inX11 0 (fun _ => rfl) rfl 46 (by decide) q6_143 rfl rfl dX11_leads_132 ?_
    refine z_aload_n (j := 0) hx hb dX11_leads_135 rfl rfl ?_
    refine z_get (v := .int (gI q 7)) S hK inX11 0 (fun _ => rfl) rfl 7 (by decide) q6_104 rfl rfl dX11_leads_136 ?_
    refine z_iload_n (j := 1) hx hb dX11_leads_139 rfl rfl ?_
    refine z_iconst (v := 1) hx hb dX11_leads_140 (by decide) ?_
    refine z_iadd hx hb dX11_leads_141 ?_
    have h142 := And.left hok
    have hok := And.right hok
    refine z_iast (f := (gA q 19)) (q' := (sA q 19 (upd (gA q 19) ((gI q 7) : Int32).toNatClampNeg (v1 + 1)))) S hK 19 0 (fun _ => rfl) rfl h142 dX11_leads_142 (wMa19 kc ad _ _) (fun _ h => h) ?_
    refine z_aload_n (j := 0) hx hb dX11_leads_143 rfl rfl ?_
    refine z_dup hx hb dX11_leads_144 rfl ?_
    refine z_get (v := .int (gI q 7)) S hK inX11 0 (fun _ => rfl) rfl 7 (by decide) q6_104 rfl rfl dX11_leads_145 ?_
    refine z_iconst (v := 1) hx hb dX11_leads_148 (by decide) ?_
    refine z_iadd hx hb dX11_leads_149 ?_
    refine z_put (v := .int ((gI q 7) + 1)) (q' := (sI (sA q 19 (upd (gA q 19) ((gI q 7) : Int32).toNatClampNeg (v1 + 1))) 7 ((gI q 7) + 1))) S hK inX11 tyX11 tyX11_ok nmX11 0 (fun _ => rfl) rfl 7 (by decide) q6_104 rfl rfl rfl rfl (Nat.le_of_ble_eq_true rfl) dX11_leads_150 (wMp7 kc ad _ _) (fun _ h => h) ?_
    refine z_aload_n (j := 0) hx hb dX11_leads_153 rfl rfl ?_
    refine z_get (v := .ref (ad 5)) S hK inX11 0 (fun _ => rfl) rfl 32 (by decide) q6_129 rfl rfl dX11_leads_154 ?_
    refine z_iload_n (j := 1) hx hb dX11_leads_157 rfl rfl ?_
    have h158 := And.left hok
    have hok := And.right hok
    refine z_iald (f := (gA q 5)) S hK 5 0 (fun _ => rfl) rfl h158 dX11_leads_158 ?_
    exact z_iret hx hb hlocks hr rfl hF dX11_leads_159
  have b101 : ∀ (n : Nat) (q : SS) (v1 : Int32) (v2 : Int32), kX11_leads_101 n q v1 v2 → F = fX11_leads_101 n q v1 v2 → Z p l e (zr 3 0 0) s m args below meth c 0 0 (MQ below (va_Qi (fun (x : Int32) (_ : Unit) => x = F.1) (fun _ t => (GM D kc ad) A F.2 t.heap) A) args s 0 0 A) 3 A (ZG D vwCl (wM kc ad) (fun _ tl => tl = []) A) q 101 [(0, .ref (ad 0)), (1, .int v1), (2, .int v2)] [] := by
    intro n
    induction n with
    | zero => intro q v1 v2 hok hF; exact False.elim hok
    | succ n ih =>
      intro q v1 v2 hok hF
      refine z_iload_n (j := 2) hx hb dX11_leads_101 rfl rfl ?_
      refine z_iconst (v := 3) hx hb dX11_leads_102 (by decide) ?_
      refine z_icmp_ge (tgt := 126) hx hb dX11_leads_103 (by decide) (fun g103 => ?_) (fun g103 => ?_)
      · have hF := hF.trans (if_pos g103)
        have hok := And.left hok g103
        refine z_aload_n (j := 0) hx hb dX11_leads_126 rfl rfl ?_
        refine z_iconst (v := 3) hx hb dX11_leads_127 (by decide) ?_
        refine z_put (v := .int 3) (q' := (sI q 7 3)) S hK inX11 tyX11 tyX11_ok nmX11 0 (fun _ => rfl) rfl 7 (by decide) q6_104 rfl rfl rfl rfl (Nat.le_of_ble_eq_true rfl) dX11_leads_128 (wMp7 kc ad _ _) (fun _ h => h) ?_
        refine z_sub [0, 1] rfl ?_
        exact b131 (sI q 7 3) v1 hok hF
      · have hF := hF.trans (if_neg g103)
        have hok := And.right hok g103
        refine z_aload_n (j := 0) hx hb dX11_leads_106 rfl rfl ?_
        refine z_get (v := .ref (ad 19)) S hK inX11 0 (fun _ => rfl) rfl 46 (by decide) q6_143 rfl rfl dX11_leads_107 ?_
        refine z_iload_n (j := 2) hx hb dX11_leads_110 rfl rfl ?_
        refine z_aload_n (j := 0) hx hb dX11_leads_111 rfl rfl ?_
        refine z_get (v := .ref (ad 19)) S hK inX11 0 (fun _ => rfl) rfl 46 (by decide) q6_143 rfl rfl dX11_leads_112 ?_
        refine z_iload_n (j := 2) hx hb dX11_leads_115 rfl rfl ?_
        refine z_iconst (v := 1) hx hb dX11_leads_116 (by decide) ?_
        refine z_iadd hx hb dX11_leads_117 ?_
        have h118 := And.left hok
        have hok := And.right hok
        refine z_iald (f := (gA q 19)) S hK 19 0 (fun _ => rfl) rfl h118 dX11_leads_118 ?_
        have h119 := And.left hok
        have hok := And.right hok
        refine z_iast (f := (gA q 19)) (q' := (sA q 19 (upd (gA q 19) (v2 : Int32).toNatClampNeg ((gA q 19) ((v2 + 1) : Int32).toNatClampNeg)))) S hK 19 0 (fun _ => rfl) rfl h119 dX11_leads_119 (wMa19 kc ad _ _) (fun _ h => h) ?_
        refine z_iinc (k := 2) (v := (v2 + 1)) (lv' := [(2, .int (v2 + 1)), (0, .ref (ad 0)), (1, .int v1)]) hx hb dX11_leads_120 rfl rfl (by decide) rfl ?_
        refine z_goto (tgt := 101) hx hb dX11_leads_123 (by decide) ?_
        refine z_sub [1, 2, 0] rfl ?_
        exact ih (sA q 19 (upd (gA q 19) (v2 : Int32).toNatClampNeg ((gA q 19) ((v2 + 1) : Int32).toNatClampNeg))) v1 (v2 + 1) hok hF
  have b40 : ∀ (q : SS) (s0 : Int32) (s1 : Int32), kX11_leads_40 q s0 s1 → F = fX11_leads_40 q s0 s1 → Z p l e (zr 3 0 0) s m args below meth c 0 0 (MQ below (va_Qi (fun (x : Int32) (_ : Unit) => x = F.1) (fun _ t => (GM D kc ad) A F.2 t.heap) A) args s 0 0 A) 3 A (ZG D vwCl (wM kc ad) (fun _ tl => tl = []) A) q 40 [] [.int s0, .int s1] := by
    intro q s0 s1 hok hF
    refine z_ior hx hb dX11_leads_40 ?_
    exact z_iret hx hb hlocks hr rfl hF dX11_leads_41
  refine z_aload_n (j := 0) hx hb dX11_leads_0 rfl rfl ?_
  refine z_get (v := .ref (ad 9)) S hK inX11 0 (fun _ => rfl) rfl 36 (by decide) q6_133 rfl rfl dX11_leads_1 ?_
  refine z_iload_n (j := 1) hx hb dX11_leads_4 rfl rfl ?_
  have h5 := And.left hok
  have hok := And.right hok
  refine z_cald (f := (gA q 9)) S hK 9 3 (fun _ => rfl) rfl h5 dX11_leads_5 ?_
  refine z_bipush (v := 110) hx hb dX11_leads_6 (by decide) ?_
  refine z_icmp_ne (tgt := 18) hx hb dX11_leads_8 (by decide) (fun g8 => ?_) (fun g8 => ?_)
  · have hF := hF.trans (if_neg g8)
    have hok := And.right hok g8
    refine z_aload_n (j := 0) hx hb dX11_leads_18 rfl rfl ?_
    refine z_get (v := .ref (ad 9)) S hK inX11 0 (fun _ => rfl) rfl 36 (by decide) q6_133 rfl rfl dX11_leads_19 ?_
    refine z_iload_n (j := 1) hx hb dX11_leads_22 rfl rfl ?_
    have h23 := And.left hok
    have hok := And.right hok
    refine z_cald (f := (gA q 9)) S hK 9 3 (fun _ => rfl) rfl h23 dX11_leads_23 ?_
    refine z_bipush (v := 111) hx hb dX11_leads_24 (by decide) ?_
    refine z_icmp_ne (tgt := 42) hx hb dX11_leads_26 (by decide) (fun g26 => ?_) (fun g26 => ?_)
    · have hF := hF.trans (if_neg g26)
      have hok := And.right hok g26
      refine z_aload_n (j := 0) hx hb dX11_leads_42 rfl rfl ?_
      refine z_get (v := .ref (ad 9)) S hK inX11 0 (fun _ => rfl) rfl 36 (by decide) q6_133 rfl rfl dX11_leads_43 ?_
      refine z_iload_n (j := 1) hx hb dX11_leads_46 rfl rfl ?_
      have h47 := And.left hok
      have hok := And.right hok
      refine z_cald (f := (gA q 9)) S hK 9 3 (fun _ => rfl) rfl h47 dX11_leads_47 ?_
      refine z_bipush (v := 100) hx hb dX11_leads_48 (by decide) ?_
      refine z_icmp_ne (tgt := 80) hx hb dX11_leads_50 (by decide) (fun g50 => ?_) (fun g50 => ?_)
      · have hF := hF.trans (if_neg g50)
        have hok := And.right hok g50
        refine z_aload_n (j := 0) hx hb dX11_leads_80 rfl rfl ?_
        refine z_get (v := .ref (ad 9)) S hK inX11 0 (fun _ => rfl) rfl 36 (by decide) q6_133 rfl rfl dX11_leads_81 ?_
        refine z_iload_n (j := 1) hx hb dX11_leads_84 rfl rfl ?_
        have h85 := And.left hok
        have hok := And.right hok
        refine z_cald (f := (gA q 9)) S hK 9 3 (fun _ => rfl) rfl h85 dX11_leads_85 ?_
        refine z_bipush (v := 99) hx hb dX11_leads_86 (by decide) ?_
        refine z_icmp_ne (tgt := 160) hx hb dX11_leads_88 (by decide) (fun g88 => ?_) (fun g88 => ?_)
        · have hF := hF.trans (if_neg g88)
          have hok := And.right hok g88
          refine z_aload_n (j := 0) hx hb dX11_leads_160 rfl rfl ?_
          refine z_get (v := .ref (ad 9)) S hK inX11 0 (fun _ => rfl) rfl 36 (by decide) q6_133 rfl rfl dX11_leads_161 ?_
          refine z_iload_n (j := 1) hx hb dX11_leads_164 rfl rfl ?_
          have h165 := And.left hok
          have hok := And.right hok
          refine z_cald (f := (gA q 9)) S hK 9 3 (fun _ => rfl) rfl h165 dX11_leads_165 ?_
          refine z_bipush (v := 112) hx hb dX11_leads_166 (by decide) ?_
          refine z_icmp_ne (tgt := 189) hx hb dX11_leads_168 (by decide) (fun g168 => ?_) (fun g168 => ?_)
          · have hF := hF.trans (if_neg g168)
            have hok := And.right hok g168
            refine z_aload_n (j := 0) hx hb dX11_leads_189 rfl rfl ?_
            refine z_get (v := .int (gI q 7)) S hK inX11 0 (fun _ => rfl) rfl 7 (by decide) q6_104 rfl rfl dX11_leads_190 ?_
            refine z_if_ne (tgt := 198) hx hb dX11_leads_193 (by decide) (fun g193 => ?_) (fun g193 => ?_)
            · have hF := hF.trans (if_neg g193)
              have hok := And.right hok g193
              refine z_aload_n (j := 0) hx hb dX11_leads_198 rfl rfl ?_
              refine z_dup hx hb dX11_leads_199 rfl ?_
              refine z_get (v := .int (gI q 7)) S hK inX11 0 (fun _ => rfl) rfl 7 (by decide) q6_104 rfl rfl dX11_leads_200 ?_
              refine z_iconst (v := 1) hx hb dX11_leads_203 (by decide) ?_
              refine z_isub hx hb dX11_leads_204 ?_
              refine z_put (v := .int ((gI q 7) - 1)) (q' := (sI q 7 ((gI q 7) - 1))) S hK inX11 tyX11 tyX11_ok nmX11 0 (fun _ => rfl) rfl 7 (by decide) q6_104 rfl rfl rfl rfl (Nat.le_of_ble_eq_true rfl) dX11_leads_205 (wMp7 kc ad _ _) (fun _ h => h) ?_
              refine z_aload_n (j := 0) hx hb dX11_leads_208 rfl rfl ?_
              refine z_get (v := .ref (ad 19)) S hK inX11 0 (fun _ => rfl) rfl 46 (by decide) q6_143 rfl rfl dX11_leads_209 ?_
              refine z_aload_n (j := 0) hx hb dX11_leads_212 rfl rfl ?_
              refine z_get (v := .int ((gI q 7) - 1)) S hK inX11 0 (fun _ => rfl) rfl 7 (by decide) q6_104 rfl rfl dX11_leads_213 ?_
              have h216 := And.left hok
              have hok := And.right hok
              refine z_iald (f := (gA q 19)) S hK 19 0 (fun _ => rfl) rfl h216 dX11_leads_216 ?_
              exact z_iret hx hb hlocks hr rfl hF dX11_leads_217
            · have hF := hF.trans (if_pos g193)
              have hok := And.left hok g193
              refine z_iconst (v := (-1)) hx hb dX11_leads_196 (by decide) ?_
              exact z_iret hx hb hlocks hr rfl hF dX11_leads_197
          · have hF := hF.trans (if_pos g168)
            have hok := And.left hok g168
            refine z_aload_n (j := 0) hx hb dX11_leads_171 rfl rfl ?_
            refine z_get (v := .ref (ad 15)) S hK inX11 0 (fun _ => rfl) rfl 42 (by decide) q6_139 rfl rfl dX11_leads_172 ?_
            refine z_bipush (v := 15) hx hb dX11_leads_175 (by decide) ?_
            refine z_iconst (v := 1) hx hb dX11_leads_177 (by decide) ?_
            refine z_aload_n (j := 0) hx hb dX11_leads_178 rfl rfl ?_
            refine z_get (v := .ref (ad 15)) S hK inX11 0 (fun _ => rfl) rfl 42 (by decide) q6_139 rfl rfl dX11_leads_179 ?_
            refine z_bipush (v := 15) hx hb dX11_leads_182 (by decide) ?_
            refine z_iald (f := (gA q 15)) S hK 15 0 (fun _ => rfl) rfl (show ¬ (_ ∨ _) from by decide) dX11_leads_184 ?_
            refine z_isub hx hb dX11_leads_185 ?_
            refine z_iast (f := (gA q 15)) (q' := (sA q 15 (upd (gA q 15) (15 : Int32).toNatClampNeg (1 - ((gA q 15) (15 : Int32).toNatClampNeg))))) S hK 15 0 (fun _ => rfl) rfl (show ¬ (_ ∨ _) from by decide) dX11_leads_186 (wMa15 kc ad _ _) (fun _ h => h) ?_
            refine z_iconst (v := 0) hx hb dX11_leads_187 (by decide) ?_
            exact z_iret hx hb hlocks hr rfl hF dX11_leads_188
        · have hF := hF.trans (if_pos g88)
          have hok := And.left hok g88
          refine z_aload_n (j := 0) hx hb dX11_leads_91 rfl rfl ?_
          refine z_get (v := .int (gI q 7)) S hK inX11 0 (fun _ => rfl) rfl 7 (by decide) q6_104 rfl rfl dX11_leads_92 ?_
          refine z_iconst (v := 4) hx hb dX11_leads_95 (by decide) ?_
          refine z_icmp_ne (tgt := 131) hx hb dX11_leads_96 (by decide) (fun g96 => ?_) (fun g96 => ?_)
          · have hF := hF.trans (if_neg g96)
            have hok := And.right hok g96
            exact b131 q v1 hok hF
          · have hF := hF.trans (if_pos g96)
            have hok := And.left hok g96
            refine z_iconst (v := 0) hx hb dX11_leads_99 (by decide) ?_
            refine z_istore_n (lv' := [(2, .int 0), (0, .ref (ad 0)), (1, .int v1)]) hx hb dX11_leads_100 rfl (by decide) rfl ?_
            refine z_sub [1, 2, 0] rfl ?_
            exact b101 130 q v1 0 hok hF
      · have hF := hF.trans (if_pos g50)
        have hok := And.left hok g50
        refine z_aload_n (j := 0) hx hb dX11_leads_53 rfl rfl ?_
        refine z_get (v := .ref (ad 14)) S hK inX11 0 (fun _ => rfl) rfl 41 (by decide) q6_138 rfl rfl dX11_leads_54 ?_
        refine z_bipush (v := 16) hx hb dX11_leads_57 (by decide) ?_
        refine z_aload_n (j := 0) hx hb dX11_leads_59 rfl rfl ?_
        refine z_get (v := .ref (ad 15)) S hK inX11 0 (fun _ => rfl) rfl 42 (by decide) q6_139 rfl rfl dX11_leads_60 ?_
        refine z_bipush (v := 7) hx hb dX11_leads_63 (by decide) ?_
        refine z_iald (f := (gA q 15)) S hK 15 0 (fun _ => rfl) rfl (show ¬ (_ ∨ _) from by decide) dX11_leads_65 ?_
        refine z_imul hx hb dX11_leads_66 ?_
        refine z_aload_n (j := 0) hx hb dX11_leads_67 rfl rfl ?_
        refine z_get (v := .ref (ad 15)) S hK inX11 0 (fun _ => rfl) rfl 42 (by decide) q6_139 rfl rfl dX11_leads_68 ?_
        refine z_bipush (v := 14) hx hb dX11_leads_71 (by decide) ?_
        refine z_iald (f := (gA q 15)) S hK 15 0 (fun _ => rfl) rfl (show ¬ (_ ∨ _) from by decide) dX11_leads_73 ?_
        refine z_bipush (v := 16) hx hb dX11_leads_74 (by decide) ?_
        refine z_idiv hx hb dX11_leads_76 (by decide) ?_
        refine z_iadd hx hb dX11_leads_77 ?_
        have h78 := And.left hok
        have hok := And.right hok
        refine z_iald (f := (gA q 14)) S hK 14 0 (fun _ => rfl) rfl h78 dX11_leads_78 ?_
        exact z_iret hx hb hlocks hr rfl hF dX11_leads_79
    · have hF := hF.trans (if_pos g26)
      have hok := And.left hok g26
      refine z_aload_n (j := 0) hx hb dX11_leads_29 rfl rfl ?_
      refine z_get (v := .ref (ad 5)) S hK inX11 0 (fun _ => rfl) rfl 32 (by decide) q6_129 rfl rfl dX11_leads_30 ?_
      refine z_iload_n (j := 1) hx hb dX11_leads_33 rfl rfl ?_
      have h34 := And.left hok
      have hok := And.right hok
      refine z_iald (f := (gA q 5)) S hK 5 0 (fun _ => rfl) rfl h34 dX11_leads_34 ?_
      refine z_aload_n (j := 0) hx hb dX11_leads_35 rfl rfl ?_
      refine z_iload_n (j := 1) hx hb dX11_leads_36 rfl rfl ?_
      have h37 := And.left hok
      have hok := And.right hok
      refine z_callVi (As := [.int v1]) S (ctX11_bits l D kc ad q v1 h37) (cwV 1 S.2.2.2.2 (gV q7_156 q7_158 qp3_6 q1_12 q7_159) rfl rfl rfl hX11_bits ⟨Nat.le_of_ble_eq_true rfl, Nat.le_of_ble_eq_true rfl⟩) hA (pbM D kc) (psM hK) (z_recv hK 0 (fun _ => rfl) rfl) rfl rfl (Nat.le_of_ble_eq_true rfl) dX11_leads_37 ⟨Nat.le_of_ble_eq_true rfl, Nat.le_of_ble_eq_true rfl⟩ ?_
      refine z_sub [] rfl ?_
      exact b40 (fX11_bits q v1).2 (fX11_bits q v1).1 ((gA q 5) (v1 : Int32).toNatClampNeg) hok hF
  · have hF := hF.trans (if_pos g8)
    have hok := And.left hok g8
    refine z_aload_n (j := 0) hx hb dX11_leads_11 rfl rfl ?_
    refine z_get (v := .ref (ad 5)) S hK inX11 0 (fun _ => rfl) rfl 32 (by decide) q6_129 rfl rfl dX11_leads_12 ?_
    refine z_iload_n (j := 1) hx hb dX11_leads_15 rfl rfl ?_
    have h16 := And.left hok
    have hok := And.right hok
    refine z_iald (f := (gA q 5)) S hK 5 0 (fun _ => rfl) rfl h16 dX11_leads_16 ?_
    exact z_iret hx hb hlocks hr rfl hF dX11_leads_17
theorem hX11_leads : yX11_leads.cls = RX11 ∧ yX11_leads.cls ≠ "java/lang/invoke/MethodHandle" ∧ yX11_leads.cls ≠ "java/lang/invoke/VarHandle" ∧ (parseMethodDescriptor yX11_leads.desc).map (fun d => d.parameters.length) = some 1 := by decide +kernel
def fX11_follows_30 (q : SS) (s0 : Int32) : Int32 × SS := (s0, q)
def kX11_follows_30 (q : SS) (s0 : Int32) : Prop := True
def fX11_follows_29 (q : SS) (v1 : Int32) : Int32 × SS := fX11_follows_30 q v1
def kX11_follows_29 (q : SS) (v1 : Int32) : Prop := kX11_follows_30 q v1
def fX11_follows_7 (q : SS) (v1 : Int32) (s0 : Int32) : Int32 × SS := (if s0 = 0 then fX11_follows_29 q v1 else (if ((gA q 8) (v1 : Int32).toNatClampNeg) = (-1) then fX11_follows_29 q v1 else fX11_follows_30 q ((gA q 8) (v1 : Int32).toNatClampNeg)))
def kX11_follows_7 (q : SS) (v1 : Int32) (s0 : Int32) : Prop := ((s0 = 0 → kX11_follows_29 q v1) ∧ (¬ s0 = 0 → vp_in v1 80 ∧ ((((gA q 8) (v1 : Int32).toNatClampNeg) = (-1) → kX11_follows_29 q v1) ∧ (¬ ((gA q 8) (v1 : Int32).toNatClampNeg) = (-1) → vp_in v1 80 ∧ kX11_follows_30 q ((gA q 8) (v1 : Int32).toNatClampNeg)))))
def fX11_follows (q : SS) (v1 : Int32) : Int32 × SS := fX11_follows_7 (fX11_isIn q v1 0 79).2 v1 (fX11_isIn q v1 0 79).1
def kX11_follows (q : SS) (v1 : Int32) : Prop := kX11_isIn q v1 0 79 ∧ kX11_follows_7 (fX11_isIn q v1 0 79).2 v1 (fX11_isIn q v1 0 79).1
set_option maxHeartbeats 4000000 in
set_option maxRecDepth 100000 in
theorem ctX11_follows (l : Launch) (D : va_G) (kc : Nat → ClassId) (ad : Nat → Nat) (q : SS) (v1 : Int32) (hok : kX11_follows q v1) : Ci l yX11_follows (Cond.code yX11_follows cX11_follows 2 (some .int) :: lw_G) (zr 1 0 0) 0 0 (PM D kc) (GM D kc ad) (GM D kc ad) [.ref (ad 0), .int v1] q (fX11_follows q v1) := by
  refine Ci.of (cc := cX11_follows) (maxL := 2) (ret := (some .int)) (by decide) rfl (Nat.le_of_ble_eq_true rfl) ?_
  intro p e s m args below meth c A S hr hlocks hin hA hK
  have hx := S.1
  have hb := S.2.1
  have hK : va_K D vwCl (tysK kc) s := hK
  generalize hFe : fX11_follows q v1 = F
  have hF : F = fX11_follows q v1 := hFe.symm
  have b30 : ∀ (q : SS) (s0 : Int32), kX11_follows_30 q s0 → F = fX11_follows_30 q s0 → Z p l e (zr 1 0 0) s m args below meth c 0 0 (MQ below (va_Qi (fun (x : Int32) (_ : Unit) => x = F.1) (fun _ t => (GM D kc ad) A F.2 t.heap) A) args s 0 0 A) 2 A (ZG D vwCl (wM kc ad) (fun _ tl => tl = []) A) q 30 [] [.int s0] := by
    intro q s0 hok hF
    exact z_iret hx hb hlocks hr rfl hF dX11_follows_30
  have b29 : ∀ (q : SS) (v1 : Int32), kX11_follows_29 q v1 → F = fX11_follows_29 q v1 → Z p l e (zr 1 0 0) s m args below meth c 0 0 (MQ below (va_Qi (fun (x : Int32) (_ : Unit) => x = F.1) (fun _ t => (GM D kc ad) A F.2 t.heap) A) args s 0 0 A) 2 A (ZG D vwCl (wM kc ad) (fun _ tl => tl = []) A) q 29 [(1, .int v1)] [] := by
    intro q v1 hok hF
    refine z_iload_n (j := 0) hx hb dX11_follows_29 rfl rfl ?_
    refine z_sub [] rfl ?_
    exact b30 q v1 hok hF
  have b7 : ∀ (q : SS) (v1 : Int32) (s0 : Int32), kX11_follows_7 q v1 s0 → F = fX11_follows_7 q v1 s0 → Z p l e (zr 1 0 0) s m args below meth c 0 0 (MQ below (va_Qi (fun (x : Int32) (_ : Unit) => x = F.1) (fun _ t => (GM D kc ad) A F.2 t.heap) A) args s 0 0 A) 2 A (ZG D vwCl (wM kc ad) (fun _ tl => tl = []) A) q 7 [(0, .ref (ad 0)), (1, .int v1)] [.int s0] := by
    intro q v1 s0 hok hF
    refine z_if_eq (tgt := 29) hx hb dX11_follows_7 (by decide) (fun g7 => ?_) (fun g7 => ?_)
    · have hF := hF.trans (if_pos g7)
      have hok := And.left hok g7
      refine z_sub [1] rfl ?_
      exact b29 q v1 hok hF
    · have hF := hF.trans (if_neg g7)
      have hok := And.right hok g7
      refine z_aload_n (j := 0) hx hb dX11_follows_10 rfl rfl ?_
      refine z_get (v := .ref (ad 8)) S hK inX11 0 (fun _ => rfl) rfl 35 (by decide) q6_132 rfl rfl dX11_follows_11 ?_
      refine z_iload_n (j := 1) hx hb dX11_follows_14 rfl rfl ?_
      have h15 := And.left hok
      have hok := And.right hok
      refine z_iald (f := (gA q 8)) S hK 8 0 (fun _ => rfl) rfl h15 dX11_follows_15 ?_
      refine z_iconst (v := (-1)) hx hb dX11_follows_16 (by decide) ?_
      refine z_icmp_eq (tgt := 29) hx hb dX11_follows_17 (by decide) (fun g17 => ?_) (fun g17 => ?_)
      · have hF := hF.trans (if_pos g17)
        have hok := And.left hok g17
        refine z_sub [1] rfl ?_
        exact b29 q v1 hok hF
      · have hF := hF.trans (if_neg g17)
        have hok := And.right hok g17
        refine z_aload_n (j := 0) hx hb dX11_follows_20 rfl rfl ?_
        refine z_get (v := .ref (ad 8)) S hK inX11 0 (fun _ => rfl) rfl 35 (by decide) q6_132 rfl rfl dX11_follows_21 ?_
        refine z_iload_n (j := 1) hx hb dX11_follows_24 rfl rfl ?_
        have h25 := And.left hok
        have hok := And.right hok
        refine z_iald (f := (gA q 8)) S hK 8 0 (fun _ => rfl) rfl h25 dX11_follows_25 ?_
        refine z_goto (tgt := 30) hx hb dX11_follows_26 (by decide) ?_
        refine z_sub [] rfl ?_
        exact b30 q ((gA q 8) (v1 : Int32).toNatClampNeg) hok hF
  refine z_iload_n (j := 1) hx hb dX11_follows_0 rfl rfl ?_
  refine z_iconst (v := 0) hx hb dX11_follows_1 (by decide) ?_
  refine z_bipush (v := 79) hx hb dX11_follows_2 (by decide) ?_
  have h4 := And.left hok
  have hok := And.right hok
  refine z_callSi (As := [.int v1, .int 0, .int 79]) S (ctX11_isIn l D kc ad q v1 0 79 h4) (va_cwS 3 S.2.2.2.2 (gS q7_21 q7_22 q1_12 q7_23) rfl rfl rfl hX11_isIn ⟨Nat.le_of_ble_eq_true rfl, Nat.le_of_ble_eq_true rfl⟩) hA (pbM D kc) (psM hK) rfl rfl (Nat.le_of_ble_eq_true rfl) dX11_follows_4 ⟨Nat.le_of_ble_eq_true rfl, Nat.le_of_ble_eq_true rfl⟩ ?_
  exact b7 (fX11_isIn q v1 0 79).2 v1 (fX11_isIn q v1 0 79).1 hok hF
theorem hX11_follows : yX11_follows.cls = RX11 ∧ yX11_follows.cls ≠ "java/lang/invoke/MethodHandle" ∧ yX11_follows.cls ≠ "java/lang/invoke/VarHandle" ∧ (parseMethodDescriptor yX11_follows.desc).map (fun d => d.parameters.length) = some 1 := by decide +kernel
def fX11_reset_24 (q : SS) (v1 : Int32) : Int32 × SS := (v1, q)
def kX11_reset_24 (q : SS) (v1 : Int32) : Prop := True
def fX11_reset_9 (q : SS) (v1 : Int32) : Int32 × SS := (if (gI q 23) = 108 then fX11_reset_24 (sI q 23 114) v1 else fX11_reset_24 q v1)
def kX11_reset_9 (q : SS) (v1 : Int32) : Prop := (((gI q 23) = 108 → kX11_reset_24 (sI q 23 114) v1) ∧ (¬ (gI q 23) = 108 → kX11_reset_24 q v1))
def fX11_reset (q : SS) : Int32 × SS := fX11_reset_9 (fX11_back q) (gI q 6)
def kX11_reset (q : SS) : Prop := kX11_back q ∧ kX11_reset_9 (fX11_back q) (gI q 6)
set_option maxHeartbeats 4000000 in
set_option maxRecDepth 100000 in
theorem ctX11_reset (l : Launch) (D : va_G) (kc : Nat → ClassId) (ad : Nat → Nat) (q : SS) (hok : kX11_reset q) : Ci l yX11_reset (Cond.code yX11_reset cX11_reset 2 (some .int) :: lw_G) (zr 2 0 0) 0 0 (PM D kc) (GM D kc ad) (GM D kc ad) [.ref (ad 0)] q (fX11_reset q) := by
  refine Ci.of (cc := cX11_reset) (maxL := 2) (ret := (some .int)) (by decide) rfl (Nat.le_of_ble_eq_true rfl) ?_
  intro p e s m args below meth c A S hr hlocks hin hA hK
  have hx := S.1
  have hb := S.2.1
  have hK : va_K D vwCl (tysK kc) s := hK
  generalize hFe : fX11_reset q = F
  have hF : F = fX11_reset q := hFe.symm
  have b24 : ∀ (q : SS) (v1 : Int32), kX11_reset_24 q v1 → F = fX11_reset_24 q v1 → Z p l e (zr 2 0 0) s m args below meth c 0 0 (MQ below (va_Qi (fun (x : Int32) (_ : Unit) => x = F.1) (fun _ t => (GM D kc ad) A F.2 t.heap) A) args s 0 0 A) 2 A (ZG D vwCl (wM kc ad) (fun _ tl => tl = []) A) q 24 [(1, .int v1)] [] := by
    intro q v1 hok hF
    refine z_iload_n (j := 0) hx hb dX11_reset_24 rfl rfl ?_
    exact z_iret hx hb hlocks hr rfl hF dX11_reset_25
  have b9 : ∀ (q : SS) (v1 : Int32), kX11_reset_9 q v1 → F = fX11_reset_9 q v1 → Z p l e (zr 2 0 0) s m args below meth c 0 0 (MQ below (va_Qi (fun (x : Int32) (_ : Unit) => x = F.1) (fun _ t => (GM D kc ad) A F.2 t.heap) A) args s 0 0 A) 2 A (ZG D vwCl (wM kc ad) (fun _ tl => tl = []) A) q 9 [(0, .ref (ad 0)), (1, .int v1)] [] := by
    intro q v1 hok hF
    refine z_aload_n (j := 0) hx hb dX11_reset_9 rfl rfl ?_
    refine z_get (v := .int (gI q 23)) S hK inX11 0 (fun _ => rfl) rfl 23 (by decide) q6_120 rfl rfl dX11_reset_10 ?_
    refine z_bipush (v := 108) hx hb dX11_reset_13 (by decide) ?_
    refine z_icmp_ne (tgt := 24) hx hb dX11_reset_15 (by decide) (fun g15 => ?_) (fun g15 => ?_)
    · have hF := hF.trans (if_neg g15)
      have hok := And.right hok g15
      refine z_sub [1] rfl ?_
      exact b24 q v1 hok hF
    · have hF := hF.trans (if_pos g15)
      have hok := And.left hok g15
      refine z_aload_n (j := 0) hx hb dX11_reset_18 rfl rfl ?_
      refine z_bipush (v := 114) hx hb dX11_reset_19 (by decide) ?_
      refine z_put (v := .int 114) (q' := (sI q 23 114)) S hK inX11 tyX11 tyX11_ok nmX11 0 (fun _ => rfl) rfl 23 (by decide) q6_120 rfl rfl rfl rfl (Nat.le_of_ble_eq_true rfl) dX11_reset_21 (wMp23 kc ad _ _) (fun _ h => h) ?_
      refine z_sub [1] rfl ?_
      exact b24 (sI q 23 114) v1 hok hF
  refine z_aload_n (j := 0) hx hb dX11_reset_0 rfl rfl ?_
  refine z_get (v := .int (gI q 6)) S hK inX11 0 (fun _ => rfl) rfl 6 (by decide) q6_103 rfl rfl dX11_reset_1 ?_
  refine z_istore_n (lv' := [(1, .int (gI q 6)), (0, .ref (ad 0))]) hx hb dX11_reset_4 rfl (by decide) rfl ?_
  refine z_aload_n (j := 1) hx hb dX11_reset_5 rfl rfl ?_
  have h6 := And.left hok
  have hok := And.right hok
  refine z_callVv (As := []) S (ctX11_back l D kc ad q h6) (cwV 0 S.2.2.2.2 (gV q7_105 q7_107 qp2_11 q1_12 q7_108) rfl rfl rfl hX11_back ⟨Nat.le_of_ble_eq_true rfl, Nat.le_of_ble_eq_true rfl⟩) hA (pbM D kc) (psM hK) (z_recv hK 0 (fun _ => rfl) rfl) rfl rfl (Nat.le_of_ble_eq_true rfl) dX11_reset_6 ⟨Nat.le_of_ble_eq_true rfl, Nat.le_of_ble_eq_true rfl⟩ ?_
  refine z_sub [1, 0] rfl ?_
  exact b9 (fX11_back q) (gI q 6) hok hF
theorem hX11_reset : yX11_reset.cls = RX11 ∧ yX11_reset.cls ≠ "java/lang/invoke/MethodHandle" ∧ yX11_reset.cls ≠ "java/lang/invoke/VarHandle" ∧ (parseMethodDescriptor yX11_reset.desc).map (fun d => d.parameters.length) = some 0 := by decide +kernel
def fX11_state (q : SS) : Int32 × SS := ((gI q 23), q)
def kX11_state (q : SS) : Prop := narrow .char (.int (gI q 23)) = .int (gI q 23) ∧ True
set_option maxHeartbeats 4000000 in
set_option maxRecDepth 100000 in
theorem ctX11_state (l : Launch) (D : va_G) (kc : Nat → ClassId) (ad : Nat → Nat) (q : SS) (hok : kX11_state q) : Ci l yX11_state (Cond.code yX11_state cX11_state 1 (some .char) :: lw_G) (zr 0 0 0) 0 0 (PM D kc) (GM D kc ad) (GM D kc ad) [.ref (ad 0)] q (fX11_state q) := by
  refine Ci.of (cc := cX11_state) (maxL := 1) (ret := (some .char)) (by decide) rfl (Nat.le_of_ble_eq_true rfl) ?_
  intro p e s m args below meth c A S hr hlocks hin hA hK
  have hx := S.1
  have hb := S.2.1
  have hK : va_K D vwCl (tysK kc) s := hK
  generalize hFe : fX11_state q = F
  have hF : F = fX11_state q := hFe.symm
  refine z_aload_n (j := 0) hx hb dX11_state_0 rfl rfl ?_
  refine z_get (v := .int (gI q 23)) S hK inX11 0 (fun _ => rfl) rfl 23 (by decide) q6_120 rfl rfl dX11_state_1 ?_
  have h4 := And.left hok
  have hok := And.right hok
  exact z_iret hx hb hlocks hr h4 hF dX11_state_4
theorem hX11_state : yX11_state.cls = RX11 ∧ yX11_state.cls ≠ "java/lang/invoke/MethodHandle" ∧ yX11_state.cls ≠ "java/lang/invoke/VarHandle" ∧ (parseMethodDescriptor yX11_state.desc).map (fun d => d.parameters.length) = some 0 := by decide +kernel
def fX11_cell_20 (q : SS) (s0 : Int32) : Int32 × SS := (s0, q)
def kX11_cell_20 (q : SS) (s0 : Int32) : Prop := True
def fX11_cell_7 (q : SS) (v1 : Int32) (s0 : Int32) : Int32 × SS := (if s0 = 0 then fX11_cell_20 q ((gA q 17) (v1 : Int32).toNatClampNeg) else fX11_cell_20 q 0)
def kX11_cell_7 (q : SS) (v1 : Int32) (s0 : Int32) : Prop := ((s0 = 0 → vp_in v1 64 ∧ kX11_cell_20 q ((gA q 17) (v1 : Int32).toNatClampNeg)) ∧ (¬ s0 = 0 → kX11_cell_20 q 0))
def fX11_cell (q : SS) (v1 : Int32) : Int32 × SS := fX11_cell_7 (fX11_out q v1 64).2 v1 (fX11_out q v1 64).1
def kX11_cell (q : SS) (v1 : Int32) : Prop := kX11_out q v1 64 ∧ kX11_cell_7 (fX11_out q v1 64).2 v1 (fX11_out q v1 64).1
set_option maxHeartbeats 4000000 in
set_option maxRecDepth 100000 in
theorem ctX11_cell (l : Launch) (D : va_G) (kc : Nat → ClassId) (ad : Nat → Nat) (q : SS) (v1 : Int32) (hok : kX11_cell q v1) : Ci l yX11_cell (Cond.code yX11_cell cX11_cell 2 (some .int) :: lw_G) (zr 2 0 0) 0 0 (PM D kc) (GM D kc ad) (GM D kc ad) [.ref (ad 0), .int v1] q (fX11_cell q v1) := by
  refine Ci.of (cc := cX11_cell) (maxL := 2) (ret := (some .int)) (by decide) rfl (Nat.le_of_ble_eq_true rfl) ?_
  intro p e s m args below meth c A S hr hlocks hin hA hK
  have hx := S.1
  have hb := S.2.1
  have hK : va_K D vwCl (tysK kc) s := hK
  generalize hFe : fX11_cell q v1 = F
  have hF : F = fX11_cell q v1 := hFe.symm
  have b20 : ∀ (q : SS) (s0 : Int32), kX11_cell_20 q s0 → F = fX11_cell_20 q s0 → Z p l e (zr 2 0 0) s m args below meth c 0 0 (MQ below (va_Qi (fun (x : Int32) (_ : Unit) => x = F.1) (fun _ t => (GM D kc ad) A F.2 t.heap) A) args s 0 0 A) 2 A (ZG D vwCl (wM kc ad) (fun _ tl => tl = []) A) q 20 [] [.int s0] := by
    intro q s0 hok hF
    exact z_iret hx hb hlocks hr rfl hF dX11_cell_20
  have b7 : ∀ (q : SS) (v1 : Int32) (s0 : Int32), kX11_cell_7 q v1 s0 → F = fX11_cell_7 q v1 s0 → Z p l e (zr 2 0 0) s m args below meth c 0 0 (MQ below (va_Qi (fun (x : Int32) (_ : Unit) => x = F.1) (fun _ t => (GM D kc ad) A F.2 t.heap) A) args s 0 0 A) 2 A (ZG D vwCl (wM kc ad) (fun _ tl => tl = []) A) q 7 [(0, .ref (ad 0)), (1, .int v1)] [.int s0] := by
    intro q v1 s0 hok hF
    refine z_if_eq (tgt := 14) hx hb dX11_cell_7 (by decide) (fun g7 => ?_) (fun g7 => ?_)
    · have hF := hF.trans (if_pos g7)
      have hok := And.left hok g7
      refine z_aload_n (j := 0) hx hb dX11_cell_14 rfl rfl ?_
      refine z_get (v := .ref (ad 17)) S hK inX11 0 (fun _ => rfl) rfl 44 (by decide) q6_141 rfl rfl dX11_cell_15 ?_
      refine z_iload_n (j := 1) hx hb dX11_cell_18 rfl rfl ?_
      have h19 := And.left hok
      have hok := And.right hok
      refine z_iald (f := (gA q 17)) S hK 17 0 (fun _ => rfl) rfl h19 dX11_cell_19 ?_
      refine z_sub [] rfl ?_
      exact b20 q ((gA q 17) (v1 : Int32).toNatClampNeg) hok hF
    · have hF := hF.trans (if_neg g7)
      have hok := And.right hok g7
      refine z_iconst (v := 0) hx hb dX11_cell_10 (by decide) ?_
      refine z_goto (tgt := 20) hx hb dX11_cell_11 (by decide) ?_
      refine z_sub [] rfl ?_
      exact b20 q 0 hok hF
  refine z_aload_n (j := 0) hx hb dX11_cell_0 rfl rfl ?_
  refine z_iload_n (j := 1) hx hb dX11_cell_1 rfl rfl ?_
  refine z_bipush (v := 64) hx hb dX11_cell_2 (by decide) ?_
  have h4 := And.left hok
  have hok := And.right hok
  refine z_callVi (As := [.int v1, .int 64]) S (ctX11_out l D kc ad q v1 64 h4) (cwV 2 S.2.2.2.2 (gV q7_17 q7_19 qp2_7 q1_12 q7_20) rfl rfl rfl hX11_out ⟨Nat.le_of_ble_eq_true rfl, Nat.le_of_ble_eq_true rfl⟩) hA (pbM D kc) (psM hK) (z_recv hK 0 (fun _ => rfl) rfl) rfl rfl (Nat.le_of_ble_eq_true rfl) dX11_cell_4 ⟨Nat.le_of_ble_eq_true rfl, Nat.le_of_ble_eq_true rfl⟩ ?_
  exact b7 (fX11_out q v1 64).2 v1 (fX11_out q v1 64).1 hok hF
theorem hX11_cell : yX11_cell.cls = RX11 ∧ yX11_cell.cls ≠ "java/lang/invoke/MethodHandle" ∧ yX11_cell.cls ≠ "java/lang/invoke/VarHandle" ∧ (parseMethodDescriptor yX11_cell.desc).map (fun d => d.parameters.length) = some 1 := by decide +kernel
def fX11_register_19 (q : SS) (s0 : Int32) : Int32 × SS := (s0, q)
def kX11_register_19 (q : SS) (s0 : Int32) : Prop := True
def fX11_register_6 (q : SS) (v1 : Int32) (s0 : Int32) : Int32 × SS := (if s0 = 0 then fX11_register_19 q ((gA q 15) (v1 : Int32).toNatClampNeg) else fX11_register_19 q 0)
def kX11_register_6 (q : SS) (v1 : Int32) (s0 : Int32) : Prop := ((s0 = 0 → vp_in v1 16 ∧ kX11_register_19 q ((gA q 15) (v1 : Int32).toNatClampNeg)) ∧ (¬ s0 = 0 → kX11_register_19 q 0))
def fX11_register (q : SS) (v1 : Int32) : Int32 × SS := fX11_register_6 (fX11_out q v1 4).2 v1 (fX11_out q v1 4).1
def kX11_register (q : SS) (v1 : Int32) : Prop := kX11_out q v1 4 ∧ kX11_register_6 (fX11_out q v1 4).2 v1 (fX11_out q v1 4).1
set_option maxHeartbeats 4000000 in
set_option maxRecDepth 100000 in
theorem ctX11_register (l : Launch) (D : va_G) (kc : Nat → ClassId) (ad : Nat → Nat) (q : SS) (v1 : Int32) (hok : kX11_register q v1) : Ci l yX11_register (Cond.code yX11_register cX11_register 2 (some .int) :: lw_G) (zr 2 0 0) 0 0 (PM D kc) (GM D kc ad) (GM D kc ad) [.ref (ad 0), .int v1] q (fX11_register q v1) := by
  refine Ci.of (cc := cX11_register) (maxL := 2) (ret := (some .int)) (by decide) rfl (Nat.le_of_ble_eq_true rfl) ?_
  intro p e s m args below meth c A S hr hlocks hin hA hK
  have hx := S.1
  have hb := S.2.1
  have hK : va_K D vwCl (tysK kc) s := hK
  generalize hFe : fX11_register q v1 = F
  have hF : F = fX11_register q v1 := hFe.symm
  have b19 : ∀ (q : SS) (s0 : Int32), kX11_register_19 q s0 → F = fX11_register_19 q s0 → Z p l e (zr 2 0 0) s m args below meth c 0 0 (MQ below (va_Qi (fun (x : Int32) (_ : Unit) => x = F.1) (fun _ t => (GM D kc ad) A F.2 t.heap) A) args s 0 0 A) 2 A (ZG D vwCl (wM kc ad) (fun _ tl => tl = []) A) q 19 [] [.int s0] := by
    intro q s0 hok hF
    exact z_iret hx hb hlocks hr rfl hF dX11_register_19
  have b6 : ∀ (q : SS) (v1 : Int32) (s0 : Int32), kX11_register_6 q v1 s0 → F = fX11_register_6 q v1 s0 → Z p l e (zr 2 0 0) s m args below meth c 0 0 (MQ below (va_Qi (fun (x : Int32) (_ : Unit) => x = F.1) (fun _ t => (GM D kc ad) A F.2 t.heap) A) args s 0 0 A) 2 A (ZG D vwCl (wM kc ad) (fun _ tl => tl = []) A) q 6 [(0, .ref (ad 0)), (1, .int v1)] [.int s0] := by
    intro q v1 s0 hok hF
    refine z_if_eq (tgt := 13) hx hb dX11_register_6 (by decide) (fun g6 => ?_) (fun g6 => ?_)
    · have hF := hF.trans (if_pos g6)
      have hok := And.left hok g6
      refine z_aload_n (j := 0) hx hb dX11_register_13 rfl rfl ?_
      refine z_get (v := .ref (ad 15)) S hK inX11 0 (fun _ => rfl) rfl 42 (by decide) q6_139 rfl rfl dX11_register_14 ?_
      refine z_iload_n (j := 1) hx hb dX11_register_17 rfl rfl ?_
      have h18 := And.left hok
      have hok := And.right hok
      refine z_iald (f := (gA q 15)) S hK 15 0 (fun _ => rfl) rfl h18 dX11_register_18 ?_
      refine z_sub [] rfl ?_
      exact b19 q ((gA q 15) (v1 : Int32).toNatClampNeg) hok hF
    · have hF := hF.trans (if_neg g6)
      have hok := And.right hok g6
      refine z_iconst (v := 0) hx hb dX11_register_9 (by decide) ?_
      refine z_goto (tgt := 19) hx hb dX11_register_10 (by decide) ?_
      refine z_sub [] rfl ?_
      exact b19 q 0 hok hF
  refine z_aload_n (j := 0) hx hb dX11_register_0 rfl rfl ?_
  refine z_iload_n (j := 1) hx hb dX11_register_1 rfl rfl ?_
  refine z_iconst (v := 4) hx hb dX11_register_2 (by decide) ?_
  have h3 := And.left hok
  have hok := And.right hok
  refine z_callVi (As := [.int v1, .int 4]) S (ctX11_out l D kc ad q v1 4 h3) (cwV 2 S.2.2.2.2 (gV q7_17 q7_19 qp2_7 q1_12 q7_20) rfl rfl rfl hX11_out ⟨Nat.le_of_ble_eq_true rfl, Nat.le_of_ble_eq_true rfl⟩) hA (pbM D kc) (psM hK) (z_recv hK 0 (fun _ => rfl) rfl) rfl rfl (Nat.le_of_ble_eq_true rfl) dX11_register_3 ⟨Nat.le_of_ble_eq_true rfl, Nat.le_of_ble_eq_true rfl⟩ ?_
  exact b6 (fX11_out q v1 4).2 v1 (fX11_out q v1 4).1 hok hF
theorem hX11_register : yX11_register.cls = RX11 ∧ yX11_register.cls ≠ "java/lang/invoke/MethodHandle" ∧ yX11_register.cls ≠ "java/lang/invoke/VarHandle" ∧ (parseMethodDescriptor yX11_register.desc).map (fun d => d.parameters.length) = some 1 := by decide +kernel
def fX11_place_131 (q : SS) (s0 : Int32) : Int32 × SS := (s0, q)
def kX11_place_131 (q : SS) (s0 : Int32) : Prop := True
def fX11_place (q : SS) (v0 : Int32) : Int32 × SS := (if v0 = 80 then fX11_place_131 q 4 else (if v0 = 90 then fX11_place_131 q 5 else (if v0 = 67 then fX11_place_131 q 6 else (if v0 = 83 then fX11_place_131 q 7 else (if v0 = 73 then fX11_place_131 q 8 else (if v0 = 75 then fX11_place_131 q 9 else (if v0 = 84 then fX11_place_131 q 10 else (if v0 = 85 then fX11_place_131 q 11 else (if v0 = 65 then fX11_place_131 q 12 else (if v0 = 68 then fX11_place_131 q 13 else (if v0 = 88 then fX11_place_131 q 14 else (if v0 = 69 then fX11_place_131 q 15 else fX11_place_131 q (-1)))))))))))))
def kX11_place (q : SS) (v0 : Int32) : Prop := ((v0 = 80 → kX11_place_131 q 4) ∧ (¬ v0 = 80 → ((v0 = 90 → kX11_place_131 q 5) ∧ (¬ v0 = 90 → ((v0 = 67 → kX11_place_131 q 6) ∧ (¬ v0 = 67 → ((v0 = 83 → kX11_place_131 q 7) ∧ (¬ v0 = 83 → ((v0 = 73 → kX11_place_131 q 8) ∧ (¬ v0 = 73 → ((v0 = 75 → kX11_place_131 q 9) ∧ (¬ v0 = 75 → ((v0 = 84 → kX11_place_131 q 10) ∧ (¬ v0 = 84 → ((v0 = 85 → kX11_place_131 q 11) ∧ (¬ v0 = 85 → ((v0 = 65 → kX11_place_131 q 12) ∧ (¬ v0 = 65 → ((v0 = 68 → kX11_place_131 q 13) ∧ (¬ v0 = 68 → ((v0 = 88 → kX11_place_131 q 14) ∧ (¬ v0 = 88 → ((v0 = 69 → kX11_place_131 q 15) ∧ (¬ v0 = 69 → kX11_place_131 q (-1)))))))))))))))))))))))))
set_option maxHeartbeats 4000000 in
set_option maxRecDepth 100000 in
theorem ctX11_place (l : Launch) (D : va_G) (kc : Nat → ClassId) (ad : Nat → Nat) (q : SS) (v0 : Int32) (hok : kX11_place q v0) : Ci l yX11_place (Cond.code yX11_place cX11_place 1 (some .int) :: lw_G) (zr 0 0 0) 0 0 (PM D kc) (GM D kc ad) (GM D kc ad) [.int v0] q (fX11_place q v0) := by
  refine Ci.of (cc := cX11_place) (maxL := 1) (ret := (some .int)) (by decide) rfl (Nat.le_of_ble_eq_true rfl) ?_
  intro p e s m args below meth c A S hr hlocks hin hA hK
  have hx := S.1
  have hb := S.2.1
  have hK : va_K D vwCl (tysK kc) s := hK
  generalize hFe : fX11_place q v0 = F
  have hF : F = fX11_place q v0 := hFe.symm
  have b131 : ∀ (q : SS) (s0 : Int32), kX11_place_131 q s0 → F = fX11_place_131 q s0 → Z p l e (zr 0 0 0) s m args below meth c 0 0 (MQ below (va_Qi (fun (x : Int32) (_ : Unit) => x = F.1) (fun _ t => (GM D kc ad) A F.2 t.heap) A) args s 0 0 A) 1 A (ZG D vwCl (wM kc ad) (fun _ tl => tl = []) A) q 131 [] [.int s0] := by
    intro q s0 hok hF
    exact z_iret hx hb hlocks hr rfl hF dX11_place_131
  refine z_iload_n (j := 0) hx hb dX11_place_0 rfl rfl ?_
  refine z_bipush (v := 80) hx hb dX11_place_1 (by decide) ?_
  refine z_icmp_ne (tgt := 10) hx hb dX11_place_3 (by decide) (fun g3 => ?_) (fun g3 => ?_)
  · have hF := hF.trans (if_neg g3)
    have hok := And.right hok g3
    refine z_iload_n (j := 0) hx hb dX11_place_10 rfl rfl ?_
    refine z_bipush (v := 90) hx hb dX11_place_11 (by decide) ?_
    refine z_icmp_ne (tgt := 20) hx hb dX11_place_13 (by decide) (fun g13 => ?_) (fun g13 => ?_)
    · have hF := hF.trans (if_neg g13)
      have hok := And.right hok g13
      refine z_iload_n (j := 0) hx hb dX11_place_20 rfl rfl ?_
      refine z_bipush (v := 67) hx hb dX11_place_21 (by decide) ?_
      refine z_icmp_ne (tgt := 31) hx hb dX11_place_23 (by decide) (fun g23 => ?_) (fun g23 => ?_)
      · have hF := hF.trans (if_neg g23)
        have hok := And.right hok g23
        refine z_iload_n (j := 0) hx hb dX11_place_31 rfl rfl ?_
        refine z_bipush (v := 83) hx hb dX11_place_32 (by decide) ?_
        refine z_icmp_ne (tgt := 42) hx hb dX11_place_34 (by decide) (fun g34 => ?_) (fun g34 => ?_)
        · have hF := hF.trans (if_neg g34)
          have hok := And.right hok g34
          refine z_iload_n (j := 0) hx hb dX11_place_42 rfl rfl ?_
          refine z_bipush (v := 73) hx hb dX11_place_43 (by decide) ?_
          refine z_icmp_ne (tgt := 53) hx hb dX11_place_45 (by decide) (fun g45 => ?_) (fun g45 => ?_)
          · have hF := hF.trans (if_neg g45)
            have hok := And.right hok g45
            refine z_iload_n (j := 0) hx hb dX11_place_53 rfl rfl ?_
            refine z_bipush (v := 75) hx hb dX11_place_54 (by decide) ?_
            refine z_icmp_ne (tgt := 64) hx hb dX11_place_56 (by decide) (fun g56 => ?_) (fun g56 => ?_)
            · have hF := hF.trans (if_neg g56)
              have hok := And.right hok g56
              refine z_iload_n (j := 0) hx hb dX11_place_64 rfl rfl ?_
              refine z_bipush (v := 84) hx hb dX11_place_65 (by decide) ?_
              refine z_icmp_ne (tgt := 75) hx hb dX11_place_67 (by decide) (fun g67 => ?_) (fun g67 => ?_)
              · have hF := hF.trans (if_neg g67)
                have hok := And.right hok g67
                refine z_iload_n (j := 0) hx hb dX11_place_75 rfl rfl ?_
                refine z_bipush (v := 85) hx hb dX11_place_76 (by decide) ?_
                refine z_icmp_ne (tgt := 86) hx hb dX11_place_78 (by decide) (fun g78 => ?_) (fun g78 => ?_)
                · have hF := hF.trans (if_neg g78)
                  have hok := And.right hok g78
                  refine z_iload_n (j := 0) hx hb dX11_place_86 rfl rfl ?_
                  refine z_bipush (v := 65) hx hb dX11_place_87 (by decide) ?_
                  refine z_icmp_ne (tgt := 97) hx hb dX11_place_89 (by decide) (fun g89 => ?_) (fun g89 => ?_)
                  · have hF := hF.trans (if_neg g89)
                    have hok := And.right hok g89
                    refine z_iload_n (j := 0) hx hb dX11_place_97 rfl rfl ?_
                    refine z_bipush (v := 68) hx hb dX11_place_98 (by decide) ?_
                    refine z_icmp_ne (tgt := 108) hx hb dX11_place_100 (by decide) (fun g100 => ?_) (fun g100 => ?_)
                    · have hF := hF.trans (if_neg g100)
                      have hok := And.right hok g100
                      refine z_iload_n (j := 0) hx hb dX11_place_108 rfl rfl ?_
                      refine z_bipush (v := 88) hx hb dX11_place_109 (by decide) ?_
                      refine z_icmp_ne (tgt := 119) hx hb dX11_place_111 (by decide) (fun g111 => ?_) (fun g111 => ?_)
                      · have hF := hF.trans (if_neg g111)
                        have hok := And.right hok g111
                        refine z_iload_n (j := 0) hx hb dX11_place_119 rfl rfl ?_
                        refine z_bipush (v := 69) hx hb dX11_place_120 (by decide) ?_
                        refine z_icmp_ne (tgt := 130) hx hb dX11_place_122 (by decide) (fun g122 => ?_) (fun g122 => ?_)
                        · have hF := hF.trans (if_neg g122)
                          have hok := And.right hok g122
                          refine z_iconst (v := (-1)) hx hb dX11_place_130 (by decide) ?_
                          refine z_sub [] rfl ?_
                          exact b131 q (-1) hok hF
                        · have hF := hF.trans (if_pos g122)
                          have hok := And.left hok g122
                          refine z_bipush (v := 15) hx hb dX11_place_125 (by decide) ?_
                          refine z_goto (tgt := 131) hx hb dX11_place_127 (by decide) ?_
                          refine z_sub [] rfl ?_
                          exact b131 q 15 hok hF
                      · have hF := hF.trans (if_pos g111)
                        have hok := And.left hok g111
                        refine z_bipush (v := 14) hx hb dX11_place_114 (by decide) ?_
                        refine z_goto (tgt := 131) hx hb dX11_place_116 (by decide) ?_
                        refine z_sub [] rfl ?_
                        exact b131 q 14 hok hF
                    · have hF := hF.trans (if_pos g100)
                      have hok := And.left hok g100
                      refine z_bipush (v := 13) hx hb dX11_place_103 (by decide) ?_
                      refine z_goto (tgt := 131) hx hb dX11_place_105 (by decide) ?_
                      refine z_sub [] rfl ?_
                      exact b131 q 13 hok hF
                  · have hF := hF.trans (if_pos g89)
                    have hok := And.left hok g89
                    refine z_bipush (v := 12) hx hb dX11_place_92 (by decide) ?_
                    refine z_goto (tgt := 131) hx hb dX11_place_94 (by decide) ?_
                    refine z_sub [] rfl ?_
                    exact b131 q 12 hok hF
                · have hF := hF.trans (if_pos g78)
                  have hok := And.left hok g78
                  refine z_bipush (v := 11) hx hb dX11_place_81 (by decide) ?_
                  refine z_goto (tgt := 131) hx hb dX11_place_83 (by decide) ?_
                  refine z_sub [] rfl ?_
                  exact b131 q 11 hok hF
              · have hF := hF.trans (if_pos g67)
                have hok := And.left hok g67
                refine z_bipush (v := 10) hx hb dX11_place_70 (by decide) ?_
                refine z_goto (tgt := 131) hx hb dX11_place_72 (by decide) ?_
                refine z_sub [] rfl ?_
                exact b131 q 10 hok hF
            · have hF := hF.trans (if_pos g56)
              have hok := And.left hok g56
              refine z_bipush (v := 9) hx hb dX11_place_59 (by decide) ?_
              refine z_goto (tgt := 131) hx hb dX11_place_61 (by decide) ?_
              refine z_sub [] rfl ?_
              exact b131 q 9 hok hF
          · have hF := hF.trans (if_pos g45)
            have hok := And.left hok g45
            refine z_bipush (v := 8) hx hb dX11_place_48 (by decide) ?_
            refine z_goto (tgt := 131) hx hb dX11_place_50 (by decide) ?_
            refine z_sub [] rfl ?_
            exact b131 q 8 hok hF
        · have hF := hF.trans (if_pos g34)
          have hok := And.left hok g34
          refine z_bipush (v := 7) hx hb dX11_place_37 (by decide) ?_
          refine z_goto (tgt := 131) hx hb dX11_place_39 (by decide) ?_
          refine z_sub [] rfl ?_
          exact b131 q 7 hok hF
      · have hF := hF.trans (if_pos g23)
        have hok := And.left hok g23
        refine z_bipush (v := 6) hx hb dX11_place_26 (by decide) ?_
        refine z_goto (tgt := 131) hx hb dX11_place_28 (by decide) ?_
        refine z_sub [] rfl ?_
        exact b131 q 6 hok hF
    · have hF := hF.trans (if_pos g13)
      have hok := And.left hok g13
      refine z_iconst (v := 5) hx hb dX11_place_16 (by decide) ?_
      refine z_goto (tgt := 131) hx hb dX11_place_17 (by decide) ?_
      refine z_sub [] rfl ?_
      exact b131 q 5 hok hF
  · have hF := hF.trans (if_pos g3)
    have hok := And.left hok g3
    refine z_iconst (v := 4) hx hb dX11_place_6 (by decide) ?_
    refine z_goto (tgt := 131) hx hb dX11_place_7 (by decide) ?_
    refine z_sub [] rfl ?_
    exact b131 q 4 hok hF
theorem hX11_place : yX11_place.cls ≠ "java/lang/invoke/MethodHandle" ∧ yX11_place.cls ≠ "java/lang/invoke/VarHandle" ∧ (parseMethodDescriptor yX11_place.desc).map (fun d => d.parameters.length) = some 1 := by decide +kernel
def fX11_part_35 (q : SS) (v2 : Int32) : Int32 × SS := (((gA q 15) (v2 : Int32).toNatClampNeg), q)
def kX11_part_35 (q : SS) (v2 : Int32) : Prop := vp_in v2 16 ∧ True
def fX11_part_31 (q : SS) (v2 : Int32) : Int32 × SS := fX11_part_35 (fX11_finds q) v2
def kX11_part_31 (q : SS) (v2 : Int32) : Prop := kX11_finds q ∧ kX11_part_35 (fX11_finds q) v2
def fX11_part_4 (q : SS) (s0 : Int32) : Int32 × SS := (if 0 ≤ s0 then (if s0 = 5 then fX11_part_31 (sI q 0 0) s0 else (if s0 = 6 then fX11_part_31 (sI q 0 0) s0 else fX11_part_35 (sI q 0 0) s0)) else ((fX11_refuse q 1).1, (fX11_refuse q 1).2))
def kX11_part_4 (q : SS) (s0 : Int32) : Prop := ((0 ≤ s0 → ((s0 = 5 → kX11_part_31 (sI q 0 0) s0) ∧ (¬ s0 = 5 → ((s0 = 6 → kX11_part_31 (sI q 0 0) s0) ∧ (¬ s0 = 6 → kX11_part_35 (sI q 0 0) s0))))) ∧ (¬ 0 ≤ s0 → kX11_refuse q 1 ∧ True))
def fX11_part (q : SS) (v1 : Int32) : Int32 × SS := fX11_part_4 (fX11_place q v1).2 (fX11_place q v1).1
def kX11_part (q : SS) (v1 : Int32) : Prop := kX11_place q v1 ∧ kX11_part_4 (fX11_place q v1).2 (fX11_place q v1).1
set_option maxHeartbeats 4000000 in
set_option maxRecDepth 100000 in
theorem ctX11_part (l : Launch) (D : va_G) (kc : Nat → ClassId) (ad : Nat → Nat) (q : SS) (v1 : Int32) (hok : kX11_part q v1) : Ci l yX11_part (Cond.code yX11_part cX11_part 3 (some .int) :: lw_G) (zr 2 0 0) 0 0 (PM D kc) (GM D kc ad) (GM D kc ad) [.ref (ad 0), .int v1] q (fX11_part q v1) := by
  refine Ci.of (cc := cX11_part) (maxL := 3) (ret := (some .int)) (by decide) rfl (Nat.le_of_ble_eq_true rfl) ?_
  intro p e s m args below meth c A S hr hlocks hin hA hK
  have hx := S.1
  have hb := S.2.1
  have hK : va_K D vwCl (tysK kc) s := hK
  generalize hFe : fX11_part q v1 = F
  have hF : F = fX11_part q v1 := hFe.symm
  have b35 : ∀ (q : SS) (v2 : Int32), kX11_part_35 q v2 → F = fX11_part_35 q v2 → Z p l e (zr 2 0 0) s m args below meth c 0 0 (MQ below (va_Qi (fun (x : Int32) (_ : Unit) => x = F.1) (fun _ t => (GM D kc ad) A F.2 t.heap) A) args s 0 0 A) 3 A (ZG D vwCl (wM kc ad) (fun _ tl => tl = []) A) q 35 [(0, .ref (ad 0)), (2, .int v2)] [] := by
    intro q v2 hok hF
    refine z_aload_n (j := 0) hx hb dX11_part_35 rfl rfl ?_
    refine z_get (v := .ref (ad 15)) S hK inX11 0 (fun _ => rfl) rfl 42 (by decide) q6_139 rfl rfl dX11_part_36 ?_
    refine z_iload_n (j := 1) hx hb dX11_part_39 rfl rfl ?_
    have h40 := And.left hok
    have hok := And.right hok
    refine z_iald (f := (gA q 15)) S hK 15 0 (fun _ => rfl) rfl h40 dX11_part_40 ?_
    exact z_iret hx hb hlocks hr rfl hF dX11_part_41
  have b31 : ∀ (q : SS) (v2 : Int32), kX11_part_31 q v2 → F = fX11_part_31 q v2 → Z p l e (zr 2 0 0) s m args below meth c 0 0 (MQ below (va_Qi (fun (x : Int32) (_ : Unit) => x = F.1) (fun _ t => (GM D kc ad) A F.2 t.heap) A) args s 0 0 A) 3 A (ZG D vwCl (wM kc ad) (fun _ tl => tl = []) A) q 31 [(0, .ref (ad 0)), (2, .int v2)] [] := by
    intro q v2 hok hF
    refine z_aload_n (j := 0) hx hb dX11_part_31 rfl rfl ?_
    have h32 := And.left hok
    have hok := And.right hok
    refine z_callVv (As := []) S (ctX11_finds l D kc ad q h32) (cwV 0 S.2.2.2.2 (gV q7_160 q7_162 qp3_7 q1_12 q7_163) rfl rfl rfl hX11_finds ⟨Nat.le_of_ble_eq_true rfl, Nat.le_of_ble_eq_true rfl⟩) hA (pbM D kc) (psM hK) (z_recv hK 0 (fun _ => rfl) rfl) rfl rfl (Nat.le_of_ble_eq_true rfl) dX11_part_32 ⟨Nat.le_of_ble_eq_true rfl, Nat.le_of_ble_eq_true rfl⟩ ?_
    exact b35 (fX11_finds q) v2 hok hF
  have b4 : ∀ (q : SS) (s0 : Int32), kX11_part_4 q s0 → F = fX11_part_4 q s0 → Z p l e (zr 2 0 0) s m args below meth c 0 0 (MQ below (va_Qi (fun (x : Int32) (_ : Unit) => x = F.1) (fun _ t => (GM D kc ad) A F.2 t.heap) A) args s 0 0 A) 3 A (ZG D vwCl (wM kc ad) (fun _ tl => tl = []) A) q 4 [(0, .ref (ad 0))] [.int s0] := by
    intro q s0 hok hF
    refine z_istore_n (lv' := [(2, .int s0), (0, .ref (ad 0))]) hx hb dX11_part_4 rfl (by decide) rfl ?_
    refine z_iload_n (j := 0) hx hb dX11_part_5 rfl rfl ?_
    refine z_if_ge (tgt := 15) hx hb dX11_part_6 (by decide) (fun g6 => ?_) (fun g6 => ?_)
    · have hF := hF.trans (if_pos g6)
      have hok := And.left hok g6
      refine z_aload_n (j := 1) hx hb dX11_part_15 rfl rfl ?_
      refine z_iconst (v := 0) hx hb dX11_part_16 (by decide) ?_
      refine z_put (v := .int 0) (q' := (sI q 0 0)) S hK inX11 tyX11 tyX11_ok nmX11 0 (fun _ => rfl) rfl 0 (by decide) q6_97 rfl rfl rfl rfl (Nat.le_of_ble_eq_true rfl) dX11_part_17 (wMp0 kc ad _ _) (fun _ h => h) ?_
      refine z_iload_n (j := 0) hx hb dX11_part_20 rfl rfl ?_
      refine z_iconst (v := 5) hx hb dX11_part_21 (by decide) ?_
      refine z_icmp_eq (tgt := 31) hx hb dX11_part_22 (by decide) (fun g22 => ?_) (fun g22 => ?_)
      · have hF := hF.trans (if_pos g22)
        have hok := And.left hok g22
        refine z_sub [1, 0] rfl ?_
        exact b31 (sI q 0 0) s0 hok hF
      · have hF := hF.trans (if_neg g22)
        have hok := And.right hok g22
        refine z_iload_n (j := 0) hx hb dX11_part_25 rfl rfl ?_
        refine z_bipush (v := 6) hx hb dX11_part_26 (by decide) ?_
        refine z_icmp_ne (tgt := 35) hx hb dX11_part_28 (by decide) (fun g28 => ?_) (fun g28 => ?_)
        · have hF := hF.trans (if_neg g28)
          have hok := And.right hok g28
          refine z_sub [1, 0] rfl ?_
          exact b35 (sI q 0 0) s0 hok hF
        · have hF := hF.trans (if_pos g28)
          have hok := And.left hok g28
          refine z_sub [1, 0] rfl ?_
          exact b31 (sI q 0 0) s0 hok hF
    · have hF := hF.trans (if_neg g6)
      have hok := And.right hok g6
      refine z_aload_n (j := 1) hx hb dX11_part_9 rfl rfl ?_
      refine z_iconst (v := 1) hx hb dX11_part_10 (by decide) ?_
      have h11 := And.left hok
      have hok := And.right hok
      refine z_callVi (As := [.int 1]) S (ctX11_refuse l D kc ad q 1 h11) (cwV 1 S.2.2.2.2 (gV q7_30 q7_32 qp2_8 q1_12 q7_33) rfl rfl rfl hX11_refuse ⟨Nat.le_of_ble_eq_true rfl, Nat.le_of_ble_eq_true rfl⟩) hA (pbM D kc) (psM hK) (z_recv hK 0 (fun _ => rfl) rfl) rfl rfl (Nat.le_of_ble_eq_true rfl) dX11_part_11 ⟨Nat.le_of_ble_eq_true rfl, Nat.le_of_ble_eq_true rfl⟩ ?_
      exact z_iret hx hb hlocks hr rfl hF dX11_part_14
  refine z_iload_n (j := 1) hx hb dX11_part_0 rfl rfl ?_
  have h1 := And.left hok
  have hok := And.right hok
  refine z_callSi (As := [.int v1]) S (ctX11_place l D kc ad q v1 h1) (va_cwS 1 S.2.2.2.2 (gS q7_211 q7_212 q1_12 q7_213) rfl rfl rfl hX11_place ⟨Nat.le_of_ble_eq_true rfl, Nat.le_of_ble_eq_true rfl⟩) hA (pbM D kc) (psM hK) rfl rfl (Nat.le_of_ble_eq_true rfl) dX11_part_1 ⟨Nat.le_of_ble_eq_true rfl, Nat.le_of_ble_eq_true rfl⟩ ?_
  refine z_sub [0] rfl ?_
  exact b4 (fX11_place q v1).2 (fX11_place q v1).1 hok hF
theorem hX11_part : yX11_part.cls = RX11 ∧ yX11_part.cls ≠ "java/lang/invoke/MethodHandle" ∧ yX11_part.cls ≠ "java/lang/invoke/VarHandle" ∧ (parseMethodDescriptor yX11_part.desc).map (fun d => d.parameters.length) = some 1 := by decide +kernel
def fX11_next (q : SS) : Int32 × SS := ((gI q 6), q)
def kX11_next (q : SS) : Prop := True
set_option maxHeartbeats 4000000 in
set_option maxRecDepth 100000 in
theorem ctX11_next (l : Launch) (D : va_G) (kc : Nat → ClassId) (ad : Nat → Nat) (q : SS) (hok : kX11_next q) : Ci l yX11_next (Cond.code yX11_next cX11_next 1 (some .int) :: lw_G) (zr 0 0 0) 0 0 (PM D kc) (GM D kc ad) (GM D kc ad) [.ref (ad 0)] q (fX11_next q) := by
  refine Ci.of (cc := cX11_next) (maxL := 1) (ret := (some .int)) (by decide) rfl (Nat.le_of_ble_eq_true rfl) ?_
  intro p e s m args below meth c A S hr hlocks hin hA hK
  have hx := S.1
  have hb := S.2.1
  have hK : va_K D vwCl (tysK kc) s := hK
  generalize hFe : fX11_next q = F
  have hF : F = fX11_next q := hFe.symm
  refine z_aload_n (j := 0) hx hb dX11_next_0 rfl rfl ?_
  refine z_get (v := .int (gI q 6)) S hK inX11 0 (fun _ => rfl) rfl 6 (by decide) q6_103 rfl rfl dX11_next_1 ?_
  exact z_iret hx hb hlocks hr rfl hF dX11_next_4
theorem hX11_next : yX11_next.cls = RX11 ∧ yX11_next.cls ≠ "java/lang/invoke/MethodHandle" ∧ yX11_next.cls ≠ "java/lang/invoke/VarHandle" ∧ (parseMethodDescriptor yX11_next.desc).map (fun d => d.parameters.length) = some 0 := by decide +kernel
def fX11_returns (q : SS) : Int32 × SS := ((gI q 7), q)
def kX11_returns (q : SS) : Prop := True
set_option maxHeartbeats 4000000 in
set_option maxRecDepth 100000 in
theorem ctX11_returns (l : Launch) (D : va_G) (kc : Nat → ClassId) (ad : Nat → Nat) (q : SS) (hok : kX11_returns q) : Ci l yX11_returns (Cond.code yX11_returns cX11_returns 1 (some .int) :: lw_G) (zr 0 0 0) 0 0 (PM D kc) (GM D kc ad) (GM D kc ad) [.ref (ad 0)] q (fX11_returns q) := by
  refine Ci.of (cc := cX11_returns) (maxL := 1) (ret := (some .int)) (by decide) rfl (Nat.le_of_ble_eq_true rfl) ?_
  intro p e s m args below meth c A S hr hlocks hin hA hK
  have hx := S.1
  have hb := S.2.1
  have hK : va_K D vwCl (tysK kc) s := hK
  generalize hFe : fX11_returns q = F
  have hF : F = fX11_returns q := hFe.symm
  refine z_aload_n (j := 0) hx hb dX11_returns_0 rfl rfl ?_
  refine z_get (v := .int (gI q 7)) S hK inX11 0 (fun _ => rfl) rfl 7 (by decide) q6_104 rfl rfl dX11_returns_1 ?_
  exact z_iret hx hb hlocks hr rfl hF dX11_returns_4
theorem hX11_returns : yX11_returns.cls = RX11 ∧ yX11_returns.cls ≠ "java/lang/invoke/MethodHandle" ∧ yX11_returns.cls ≠ "java/lang/invoke/VarHandle" ∧ (parseMethodDescriptor yX11_returns.desc).map (fun d => d.parameters.length) = some 0 := by decide +kernel
def fX11_bus (q : SS) : Int32 × SS := ((gI q 8), q)
def kX11_bus (q : SS) : Prop := True
set_option maxHeartbeats 4000000 in
set_option maxRecDepth 100000 in
theorem ctX11_bus (l : Launch) (D : va_G) (kc : Nat → ClassId) (ad : Nat → Nat) (q : SS) (hok : kX11_bus q) : Ci l yX11_bus (Cond.code yX11_bus cX11_bus 1 (some .int) :: lw_G) (zr 0 0 0) 0 0 (PM D kc) (GM D kc ad) (GM D kc ad) [.ref (ad 0)] q (fX11_bus q) := by
  refine Ci.of (cc := cX11_bus) (maxL := 1) (ret := (some .int)) (by decide) rfl (Nat.le_of_ble_eq_true rfl) ?_
  intro p e s m args below meth c A S hr hlocks hin hA hK
  have hx := S.1
  have hb := S.2.1
  have hK : va_K D vwCl (tysK kc) s := hK
  generalize hFe : fX11_bus q = F
  have hF : F = fX11_bus q := hFe.symm
  refine z_aload_n (j := 0) hx hb dX11_bus_0 rfl rfl ?_
  refine z_get (v := .int (gI q 8)) S hK inX11 0 (fun _ => rfl) rfl 8 (by decide) q6_105 rfl rfl dX11_bus_1 ?_
  exact z_iret hx hb hlocks hr rfl hF dX11_bus_4
theorem hX11_bus : yX11_bus.cls = RX11 ∧ yX11_bus.cls ≠ "java/lang/invoke/MethodHandle" ∧ yX11_bus.cls ≠ "java/lang/invoke/VarHandle" ∧ (parseMethodDescriptor yX11_bus.desc).map (fun d => d.parameters.length) = some 0 := by decide +kernel
def fX11_drivers (q : SS) : Int32 × SS := ((gI q 9), q)
def kX11_drivers (q : SS) : Prop := True
set_option maxHeartbeats 4000000 in
set_option maxRecDepth 100000 in
theorem ctX11_drivers (l : Launch) (D : va_G) (kc : Nat → ClassId) (ad : Nat → Nat) (q : SS) (hok : kX11_drivers q) : Ci l yX11_drivers (Cond.code yX11_drivers cX11_drivers 1 (some .int) :: lw_G) (zr 0 0 0) 0 0 (PM D kc) (GM D kc ad) (GM D kc ad) [.ref (ad 0)] q (fX11_drivers q) := by
  refine Ci.of (cc := cX11_drivers) (maxL := 1) (ret := (some .int)) (by decide) rfl (Nat.le_of_ble_eq_true rfl) ?_
  intro p e s m args below meth c A S hr hlocks hin hA hK
  have hx := S.1
  have hb := S.2.1
  have hK : va_K D vwCl (tysK kc) s := hK
  generalize hFe : fX11_drivers q = F
  have hF : F = fX11_drivers q := hFe.symm
  refine z_aload_n (j := 0) hx hb dX11_drivers_0 rfl rfl ?_
  refine z_get (v := .int (gI q 9)) S hK inX11 0 (fun _ => rfl) rfl 9 (by decide) q6_106 rfl rfl dX11_drivers_1 ?_
  exact z_iret hx hb hlocks hr rfl hF dX11_drivers_4
theorem hX11_drivers : yX11_drivers.cls = RX11 ∧ yX11_drivers.cls ≠ "java/lang/invoke/MethodHandle" ∧ yX11_drivers.cls ≠ "java/lang/invoke/VarHandle" ∧ (parseMethodDescriptor yX11_drivers.desc).map (fun d => d.parameters.length) = some 0 := by decide +kernel
def fX11_ended (q : SS) : Int32 × SS := ((gI q 10), q)
def kX11_ended (q : SS) : Prop := True
set_option maxHeartbeats 4000000 in
set_option maxRecDepth 100000 in
theorem ctX11_ended (l : Launch) (D : va_G) (kc : Nat → ClassId) (ad : Nat → Nat) (q : SS) (hok : kX11_ended q) : Ci l yX11_ended (Cond.code yX11_ended cX11_ended 1 (some .int) :: lw_G) (zr 0 0 0) 0 0 (PM D kc) (GM D kc ad) (GM D kc ad) [.ref (ad 0)] q (fX11_ended q) := by
  refine Ci.of (cc := cX11_ended) (maxL := 1) (ret := (some .int)) (by decide) rfl (Nat.le_of_ble_eq_true rfl) ?_
  intro p e s m args below meth c A S hr hlocks hin hA hK
  have hx := S.1
  have hb := S.2.1
  have hK : va_K D vwCl (tysK kc) s := hK
  generalize hFe : fX11_ended q = F
  have hF : F = fX11_ended q := hFe.symm
  refine z_aload_n (j := 0) hx hb dX11_ended_0 rfl rfl ?_
  refine z_get (v := .int (gI q 10)) S hK inX11 0 (fun _ => rfl) rfl 10 (by decide) q6_107 rfl rfl dX11_ended_1 ?_
  exact z_iret hx hb hlocks hr rfl hF dX11_ended_4
theorem hX11_ended : yX11_ended.cls = RX11 ∧ yX11_ended.cls ≠ "java/lang/invoke/MethodHandle" ∧ yX11_ended.cls ≠ "java/lang/invoke/VarHandle" ∧ (parseMethodDescriptor yX11_ended.desc).map (fun d => d.parameters.length) = some 0 := by decide +kernel
def fX11_wrong (q : SS) : Int32 × SS := ((gI q 11), q)
def kX11_wrong (q : SS) : Prop := True
set_option maxHeartbeats 4000000 in
set_option maxRecDepth 100000 in
theorem ctX11_wrong (l : Launch) (D : va_G) (kc : Nat → ClassId) (ad : Nat → Nat) (q : SS) (hok : kX11_wrong q) : Ci l yX11_wrong (Cond.code yX11_wrong cX11_wrong 1 (some .int) :: lw_G) (zr 0 0 0) 0 0 (PM D kc) (GM D kc ad) (GM D kc ad) [.ref (ad 0)] q (fX11_wrong q) := by
  refine Ci.of (cc := cX11_wrong) (maxL := 1) (ret := (some .int)) (by decide) rfl (Nat.le_of_ble_eq_true rfl) ?_
  intro p e s m args below meth c A S hr hlocks hin hA hK
  have hx := S.1
  have hb := S.2.1
  have hK : va_K D vwCl (tysK kc) s := hK
  generalize hFe : fX11_wrong q = F
  have hF : F = fX11_wrong q := hFe.symm
  refine z_aload_n (j := 0) hx hb dX11_wrong_0 rfl rfl ?_
  refine z_get (v := .int (gI q 11)) S hK inX11 0 (fun _ => rfl) rfl 11 (by decide) q6_108 rfl rfl dX11_wrong_1 ?_
  exact z_iret hx hb hlocks hr rfl hF dX11_wrong_4
theorem hX11_wrong : yX11_wrong.cls = RX11 ∧ yX11_wrong.cls ≠ "java/lang/invoke/MethodHandle" ∧ yX11_wrong.cls ≠ "java/lang/invoke/VarHandle" ∧ (parseMethodDescriptor yX11_wrong.desc).map (fun d => d.parameters.length) = some 0 := by decide +kernel
def fX11_firstWrong (q : SS) : Int32 × SS := (if (gI q 11) = 0 then ((fX11_refuse q 1).1, (fX11_refuse q 1).2) else ((gI q 12), (sI q 0 0)))
def kX11_firstWrong (q : SS) : Prop := (((gI q 11) = 0 → kX11_refuse q 1 ∧ True) ∧ (¬ (gI q 11) = 0 → True))
set_option maxHeartbeats 4000000 in
set_option maxRecDepth 100000 in
theorem ctX11_firstWrong (l : Launch) (D : va_G) (kc : Nat → ClassId) (ad : Nat → Nat) (q : SS) (hok : kX11_firstWrong q) : Ci l yX11_firstWrong (Cond.code yX11_firstWrong cX11_firstWrong 1 (some .int) :: lw_G) (zr 1 0 0) 0 0 (PM D kc) (GM D kc ad) (GM D kc ad) [.ref (ad 0)] q (fX11_firstWrong q) := by
  refine Ci.of (cc := cX11_firstWrong) (maxL := 1) (ret := (some .int)) (by decide) rfl (Nat.le_of_ble_eq_true rfl) ?_
  intro p e s m args below meth c A S hr hlocks hin hA hK
  have hx := S.1
  have hb := S.2.1
  have hK : va_K D vwCl (tysK kc) s := hK
  generalize hFe : fX11_firstWrong q = F
  have hF : F = fX11_firstWrong q := hFe.symm
  refine z_aload_n (j := 0) hx hb dX11_firstWrong_0 rfl rfl ?_
  refine z_get (v := .int (gI q 11)) S hK inX11 0 (fun _ => rfl) rfl 11 (by decide) q6_108 rfl rfl dX11_firstWrong_1 ?_
  refine z_if_ne (tgt := 13) hx hb dX11_firstWrong_4 (by decide) (fun g4 => ?_) (fun g4 => ?_)
  · have hF := hF.trans (if_neg g4)
    have hok := And.right hok g4
    refine z_aload_n (j := 0) hx hb dX11_firstWrong_13 rfl rfl ?_
    refine z_iconst (v := 0) hx hb dX11_firstWrong_14 (by decide) ?_
    refine z_put (v := .int 0) (q' := (sI q 0 0)) S hK inX11 tyX11 tyX11_ok nmX11 0 (fun _ => rfl) rfl 0 (by decide) q6_97 rfl rfl rfl rfl (Nat.le_of_ble_eq_true rfl) dX11_firstWrong_15 (wMp0 kc ad _ _) (fun _ h => h) ?_
    refine z_aload_n (j := 0) hx hb dX11_firstWrong_18 rfl rfl ?_
    refine z_get (v := .int (gI q 12)) S hK inX11 0 (fun _ => rfl) rfl 12 (by decide) q6_109 rfl rfl dX11_firstWrong_19 ?_
    exact z_iret hx hb hlocks hr rfl hF dX11_firstWrong_22
  · have hF := hF.trans (if_pos g4)
    have hok := And.left hok g4
    refine z_aload_n (j := 0) hx hb dX11_firstWrong_7 rfl rfl ?_
    refine z_iconst (v := 1) hx hb dX11_firstWrong_8 (by decide) ?_
    have h9 := And.left hok
    have hok := And.right hok
    refine z_callVi (As := [.int 1]) S (ctX11_refuse l D kc ad q 1 h9) (cwV 1 S.2.2.2.2 (gV q7_30 q7_32 qp2_8 q1_12 q7_33) rfl rfl rfl hX11_refuse ⟨Nat.le_of_ble_eq_true rfl, Nat.le_of_ble_eq_true rfl⟩) hA (pbM D kc) (psM hK) (z_recv hK 0 (fun _ => rfl) rfl) rfl rfl (Nat.le_of_ble_eq_true rfl) dX11_firstWrong_9 ⟨Nat.le_of_ble_eq_true rfl, Nat.le_of_ble_eq_true rfl⟩ ?_
    exact z_iret hx hb hlocks hr rfl hF dX11_firstWrong_12
theorem hX11_firstWrong : yX11_firstWrong.cls = RX11 ∧ yX11_firstWrong.cls ≠ "java/lang/invoke/MethodHandle" ∧ yX11_firstWrong.cls ≠ "java/lang/invoke/VarHandle" ∧ (parseMethodDescriptor yX11_firstWrong.desc).map (fun d => d.parameters.length) = some 0 := by decide +kernel
def fX11_fights (q : SS) : Int32 × SS := ((gI q 13), q)
def kX11_fights (q : SS) : Prop := True
set_option maxHeartbeats 4000000 in
set_option maxRecDepth 100000 in
theorem ctX11_fights (l : Launch) (D : va_G) (kc : Nat → ClassId) (ad : Nat → Nat) (q : SS) (hok : kX11_fights q) : Ci l yX11_fights (Cond.code yX11_fights cX11_fights 1 (some .int) :: lw_G) (zr 0 0 0) 0 0 (PM D kc) (GM D kc ad) (GM D kc ad) [.ref (ad 0)] q (fX11_fights q) := by
  refine Ci.of (cc := cX11_fights) (maxL := 1) (ret := (some .int)) (by decide) rfl (Nat.le_of_ble_eq_true rfl) ?_
  intro p e s m args below meth c A S hr hlocks hin hA hK
  have hx := S.1
  have hb := S.2.1
  have hK : va_K D vwCl (tysK kc) s := hK
  generalize hFe : fX11_fights q = F
  have hF : F = fX11_fights q := hFe.symm
  refine z_aload_n (j := 0) hx hb dX11_fights_0 rfl rfl ?_
  refine z_get (v := .int (gI q 13)) S hK inX11 0 (fun _ => rfl) rfl 13 (by decide) q6_110 rfl rfl dX11_fights_1 ?_
  exact z_iret hx hb hlocks hr rfl hF dX11_fights_4
theorem hX11_fights : yX11_fights.cls = RX11 ∧ yX11_fights.cls ≠ "java/lang/invoke/MethodHandle" ∧ yX11_fights.cls ≠ "java/lang/invoke/VarHandle" ∧ (parseMethodDescriptor yX11_fights.desc).map (fun d => d.parameters.length) = some 0 := by decide +kernel
def fX11_faults (q : SS) : Int32 × SS := ((gI q 14), q)
def kX11_faults (q : SS) : Prop := True
set_option maxHeartbeats 4000000 in
set_option maxRecDepth 100000 in
theorem ctX11_faults (l : Launch) (D : va_G) (kc : Nat → ClassId) (ad : Nat → Nat) (q : SS) (hok : kX11_faults q) : Ci l yX11_faults (Cond.code yX11_faults cX11_faults 1 (some .int) :: lw_G) (zr 0 0 0) 0 0 (PM D kc) (GM D kc ad) (GM D kc ad) [.ref (ad 0)] q (fX11_faults q) := by
  refine Ci.of (cc := cX11_faults) (maxL := 1) (ret := (some .int)) (by decide) rfl (Nat.le_of_ble_eq_true rfl) ?_
  intro p e s m args below meth c A S hr hlocks hin hA hK
  have hx := S.1
  have hb := S.2.1
  have hK : va_K D vwCl (tysK kc) s := hK
  generalize hFe : fX11_faults q = F
  have hF : F = fX11_faults q := hFe.symm
  refine z_aload_n (j := 0) hx hb dX11_faults_0 rfl rfl ?_
  refine z_get (v := .int (gI q 14)) S hK inX11 0 (fun _ => rfl) rfl 14 (by decide) q6_111 rfl rfl dX11_faults_1 ?_
  exact z_iret hx hb hlocks hr rfl hF dX11_faults_4
theorem hX11_faults : yX11_faults.cls = RX11 ∧ yX11_faults.cls ≠ "java/lang/invoke/MethodHandle" ∧ yX11_faults.cls ≠ "java/lang/invoke/VarHandle" ∧ (parseMethodDescriptor yX11_faults.desc).map (fun d => d.parameters.length) = some 0 := by decide +kernel
def fX11_taken (q : SS) : Int32 × SS := ((gI q 15), q)
def kX11_taken (q : SS) : Prop := True
set_option maxHeartbeats 4000000 in
set_option maxRecDepth 100000 in
theorem ctX11_taken (l : Launch) (D : va_G) (kc : Nat → ClassId) (ad : Nat → Nat) (q : SS) (hok : kX11_taken q) : Ci l yX11_taken (Cond.code yX11_taken cX11_taken 1 (some .int) :: lw_G) (zr 0 0 0) 0 0 (PM D kc) (GM D kc ad) (GM D kc ad) [.ref (ad 0)] q (fX11_taken q) := by
  refine Ci.of (cc := cX11_taken) (maxL := 1) (ret := (some .int)) (by decide) rfl (Nat.le_of_ble_eq_true rfl) ?_
  intro p e s m args below meth c A S hr hlocks hin hA hK
  have hx := S.1
  have hb := S.2.1
  have hK : va_K D vwCl (tysK kc) s := hK
  generalize hFe : fX11_taken q = F
  have hF : F = fX11_taken q := hFe.symm
  refine z_aload_n (j := 0) hx hb dX11_taken_0 rfl rfl ?_
  refine z_get (v := .int (gI q 15)) S hK inX11 0 (fun _ => rfl) rfl 15 (by decide) q6_112 rfl rfl dX11_taken_1 ?_
  exact z_iret hx hb hlocks hr rfl hF dX11_taken_4
theorem hX11_taken : yX11_taken.cls = RX11 ∧ yX11_taken.cls ≠ "java/lang/invoke/MethodHandle" ∧ yX11_taken.cls ≠ "java/lang/invoke/VarHandle" ∧ (parseMethodDescriptor yX11_taken.desc).map (fun d => d.parameters.length) = some 0 := by decide +kernel
def fX11_found (q : SS) : Int32 × SS := ((gI q 16), q)
def kX11_found (q : SS) : Prop := True
set_option maxHeartbeats 4000000 in
set_option maxRecDepth 100000 in
theorem ctX11_found (l : Launch) (D : va_G) (kc : Nat → ClassId) (ad : Nat → Nat) (q : SS) (hok : kX11_found q) : Ci l yX11_found (Cond.code yX11_found cX11_found 1 (some .int) :: lw_G) (zr 0 0 0) 0 0 (PM D kc) (GM D kc ad) (GM D kc ad) [.ref (ad 0)] q (fX11_found q) := by
  refine Ci.of (cc := cX11_found) (maxL := 1) (ret := (some .int)) (by decide) rfl (Nat.le_of_ble_eq_true rfl) ?_
  intro p e s m args below meth c A S hr hlocks hin hA hK
  have hx := S.1
  have hb := S.2.1
  have hK : va_K D vwCl (tysK kc) s := hK
  generalize hFe : fX11_found q = F
  have hF : F = fX11_found q := hFe.symm
  refine z_aload_n (j := 0) hx hb dX11_found_0 rfl rfl ?_
  refine z_get (v := .int (gI q 16)) S hK inX11 0 (fun _ => rfl) rfl 16 (by decide) q6_113 rfl rfl dX11_found_1 ?_
  exact z_iret hx hb hlocks hr rfl hF dX11_found_4
theorem hX11_found : yX11_found.cls = RX11 ∧ yX11_found.cls ≠ "java/lang/invoke/MethodHandle" ∧ yX11_found.cls ≠ "java/lang/invoke/VarHandle" ∧ (parseMethodDescriptor yX11_found.desc).map (fun d => d.parameters.length) = some 0 := by decide +kernel
def fX11_cycles (q : SS) : Int64 × SS := ((gL q 21), q)
def kX11_cycles (q : SS) : Prop := True
set_option maxHeartbeats 4000000 in
set_option maxRecDepth 100000 in
theorem ctX11_cycles (l : Launch) (D : va_G) (kc : Nat → ClassId) (ad : Nat → Nat) (q : SS) (hok : kX11_cycles q) : Cl l yX11_cycles (Cond.code yX11_cycles cX11_cycles 1 (some .long) :: lw_G) (zr 0 0 0) 0 0 (PM D kc) (GM D kc ad) (GM D kc ad) [.ref (ad 0)] q (fX11_cycles q) := by
  refine Cl.of (cc := cX11_cycles) (maxL := 1) (ret := (some .long)) (by decide) rfl (Nat.le_of_ble_eq_true rfl) ?_
  intro p e s m args below meth c A S hr hlocks hin hA hK
  have hx := S.1
  have hb := S.2.1
  have hK : va_K D vwCl (tysK kc) s := hK
  generalize hFe : fX11_cycles q = F
  have hF : F = fX11_cycles q := hFe.symm
  refine z_aload_n (j := 0) hx hb dX11_cycles_0 rfl rfl ?_
  refine z_get (v := .long (gL q 21)) S hK inX11 0 (fun _ => rfl) rfl 21 (by decide) q6_118 rfl rfl dX11_cycles_1 ?_
  exact z_lret hx hb hlocks hr hF dX11_cycles_4
theorem hX11_cycles : yX11_cycles.cls = RX11 ∧ yX11_cycles.cls ≠ "java/lang/invoke/MethodHandle" ∧ yX11_cycles.cls ≠ "java/lang/invoke/VarHandle" ∧ (parseMethodDescriptor yX11_cycles.desc).map (fun d => d.parameters.length) = some 0 := by decide +kernel
def fX11_cyclesOf_50 (q : SS) (s0 : Int64) : Int64 × SS := (s0, q)
def kX11_cyclesOf_50 (q : SS) (s0 : Int64) : Prop := True
def fX11_cyclesOf_25 (q : SS) (v1 : Int32) (v2 : Int32) (s0 : Int32) : Int64 × SS := (if s0 = 0 then fX11_cyclesOf_50 (sI q 0 s0) ((gB q 22) (((16 * v1) + v2) : Int32).toNatClampNeg) else fX11_cyclesOf_50 (sI q 0 s0) 0)
def kX11_cyclesOf_25 (q : SS) (v1 : Int32) (v2 : Int32) (s0 : Int32) : Prop := ((s0 = 0 → vp_in ((16 * v1) + v2) 32 ∧ kX11_cyclesOf_50 (sI q 0 s0) ((gB q 22) (((16 * v1) + v2) : Int32).toNatClampNeg)) ∧ (¬ s0 = 0 → kX11_cyclesOf_50 (sI q 0 s0) 0))
def fX11_cyclesOf_24 (q : SS) (v1 : Int32) (v2 : Int32) : Int64 × SS := fX11_cyclesOf_25 q v1 v2 1
def kX11_cyclesOf_24 (q : SS) (v1 : Int32) (v2 : Int32) : Prop := kX11_cyclesOf_25 q v1 v2 1
def fX11_cyclesOf_17 (q : SS) (v1 : Int32) (v2 : Int32) (s0 : Int32) : Int64 × SS := (if s0 = 0 then fX11_cyclesOf_24 q v1 v2 else fX11_cyclesOf_25 q v1 v2 0)
def kX11_cyclesOf_17 (q : SS) (v1 : Int32) (v2 : Int32) (s0 : Int32) : Prop := ((s0 = 0 → kX11_cyclesOf_24 q v1 v2) ∧ (¬ s0 = 0 → kX11_cyclesOf_25 q v1 v2 0))
def fX11_cyclesOf_7 (q : SS) (v1 : Int32) (v2 : Int32) (s0 : Int32) : Int64 × SS := (if s0 = 0 then fX11_cyclesOf_24 q v1 v2 else fX11_cyclesOf_17 (fX11_isIn q v2 0 15).2 v1 v2 (fX11_isIn q v2 0 15).1)
def kX11_cyclesOf_7 (q : SS) (v1 : Int32) (v2 : Int32) (s0 : Int32) : Prop := ((s0 = 0 → kX11_cyclesOf_24 q v1 v2) ∧ (¬ s0 = 0 → kX11_isIn q v2 0 15 ∧ kX11_cyclesOf_17 (fX11_isIn q v2 0 15).2 v1 v2 (fX11_isIn q v2 0 15).1))
def fX11_cyclesOf (q : SS) (v1 : Int32) (v2 : Int32) : Int64 × SS := fX11_cyclesOf_7 (fX11_isIn q v1 0 1).2 v1 v2 (fX11_isIn q v1 0 1).1
def kX11_cyclesOf (q : SS) (v1 : Int32) (v2 : Int32) : Prop := kX11_isIn q v1 0 1 ∧ kX11_cyclesOf_7 (fX11_isIn q v1 0 1).2 v1 v2 (fX11_isIn q v1 0 1).1
set_option maxHeartbeats 4000000 in
set_option maxRecDepth 100000 in
theorem ctX11_cyclesOf (l : Launch) (D : va_G) (kc : Nat → ClassId) (ad : Nat → Nat) (q : SS) (v1 : Int32) (v2 : Int32) (hok : kX11_cyclesOf q v1 v2) : Cl l yX11_cyclesOf (Cond.code yX11_cyclesOf cX11_cyclesOf 3 (some .long) :: lw_G) (zr 1 0 0) 0 0 (PM D kc) (GM D kc ad) (GM D kc ad) [.ref (ad 0), .int v1, .int v2] q (fX11_cyclesOf q v1 v2) := by
  refine Cl.of (cc := cX11_cyclesOf) (maxL := 3) (ret := (some .long)) (by decide) rfl (Nat.le_of_ble_eq_true rfl) ?_
  intro p e s m args below meth c A S hr hlocks hin hA hK
  have hx := S.1
  have hb := S.2.1
  have hK : va_K D vwCl (tysK kc) s := hK
  generalize hFe : fX11_cyclesOf q v1 v2 = F
  have hF : F = fX11_cyclesOf q v1 v2 := hFe.symm
  have b50 : ∀ (q : SS) (s0 : Int64), kX11_cyclesOf_50 q s0 → F = fX11_cyclesOf_50 q s0 → Z p l e (zr 1 0 0) s m args below meth c 0 0 (MQ below (va_Ql (fun (x : Int64) (_ : Unit) => x = F.1) (fun _ t => (GM D kc ad) A F.2 t.heap) A) args s 0 0 A) 3 A (ZG D vwCl (wM kc ad) (fun _ tl => tl = []) A) q 50 [] [.long s0] := by
    intro q s0 hok hF
    exact z_lret hx hb hlocks hr hF dX11_cyclesOf_50
  have b25 : ∀ (q : SS) (v1 : Int32) (v2 : Int32) (s0 : Int32), kX11_cyclesOf_25 q v1 v2 s0 → F = fX11_cyclesOf_25 q v1 v2 s0 → Z p l e (zr 1 0 0) s m args below meth c 0 0 (MQ below (va_Ql (fun (x : Int64) (_ : Unit) => x = F.1) (fun _ t => (GM D kc ad) A F.2 t.heap) A) args s 0 0 A) 3 A (ZG D vwCl (wM kc ad) (fun _ tl => tl = []) A) q 25 [(0, .ref (ad 0)), (1, .int v1), (2, .int v2)] [.int s0, .ref (ad 0)] := by
    intro q v1 v2 s0 hok hF
    refine z_put (v := .int s0) (q' := (sI q 0 s0)) S hK inX11 tyX11 tyX11_ok nmX11 0 (fun _ => rfl) rfl 0 (by decide) q6_97 rfl rfl rfl rfl (Nat.le_of_ble_eq_true rfl) dX11_cyclesOf_25 (wMp0 kc ad _ _) (fun _ h => h) ?_
    refine z_aload_n (j := 0) hx hb dX11_cyclesOf_28 rfl rfl ?_
    refine z_get (v := .int s0) S hK inX11 0 (fun _ => rfl) rfl 0 (by decide) q6_97 rfl rfl dX11_cyclesOf_29 ?_
    refine z_if_ne (tgt := 49) hx hb dX11_cyclesOf_32 (by decide) (fun g32 => ?_) (fun g32 => ?_)
    · have hF := hF.trans (if_neg g32)
      have hok := And.right hok g32
      refine z_lconst (v := 0) hx hb dX11_cyclesOf_49 (by decide) ?_
      refine z_sub [] rfl ?_
      exact b50 (sI q 0 s0) 0 hok hF
    · have hF := hF.trans (if_pos g32)
      have hok := And.left hok g32
      refine z_aload_n (j := 0) hx hb dX11_cyclesOf_35 rfl rfl ?_
      refine z_get (v := .ref (ad 22)) S hK inX11 0 (fun _ => rfl) rfl 49 (by decide) q6_146 rfl rfl dX11_cyclesOf_36 ?_
      refine z_bipush (v := 16) hx hb dX11_cyclesOf_39 (by decide) ?_
      refine z_iload_n (j := 1) hx hb dX11_cyclesOf_41 rfl rfl ?_
      refine z_imul hx hb dX11_cyclesOf_42 ?_
      refine z_iload_n (j := 2) hx hb dX11_cyclesOf_43 rfl rfl ?_
      refine z_iadd hx hb dX11_cyclesOf_44 ?_
      have h45 := And.left hok
      have hok := And.right hok
      refine z_lald (f := (gB q 22)) S hK 22 2 (fun _ => rfl) rfl h45 dX11_cyclesOf_45 ?_
      refine z_goto (tgt := 50) hx hb dX11_cyclesOf_46 (by decide) ?_
      refine z_sub [] rfl ?_
      exact b50 (sI q 0 s0) ((gB q 22) (((16 * v1) + v2) : Int32).toNatClampNeg) hok hF
  have b24 : ∀ (q : SS) (v1 : Int32) (v2 : Int32), kX11_cyclesOf_24 q v1 v2 → F = fX11_cyclesOf_24 q v1 v2 → Z p l e (zr 1 0 0) s m args below meth c 0 0 (MQ below (va_Ql (fun (x : Int64) (_ : Unit) => x = F.1) (fun _ t => (GM D kc ad) A F.2 t.heap) A) args s 0 0 A) 3 A (ZG D vwCl (wM kc ad) (fun _ tl => tl = []) A) q 24 [(0, .ref (ad 0)), (1, .int v1), (2, .int v2)] [.ref (ad 0)] := by
    intro q v1 v2 hok hF
    refine z_iconst (v := 1) hx hb dX11_cyclesOf_24 (by decide) ?_
    exact b25 q v1 v2 1 hok hF
  have b17 : ∀ (q : SS) (v1 : Int32) (v2 : Int32) (s0 : Int32), kX11_cyclesOf_17 q v1 v2 s0 → F = fX11_cyclesOf_17 q v1 v2 s0 → Z p l e (zr 1 0 0) s m args below meth c 0 0 (MQ below (va_Ql (fun (x : Int64) (_ : Unit) => x = F.1) (fun _ t => (GM D kc ad) A F.2 t.heap) A) args s 0 0 A) 3 A (ZG D vwCl (wM kc ad) (fun _ tl => tl = []) A) q 17 [(0, .ref (ad 0)), (1, .int v1), (2, .int v2)] [.int s0, .ref (ad 0)] := by
    intro q v1 v2 s0 hok hF
    refine z_if_eq (tgt := 24) hx hb dX11_cyclesOf_17 (by decide) (fun g17 => ?_) (fun g17 => ?_)
    · have hF := hF.trans (if_pos g17)
      have hok := And.left hok g17
      exact b24 q v1 v2 hok hF
    · have hF := hF.trans (if_neg g17)
      have hok := And.right hok g17
      refine z_iconst (v := 0) hx hb dX11_cyclesOf_20 (by decide) ?_
      refine z_goto (tgt := 25) hx hb dX11_cyclesOf_21 (by decide) ?_
      exact b25 q v1 v2 0 hok hF
  have b7 : ∀ (q : SS) (v1 : Int32) (v2 : Int32) (s0 : Int32), kX11_cyclesOf_7 q v1 v2 s0 → F = fX11_cyclesOf_7 q v1 v2 s0 → Z p l e (zr 1 0 0) s m args below meth c 0 0 (MQ below (va_Ql (fun (x : Int64) (_ : Unit) => x = F.1) (fun _ t => (GM D kc ad) A F.2 t.heap) A) args s 0 0 A) 3 A (ZG D vwCl (wM kc ad) (fun _ tl => tl = []) A) q 7 [(0, .ref (ad 0)), (1, .int v1), (2, .int v2)] [.int s0, .ref (ad 0)] := by
    intro q v1 v2 s0 hok hF
    refine z_if_eq (tgt := 24) hx hb dX11_cyclesOf_7 (by decide) (fun g7 => ?_) (fun g7 => ?_)
    · have hF := hF.trans (if_pos g7)
      have hok := And.left hok g7
      exact b24 q v1 v2 hok hF
    · have hF := hF.trans (if_neg g7)
      have hok := And.right hok g7
      refine z_iload_n (j := 2) hx hb dX11_cyclesOf_10 rfl rfl ?_
      refine z_iconst (v := 0) hx hb dX11_cyclesOf_11 (by decide) ?_
      refine z_bipush (v := 15) hx hb dX11_cyclesOf_12 (by decide) ?_
      have h14 := And.left hok
      have hok := And.right hok
      refine z_callSi (As := [.int v2, .int 0, .int 15]) S (ctX11_isIn l D kc ad q v2 0 15 h14) (va_cwS 3 S.2.2.2.2 (gS q7_21 q7_22 q1_12 q7_23) rfl rfl rfl hX11_isIn ⟨Nat.le_of_ble_eq_true rfl, Nat.le_of_ble_eq_true rfl⟩) hA (pbM D kc) (psM hK) rfl rfl (Nat.le_of_ble_eq_true rfl) dX11_cyclesOf_14 ⟨Nat.le_of_ble_eq_true rfl, Nat.le_of_ble_eq_true rfl⟩ ?_
      exact b17 (fX11_isIn q v2 0 15).2 v1 v2 (fX11_isIn q v2 0 15).1 hok hF
  refine z_aload_n (j := 0) hx hb dX11_cyclesOf_0 rfl rfl ?_
  refine z_iload_n (j := 1) hx hb dX11_cyclesOf_1 rfl rfl ?_
  refine z_iconst (v := 0) hx hb dX11_cyclesOf_2 (by decide) ?_
  refine z_iconst (v := 1) hx hb dX11_cyclesOf_3 (by decide) ?_
  have h4 := And.left hok
  have hok := And.right hok
  refine z_callSi (As := [.int v1, .int 0, .int 1]) S (ctX11_isIn l D kc ad q v1 0 1 h4) (va_cwS 3 S.2.2.2.2 (gS q7_21 q7_22 q1_12 q7_23) rfl rfl rfl hX11_isIn ⟨Nat.le_of_ble_eq_true rfl, Nat.le_of_ble_eq_true rfl⟩) hA (pbM D kc) (psM hK) rfl rfl (Nat.le_of_ble_eq_true rfl) dX11_cyclesOf_4 ⟨Nat.le_of_ble_eq_true rfl, Nat.le_of_ble_eq_true rfl⟩ ?_
  exact b7 (fX11_isIn q v1 0 1).2 v1 v2 (fX11_isIn q v1 0 1).1 hok hF
theorem hX11_cyclesOf : yX11_cyclesOf.cls = RX11 ∧ yX11_cyclesOf.cls ≠ "java/lang/invoke/MethodHandle" ∧ yX11_cyclesOf.cls ≠ "java/lang/invoke/VarHandle" ∧ (parseMethodDescriptor yX11_cyclesOf.desc).map (fun d => d.parameters.length) = some 2 := by decide +kernel
def fX11_isSound (q : SS) : Int32 × SS := (1, q)
def kX11_isSound (q : SS) : Prop := True
set_option maxHeartbeats 4000000 in
set_option maxRecDepth 100000 in
theorem ctX11_isSound (l : Launch) (D : va_G) (kc : Nat → ClassId) (ad : Nat → Nat) (q : SS) (hok : kX11_isSound q) : Ci l yX11_isSound (Cond.code yX11_isSound cX11_isSound 1 (some .boolean) :: lw_G) (zr 0 0 0) 0 0 (PM D kc) (GM D kc ad) (GM D kc ad) [.ref (ad 0)] q (fX11_isSound q) := by
  refine Ci.of (cc := cX11_isSound) (maxL := 1) (ret := (some .boolean)) (by decide) rfl (Nat.le_of_ble_eq_true rfl) ?_
  intro p e s m args below meth c A S hr hlocks hin hA hK
  have hx := S.1
  have hb := S.2.1
  have hK : va_K D vwCl (tysK kc) s := hK
  generalize hFe : fX11_isSound q = F
  have hF : F = fX11_isSound q := hFe.symm
  refine z_iconst (v := 1) hx hb dX11_isSound_0 (by decide) ?_
  exact z_iret hx hb hlocks hr (by decide) hF dX11_isSound_1
theorem hX11_isSound : yX11_isSound.cls = RX11 ∧ yX11_isSound.cls ≠ "java/lang/invoke/MethodHandle" ∧ yX11_isSound.cls ≠ "java/lang/invoke/VarHandle" ∧ (parseMethodDescriptor yX11_isSound.desc).map (fun d => d.parameters.length) = some 0 := by decide +kernel
