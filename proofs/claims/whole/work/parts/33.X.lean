def fJ7_fill_53178_coming_5 : Nat → SS → Int32 → Int32 → Int32 → SS
  | 0, q, _, _, _ => q
  | n + 1, q, v1, v2, v3 => (if v3 ≤ v2 then q else fJ7_fill_53178_coming_5 n (sA q 23 (upd (gA q 23) (v2 : Int32).toNatClampNeg v1)) v1 (v2 + 1) v3)
def kJ7_fill_53178_coming_5 : Nat → SS → Int32 → Int32 → Int32 → Prop
  | 0, _, _, _, _ => False
  | n + 1, q, v1, v2, v3 => ((v3 ≤ v2 → True) ∧ (¬ v3 ≤ v2 → vp_in v2 80 ∧ kJ7_fill_53178_coming_5 n (sA q 23 (upd (gA q 23) (v2 : Int32).toNatClampNeg v1)) v1 (v2 + 1) v3))
def fJ7_fill_53178_coming (q : SS) (v1 : Int32) : SS := fJ7_fill_53178_coming_5 90 q v1 0 80
def kJ7_fill_53178_coming (q : SS) (v1 : Int32) : Prop := kJ7_fill_53178_coming_5 90 q v1 0 80
set_option maxHeartbeats 4000000 in
set_option maxRecDepth 100000 in
theorem ctJ7_fill_53178_coming (l : Launch) (hl : l.stackTraces = false) (D : va_G) (kc : Nat → ClassId) (ad wad : Nat → Nat) (q : SS) (v1 : Int32) (hok : kJ7_fill_53178_coming q v1) : Cv l yJ7_fill_53178 (Cond.code yJ7_fill_53178 cJ7_fill_53178 4 none :: lw_G) (zr 0 0 0) 0 0 (PX D kc) (GX D kc ad wad) (GX D kc ad wad) [.ref (ad 23), .int v1] q (fJ7_fill_53178_coming q v1) := by
  refine Cv.of (cc := cJ7_fill_53178) (maxL := 4) (ret := none) (by decide) rfl (Nat.le_of_ble_eq_true rfl) ?_
  intro p e s m args below meth c A S hr hlocks hin hA hK
  have hx := S.1
  have hb := S.2.1
  have hE : EV A s s.heap := hK.2
  have hK : va_K D vwCl (tysK kc) s := hK.1
  generalize hFe : fJ7_fill_53178_coming q v1 = F
  have hF : F = fJ7_fill_53178_coming q v1 := hFe.symm
  have b5 : ∀ (n : Nat) (q : SS) (v1 : Int32) (v2 : Int32) (v3 : Int32), kJ7_fill_53178_coming_5 n q v1 v2 v3 → F = fJ7_fill_53178_coming_5 n q v1 v2 v3 → Z p l e (zr 0 0 0) s m args below meth c 0 0 (MQ below (va_Qv (fun (_ : Unit) => True) (fun _ t => (GX D kc ad wad) A F t.heap) A) args s 0 0 A) 4 A (ZG D vwCl (wX kc ad wad) (PLX wad) A) q 5 [(0, .ref (ad 23)), (1, .int v1), (2, .int v2), (3, .int v3)] [] := by
    intro n
    induction n with
    | zero => intro q v1 v2 v3 hok hF; exact False.elim hok
    | succ n ih =>
      intro q v1 v2 v3 hok hF
      refine z_iload_n (j := 2) hx hb dJ7_fill_53178_5 rfl rfl ?_
      refine z_iload_n (j := 3) hx hb dJ7_fill_53178_6 rfl rfl ?_
      refine z_icmp_ge (tgt := 20) hx hb dJ7_fill_53178_7 (by decide) (fun g7 => ?_) (fun g7 => ?_)
      · have hF := hF.trans (if_pos g7)
        have hok := And.left hok g7
        exact z_vret hx hb hlocks hr hF dJ7_fill_53178_20
      · have hF := hF.trans (if_neg g7)
        have hok := And.right hok g7
        refine z_aload_n (j := 0) hx hb dJ7_fill_53178_10 rfl rfl ?_
        refine z_iload_n (j := 2) hx hb dJ7_fill_53178_11 rfl rfl ?_
        refine z_iload_n (j := 1) hx hb dJ7_fill_53178_12 rfl rfl ?_
        have h13 := And.left hok
        have hok := And.right hok
        refine z_iast (f := (gA q 23)) (q' := (sA q 23 (upd (gA q 23) (v2 : Int32).toNatClampNeg v1))) S hK 23 0 (fun _ => rfl) rfl h13 dJ7_fill_53178_13 (wXa23 kc ad wad _ _) (fun _ h => h) ?_
        refine z_iinc (k := 2) (v := (v2 + 1)) (lv' := [(2, .int (v2 + 1)), (0, .ref (ad 23)), (1, .int v1), (3, .int v3)]) hx hb dJ7_fill_53178_14 rfl rfl (by decide) rfl ?_
        refine z_goto (tgt := 5) hx hb dJ7_fill_53178_17 (by decide) ?_
        refine z_sub [1, 2, 0, 3] rfl ?_
        exact ih (sA q 23 (upd (gA q 23) (v2 : Int32).toNatClampNeg v1)) v1 (v2 + 1) v3 hok hF
  refine z_iconst (v := 0) hx hb dJ7_fill_53178_0 (by decide) ?_
  refine z_istore_n (lv' := [(2, .int 0), (0, .ref (ad 23)), (1, .int v1)]) hx hb dJ7_fill_53178_1 rfl (by decide) rfl ?_
  refine z_aload_n (j := 1) hx hb dJ7_fill_53178_2 rfl rfl ?_
  refine z_alen (v := 80) S hK 23 0 (fun _ => rfl) rfl rfl dJ7_fill_53178_3 ?_
  refine z_istore_n (lv' := [(3, .int 80), (2, .int 0), (0, .ref (ad 23)), (1, .int v1)]) hx hb dJ7_fill_53178_4 rfl (by decide) rfl ?_
  refine z_sub [2, 3, 1, 0] rfl ?_
  exact b5 90 q v1 0 80 hok hF
theorem hJ7_fill_53178 : yJ7_fill_53178.cls ≠ "java/lang/invoke/MethodHandle" ∧ yJ7_fill_53178.cls ≠ "java/lang/invoke/VarHandle" ∧ (parseMethodDescriptor yJ7_fill_53178.desc).map (fun d => d.parameters.length) = some 2 := by decide +kernel
def fX0_come_51 (q : SS) : SS := q
def kX0_come_51 (q : SS) : Prop := True
def fX0_come_87 (q : SS) (v1 : Int32) (s0 : Int32) (s1 : Int32) (s2 : Int32) : SS := (sI (sA (sI q 604 (s2 ||| (s1 &&& s0))) 24 (upd (gA q 24) ((gI q 603) : Int32).toNatClampNeg v1)) 603 ((gI q 603) + 1))
def kX0_come_87 (q : SS) (v1 : Int32) (s0 : Int32) (s1 : Int32) (s2 : Int32) : Prop := vp_in (gI q 603) 400 ∧ True
def fX0_come_67 (q : SS) (v1 : Int32) (v2 : Int32) (w3 : Nat) (v4 : Int32) : SS := fX0_come_87 (fX9_partsRead (sA q 23 (upd (gA q 23) (v1 : Int32).toNatClampNeg (v4 ||| v2))) w3).2 v1 (fX9_partsRead (sA q 23 (upd (gA q 23) (v1 : Int32).toNatClampNeg (v4 ||| v2))) w3).1 v2 (gI q 604)
def kX0_come_67 (q : SS) (v1 : Int32) (v2 : Int32) (w3 : Nat) (v4 : Int32) : Prop := vp_in v1 80 ∧ kX9_partsRead (sA q 23 (upd (gA q 23) (v1 : Int32).toNatClampNeg (v4 ||| v2))) w3 ∧ isW (sA q 23 (upd (gA q 23) (v1 : Int32).toNatClampNeg (v4 ||| v2))) w3 ∧ kX0_come_87 (fX9_partsRead (sA q 23 (upd (gA q 23) (v1 : Int32).toNatClampNeg (v4 ||| v2))) w3).2 v1 (fX9_partsRead (sA q 23 (upd (gA q 23) (v1 : Int32).toNatClampNeg (v4 ||| v2))) w3).1 v2 (gI q 604)
def fX0_come_6 (q : SS) (v1 : Int32) (v2 : Int32) (s0 : Int32) : SS := (if s0 = 0 then (oc (fX7_wordAt q v1).1 ((fX7_wordAt q v1).2) (fun w15 => (if (v2 &&& (((gA (fX7_wordAt q v1).2 23) (v1 : Int32).toNatClampNeg) ^^^ (-1))) = 0 then fX0_come_51 (fX7_wordAt q v1).2 else (if (gI (fX7_wordAt q v1).2 603) < 400 then (if ((gA (fX7_wordAt q v1).2 23) (v1 : Int32).toNatClampNeg) = 0 then fX0_come_67 (sI (fX7_wordAt q v1).2 605 ((gI (fX7_wordAt q v1).2 605) + 1)) v1 v2 w15 ((gA (fX7_wordAt q v1).2 23) (v1 : Int32).toNatClampNeg) else fX0_come_67 (fX7_wordAt q v1).2 v1 v2 w15 ((gA (fX7_wordAt q v1).2 23) (v1 : Int32).toNatClampNeg)) else fX0_come_51 (fX7_wordAt q v1).2)))) else q)
def kX0_come_6 (q : SS) (v1 : Int32) (v2 : Int32) (s0 : Int32) : Prop := ((s0 = 0 → kX7_wordAt q v1 ∧ (((fX7_wordAt q v1).1 = none → True) ∧ (∀ w15, (fX7_wordAt q v1).1 = some w15 → vp_in v1 80 ∧ (((v2 &&& (((gA (fX7_wordAt q v1).2 23) (v1 : Int32).toNatClampNeg) ^^^ (-1))) = 0 → kX0_come_51 (fX7_wordAt q v1).2) ∧ (¬ (v2 &&& (((gA (fX7_wordAt q v1).2 23) (v1 : Int32).toNatClampNeg) ^^^ (-1))) = 0 → (((gI (fX7_wordAt q v1).2 603) < 400 → ((((gA (fX7_wordAt q v1).2 23) (v1 : Int32).toNatClampNeg) = 0 → kX0_come_67 (sI (fX7_wordAt q v1).2 605 ((gI (fX7_wordAt q v1).2 605) + 1)) v1 v2 w15 ((gA (fX7_wordAt q v1).2 23) (v1 : Int32).toNatClampNeg)) ∧ (¬ ((gA (fX7_wordAt q v1).2 23) (v1 : Int32).toNatClampNeg) = 0 → kX0_come_67 (fX7_wordAt q v1).2 v1 v2 w15 ((gA (fX7_wordAt q v1).2 23) (v1 : Int32).toNatClampNeg)))) ∧ (¬ (gI (fX7_wordAt q v1).2 603) < 400 → kX0_come_51 (fX7_wordAt q v1).2))))))) ∧ (¬ s0 = 0 → True))
def fX0_come (q : SS) (v1 : Int32) (v2 : Int32) : SS := fX0_come_6 (fX10_isOutside q v1 80).2 v1 v2 (fX10_isOutside q v1 80).1
def kX0_come (q : SS) (v1 : Int32) (v2 : Int32) : Prop := kX10_isOutside q v1 80 ∧ kX0_come_6 (fX10_isOutside q v1 80).2 v1 v2 (fX10_isOutside q v1 80).1
set_option maxHeartbeats 4000000 in
set_option maxRecDepth 100000 in
theorem ctX0_come (l : Launch) (hl : l.stackTraces = false) (D : va_G) (kc : Nat → ClassId) (ad wad : Nat → Nat) (q : SS) (v1 : Int32) (v2 : Int32) (hok : kX0_come q v1 v2) : Cv l yX0_come (Cond.code yX0_come cX0_come 5 none :: lw_G) (zr 2 0 0) 0 0 (PX D kc) (GX D kc ad wad) (GX D kc ad wad) [.ref (ad 5), .int v1, .int v2] q (fX0_come q v1 v2) := by
  refine Cv.of (cc := cX0_come) (maxL := 5) (ret := none) (by decide) rfl (Nat.le_of_ble_eq_true rfl) ?_
  intro p e s m args below meth c A S hr hlocks hin hA hK
  have hx := S.1
  have hb := S.2.1
  have hE : EV A s s.heap := hK.2
  have hK : va_K D vwCl (tysK kc) s := hK.1
  generalize hFe : fX0_come q v1 v2 = F
  have hF : F = fX0_come q v1 v2 := hFe.symm
  have b51 : ∀ (q : SS), kX0_come_51 q → F = fX0_come_51 q → Z p l e (zr 2 0 0) s m args below meth c 0 0 (MQ below (va_Qv (fun (_ : Unit) => True) (fun _ t => (GX D kc ad wad) A F t.heap) A) args s 0 0 A) 5 A (ZG D vwCl (wX kc ad wad) (PLX wad) A) q 51 [] [] := by
    intro q hok hF
    exact z_vret hx hb hlocks hr hF dX0_come_51
  have b87 : ∀ (q : SS) (v1 : Int32) (s0 : Int32) (s1 : Int32) (s2 : Int32), kX0_come_87 q v1 s0 s1 s2 → F = fX0_come_87 q v1 s0 s1 s2 → Z p l e (zr 2 0 0) s m args below meth c 0 0 (MQ below (va_Qv (fun (_ : Unit) => True) (fun _ t => (GX D kc ad wad) A F t.heap) A) args s 0 0 A) 5 A (ZG D vwCl (wX kc ad wad) (PLX wad) A) q 87 [(0, .ref (ad 5)), (1, .int v1)] [.int s0, .int s1, .int s2, .ref (ad 5)] := by
    intro q v1 s0 s1 s2 hok hF
    refine z_iand hx hb dX0_come_87 ?_
    refine z_ior hx hb dX0_come_88 ?_
    refine z_put (v := .int (s2 ||| (s1 &&& s0))) (q' := (sI q 604 (s2 ||| (s1 &&& s0)))) S hK inX0 tyX0 tyX0_ok nmX0 5 (fun _ => rfl) rfl 4 (by decide) q2_118 rfl rfl rfl rfl (Nat.le_of_ble_eq_true rfl) dX0_come_89 (wXp604 kc ad wad _ _) (fun _ h => h) ?_
    refine z_aload_n (j := 0) hx hb dX0_come_92 rfl rfl ?_
    refine z_get (v := .ref (ad 24)) S hK inX0 5 (fun _ => rfl) rfl 2 (by decide) q2_116 rfl rfl dX0_come_93 ?_
    refine z_aload_n (j := 0) hx hb dX0_come_96 rfl rfl ?_
    refine z_get (v := .int (gI q 603)) S hK inX0 5 (fun _ => rfl) rfl 3 (by decide) q2_117 rfl rfl dX0_come_97 ?_
    refine z_iload_n (j := 1) hx hb dX0_come_100 rfl rfl ?_
    have h101 := And.left hok
    have hok := And.right hok
    refine z_iast (f := (gA q 24)) (q' := (sA (sI q 604 (s2 ||| (s1 &&& s0))) 24 (upd (gA q 24) ((gI q 603) : Int32).toNatClampNeg v1))) S hK 24 0 (fun _ => rfl) rfl h101 dX0_come_101 (wXa24 kc ad wad _ _) (fun _ h => h) ?_
    refine z_aload_n (j := 0) hx hb dX0_come_102 rfl rfl ?_
    refine z_dup hx hb dX0_come_103 rfl ?_
    refine z_get (v := .int (gI q 603)) S hK inX0 5 (fun _ => rfl) rfl 3 (by decide) q2_117 rfl rfl dX0_come_104 ?_
    refine z_iconst (v := 1) hx hb dX0_come_107 (by decide) ?_
    refine z_iadd hx hb dX0_come_108 ?_
    refine z_put (v := .int ((gI q 603) + 1)) (q' := (sI (sA (sI q 604 (s2 ||| (s1 &&& s0))) 24 (upd (gA q 24) ((gI q 603) : Int32).toNatClampNeg v1)) 603 ((gI q 603) + 1))) S hK inX0 tyX0 tyX0_ok nmX0 5 (fun _ => rfl) rfl 3 (by decide) q2_117 rfl rfl rfl rfl (Nat.le_of_ble_eq_true rfl) dX0_come_109 (wXp603 kc ad wad _ _) (fun _ h => h) ?_
    exact z_vret hx hb hlocks hr hF dX0_come_112
  have b67 : ∀ (q : SS) (v1 : Int32) (v2 : Int32) (w3 : Nat) (v4 : Int32), kX0_come_67 q v1 v2 w3 v4 → F = fX0_come_67 q v1 v2 w3 v4 → Z p l e (zr 2 0 0) s m args below meth c 0 0 (MQ below (va_Qv (fun (_ : Unit) => True) (fun _ t => (GX D kc ad wad) A F t.heap) A) args s 0 0 A) 5 A (ZG D vwCl (wX kc ad wad) (PLX wad) A) q 67 [(0, .ref (ad 5)), (1, .int v1), (2, .int v2), (3, .ref (wad w3)), (4, .int v4)] [] := by
    intro q v1 v2 w3 v4 hok hF
    refine z_aload_n (j := 0) hx hb dX0_come_67 rfl rfl ?_
    refine z_get (v := .ref (ad 23)) S hK inX0 5 (fun _ => rfl) rfl 1 (by decide) q2_115 rfl rfl dX0_come_68 ?_
    refine z_iload_n (j := 1) hx hb dX0_come_71 rfl rfl ?_
    refine z_iload (j := 4) hx hb dX0_come_72 rfl ?_
    refine z_iload_n (j := 2) hx hb dX0_come_74 rfl rfl ?_
    refine z_ior hx hb dX0_come_75 ?_
    have h76 := And.left hok
    have hok := And.right hok
    refine z_iast (f := (gA q 23)) (q' := (sA q 23 (upd (gA q 23) (v1 : Int32).toNatClampNeg (v4 ||| v2)))) S hK 23 0 (fun _ => rfl) rfl h76 dX0_come_76 (wXa23 kc ad wad _ _) (fun _ h => h) ?_
    refine z_aload_n (j := 0) hx hb dX0_come_77 rfl rfl ?_
    refine z_dup hx hb dX0_come_78 rfl ?_
    refine z_get (v := .int (gI q 604)) S hK inX0 5 (fun _ => rfl) rfl 4 (by decide) q2_118 rfl rfl dX0_come_79 ?_
    refine z_iload_n (j := 2) hx hb dX0_come_82 rfl rfl ?_
    refine z_aload_n (j := 3) hx hb dX0_come_83 rfl rfl ?_
    have h84 := And.left hok
    have hok := And.right hok
    have h84_r := And.left hok
    have hok := And.right hok
    refine z_callVi (As := []) S (ctX9_partsRead l hl D kc ad wad (sA q 23 (upd (gA q 23) (v1 : Int32).toNatClampNeg (v4 ||| v2))) w3 h84) (cwV 0 S.2.2.2.2 (gV q6_9 q6_10 q6_11 q1_26 q6_12) rfl rfl rfl hX9_partsRead ⟨Nat.le_of_ble_eq_true rfl, Nat.le_of_ble_eq_true rfl⟩) hA (pbX D kc) (psX hK hE) (z_recvW hK h84_r) rfl rfl (Nat.le_of_ble_eq_true rfl) dX0_come_84 ⟨Nat.le_of_ble_eq_true rfl, Nat.le_of_ble_eq_true rfl⟩ ?_
    refine z_sub [0, 1] rfl ?_
    exact b87 (fX9_partsRead (sA q 23 (upd (gA q 23) (v1 : Int32).toNatClampNeg (v4 ||| v2))) w3).2 v1 (fX9_partsRead (sA q 23 (upd (gA q 23) (v1 : Int32).toNatClampNeg (v4 ||| v2))) w3).1 v2 (gI q 604) hok hF
  have b6 : ∀ (q : SS) (v1 : Int32) (v2 : Int32) (s0 : Int32), kX0_come_6 q v1 v2 s0 → F = fX0_come_6 q v1 v2 s0 → Z p l e (zr 2 0 0) s m args below meth c 0 0 (MQ below (va_Qv (fun (_ : Unit) => True) (fun _ t => (GX D kc ad wad) A F t.heap) A) args s 0 0 A) 5 A (ZG D vwCl (wX kc ad wad) (PLX wad) A) q 6 [(0, .ref (ad 5)), (1, .int v1), (2, .int v2)] [.int s0] := by
    intro q v1 v2 s0 hok hF
    refine z_if_eq (tgt := 10) hx hb dX0_come_6 (by decide) (fun g6 => ?_) (fun g6 => ?_)
    · have hF := hF.trans (if_pos g6)
      have hok := And.left hok g6
      refine z_aload_n (j := 0) hx hb dX0_come_10 rfl rfl ?_
      refine z_get (v := .ref (ad 1)) S hK inX0 5 (fun _ => rfl) rfl 0 (by decide) q2_114 rfl rfl dX0_come_11 ?_
      refine z_iload_n (j := 1) hx hb dX0_come_14 rfl rfl ?_
      have h15 := And.left hok
      have hok := And.right hok
      refine z_callVw (As := [.int v1]) S (ctX7_wordAt l hl D kc ad wad q v1 h15) (cwV 1 S.2.2.2.2 (gV q6_8 q4_85 q4_86 q1_2 q4_87) rfl rfl rfl hX7_wordAt ⟨Nat.le_of_ble_eq_true rfl, Nat.le_of_ble_eq_true rfl⟩) hA (pbX D kc) (psX hK hE) (z_recv hK 1 (fun _ => rfl) rfl) rfl rfl (Nat.le_of_ble_eq_true rfl) dX0_come_15 ⟨Nat.le_of_ble_eq_true rfl, Nat.le_of_ble_eq_true rfl⟩ (fun g15 => ?_) (fun w15 g15 => ?_)
      · have hF := hF.trans (oc_n g15)
        have hok := And.left hok g15
        refine z_astore_nN (lv' := [(3, .null), (0, .ref (ad 5)), (1, .int v1), (2, .int v2)]) hx hb dX0_come_18 rfl (by decide) rfl ?_
        refine z_aload_nN (j := 0) hx hb dX0_come_19 rfl rfl ?_
        refine z_ifnonnullN hx hb dX0_come_20 ?_
        exact z_vret hx hb hlocks hr hF dX0_come_23
      · have hF := hF.trans (oc_s g15)
        have hok := And.right hok w15 g15
        refine z_astore_n (lv' := [(3, .ref (wad w15)), (0, .ref (ad 5)), (1, .int v1), (2, .int v2)]) hx hb dX0_come_18 rfl (by decide) rfl ?_
        refine z_aload_n (j := 0) hx hb dX0_come_19 rfl rfl ?_
        refine z_ifnonnull (tgt := 24) hx hb dX0_come_20 (by decide) ?_
        refine z_aload_n (j := 1) hx hb dX0_come_24 rfl rfl ?_
        refine z_get (v := .ref (ad 23)) S hK inX0 5 (fun _ => rfl) rfl 1 (by decide) q2_115 rfl rfl dX0_come_25 ?_
        refine z_iload_n (j := 2) hx hb dX0_come_28 rfl rfl ?_
        have h29 := And.left hok
        have hok := And.right hok
        refine z_iald (f := (gA (fX7_wordAt q v1).2 23)) S hK 23 0 (fun _ => rfl) rfl h29 dX0_come_29 ?_
        refine z_istore (lv' := [(4, .int ((gA (fX7_wordAt q v1).2 23) (v1 : Int32).toNatClampNeg)), (3, .ref (wad w15)), (0, .ref (ad 5)), (1, .int v1), (2, .int v2)]) hx hb dX0_come_30 (by decide) rfl ?_
        refine z_iload_n (j := 4) hx hb dX0_come_32 rfl rfl ?_
        refine z_iload (j := 0) hx hb dX0_come_33 rfl ?_
        refine z_iconst (v := (-1)) hx hb dX0_come_35 (by decide) ?_
        refine z_ixor hx hb dX0_come_36 ?_
        refine z_iand hx hb dX0_come_37 ?_
        refine z_if_eq (tgt := 51) hx hb dX0_come_38 (by decide) (fun g38 => ?_) (fun g38 => ?_)
        · have hF := hF.trans (if_pos g38)
          have hok := And.left hok g38
          refine z_sub [] rfl ?_
          exact b51 (fX7_wordAt q v1).2 hok hF
        · have hF := hF.trans (if_neg g38)
          have hok := And.right hok g38
          refine z_aload_n (j := 2) hx hb dX0_come_41 rfl rfl ?_
          refine z_get (v := .int (gI (fX7_wordAt q v1).2 603)) S hK inX0 5 (fun _ => rfl) rfl 3 (by decide) q2_117 rfl rfl dX0_come_42 ?_
          refine z_sipush (v := 400) hx hb dX0_come_45 (by decide) ?_
          refine z_icmp_lt (tgt := 52) hx hb dX0_come_48 (by decide) (fun g48 => ?_) (fun g48 => ?_)
          · have hF := hF.trans (if_pos g48)
            have hok := And.left hok g48
            refine z_iload (j := 0) hx hb dX0_come_52 rfl ?_
            refine z_if_ne (tgt := 67) hx hb dX0_come_54 (by decide) (fun g54 => ?_) (fun g54 => ?_)
            · have hF := hF.trans (if_neg g54)
              have hok := And.right hok g54
              refine z_sub [2, 3, 4, 1, 0] rfl ?_
              exact b67 (fX7_wordAt q v1).2 v1 v2 w15 ((gA (fX7_wordAt q v1).2 23) (v1 : Int32).toNatClampNeg) hok hF
            · have hF := hF.trans (if_pos g54)
              have hok := And.left hok g54
              refine z_aload_n (j := 2) hx hb dX0_come_57 rfl rfl ?_
              refine z_dup hx hb dX0_come_58 rfl ?_
              refine z_get (v := .int (gI (fX7_wordAt q v1).2 605)) S hK inX0 5 (fun _ => rfl) rfl 5 (by decide) q2_120 rfl rfl dX0_come_59 ?_
              refine z_iconst (v := 1) hx hb dX0_come_62 (by decide) ?_
              refine z_iadd hx hb dX0_come_63 ?_
              refine z_put (v := .int ((gI (fX7_wordAt q v1).2 605) + 1)) (q' := (sI (fX7_wordAt q v1).2 605 ((gI (fX7_wordAt q v1).2 605) + 1))) S hK inX0 tyX0 tyX0_ok nmX0 5 (fun _ => rfl) rfl 5 (by decide) q2_120 rfl rfl rfl rfl (Nat.le_of_ble_eq_true rfl) dX0_come_64 (wXp605 kc ad wad _ _) (fun _ h => h) ?_
              refine z_sub [2, 3, 4, 1, 0] rfl ?_
              exact b67 (sI (fX7_wordAt q v1).2 605 ((gI (fX7_wordAt q v1).2 605) + 1)) v1 v2 w15 ((gA (fX7_wordAt q v1).2 23) (v1 : Int32).toNatClampNeg) hok hF
          · have hF := hF.trans (if_neg g48)
            have hok := And.right hok g48
            refine z_sub [] rfl ?_
            exact b51 (fX7_wordAt q v1).2 hok hF
    · have hF := hF.trans (if_neg g6)
      have hok := And.right hok g6
      exact z_vret hx hb hlocks hr hF dX0_come_9
  refine z_iload_n (j := 1) hx hb dX0_come_0 rfl rfl ?_
  refine z_bipush (v := 80) hx hb dX0_come_1 (by decide) ?_
  have h3 := And.left hok
  have hok := And.right hok
  refine z_callSNi (As := [.int v1, .int 80]) S (ctX10_isOutside l hl D kc ad wad q v1 80 h3) ⟨va_cnB 2 S.2.2.2.2 (gW q3_13) rfl rfl rfl (hE.2.2.2.2.2.1 (RX0, 46, yX10_isOutside) (List.mem_of_getElem? (i := 2) rfl)) (S.2.2.2.2 _ q1_1) hX10_isOutside ⟨Nat.le_of_ble_eq_true rfl, Nat.le_of_ble_eq_true rfl⟩, S.2.2.2.2 _ q3_12, trivial⟩ hA (pbX D kc) (psX hK hE) rfl rfl (Nat.le_of_ble_eq_true rfl) dX0_come_3 ⟨Nat.le_of_ble_eq_true rfl, Nat.le_of_ble_eq_true rfl⟩ ?_
  exact b6 (fX10_isOutside q v1 80).2 v1 v2 (fX10_isOutside q v1 80).1 hok hF
theorem hX0_come : yX0_come.cls = RX0 ∧ yX0_come.cls ≠ "java/lang/invoke/MethodHandle" ∧ yX0_come.cls ≠ "java/lang/invoke/VarHandle" ∧ (parseMethodDescriptor yX0_come.desc).map (fun d => d.parameters.length) = some 2 := by decide +kernel
def fX0_goOnByTests_37 (k2 : SS → Nat → Int32 → Int32 → SS) (q : SS) (w1 : Nat) (v2 : Int32) (v3 : Int32) : SS := k2 q w1 v2 (v3 + 1)
def kX0_goOnByTests_37 (kk2 : SS → Nat → Int32 → Int32 → Prop) (q : SS) (w1 : Nat) (v2 : Int32) (v3 : Int32) : Prop := kk2 q w1 v2 (v3 + 1)
def fX0_goOnByTests_33 (k2 : SS → Nat → Int32 → Int32 → SS) (q : SS) (w1 : Nat) (v2 : Int32) (v3 : Int32) (s0 : Int32) : SS := fX0_goOnByTests_37 k2 (fX0_come q s0 v2) w1 v2 v3
def kX0_goOnByTests_33 (kk2 : SS → Nat → Int32 → Int32 → Prop) (q : SS) (w1 : Nat) (v2 : Int32) (v3 : Int32) (s0 : Int32) : Prop := kX0_come q s0 v2 ∧ kX0_goOnByTests_37 kk2 (fX0_come q s0 v2) w1 v2 v3
def fX0_goOnByTests_2 : Nat → SS → Nat → Int32 → Int32 → SS
  | 0, q, _, _, _ => q
  | n + 1, q, w1, v2, v3 => (if 8 ≤ v3 then q else (if (v3 &&& ((gA q 36 w1) ^^^ (-1))) = 0 then fX0_goOnByTests_33 (fX0_goOnByTests_2 n) (fX7_followed q ((gA q 35 w1) ||| v3)).2 w1 v2 v3 (fX7_followed q ((gA q 35 w1) ||| v3)).1 else fX0_goOnByTests_37 (fX0_goOnByTests_2 n) q w1 v2 v3))
def kX0_goOnByTests_2 : Nat → SS → Nat → Int32 → Int32 → Prop
  | 0, _, _, _, _ => False
  | n + 1, q, w1, v2, v3 => ((8 ≤ v3 → True) ∧ (¬ 8 ≤ v3 → isW q w1 ∧ (((v3 &&& ((gA q 36 w1) ^^^ (-1))) = 0 → isW q w1 ∧ kX7_followed q ((gA q 35 w1) ||| v3) ∧ kX0_goOnByTests_33 (kX0_goOnByTests_2 n) (fX7_followed q ((gA q 35 w1) ||| v3)).2 w1 v2 v3 (fX7_followed q ((gA q 35 w1) ||| v3)).1) ∧ (¬ (v3 &&& ((gA q 36 w1) ^^^ (-1))) = 0 → kX0_goOnByTests_37 (kX0_goOnByTests_2 n) q w1 v2 v3))))
def fX0_goOnByTests (q : SS) (w1 : Nat) (v2 : Int32) : SS := fX0_goOnByTests_2 10 q w1 v2 0
def kX0_goOnByTests (q : SS) (w1 : Nat) (v2 : Int32) : Prop := kX0_goOnByTests_2 10 q w1 v2 0
set_option maxHeartbeats 4000000 in
set_option maxRecDepth 100000 in
theorem ctX0_goOnByTests (l : Launch) (hl : l.stackTraces = false) (D : va_G) (kc : Nat → ClassId) (ad wad : Nat → Nat) (q : SS) (w1 : Nat) (v2 : Int32) (hok : kX0_goOnByTests q w1 v2) : Cv l yX0_goOnByTests (Cond.code yX0_goOnByTests cX0_goOnByTests 4 none :: lw_G) (zr 3 0 0) 0 0 (PX D kc) (GX D kc ad wad) (GX D kc ad wad) [.ref (ad 5), .ref (wad w1), .int v2] q (fX0_goOnByTests q w1 v2) := by
  refine Cv.of (cc := cX0_goOnByTests) (maxL := 4) (ret := none) (by decide) rfl (Nat.le_of_ble_eq_true rfl) ?_
  intro p e s m args below meth c A S hr hlocks hin hA hK
  have hx := S.1
  have hb := S.2.1
  have hE : EV A s s.heap := hK.2
  have hK : va_K D vwCl (tysK kc) s := hK.1
  generalize hFe : fX0_goOnByTests q w1 v2 = F
  have hF : F = fX0_goOnByTests q w1 v2 := hFe.symm
  have b37 : ∀ (k2 : SS → Nat → Int32 → Int32 → SS) (kk2 : SS → Nat → Int32 → Int32 → Prop) (_ : ∀ (q : SS) (w1 : Nat) (v2 : Int32) (v3 : Int32), kk2 q w1 v2 v3 → F = k2 q w1 v2 v3 → Z p l e (zr 3 0 0) s m args below meth c 0 0 (MQ below (va_Qv (fun (_ : Unit) => True) (fun _ t => (GX D kc ad wad) A F t.heap) A) args s 0 0 A) 4 A (ZG D vwCl (wX kc ad wad) (PLX wad) A) q 2 [(0, .ref (ad 5)), (1, .ref (wad w1)), (2, .int v2), (3, .int v3)] []) (q : SS) (w1 : Nat) (v2 : Int32) (v3 : Int32), kX0_goOnByTests_37 kk2 q w1 v2 v3 → F = fX0_goOnByTests_37 k2 q w1 v2 v3 → Z p l e (zr 3 0 0) s m args below meth c 0 0 (MQ below (va_Qv (fun (_ : Unit) => True) (fun _ t => (GX D kc ad wad) A F t.heap) A) args s 0 0 A) 4 A (ZG D vwCl (wX kc ad wad) (PLX wad) A) q 37 [(0, .ref (ad 5)), (1, .ref (wad w1)), (2, .int v2), (3, .int v3)] [] := by
    intro k2 kk2 hk2 q w1 v2 v3 hok hF
    refine z_iinc (k := 3) (v := (v3 + 1)) (lv' := [(3, .int (v3 + 1)), (0, .ref (ad 5)), (1, .ref (wad w1)), (2, .int v2)]) hx hb dX0_goOnByTests_37 rfl rfl (by decide) rfl ?_
    refine z_goto (tgt := 2) hx hb dX0_goOnByTests_40 (by decide) ?_
    refine z_sub [1, 2, 3, 0] rfl ?_
    exact hk2 q w1 v2 (v3 + 1) hok hF
  have b33 : ∀ (k2 : SS → Nat → Int32 → Int32 → SS) (kk2 : SS → Nat → Int32 → Int32 → Prop) (_ : ∀ (q : SS) (w1 : Nat) (v2 : Int32) (v3 : Int32), kk2 q w1 v2 v3 → F = k2 q w1 v2 v3 → Z p l e (zr 3 0 0) s m args below meth c 0 0 (MQ below (va_Qv (fun (_ : Unit) => True) (fun _ t => (GX D kc ad wad) A F t.heap) A) args s 0 0 A) 4 A (ZG D vwCl (wX kc ad wad) (PLX wad) A) q 2 [(0, .ref (ad 5)), (1, .ref (wad w1)), (2, .int v2), (3, .int v3)] []) (q : SS) (w1 : Nat) (v2 : Int32) (v3 : Int32) (s0 : Int32), kX0_goOnByTests_33 kk2 q w1 v2 v3 s0 → F = fX0_goOnByTests_33 k2 q w1 v2 v3 s0 → Z p l e (zr 3 0 0) s m args below meth c 0 0 (MQ below (va_Qv (fun (_ : Unit) => True) (fun _ t => (GX D kc ad wad) A F t.heap) A) args s 0 0 A) 4 A (ZG D vwCl (wX kc ad wad) (PLX wad) A) q 33 [(0, .ref (ad 5)), (1, .ref (wad w1)), (2, .int v2), (3, .int v3)] [.int s0, .ref (ad 5)] := by
    intro k2 kk2 hk2 q w1 v2 v3 s0 hok hF
    refine z_iload_n (j := 2) hx hb dX0_goOnByTests_33 rfl rfl ?_
    have h34 := And.left hok
    have hok := And.right hok
    refine z_callVv (As := [.int s0, .int v2]) S (ctX0_come l hl D kc ad wad q s0 v2 h34) (cwV 2 S.2.2.2.2 (gV q6_3 q6_5 qp2_4 q1_11 q6_6) rfl rfl rfl hX0_come ⟨Nat.le_of_ble_eq_true rfl, Nat.le_of_ble_eq_true rfl⟩) hA (pbX D kc) (psX hK hE) (z_recv hK 5 (fun _ => rfl) rfl) rfl rfl (Nat.le_of_ble_eq_true rfl) dX0_goOnByTests_34 ⟨Nat.le_of_ble_eq_true rfl, Nat.le_of_ble_eq_true rfl⟩ ?_
    exact b37 k2 kk2 hk2 (fX0_come q s0 v2) w1 v2 v3 hok hF
  have b2 : ∀ (n : Nat) (q : SS) (w1 : Nat) (v2 : Int32) (v3 : Int32), kX0_goOnByTests_2 n q w1 v2 v3 → F = fX0_goOnByTests_2 n q w1 v2 v3 → Z p l e (zr 3 0 0) s m args below meth c 0 0 (MQ below (va_Qv (fun (_ : Unit) => True) (fun _ t => (GX D kc ad wad) A F t.heap) A) args s 0 0 A) 4 A (ZG D vwCl (wX kc ad wad) (PLX wad) A) q 2 [(0, .ref (ad 5)), (1, .ref (wad w1)), (2, .int v2), (3, .int v3)] [] := by
    intro n
    induction n with
    | zero => intro q w1 v2 v3 hok hF; exact False.elim hok
    | succ n ih =>
      intro q w1 v2 v3 hok hF
      refine z_iload_n (j := 3) hx hb dX0_goOnByTests_2 rfl rfl ?_
      refine z_bipush (v := 8) hx hb dX0_goOnByTests_3 (by decide) ?_
      refine z_icmp_ge (tgt := 43) hx hb dX0_goOnByTests_5 (by decide) (fun g5 => ?_) (fun g5 => ?_)
      · have hF := hF.trans (if_pos g5)
        have hok := And.left hok g5
        exact z_vret hx hb hlocks hr hF dX0_goOnByTests_43
      · have hF := hF.trans (if_neg g5)
        have hok := And.right hok g5
        refine z_iload_n (j := 3) hx hb dX0_goOnByTests_8 rfl rfl ?_
        refine z_aload_n (j := 1) hx hb dX0_goOnByTests_9 rfl rfl ?_
        have h10 := And.left hok
        have hok := And.right hok
        refine z_getW (v := .int (gA q 36 w1)) S hK h10 inX9 6 (by decide) q4_48 rfl rfl dX0_goOnByTests_10 ?_
        refine z_iconst (v := (-1)) hx hb dX0_goOnByTests_13 (by decide) ?_
        refine z_ixor hx hb dX0_goOnByTests_14 ?_
        refine z_iand hx hb dX0_goOnByTests_15 ?_
        refine z_if_ne (tgt := 37) hx hb dX0_goOnByTests_16 (by decide) (fun g16 => ?_) (fun g16 => ?_)
        · have hF := hF.trans (if_neg g16)
          have hok := And.right hok g16
          exact b37 (fX0_goOnByTests_2 n) (kX0_goOnByTests_2 n) ih q w1 v2 v3 hok hF
        · have hF := hF.trans (if_pos g16)
          have hok := And.left hok g16
          refine z_aload_n (j := 0) hx hb dX0_goOnByTests_19 rfl rfl ?_
          refine z_aload_n (j := 0) hx hb dX0_goOnByTests_20 rfl rfl ?_
          refine z_get (v := .ref (ad 1)) S hK inX0 5 (fun _ => rfl) rfl 0 (by decide) q2_114 rfl rfl dX0_goOnByTests_21 ?_
          refine z_aload_n (j := 1) hx hb dX0_goOnByTests_24 rfl rfl ?_
          have h25 := And.left hok
          have hok := And.right hok
          refine z_getW (v := .int (gA q 35 w1)) S hK h25 inX9 5 (by decide) q4_44 rfl rfl dX0_goOnByTests_25 ?_
          refine z_iload_n (j := 3) hx hb dX0_goOnByTests_28 rfl rfl ?_
          refine z_ior hx hb dX0_goOnByTests_29 ?_
          have h30 := And.left hok
          have hok := And.right hok
          refine z_callVi (As := [.int ((gA q 35 w1) ||| v3)]) S (ctX7_followed l hl D kc ad wad q ((gA q 35 w1) ||| v3) h30) (cwV 1 S.2.2.2.2 (gV q6_21 q5_176 q5_177 q1_2 q5_178) rfl rfl rfl hX7_followed ⟨Nat.le_of_ble_eq_true rfl, Nat.le_of_ble_eq_true rfl⟩) hA (pbX D kc) (psX hK hE) (z_recv hK 1 (fun _ => rfl) rfl) rfl rfl (Nat.le_of_ble_eq_true rfl) dX0_goOnByTests_30 ⟨Nat.le_of_ble_eq_true rfl, Nat.le_of_ble_eq_true rfl⟩ ?_
          exact b33 (fX0_goOnByTests_2 n) (kX0_goOnByTests_2 n) ih (fX7_followed q ((gA q 35 w1) ||| v3)).2 w1 v2 v3 (fX7_followed q ((gA q 35 w1) ||| v3)).1 hok hF
  refine z_iconst (v := 0) hx hb dX0_goOnByTests_0 (by decide) ?_
  refine z_istore_n (lv' := [(3, .int 0), (0, .ref (ad 5)), (1, .ref (wad w1)), (2, .int v2)]) hx hb dX0_goOnByTests_1 rfl (by decide) rfl ?_
  refine z_sub [1, 2, 3, 0] rfl ?_
  exact b2 10 q w1 v2 0 hok hF
theorem hX0_goOnByTests : yX0_goOnByTests.cls = RX0 ∧ yX0_goOnByTests.cls ≠ "java/lang/invoke/MethodHandle" ∧ yX0_goOnByTests.cls ≠ "java/lang/invoke/VarHandle" ∧ (parseMethodDescriptor yX0_goOnByTests.desc).map (fun d => d.parameters.length) = some 2 := by decide +kernel
def fX0_goOn_138 (q : SS) : SS := q
def kX0_goOn_138 (q : SS) : Prop := True
def fX0_goOn_135 (q : SS) : SS := fX0_goOn_138 q
def kX0_goOn_135 (q : SS) : Prop := kX0_goOn_138 q
def fX0_goOn_131 (q : SS) (v3 : Int32) (s0 : Int32) : SS := fX0_goOn_135 (fX0_come q s0 v3)
def kX0_goOn_131 (q : SS) (v3 : Int32) (s0 : Int32) : Prop := kX0_come q s0 v3 ∧ kX0_goOn_135 (fX0_come q s0 v3)
def fX0_goOn_120 (q : SS) (v1 : Int32) (v3 : Int32) : SS := fX0_goOn_131 (fX7_followed q (v1 + 1)).2 v3 (fX7_followed q (v1 + 1)).1
def kX0_goOn_120 (q : SS) (v1 : Int32) (v3 : Int32) : Prop := kX7_followed q (v1 + 1) ∧ kX0_goOn_131 (fX7_followed q (v1 + 1)).2 v3 (fX7_followed q (v1 + 1)).1
def fX0_goOn_116 (q : SS) (v1 : Int32) (v3 : Int32) (s0 : Int32) : SS := fX0_goOn_120 (fX0_come q s0 v3) v1 v3
def kX0_goOn_116 (q : SS) (v1 : Int32) (v3 : Int32) (s0 : Int32) : Prop := kX0_come q s0 v3 ∧ kX0_goOn_120 (fX0_come q s0 v3) v1 v3
def fX0_goOn_92 (q : SS) : SS := fX0_goOn_138 q
def kX0_goOn_92 (q : SS) : Prop := kX0_goOn_138 q
def fX0_goOn_88 (q : SS) (v3 : Int32) (s0 : Int32) : SS := fX0_goOn_92 (fX0_come q s0 v3)
def kX0_goOn_88 (q : SS) (v3 : Int32) (s0 : Int32) : Prop := kX0_come q s0 v3 ∧ kX0_goOn_92 (fX0_come q s0 v3)
def fX0_goOn_101 (q : SS) : SS := fX0_goOn_138 q
def kX0_goOn_101 (q : SS) : Prop := kX0_goOn_138 q
def fX0_goOn_34 (q : SS) (v1 : Int32) (w2 : Nat) (s0 : Int32) (s1 : Int32) : SS := (if (gA q 34 w2) = 99 then fX0_goOn_116 (fX7_followed q (gA q 35 w2)).2 v1 (s1 &&& (s0 ^^^ (-1))) (fX7_followed q (gA q 35 w2)).1 else (if (gA q 34 w2) = 110 then fX0_goOn_88 (fX7_followed q (gA q 35 w2)).2 (s1 &&& (s0 ^^^ (-1))) (fX7_followed q (gA q 35 w2)).1 else (if (gA q 34 w2) = 111 then fX0_goOn_101 (fX0_goOnByTests q w2 (s1 &&& (s0 ^^^ (-1)))) else fX0_goOn_138 q)))
def kX0_goOn_34 (q : SS) (v1 : Int32) (w2 : Nat) (s0 : Int32) (s1 : Int32) : Prop := isW q w2 ∧ (((gA q 34 w2) = 99 → isW q w2 ∧ kX7_followed q (gA q 35 w2) ∧ kX0_goOn_116 (fX7_followed q (gA q 35 w2)).2 v1 (s1 &&& (s0 ^^^ (-1))) (fX7_followed q (gA q 35 w2)).1) ∧ (¬ (gA q 34 w2) = 99 → (((gA q 34 w2) = 110 → isW q w2 ∧ kX7_followed q (gA q 35 w2) ∧ kX0_goOn_88 (fX7_followed q (gA q 35 w2)).2 (s1 &&& (s0 ^^^ (-1))) (fX7_followed q (gA q 35 w2)).1) ∧ (¬ (gA q 34 w2) = 110 → (((gA q 34 w2) = 111 → kX0_goOnByTests q w2 (s1 &&& (s0 ^^^ (-1))) ∧ kX0_goOn_101 (fX0_goOnByTests q w2 (s1 &&& (s0 ^^^ (-1))))) ∧ (¬ (gA q 34 w2) = 111 → kX0_goOn_138 q))))))
def fX0_goOn_6 (q : SS) (v1 : Int32) (s0 : Int32) : SS := (if s0 = 0 then (oc (fX7_wordAt q v1).1 ((fX7_wordAt q v1).2) (fun w15 => fX0_goOn_34 (fX9_partsSet (fX7_wordAt q v1).2 w15).2 v1 w15 (fX9_partsSet (fX7_wordAt q v1).2 w15).1 ((gA (fX7_wordAt q v1).2 23) (v1 : Int32).toNatClampNeg))) else q)
def kX0_goOn_6 (q : SS) (v1 : Int32) (s0 : Int32) : Prop := ((s0 = 0 → kX7_wordAt q v1 ∧ (((fX7_wordAt q v1).1 = none → True) ∧ (∀ w15, (fX7_wordAt q v1).1 = some w15 → vp_in v1 80 ∧ kX9_partsSet (fX7_wordAt q v1).2 w15 ∧ isW (fX7_wordAt q v1).2 w15 ∧ kX0_goOn_34 (fX9_partsSet (fX7_wordAt q v1).2 w15).2 v1 w15 (fX9_partsSet (fX7_wordAt q v1).2 w15).1 ((gA (fX7_wordAt q v1).2 23) (v1 : Int32).toNatClampNeg)))) ∧ (¬ s0 = 0 → True))
def fX0_goOn (q : SS) (v1 : Int32) : SS := fX0_goOn_6 (fX10_isOutside q v1 80).2 v1 (fX10_isOutside q v1 80).1
def kX0_goOn (q : SS) (v1 : Int32) : Prop := kX10_isOutside q v1 80 ∧ kX0_goOn_6 (fX10_isOutside q v1 80).2 v1 (fX10_isOutside q v1 80).1
set_option maxHeartbeats 4000000 in
set_option maxRecDepth 100000 in
theorem ctX0_goOn (l : Launch) (hl : l.stackTraces = false) (D : va_G) (kc : Nat → ClassId) (ad wad : Nat → Nat) (q : SS) (v1 : Int32) (hok : kX0_goOn q v1) : Cv l yX0_goOn (Cond.code yX0_goOn cX0_goOn 4 none :: lw_G) (zr 4 0 0) 0 0 (PX D kc) (GX D kc ad wad) (GX D kc ad wad) [.ref (ad 5), .int v1] q (fX0_goOn q v1) := by
  refine Cv.of (cc := cX0_goOn) (maxL := 4) (ret := none) (by decide) rfl (Nat.le_of_ble_eq_true rfl) ?_
  intro p e s m args below meth c A S hr hlocks hin hA hK
  have hx := S.1
  have hb := S.2.1
  have hE : EV A s s.heap := hK.2
  have hK : va_K D vwCl (tysK kc) s := hK.1
  generalize hFe : fX0_goOn q v1 = F
  have hF : F = fX0_goOn q v1 := hFe.symm
  have b138 : ∀ (q : SS), kX0_goOn_138 q → F = fX0_goOn_138 q → Z p l e (zr 4 0 0) s m args below meth c 0 0 (MQ below (va_Qv (fun (_ : Unit) => True) (fun _ t => (GX D kc ad wad) A F t.heap) A) args s 0 0 A) 4 A (ZG D vwCl (wX kc ad wad) (PLX wad) A) q 138 [] [] := by
    intro q hok hF
    exact z_vret hx hb hlocks hr hF dX0_goOn_138
  have b135 : ∀ (q : SS), kX0_goOn_135 q → F = fX0_goOn_135 q → Z p l e (zr 4 0 0) s m args below meth c 0 0 (MQ below (va_Qv (fun (_ : Unit) => True) (fun _ t => (GX D kc ad wad) A F t.heap) A) args s 0 0 A) 4 A (ZG D vwCl (wX kc ad wad) (PLX wad) A) q 135 [] [] := by
    intro q hok hF
    refine z_goto (tgt := 138) hx hb dX0_goOn_135 (by decide) ?_
    exact b138 q hok hF
  have b131 : ∀ (q : SS) (v3 : Int32) (s0 : Int32), kX0_goOn_131 q v3 s0 → F = fX0_goOn_131 q v3 s0 → Z p l e (zr 4 0 0) s m args below meth c 0 0 (MQ below (va_Qv (fun (_ : Unit) => True) (fun _ t => (GX D kc ad wad) A F t.heap) A) args s 0 0 A) 4 A (ZG D vwCl (wX kc ad wad) (PLX wad) A) q 131 [(3, .int v3)] [.int s0, .ref (ad 5)] := by
    intro q v3 s0 hok hF
    refine z_iload_n (j := 0) hx hb dX0_goOn_131 rfl rfl ?_
    have h132 := And.left hok
    have hok := And.right hok
    refine z_callVv (As := [.int s0, .int v3]) S (ctX0_come l hl D kc ad wad q s0 v3 h132) (cwV 2 S.2.2.2.2 (gV q6_3 q6_5 qp2_4 q1_11 q6_6) rfl rfl rfl hX0_come ⟨Nat.le_of_ble_eq_true rfl, Nat.le_of_ble_eq_true rfl⟩) hA (pbX D kc) (psX hK hE) (z_recv hK 5 (fun _ => rfl) rfl) rfl rfl (Nat.le_of_ble_eq_true rfl) dX0_goOn_132 ⟨Nat.le_of_ble_eq_true rfl, Nat.le_of_ble_eq_true rfl⟩ ?_
    refine z_sub [] rfl ?_
    exact b135 (fX0_come q s0 v3) hok hF
  have b120 : ∀ (q : SS) (v1 : Int32) (v3 : Int32), kX0_goOn_120 q v1 v3 → F = fX0_goOn_120 q v1 v3 → Z p l e (zr 4 0 0) s m args below meth c 0 0 (MQ below (va_Qv (fun (_ : Unit) => True) (fun _ t => (GX D kc ad wad) A F t.heap) A) args s 0 0 A) 4 A (ZG D vwCl (wX kc ad wad) (PLX wad) A) q 120 [(0, .ref (ad 5)), (1, .int v1), (3, .int v3)] [] := by
    intro q v1 v3 hok hF
    refine z_aload_n (j := 0) hx hb dX0_goOn_120 rfl rfl ?_
    refine z_aload_n (j := 0) hx hb dX0_goOn_121 rfl rfl ?_
    refine z_get (v := .ref (ad 1)) S hK inX0 5 (fun _ => rfl) rfl 0 (by decide) q2_114 rfl rfl dX0_goOn_122 ?_
    refine z_iload_n (j := 1) hx hb dX0_goOn_125 rfl rfl ?_
    refine z_iconst (v := 1) hx hb dX0_goOn_126 (by decide) ?_
    refine z_iadd hx hb dX0_goOn_127 ?_
    have h128 := And.left hok
    have hok := And.right hok
    refine z_callVi (As := [.int (v1 + 1)]) S (ctX7_followed l hl D kc ad wad q (v1 + 1) h128) (cwV 1 S.2.2.2.2 (gV q6_21 q5_176 q5_177 q1_2 q5_178) rfl rfl rfl hX7_followed ⟨Nat.le_of_ble_eq_true rfl, Nat.le_of_ble_eq_true rfl⟩) hA (pbX D kc) (psX hK hE) (z_recv hK 1 (fun _ => rfl) rfl) rfl rfl (Nat.le_of_ble_eq_true rfl) dX0_goOn_128 ⟨Nat.le_of_ble_eq_true rfl, Nat.le_of_ble_eq_true rfl⟩ ?_
    refine z_sub [2] rfl ?_
    exact b131 (fX7_followed q (v1 + 1)).2 v3 (fX7_followed q (v1 + 1)).1 hok hF
  have b116 : ∀ (q : SS) (v1 : Int32) (v3 : Int32) (s0 : Int32), kX0_goOn_116 q v1 v3 s0 → F = fX0_goOn_116 q v1 v3 s0 → Z p l e (zr 4 0 0) s m args below meth c 0 0 (MQ below (va_Qv (fun (_ : Unit) => True) (fun _ t => (GX D kc ad wad) A F t.heap) A) args s 0 0 A) 4 A (ZG D vwCl (wX kc ad wad) (PLX wad) A) q 116 [(0, .ref (ad 5)), (1, .int v1), (3, .int v3)] [.int s0, .ref (ad 5)] := by
    intro q v1 v3 s0 hok hF
    refine z_iload_n (j := 2) hx hb dX0_goOn_116 rfl rfl ?_
    have h117 := And.left hok
    have hok := And.right hok
    refine z_callVv (As := [.int s0, .int v3]) S (ctX0_come l hl D kc ad wad q s0 v3 h117) (cwV 2 S.2.2.2.2 (gV q6_3 q6_5 qp2_4 q1_11 q6_6) rfl rfl rfl hX0_come ⟨Nat.le_of_ble_eq_true rfl, Nat.le_of_ble_eq_true rfl⟩) hA (pbX D kc) (psX hK hE) (z_recv hK 5 (fun _ => rfl) rfl) rfl rfl (Nat.le_of_ble_eq_true rfl) dX0_goOn_117 ⟨Nat.le_of_ble_eq_true rfl, Nat.le_of_ble_eq_true rfl⟩ ?_
    exact b120 (fX0_come q s0 v3) v1 v3 hok hF
  have b92 : ∀ (q : SS), kX0_goOn_92 q → F = fX0_goOn_92 q → Z p l e (zr 4 0 0) s m args below meth c 0 0 (MQ below (va_Qv (fun (_ : Unit) => True) (fun _ t => (GX D kc ad wad) A F t.heap) A) args s 0 0 A) 4 A (ZG D vwCl (wX kc ad wad) (PLX wad) A) q 92 [] [] := by
    intro q hok hF
    refine z_goto (tgt := 138) hx hb dX0_goOn_92 (by decide) ?_
    exact b138 q hok hF
  have b88 : ∀ (q : SS) (v3 : Int32) (s0 : Int32), kX0_goOn_88 q v3 s0 → F = fX0_goOn_88 q v3 s0 → Z p l e (zr 4 0 0) s m args below meth c 0 0 (MQ below (va_Qv (fun (_ : Unit) => True) (fun _ t => (GX D kc ad wad) A F t.heap) A) args s 0 0 A) 4 A (ZG D vwCl (wX kc ad wad) (PLX wad) A) q 88 [(3, .int v3)] [.int s0, .ref (ad 5)] := by
    intro q v3 s0 hok hF
    refine z_iload_n (j := 0) hx hb dX0_goOn_88 rfl rfl ?_
    have h89 := And.left hok
    have hok := And.right hok
    refine z_callVv (As := [.int s0, .int v3]) S (ctX0_come l hl D kc ad wad q s0 v3 h89) (cwV 2 S.2.2.2.2 (gV q6_3 q6_5 qp2_4 q1_11 q6_6) rfl rfl rfl hX0_come ⟨Nat.le_of_ble_eq_true rfl, Nat.le_of_ble_eq_true rfl⟩) hA (pbX D kc) (psX hK hE) (z_recv hK 5 (fun _ => rfl) rfl) rfl rfl (Nat.le_of_ble_eq_true rfl) dX0_goOn_89 ⟨Nat.le_of_ble_eq_true rfl, Nat.le_of_ble_eq_true rfl⟩ ?_
    refine z_sub [] rfl ?_
    exact b92 (fX0_come q s0 v3) hok hF
  have b101 : ∀ (q : SS), kX0_goOn_101 q → F = fX0_goOn_101 q → Z p l e (zr 4 0 0) s m args below meth c 0 0 (MQ below (va_Qv (fun (_ : Unit) => True) (fun _ t => (GX D kc ad wad) A F t.heap) A) args s 0 0 A) 4 A (ZG D vwCl (wX kc ad wad) (PLX wad) A) q 101 [] [] := by
    intro q hok hF
    refine z_goto (tgt := 138) hx hb dX0_goOn_101 (by decide) ?_
    exact b138 q hok hF
  have b34 : ∀ (q : SS) (v1 : Int32) (w2 : Nat) (s0 : Int32) (s1 : Int32), kX0_goOn_34 q v1 w2 s0 s1 → F = fX0_goOn_34 q v1 w2 s0 s1 → Z p l e (zr 4 0 0) s m args below meth c 0 0 (MQ below (va_Qv (fun (_ : Unit) => True) (fun _ t => (GX D kc ad wad) A F t.heap) A) args s 0 0 A) 4 A (ZG D vwCl (wX kc ad wad) (PLX wad) A) q 34 [(0, .ref (ad 5)), (1, .int v1), (2, .ref (wad w2))] [.int s0, .int s1] := by
    intro q v1 w2 s0 s1 hok hF
    refine z_iconst (v := (-1)) hx hb dX0_goOn_34 (by decide) ?_
    refine z_ixor hx hb dX0_goOn_35 ?_
    refine z_iand hx hb dX0_goOn_36 ?_
    refine z_istore_n (lv' := [(3, .int (s1 &&& (s0 ^^^ (-1)))), (0, .ref (ad 5)), (1, .int v1), (2, .ref (wad w2))]) hx hb dX0_goOn_37 rfl (by decide) rfl ?_
    refine z_aload_n (j := 3) hx hb dX0_goOn_38 rfl rfl ?_
    have h39 := And.left hok
    have hok := And.right hok
    refine z_getW (v := .int (gA q 34 w2)) S hK h39 inX9 4 (by decide) q4_40 rfl rfl dX0_goOn_39 ?_
    by_cases g42_99 : (gA q 34 w2) = 99
    · have hF := hF.trans (if_pos g42_99)
      have hok := And.left hok g42_99
      refine z_lookup (tgt := 104) hx hb dX0_goOn_42 (by decide) (by rw [g42_99]) (by decide) ?_
      refine z_aload_n (j := 1) hx hb dX0_goOn_104 rfl rfl ?_
      refine z_aload_n (j := 1) hx hb dX0_goOn_105 rfl rfl ?_
      refine z_get (v := .ref (ad 1)) S hK inX0 5 (fun _ => rfl) rfl 0 (by decide) q2_114 rfl rfl dX0_goOn_106 ?_
      refine z_aload_n (j := 3) hx hb dX0_goOn_109 rfl rfl ?_
      have h110 := And.left hok
      have hok := And.right hok
      refine z_getW (v := .int (gA q 35 w2)) S hK h110 inX9 5 (by decide) q4_44 rfl rfl dX0_goOn_110 ?_
      have h113 := And.left hok
      have hok := And.right hok
      refine z_callVi (As := [.int (gA q 35 w2)]) S (ctX7_followed l hl D kc ad wad q (gA q 35 w2) h113) (cwV 1 S.2.2.2.2 (gV q6_21 q5_176 q5_177 q1_2 q5_178) rfl rfl rfl hX7_followed ⟨Nat.le_of_ble_eq_true rfl, Nat.le_of_ble_eq_true rfl⟩) hA (pbX D kc) (psX hK hE) (z_recv hK 1 (fun _ => rfl) rfl) rfl rfl (Nat.le_of_ble_eq_true rfl) dX0_goOn_113 ⟨Nat.le_of_ble_eq_true rfl, Nat.le_of_ble_eq_true rfl⟩ ?_
      refine z_sub [1, 2, 0] rfl ?_
      exact b116 (fX7_followed q (gA q 35 w2)).2 v1 (s1 &&& (s0 ^^^ (-1))) (fX7_followed q (gA q 35 w2)).1 hok hF
    have hF := hF.trans (if_neg g42_99)
    have hok := And.right hok g42_99
    by_cases g42_110 : (gA q 34 w2) = 110
    · have hF := hF.trans (if_pos g42_110)
      have hok := And.left hok g42_110
      refine z_lookup (tgt := 76) hx hb dX0_goOn_42 (by decide) (by rw [g42_110]) (by decide) ?_
      refine z_aload_n (j := 1) hx hb dX0_goOn_76 rfl rfl ?_
      refine z_aload_n (j := 1) hx hb dX0_goOn_77 rfl rfl ?_
      refine z_get (v := .ref (ad 1)) S hK inX0 5 (fun _ => rfl) rfl 0 (by decide) q2_114 rfl rfl dX0_goOn_78 ?_
      refine z_aload_n (j := 3) hx hb dX0_goOn_81 rfl rfl ?_
      have h82 := And.left hok
      have hok := And.right hok
      refine z_getW (v := .int (gA q 35 w2)) S hK h82 inX9 5 (by decide) q4_44 rfl rfl dX0_goOn_82 ?_
      have h85 := And.left hok
      have hok := And.right hok
      refine z_callVi (As := [.int (gA q 35 w2)]) S (ctX7_followed l hl D kc ad wad q (gA q 35 w2) h85) (cwV 1 S.2.2.2.2 (gV q6_21 q5_176 q5_177 q1_2 q5_178) rfl rfl rfl hX7_followed ⟨Nat.le_of_ble_eq_true rfl, Nat.le_of_ble_eq_true rfl⟩) hA (pbX D kc) (psX hK hE) (z_recv hK 1 (fun _ => rfl) rfl) rfl rfl (Nat.le_of_ble_eq_true rfl) dX0_goOn_85 ⟨Nat.le_of_ble_eq_true rfl, Nat.le_of_ble_eq_true rfl⟩ ?_
      refine z_sub [0] rfl ?_
      exact b88 (fX7_followed q (gA q 35 w2)).2 (s1 &&& (s0 ^^^ (-1))) (fX7_followed q (gA q 35 w2)).1 hok hF
    have hF := hF.trans (if_neg g42_110)
    have hok := And.right hok g42_110
    by_cases g42_111 : (gA q 34 w2) = 111
    · have hF := hF.trans (if_pos g42_111)
      have hok := And.left hok g42_111
      refine z_lookup (tgt := 95) hx hb dX0_goOn_42 (by decide) (by rw [g42_111]) (by decide) ?_
      refine z_aload_n (j := 1) hx hb dX0_goOn_95 rfl rfl ?_
      refine z_aload_n (j := 3) hx hb dX0_goOn_96 rfl rfl ?_
      refine z_iload_n (j := 0) hx hb dX0_goOn_97 rfl rfl ?_
      have h98 := And.left hok
      have hok := And.right hok
      refine z_callVv (As := [.ref (wad w2), .int (s1 &&& (s0 ^^^ (-1)))]) S (ctX0_goOnByTests l hl D kc ad wad q w2 (s1 &&& (s0 ^^^ (-1))) h98) (cwV 2 S.2.2.2.2 (gV q6_22 q6_24 qp2_6 q1_11 q6_25) rfl rfl rfl hX0_goOnByTests ⟨Nat.le_of_ble_eq_true rfl, Nat.le_of_ble_eq_true rfl⟩) hA (pbX D kc) (psX hK hE) (z_recv hK 5 (fun _ => rfl) rfl) rfl rfl (Nat.le_of_ble_eq_true rfl) dX0_goOn_98 ⟨Nat.le_of_ble_eq_true rfl, Nat.le_of_ble_eq_true rfl⟩ ?_
      refine z_sub [] rfl ?_
      exact b101 (fX0_goOnByTests q w2 (s1 &&& (s0 ^^^ (-1)))) hok hF
    have hF := hF.trans (if_neg g42_111)
    have hok := And.right hok g42_111
    refine z_lookup (off := 96) (tgt := 138) hx hb dX0_goOn_42 (by decide) ((lv_osw g42_99 (by decide)).trans ((lv_osw g42_110 (by decide)).trans ((lv_osw g42_111 (by decide)).trans (rfl)))) (by decide) ?_
    refine z_sub [] rfl ?_
    exact b138 q hok hF
  have b6 : ∀ (q : SS) (v1 : Int32) (s0 : Int32), kX0_goOn_6 q v1 s0 → F = fX0_goOn_6 q v1 s0 → Z p l e (zr 4 0 0) s m args below meth c 0 0 (MQ below (va_Qv (fun (_ : Unit) => True) (fun _ t => (GX D kc ad wad) A F t.heap) A) args s 0 0 A) 4 A (ZG D vwCl (wX kc ad wad) (PLX wad) A) q 6 [(0, .ref (ad 5)), (1, .int v1)] [.int s0] := by
    intro q v1 s0 hok hF
    refine z_if_eq (tgt := 10) hx hb dX0_goOn_6 (by decide) (fun g6 => ?_) (fun g6 => ?_)
    · have hF := hF.trans (if_pos g6)
      have hok := And.left hok g6
      refine z_aload_n (j := 0) hx hb dX0_goOn_10 rfl rfl ?_
      refine z_get (v := .ref (ad 1)) S hK inX0 5 (fun _ => rfl) rfl 0 (by decide) q2_114 rfl rfl dX0_goOn_11 ?_
      refine z_iload_n (j := 1) hx hb dX0_goOn_14 rfl rfl ?_
      have h15 := And.left hok
      have hok := And.right hok
      refine z_callVw (As := [.int v1]) S (ctX7_wordAt l hl D kc ad wad q v1 h15) (cwV 1 S.2.2.2.2 (gV q6_8 q4_85 q4_86 q1_2 q4_87) rfl rfl rfl hX7_wordAt ⟨Nat.le_of_ble_eq_true rfl, Nat.le_of_ble_eq_true rfl⟩) hA (pbX D kc) (psX hK hE) (z_recv hK 1 (fun _ => rfl) rfl) rfl rfl (Nat.le_of_ble_eq_true rfl) dX0_goOn_15 ⟨Nat.le_of_ble_eq_true rfl, Nat.le_of_ble_eq_true rfl⟩ (fun g15 => ?_) (fun w15 g15 => ?_)
      · have hF := hF.trans (oc_n g15)
        have hok := And.left hok g15
        refine z_astore_nN (lv' := [(2, .null), (0, .ref (ad 5)), (1, .int v1)]) hx hb dX0_goOn_18 rfl (by decide) rfl ?_
        refine z_aload_nN (j := 0) hx hb dX0_goOn_19 rfl rfl ?_
        refine z_ifnonnullN hx hb dX0_goOn_20 ?_
        exact z_vret hx hb hlocks hr hF dX0_goOn_23
      · have hF := hF.trans (oc_s g15)
        have hok := And.right hok w15 g15
        refine z_astore_n (lv' := [(2, .ref (wad w15)), (0, .ref (ad 5)), (1, .int v1)]) hx hb dX0_goOn_18 rfl (by decide) rfl ?_
        refine z_aload_n (j := 0) hx hb dX0_goOn_19 rfl rfl ?_
        refine z_ifnonnull (tgt := 24) hx hb dX0_goOn_20 (by decide) ?_
        refine z_aload_n (j := 1) hx hb dX0_goOn_24 rfl rfl ?_
        refine z_get (v := .ref (ad 23)) S hK inX0 5 (fun _ => rfl) rfl 1 (by decide) q2_115 rfl rfl dX0_goOn_25 ?_
        refine z_iload_n (j := 2) hx hb dX0_goOn_28 rfl rfl ?_
        have h29 := And.left hok
        have hok := And.right hok
        refine z_iald (f := (gA (fX7_wordAt q v1).2 23)) S hK 23 0 (fun _ => rfl) rfl h29 dX0_goOn_29 ?_
        refine z_aload_n (j := 0) hx hb dX0_goOn_30 rfl rfl ?_
        have h31 := And.left hok
        have hok := And.right hok
        have h31_r := And.left hok
        have hok := And.right hok
        refine z_callVi (As := []) S (ctX9_partsSet l hl D kc ad wad (fX7_wordAt q v1).2 w15 h31) (cwV 0 S.2.2.2.2 (gV q6_17 q6_18 q6_19 q1_26 q6_20) rfl rfl rfl hX9_partsSet ⟨Nat.le_of_ble_eq_true rfl, Nat.le_of_ble_eq_true rfl⟩) hA (pbX D kc) (psX hK hE) (z_recvW hK h31_r) rfl rfl (Nat.le_of_ble_eq_true rfl) dX0_goOn_31 ⟨Nat.le_of_ble_eq_true rfl, Nat.le_of_ble_eq_true rfl⟩ ?_
        refine z_sub [1, 2, 0] rfl ?_
        exact b34 (fX9_partsSet (fX7_wordAt q v1).2 w15).2 v1 w15 (fX9_partsSet (fX7_wordAt q v1).2 w15).1 ((gA (fX7_wordAt q v1).2 23) (v1 : Int32).toNatClampNeg) hok hF
    · have hF := hF.trans (if_neg g6)
      have hok := And.right hok g6
      exact z_vret hx hb hlocks hr hF dX0_goOn_9
  refine z_iload_n (j := 1) hx hb dX0_goOn_0 rfl rfl ?_
  refine z_bipush (v := 80) hx hb dX0_goOn_1 (by decide) ?_
  have h3 := And.left hok
  have hok := And.right hok
  refine z_callSNi (As := [.int v1, .int 80]) S (ctX10_isOutside l hl D kc ad wad q v1 80 h3) ⟨va_cnB 2 S.2.2.2.2 (gW q3_13) rfl rfl rfl (hE.2.2.2.2.2.1 (RX0, 46, yX10_isOutside) (List.mem_of_getElem? (i := 2) rfl)) (S.2.2.2.2 _ q1_1) hX10_isOutside ⟨Nat.le_of_ble_eq_true rfl, Nat.le_of_ble_eq_true rfl⟩, S.2.2.2.2 _ q3_12, trivial⟩ hA (pbX D kc) (psX hK hE) rfl rfl (Nat.le_of_ble_eq_true rfl) dX0_goOn_3 ⟨Nat.le_of_ble_eq_true rfl, Nat.le_of_ble_eq_true rfl⟩ ?_
  exact b6 (fX10_isOutside q v1 80).2 v1 (fX10_isOutside q v1 80).1 hok hF
theorem hX0_goOn : yX0_goOn.cls = RX0 ∧ yX0_goOn.cls ≠ "java/lang/invoke/MethodHandle" ∧ yX0_goOn.cls ≠ "java/lang/invoke/VarHandle" ∧ (parseMethodDescriptor yX0_goOn.desc).map (fun d => d.parameters.length) = some 1 := by decide +kernel
def fX0_goAllWays_63 (q : SS) : SS := q
def kX0_goAllWays_63 (q : SS) : Prop := True
def fX0_goAllWays_57 (k32 : SS → Int32 → SS) (q : SS) (v2 : Int32) : SS := k32 q (v2 + 1)
def kX0_goAllWays_57 (kk32 : SS → Int32 → Prop) (q : SS) (v2 : Int32) : Prop := kk32 q (v2 + 1)
def fX0_goAllWays_32 : Nat → SS → Int32 → SS
  | 0, q, _ => q
  | n + 1, q, v2 => (if (gI q 603) ≤ v2 then fX0_goAllWays_63 q else (if 400 ≤ v2 then fX0_goAllWays_63 q else fX0_goAllWays_57 (fX0_goAllWays_32 n) (fX0_goOn q ((gA q 24) (v2 : Int32).toNatClampNeg)) v2))
def kX0_goAllWays_32 : Nat → SS → Int32 → Prop
  | 0, _, _ => False
  | n + 1, q, v2 => (((gI q 603) ≤ v2 → kX0_goAllWays_63 q) ∧ (¬ (gI q 603) ≤ v2 → ((400 ≤ v2 → kX0_goAllWays_63 q) ∧ (¬ 400 ≤ v2 → vp_in v2 400 ∧ kX0_goOn q ((gA q 24) (v2 : Int32).toNatClampNeg) ∧ kX0_goAllWays_57 (kX0_goAllWays_32 n) (fX0_goOn q ((gA q 24) (v2 : Int32).toNatClampNeg)) v2))))
def fX0_goAllWays_30 (q : SS) : SS := fX0_goAllWays_32 410 q 0
def kX0_goAllWays_30 (q : SS) : Prop := kX0_goAllWays_32 410 q 0
def fX0_goAllWays_8 (q : SS) (v1 : Int32) : SS := fX0_goAllWays_30 (fX0_come (sI (sI (sI q 603 0) 604 0) 605 0) v1 31)
def kX0_goAllWays_8 (q : SS) (v1 : Int32) : Prop := kX0_come (sI (sI (sI q 603 0) 604 0) 605 0) v1 31 ∧ kX0_goAllWays_30 (fX0_come (sI (sI (sI q 603 0) 604 0) 605 0) v1 31)
def fX0_goAllWays (q : SS) (v1 : Int32) : SS := fX0_goAllWays_8 (fJ7_fill_53178_coming q 0) v1
def kX0_goAllWays (q : SS) (v1 : Int32) : Prop := kJ7_fill_53178_coming q 0 ∧ kX0_goAllWays_8 (fJ7_fill_53178_coming q 0) v1
set_option maxHeartbeats 4000000 in
set_option maxRecDepth 100000 in
theorem ctX0_goAllWays (l : Launch) (hl : l.stackTraces = false) (D : va_G) (kc : Nat → ClassId) (ad wad : Nat → Nat) (q : SS) (v1 : Int32) (hok : kX0_goAllWays q v1) : Cv l yX0_goAllWays (Cond.code yX0_goAllWays cX0_goAllWays 3 none :: lw_G) (zr 5 0 0) 0 0 (PX D kc) (GX D kc ad wad) (GX D kc ad wad) [.ref (ad 5), .int v1] q (fX0_goAllWays q v1) := by
  refine Cv.of (cc := cX0_goAllWays) (maxL := 3) (ret := none) (by decide) rfl (Nat.le_of_ble_eq_true rfl) ?_
  intro p e s m args below meth c A S hr hlocks hin hA hK
  have hx := S.1
  have hb := S.2.1
  have hE : EV A s s.heap := hK.2
  have hK : va_K D vwCl (tysK kc) s := hK.1
  generalize hFe : fX0_goAllWays q v1 = F
  have hF : F = fX0_goAllWays q v1 := hFe.symm
  have b63 : ∀ (q : SS), kX0_goAllWays_63 q → F = fX0_goAllWays_63 q → Z p l e (zr 5 0 0) s m args below meth c 0 0 (MQ below (va_Qv (fun (_ : Unit) => True) (fun _ t => (GX D kc ad wad) A F t.heap) A) args s 0 0 A) 3 A (ZG D vwCl (wX kc ad wad) (PLX wad) A) q 63 [] [] := by
    intro q hok hF
    exact z_vret hx hb hlocks hr hF dX0_goAllWays_63
  have b57 : ∀ (k32 : SS → Int32 → SS) (kk32 : SS → Int32 → Prop) (_ : ∀ (q : SS) (v2 : Int32), kk32 q v2 → F = k32 q v2 → Z p l e (zr 5 0 0) s m args below meth c 0 0 (MQ below (va_Qv (fun (_ : Unit) => True) (fun _ t => (GX D kc ad wad) A F t.heap) A) args s 0 0 A) 3 A (ZG D vwCl (wX kc ad wad) (PLX wad) A) q 32 [(0, .ref (ad 5)), (2, .int v2)] []) (q : SS) (v2 : Int32), kX0_goAllWays_57 kk32 q v2 → F = fX0_goAllWays_57 k32 q v2 → Z p l e (zr 5 0 0) s m args below meth c 0 0 (MQ below (va_Qv (fun (_ : Unit) => True) (fun _ t => (GX D kc ad wad) A F t.heap) A) args s 0 0 A) 3 A (ZG D vwCl (wX kc ad wad) (PLX wad) A) q 57 [(0, .ref (ad 5)), (2, .int v2)] [] := by
    intro k32 kk32 hk32 q v2 hok hF
    refine z_iinc (k := 1) (v := (v2 + 1)) (lv' := [(2, .int (v2 + 1)), (0, .ref (ad 5))]) hx hb dX0_goAllWays_57 rfl rfl (by decide) rfl ?_
    refine z_goto (tgt := 32) hx hb dX0_goAllWays_60 (by decide) ?_
    refine z_sub [1, 0] rfl ?_
    exact hk32 q (v2 + 1) hok hF
  have b32 : ∀ (n : Nat) (q : SS) (v2 : Int32), kX0_goAllWays_32 n q v2 → F = fX0_goAllWays_32 n q v2 → Z p l e (zr 5 0 0) s m args below meth c 0 0 (MQ below (va_Qv (fun (_ : Unit) => True) (fun _ t => (GX D kc ad wad) A F t.heap) A) args s 0 0 A) 3 A (ZG D vwCl (wX kc ad wad) (PLX wad) A) q 32 [(0, .ref (ad 5)), (2, .int v2)] [] := by
    intro n
    induction n with
    | zero => intro q v2 hok hF; exact False.elim hok
    | succ n ih =>
      intro q v2 hok hF
      refine z_iload_n (j := 1) hx hb dX0_goAllWays_32 rfl rfl ?_
      refine z_aload_n (j := 0) hx hb dX0_goAllWays_33 rfl rfl ?_
      refine z_get (v := .int (gI q 603)) S hK inX0 5 (fun _ => rfl) rfl 3 (by decide) q2_117 rfl rfl dX0_goAllWays_34 ?_
      refine z_icmp_ge (tgt := 63) hx hb dX0_goAllWays_37 (by decide) (fun g37 => ?_) (fun g37 => ?_)
      · have hF := hF.trans (if_pos g37)
        have hok := And.left hok g37
        refine z_sub [] rfl ?_
        exact b63 q hok hF
      · have hF := hF.trans (if_neg g37)
        have hok := And.right hok g37
        refine z_iload_n (j := 1) hx hb dX0_goAllWays_40 rfl rfl ?_
        refine z_sipush (v := 400) hx hb dX0_goAllWays_41 (by decide) ?_
        refine z_icmp_ge (tgt := 63) hx hb dX0_goAllWays_44 (by decide) (fun g44 => ?_) (fun g44 => ?_)
        · have hF := hF.trans (if_pos g44)
          have hok := And.left hok g44
          refine z_sub [] rfl ?_
          exact b63 q hok hF
        · have hF := hF.trans (if_neg g44)
          have hok := And.right hok g44
          refine z_aload_n (j := 0) hx hb dX0_goAllWays_47 rfl rfl ?_
          refine z_aload_n (j := 0) hx hb dX0_goAllWays_48 rfl rfl ?_
          refine z_get (v := .ref (ad 24)) S hK inX0 5 (fun _ => rfl) rfl 2 (by decide) q2_116 rfl rfl dX0_goAllWays_49 ?_
          refine z_iload_n (j := 1) hx hb dX0_goAllWays_52 rfl rfl ?_
          have h53 := And.left hok
          have hok := And.right hok
          refine z_iald (f := (gA q 24)) S hK 24 0 (fun _ => rfl) rfl h53 dX0_goAllWays_53 ?_
          have h54 := And.left hok
          have hok := And.right hok
          refine z_callVv (As := [.int ((gA q 24) (v2 : Int32).toNatClampNeg)]) S (ctX0_goOn l hl D kc ad wad q ((gA q 24) (v2 : Int32).toNatClampNeg) h54) (cwV 1 S.2.2.2.2 (gV q6_13 q6_15 qp2_5 q1_11 q6_16) rfl rfl rfl hX0_goOn ⟨Nat.le_of_ble_eq_true rfl, Nat.le_of_ble_eq_true rfl⟩) hA (pbX D kc) (psX hK hE) (z_recv hK 5 (fun _ => rfl) rfl) rfl rfl (Nat.le_of_ble_eq_true rfl) dX0_goAllWays_54 ⟨Nat.le_of_ble_eq_true rfl, Nat.le_of_ble_eq_true rfl⟩ ?_
          exact b57 (fX0_goAllWays_32 n) (kX0_goAllWays_32 n) ih (fX0_goOn q ((gA q 24) (v2 : Int32).toNatClampNeg)) v2 hok hF
  have b30 : ∀ (q : SS), kX0_goAllWays_30 q → F = fX0_goAllWays_30 q → Z p l e (zr 5 0 0) s m args below meth c 0 0 (MQ below (va_Qv (fun (_ : Unit) => True) (fun _ t => (GX D kc ad wad) A F t.heap) A) args s 0 0 A) 3 A (ZG D vwCl (wX kc ad wad) (PLX wad) A) q 30 [(0, .ref (ad 5))] [] := by
    intro q hok hF
    refine z_iconst (v := 0) hx hb dX0_goAllWays_30 (by decide) ?_
    refine z_istore_n (lv' := [(2, .int 0), (0, .ref (ad 5))]) hx hb dX0_goAllWays_31 rfl (by decide) rfl ?_
    refine z_sub [1, 0] rfl ?_
    exact b32 410 q 0 hok hF
  have b8 : ∀ (q : SS) (v1 : Int32), kX0_goAllWays_8 q v1 → F = fX0_goAllWays_8 q v1 → Z p l e (zr 5 0 0) s m args below meth c 0 0 (MQ below (va_Qv (fun (_ : Unit) => True) (fun _ t => (GX D kc ad wad) A F t.heap) A) args s 0 0 A) 3 A (ZG D vwCl (wX kc ad wad) (PLX wad) A) q 8 [(0, .ref (ad 5)), (1, .int v1)] [] := by
    intro q v1 hok hF
    refine z_aload_n (j := 0) hx hb dX0_goAllWays_8 rfl rfl ?_
    refine z_iconst (v := 0) hx hb dX0_goAllWays_9 (by decide) ?_
    refine z_put (v := .int 0) (q' := (sI q 603 0)) S hK inX0 tyX0 tyX0_ok nmX0 5 (fun _ => rfl) rfl 3 (by decide) q2_117 rfl rfl rfl rfl (Nat.le_of_ble_eq_true rfl) dX0_goAllWays_10 (wXp603 kc ad wad _ _) (fun _ h => h) ?_
    refine z_aload_n (j := 0) hx hb dX0_goAllWays_13 rfl rfl ?_
    refine z_iconst (v := 0) hx hb dX0_goAllWays_14 (by decide) ?_
    refine z_put (v := .int 0) (q' := (sI (sI q 603 0) 604 0)) S hK inX0 tyX0 tyX0_ok nmX0 5 (fun _ => rfl) rfl 4 (by decide) q2_118 rfl rfl rfl rfl (Nat.le_of_ble_eq_true rfl) dX0_goAllWays_15 (wXp604 kc ad wad _ _) (fun _ h => h) ?_
    refine z_aload_n (j := 0) hx hb dX0_goAllWays_18 rfl rfl ?_
    refine z_iconst (v := 0) hx hb dX0_goAllWays_19 (by decide) ?_
    refine z_put (v := .int 0) (q' := (sI (sI (sI q 603 0) 604 0) 605 0)) S hK inX0 tyX0 tyX0_ok nmX0 5 (fun _ => rfl) rfl 5 (by decide) q2_120 rfl rfl rfl rfl (Nat.le_of_ble_eq_true rfl) dX0_goAllWays_20 (wXp605 kc ad wad _ _) (fun _ h => h) ?_
    refine z_aload_n (j := 0) hx hb dX0_goAllWays_23 rfl rfl ?_
    refine z_iload_n (j := 1) hx hb dX0_goAllWays_24 rfl rfl ?_
    refine z_bipush (v := 31) hx hb dX0_goAllWays_25 (by decide) ?_
    have h27 := And.left hok
    have hok := And.right hok
    refine z_callVv (As := [.int v1, .int 31]) S (ctX0_come l hl D kc ad wad (sI (sI (sI q 603 0) 604 0) 605 0) v1 31 h27) (cwV 2 S.2.2.2.2 (gV q6_3 q6_5 qp2_4 q1_11 q6_6) rfl rfl rfl hX0_come ⟨Nat.le_of_ble_eq_true rfl, Nat.le_of_ble_eq_true rfl⟩) hA (pbX D kc) (psX hK hE) (z_recv hK 5 (fun _ => rfl) rfl) rfl rfl (Nat.le_of_ble_eq_true rfl) dX0_goAllWays_27 ⟨Nat.le_of_ble_eq_true rfl, Nat.le_of_ble_eq_true rfl⟩ ?_
    refine z_sub [0] rfl ?_
    exact b30 (fX0_come (sI (sI (sI q 603 0) 604 0) 605 0) v1 31) hok hF
  refine z_aload_n (j := 0) hx hb dX0_goAllWays_0 rfl rfl ?_
  refine z_get (v := .ref (ad 23)) S hK inX0 5 (fun _ => rfl) rfl 1 (by decide) q2_115 rfl rfl dX0_goAllWays_1 ?_
  refine z_iconst (v := 0) hx hb dX0_goAllWays_4 (by decide) ?_
  have h5 := And.left hok
  have hok := And.right hok
  refine z_callSv (As := [.ref (ad 23), .int 0]) S (ctJ7_fill_53178_coming l hl D kc ad wad q 0 h5) (va_cwS 2 S.2.2.2.2 (gS q6_2 q1_48 q1_3 q1_49) rfl rfl rfl hJ7_fill_53178 ⟨Nat.le_of_ble_eq_true rfl, Nat.le_of_ble_eq_true rfl⟩) hA (pbX D kc) (psX hK hE) rfl rfl (Nat.le_of_ble_eq_true rfl) dX0_goAllWays_5 ⟨Nat.le_of_ble_eq_true rfl, Nat.le_of_ble_eq_true rfl⟩ ?_
  exact b8 (fJ7_fill_53178_coming q 0) v1 hok hF
theorem hX0_goAllWays : yX0_goAllWays.cls = RX0 ∧ yX0_goAllWays.cls ≠ "java/lang/invoke/MethodHandle" ∧ yX0_goAllWays.cls ≠ "java/lang/invoke/VarHandle" ∧ (parseMethodDescriptor yX0_goAllWays.desc).map (fun d => d.parameters.length) = some 1 := by decide +kernel
