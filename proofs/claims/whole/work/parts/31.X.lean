def fX7_wordAt_19 (q : SS) (s0 : Option Nat) : Option Nat × SS := (s0, q)
def kX7_wordAt_19 (q : SS) (s0 : Option Nat) : Prop := True
def fX7_wordAt_6 (q : SS) (v1 : Int32) (s0 : Int32) : Option Nat × SS := (if s0 = 0 then (if gA q 39 ((v1 : Int32).toNatClampNeg) = 0 then fX7_wordAt_19 q none else fX7_wordAt_19 q (some ((v1 : Int32).toNatClampNeg))) else fX7_wordAt_19 q none)
def kX7_wordAt_6 (q : SS) (v1 : Int32) (s0 : Int32) : Prop := ((s0 = 0 → vp_in v1 80 ∧ ((gA q 39 ((v1 : Int32).toNatClampNeg) = 0 → kX7_wordAt_19 q none) ∧ (¬ gA q 39 ((v1 : Int32).toNatClampNeg) = 0 → kX7_wordAt_19 q (some ((v1 : Int32).toNatClampNeg))))) ∧ (¬ s0 = 0 → kX7_wordAt_19 q none))
def fX7_wordAt (q : SS) (v1 : Int32) : Option Nat × SS := fX7_wordAt_6 (fX10_isOutside q v1 80).2 v1 (fX10_isOutside q v1 80).1
def kX7_wordAt (q : SS) (v1 : Int32) : Prop := kX10_isOutside q v1 80 ∧ kX7_wordAt_6 (fX10_isOutside q v1 80).2 v1 (fX10_isOutside q v1 80).1
set_option maxHeartbeats 4000000 in
set_option maxRecDepth 100000 in
theorem ctX7_wordAt (l : Launch) (hl : l.stackTraces = false) (D : va_G) (kc : Nat → ClassId) (ad wad : Nat → Nat) (q : SS) (v1 : Int32) (hok : kX7_wordAt q v1) : Cw wad l yX7_wordAt (Cond.code yX7_wordAt cX7_wordAt 2 (some (.object "MicrostoreWorks$Word")) :: lw_G) (zr 1 0 0) 0 0 (PX D kc) (GX D kc ad wad) (GX D kc ad wad) [.ref (ad 1), .int v1] q (fX7_wordAt q v1) := by
  refine Cw.of (cc := cX7_wordAt) (maxL := 2) (ret := (some (.object "MicrostoreWorks$Word"))) (by decide) rfl (Nat.le_of_ble_eq_true rfl) ?_
  intro p e s m args below meth c A S hr hlocks hin hA hK
  have hx := S.1
  have hb := S.2.1
  have hE : EV A s s.heap := hK.2
  have hK : va_K D vwCl (tysK kc) s := hK.1
  generalize hFe : fX7_wordAt q v1 = F
  have hF : F = fX7_wordAt q v1 := hFe.symm
  have b19 : ∀ (q : SS) (s0 : Option Nat), kX7_wordAt_19 q s0 → F = fX7_wordAt_19 q s0 → Z p l e (zr 1 0 0) s m args below meth c 0 0 (MQ below (va_Qq (fun (x : Option Nat) (_ : Unit) => x = F.1.map wad) (fun _ t => (GX D kc ad wad) A F.2 t.heap) A) args s 0 0 A) 2 A (ZG D vwCl (wX kc ad wad) (PLX wad) A) q 19 [] [va_rf (Option.map wad s0)] := by
    intro q s0 hok hF
    exact z_wret (v := s0) hx hb hlocks hr hF dX7_wordAt_19
  have b6 : ∀ (q : SS) (v1 : Int32) (s0 : Int32), kX7_wordAt_6 q v1 s0 → F = fX7_wordAt_6 q v1 s0 → Z p l e (zr 1 0 0) s m args below meth c 0 0 (MQ below (va_Qq (fun (x : Option Nat) (_ : Unit) => x = F.1.map wad) (fun _ t => (GX D kc ad wad) A F.2 t.heap) A) args s 0 0 A) 2 A (ZG D vwCl (wX kc ad wad) (PLX wad) A) q 6 [(0, .ref (ad 1)), (1, .int v1)] [.int s0] := by
    intro q v1 s0 hok hF
    refine z_if_eq (tgt := 13) hx hb dX7_wordAt_6 (by decide) (fun g6 => ?_) (fun g6 => ?_)
    · have hF := hF.trans (if_pos g6)
      have hok := And.left hok g6
      refine z_aload_n (j := 0) hx hb dX7_wordAt_13 rfl rfl ?_
      refine z_get (v := .ref (ad 12)) S hK inX7 1 (fun _ => rfl) rfl 0 (by decide) q1_50 rfl rfl dX7_wordAt_14 ?_
      refine z_iload_n (j := 1) hx hb dX7_wordAt_17 rfl rfl ?_
      have h18 := And.left hok
      have hok := And.right hok
      refine z_aldw S hK h18 dX7_wordAt_18 (fun g18 => ?_) (fun g18 => ?_)
      · have hF := hF.trans (if_pos g18)
        have hok := And.left hok g18
        refine z_sub [] rfl ?_
        exact b19 q none hok hF
      · have hF := hF.trans (if_neg g18)
        have hok := And.right hok g18
        refine z_sub [] rfl ?_
        exact b19 q (some ((v1 : Int32).toNatClampNeg)) hok hF
    · have hF := hF.trans (if_neg g6)
      have hok := And.right hok g6
      refine z_null hx hb dX7_wordAt_9 ?_
      refine z_goto (tgt := 19) hx hb dX7_wordAt_10 (by decide) ?_
      refine z_sub [] rfl ?_
      exact b19 q none hok hF
  refine z_iload_n (j := 1) hx hb dX7_wordAt_0 rfl rfl ?_
  refine z_bipush (v := 80) hx hb dX7_wordAt_1 (by decide) ?_
  have h3 := And.left hok
  have hok := And.right hok
  refine z_callSNi (As := [.int v1, .int 80]) S (ctX10_isOutside l hl D kc ad wad q v1 80 h3) ⟨va_cnB 2 S.2.2.2.2 (gW q3_13) rfl rfl rfl (hE.2.2.2.2.2.1 (RX7, 34, yX10_isOutside) (List.mem_of_getElem? (i := 14) rfl)) (S.2.2.2.2 _ q1_1) hX10_isOutside ⟨Nat.le_of_ble_eq_true rfl, Nat.le_of_ble_eq_true rfl⟩, S.2.2.2.2 _ q3_12, trivial⟩ hA (pbX D kc) (psX hK hE) rfl rfl (Nat.le_of_ble_eq_true rfl) dX7_wordAt_3 ⟨Nat.le_of_ble_eq_true rfl, Nat.le_of_ble_eq_true rfl⟩ ?_
  exact b6 (fX10_isOutside q v1 80).2 v1 (fX10_isOutside q v1 80).1 hok hF
theorem hX7_wordAt : yX7_wordAt.cls = RX7 ∧ yX7_wordAt.cls ≠ "java/lang/invoke/MethodHandle" ∧ yX7_wordAt.cls ≠ "java/lang/invoke/VarHandle" ∧ (parseMethodDescriptor yX7_wordAt.desc).map (fun d => d.parameters.length) = some 1 := by decide +kernel
def fX7_isFree_23 (q : SS) (s0 : Int32) : Int32 × SS := (s0, q)
def kX7_isFree_23 (q : SS) (s0 : Int32) : Prop := narrow .boolean (.int s0) = .int s0 ∧ True
def fX7_isFree_22 (q : SS) : Int32 × SS := fX7_isFree_23 q 0
def kX7_isFree_22 (q : SS) : Prop := kX7_isFree_23 q 0
def fX7_isFree (q : SS) (v1 : Int32) : Int32 × SS := (if gA q 39 ((v1 : Int32).toNatClampNeg) = 0 then (if ((gA q 13) (v1 : Int32).toNatClampNeg) = 0 then fX7_isFree_23 q 1 else fX7_isFree_22 q) else fX7_isFree_22 q)
def kX7_isFree (q : SS) (v1 : Int32) : Prop := vp_in v1 80 ∧ ((gA q 39 ((v1 : Int32).toNatClampNeg) = 0 → vp_in v1 64 ∧ ((((gA q 13) (v1 : Int32).toNatClampNeg) = 0 → kX7_isFree_23 q 1) ∧ (¬ ((gA q 13) (v1 : Int32).toNatClampNeg) = 0 → kX7_isFree_22 q))) ∧ (¬ gA q 39 ((v1 : Int32).toNatClampNeg) = 0 → kX7_isFree_22 q))
set_option maxHeartbeats 4000000 in
set_option maxRecDepth 100000 in
theorem ctX7_isFree (l : Launch) (hl : l.stackTraces = false) (D : va_G) (kc : Nat → ClassId) (ad wad : Nat → Nat) (q : SS) (v1 : Int32) (hok : kX7_isFree q v1) : Ci l yX7_isFree (Cond.code yX7_isFree cX7_isFree 2 (some .boolean) :: lw_G) (zr 0 0 0) 0 0 (PX D kc) (GX D kc ad wad) (GX D kc ad wad) [.ref (ad 1), .int v1] q (fX7_isFree q v1) := by
  refine Ci.of (cc := cX7_isFree) (maxL := 2) (ret := (some .boolean)) (by decide) rfl (Nat.le_of_ble_eq_true rfl) ?_
  intro p e s m args below meth c A S hr hlocks hin hA hK
  have hx := S.1
  have hb := S.2.1
  have hE : EV A s s.heap := hK.2
  have hK : va_K D vwCl (tysK kc) s := hK.1
  generalize hFe : fX7_isFree q v1 = F
  have hF : F = fX7_isFree q v1 := hFe.symm
  have b23 : ∀ (q : SS) (s0 : Int32), kX7_isFree_23 q s0 → F = fX7_isFree_23 q s0 → Z p l e (zr 0 0 0) s m args below meth c 0 0 (MQ below (va_Qi (fun (x : Int32) (_ : Unit) => x = F.1) (fun _ t => (GX D kc ad wad) A F.2 t.heap) A) args s 0 0 A) 2 A (ZG D vwCl (wX kc ad wad) (PLX wad) A) q 23 [] [.int s0] := by
    intro q s0 hok hF
    have h23 := And.left hok
    have hok := And.right hok
    exact z_iret hx hb hlocks hr h23 hF dX7_isFree_23
  have b22 : ∀ (q : SS), kX7_isFree_22 q → F = fX7_isFree_22 q → Z p l e (zr 0 0 0) s m args below meth c 0 0 (MQ below (va_Qi (fun (x : Int32) (_ : Unit) => x = F.1) (fun _ t => (GX D kc ad wad) A F.2 t.heap) A) args s 0 0 A) 2 A (ZG D vwCl (wX kc ad wad) (PLX wad) A) q 22 [] [] := by
    intro q hok hF
    refine z_iconst (v := 0) hx hb dX7_isFree_22 (by decide) ?_
    exact b23 q 0 hok hF
  refine z_aload_n (j := 0) hx hb dX7_isFree_0 rfl rfl ?_
  refine z_get (v := .ref (ad 12)) S hK inX7 1 (fun _ => rfl) rfl 0 (by decide) q1_50 rfl rfl dX7_isFree_1 ?_
  refine z_iload_n (j := 1) hx hb dX7_isFree_4 rfl rfl ?_
  have h5 := And.left hok
  have hok := And.right hok
  refine z_aldw S hK h5 dX7_isFree_5 (fun g5 => ?_) (fun g5 => ?_)
  · have hF := hF.trans (if_pos g5)
    have hok := And.left hok g5
    refine z_ifnonnullN hx hb dX7_isFree_6 ?_
    refine z_aload_n (j := 0) hx hb dX7_isFree_9 rfl rfl ?_
    refine z_get (v := .ref (ad 13)) S hK inX7 1 (fun _ => rfl) rfl 1 (by decide) q1_51 rfl rfl dX7_isFree_10 ?_
    refine z_iload_n (j := 1) hx hb dX7_isFree_13 rfl rfl ?_
    have h14 := And.left hok
    have hok := And.right hok
    refine z_zald (f := (gA q 13)) S hK 13 1 (fun _ => rfl) rfl h14 dX7_isFree_14 ?_
    refine z_if_ne (tgt := 22) hx hb dX7_isFree_15 (by decide) (fun g15 => ?_) (fun g15 => ?_)
    · have hF := hF.trans (if_neg g15)
      have hok := And.right hok g15
      refine z_sub [] rfl ?_
      exact b22 q hok hF
    · have hF := hF.trans (if_pos g15)
      have hok := And.left hok g15
      refine z_iconst (v := 1) hx hb dX7_isFree_18 (by decide) ?_
      refine z_goto (tgt := 23) hx hb dX7_isFree_19 (by decide) ?_
      refine z_sub [] rfl ?_
      exact b23 q 1 hok hF
  · have hF := hF.trans (if_neg g5)
    have hok := And.right hok g5
    refine z_ifnonnull (tgt := 22) hx hb dX7_isFree_6 (by decide) ?_
    refine z_sub [] rfl ?_
    exact b22 q hok hF
theorem hX7_isFree : yX7_isFree.cls = RX7 ∧ yX7_isFree.cls ≠ "java/lang/invoke/MethodHandle" ∧ yX7_isFree.cls ≠ "java/lang/invoke/VarHandle" ∧ (parseMethodDescriptor yX7_isFree.desc).map (fun d => d.parameters.length) = some 1 := by decide +kernel
def fX7_freeCount_21 (k4 : SS → Int32 → Int32 → Int32 × SS) (q : SS) (v1 : Int32) (v2 : Int32) : Int32 × SS := k4 q v1 (v2 + 1)
def kX7_freeCount_21 (kk4 : SS → Int32 → Int32 → Prop) (q : SS) (v1 : Int32) (v2 : Int32) : Prop := kk4 q v1 (v2 + 1)
def fX7_freeCount_15 (k4 : SS → Int32 → Int32 → Int32 × SS) (q : SS) (v1 : Int32) (v2 : Int32) (s0 : Int32) : Int32 × SS := (if s0 = 0 then fX7_freeCount_21 k4 q v1 v2 else fX7_freeCount_21 k4 q (v1 + 1) v2)
def kX7_freeCount_15 (kk4 : SS → Int32 → Int32 → Prop) (q : SS) (v1 : Int32) (v2 : Int32) (s0 : Int32) : Prop := ((s0 = 0 → kX7_freeCount_21 kk4 q v1 v2) ∧ (¬ s0 = 0 → kX7_freeCount_21 kk4 q (v1 + 1) v2))
def fX7_freeCount_4 : Nat → SS → Int32 → Int32 → Int32 × SS
  | 0, q, _, _ => (0, q)
  | n + 1, q, v1, v2 => (if 64 ≤ v2 then (v1, q) else fX7_freeCount_15 (fX7_freeCount_4 n) (fX7_isFree q v2).2 v1 v2 (fX7_isFree q v2).1)
def kX7_freeCount_4 : Nat → SS → Int32 → Int32 → Prop
  | 0, _, _, _ => False
  | n + 1, q, v1, v2 => ((64 ≤ v2 → True) ∧ (¬ 64 ≤ v2 → kX7_isFree q v2 ∧ kX7_freeCount_15 (kX7_freeCount_4 n) (fX7_isFree q v2).2 v1 v2 (fX7_isFree q v2).1))
def fX7_freeCount (q : SS) : Int32 × SS := fX7_freeCount_4 70 q 0 0
def kX7_freeCount (q : SS) : Prop := kX7_freeCount_4 70 q 0 0
set_option maxHeartbeats 4000000 in
set_option maxRecDepth 100000 in
theorem ctX7_freeCount (l : Launch) (hl : l.stackTraces = false) (D : va_G) (kc : Nat → ClassId) (ad wad : Nat → Nat) (q : SS) (hok : kX7_freeCount q) : Ci l yX7_freeCount (Cond.code yX7_freeCount cX7_freeCount 3 (some .int) :: lw_G) (zr 1 0 0) 0 0 (PX D kc) (GX D kc ad wad) (GX D kc ad wad) [.ref (ad 1)] q (fX7_freeCount q) := by
  refine Ci.of (cc := cX7_freeCount) (maxL := 3) (ret := (some .int)) (by decide) rfl (Nat.le_of_ble_eq_true rfl) ?_
  intro p e s m args below meth c A S hr hlocks hin hA hK
  have hx := S.1
  have hb := S.2.1
  have hE : EV A s s.heap := hK.2
  have hK : va_K D vwCl (tysK kc) s := hK.1
  generalize hFe : fX7_freeCount q = F
  have hF : F = fX7_freeCount q := hFe.symm
  have b21 : ∀ (k4 : SS → Int32 → Int32 → Int32 × SS) (kk4 : SS → Int32 → Int32 → Prop) (_ : ∀ (q : SS) (v1 : Int32) (v2 : Int32), kk4 q v1 v2 → F = k4 q v1 v2 → Z p l e (zr 1 0 0) s m args below meth c 0 0 (MQ below (va_Qi (fun (x : Int32) (_ : Unit) => x = F.1) (fun _ t => (GX D kc ad wad) A F.2 t.heap) A) args s 0 0 A) 3 A (ZG D vwCl (wX kc ad wad) (PLX wad) A) q 4 [(0, .ref (ad 1)), (1, .int v1), (2, .int v2)] []) (q : SS) (v1 : Int32) (v2 : Int32), kX7_freeCount_21 kk4 q v1 v2 → F = fX7_freeCount_21 k4 q v1 v2 → Z p l e (zr 1 0 0) s m args below meth c 0 0 (MQ below (va_Qi (fun (x : Int32) (_ : Unit) => x = F.1) (fun _ t => (GX D kc ad wad) A F.2 t.heap) A) args s 0 0 A) 3 A (ZG D vwCl (wX kc ad wad) (PLX wad) A) q 21 [(0, .ref (ad 1)), (1, .int v1), (2, .int v2)] [] := by
    intro k4 kk4 hk4 q v1 v2 hok hF
    refine z_iinc (k := 2) (v := (v2 + 1)) (lv' := [(2, .int (v2 + 1)), (0, .ref (ad 1)), (1, .int v1)]) hx hb dX7_freeCount_21 rfl rfl (by decide) rfl ?_
    refine z_goto (tgt := 4) hx hb dX7_freeCount_24 (by decide) ?_
    refine z_sub [1, 2, 0] rfl ?_
    exact hk4 q v1 (v2 + 1) hok hF
  have b15 : ∀ (k4 : SS → Int32 → Int32 → Int32 × SS) (kk4 : SS → Int32 → Int32 → Prop) (_ : ∀ (q : SS) (v1 : Int32) (v2 : Int32), kk4 q v1 v2 → F = k4 q v1 v2 → Z p l e (zr 1 0 0) s m args below meth c 0 0 (MQ below (va_Qi (fun (x : Int32) (_ : Unit) => x = F.1) (fun _ t => (GX D kc ad wad) A F.2 t.heap) A) args s 0 0 A) 3 A (ZG D vwCl (wX kc ad wad) (PLX wad) A) q 4 [(0, .ref (ad 1)), (1, .int v1), (2, .int v2)] []) (q : SS) (v1 : Int32) (v2 : Int32) (s0 : Int32), kX7_freeCount_15 kk4 q v1 v2 s0 → F = fX7_freeCount_15 k4 q v1 v2 s0 → Z p l e (zr 1 0 0) s m args below meth c 0 0 (MQ below (va_Qi (fun (x : Int32) (_ : Unit) => x = F.1) (fun _ t => (GX D kc ad wad) A F.2 t.heap) A) args s 0 0 A) 3 A (ZG D vwCl (wX kc ad wad) (PLX wad) A) q 15 [(0, .ref (ad 1)), (1, .int v1), (2, .int v2)] [.int s0] := by
    intro k4 kk4 hk4 q v1 v2 s0 hok hF
    refine z_if_eq (tgt := 21) hx hb dX7_freeCount_15 (by decide) (fun g15 => ?_) (fun g15 => ?_)
    · have hF := hF.trans (if_pos g15)
      have hok := And.left hok g15
      exact b21 k4 kk4 hk4 q v1 v2 hok hF
    · have hF := hF.trans (if_neg g15)
      have hok := And.right hok g15
      refine z_iinc (k := 1) (v := (v1 + 1)) (lv' := [(1, .int (v1 + 1)), (0, .ref (ad 1)), (2, .int v2)]) hx hb dX7_freeCount_18 rfl rfl (by decide) rfl ?_
      refine z_sub [1, 0, 2] rfl ?_
      exact b21 k4 kk4 hk4 q (v1 + 1) v2 hok hF
  have b4 : ∀ (n : Nat) (q : SS) (v1 : Int32) (v2 : Int32), kX7_freeCount_4 n q v1 v2 → F = fX7_freeCount_4 n q v1 v2 → Z p l e (zr 1 0 0) s m args below meth c 0 0 (MQ below (va_Qi (fun (x : Int32) (_ : Unit) => x = F.1) (fun _ t => (GX D kc ad wad) A F.2 t.heap) A) args s 0 0 A) 3 A (ZG D vwCl (wX kc ad wad) (PLX wad) A) q 4 [(0, .ref (ad 1)), (1, .int v1), (2, .int v2)] [] := by
    intro n
    induction n with
    | zero => intro q v1 v2 hok hF; exact False.elim hok
    | succ n ih =>
      intro q v1 v2 hok hF
      refine z_iload_n (j := 2) hx hb dX7_freeCount_4 rfl rfl ?_
      refine z_bipush (v := 64) hx hb dX7_freeCount_5 (by decide) ?_
      refine z_icmp_ge (tgt := 27) hx hb dX7_freeCount_7 (by decide) (fun g7 => ?_) (fun g7 => ?_)
      · have hF := hF.trans (if_pos g7)
        have hok := And.left hok g7
        refine z_iload_n (j := 1) hx hb dX7_freeCount_27 rfl rfl ?_
        exact z_iret hx hb hlocks hr rfl hF dX7_freeCount_28
      · have hF := hF.trans (if_neg g7)
        have hok := And.right hok g7
        refine z_aload_n (j := 0) hx hb dX7_freeCount_10 rfl rfl ?_
        refine z_iload_n (j := 2) hx hb dX7_freeCount_11 rfl rfl ?_
        have h12 := And.left hok
        have hok := And.right hok
        refine z_callVi (As := [.int v2]) S (ctX7_isFree l hl D kc ad wad q v2 h12) (cwV 1 S.2.2.2.2 (gV q2_159 q2_160 q2_161 q1_2 q2_162) rfl rfl rfl hX7_isFree ⟨Nat.le_of_ble_eq_true rfl, Nat.le_of_ble_eq_true rfl⟩) hA (pbX D kc) (psX hK hE) (z_recv hK 1 (fun _ => rfl) rfl) rfl rfl (Nat.le_of_ble_eq_true rfl) dX7_freeCount_12 ⟨Nat.le_of_ble_eq_true rfl, Nat.le_of_ble_eq_true rfl⟩ ?_
        exact b15 (fX7_freeCount_4 n) (kX7_freeCount_4 n) ih (fX7_isFree q v2).2 v1 v2 (fX7_isFree q v2).1 hok hF
  refine z_iconst (v := 0) hx hb dX7_freeCount_0 (by decide) ?_
  refine z_istore_n (lv' := [(1, .int 0), (0, .ref (ad 1))]) hx hb dX7_freeCount_1 rfl (by decide) rfl ?_
  refine z_iconst (v := 0) hx hb dX7_freeCount_2 (by decide) ?_
  refine z_istore_n (lv' := [(2, .int 0), (1, .int 0), (0, .ref (ad 1))]) hx hb dX7_freeCount_3 rfl (by decide) rfl ?_
  refine z_sub [2, 1, 0] rfl ?_
  exact b4 70 q 0 0 hok hF
theorem hX7_freeCount : yX7_freeCount.cls = RX7 ∧ yX7_freeCount.cls ≠ "java/lang/invoke/MethodHandle" ∧ yX7_freeCount.cls ≠ "java/lang/invoke/VarHandle" ∧ (parseMethodDescriptor yX7_freeCount.desc).map (fun d => d.parameters.length) = some 0 := by decide +kernel
def fX7_isFreeBlock_14 (k2 : SS → Int32 → Int32 → Int32 → Int32 × SS) (q : SS) (v1 : Int32) (v2 : Int32) (v3 : Int32) (s0 : Int32) : Int32 × SS := (if s0 = 0 then (0, q) else k2 q v1 v2 (v3 + 1))
def kX7_isFreeBlock_14 (kk2 : SS → Int32 → Int32 → Int32 → Prop) (q : SS) (v1 : Int32) (v2 : Int32) (v3 : Int32) (s0 : Int32) : Prop := ((s0 = 0 → True) ∧ (¬ s0 = 0 → kk2 q v1 v2 (v3 + 1)))
def fX7_isFreeBlock_2 : Nat → SS → Int32 → Int32 → Int32 → Int32 × SS
  | 0, q, _, _, _ => (0, q)
  | n + 1, q, v1, v2, v3 => (if (v1 + v2) ≤ v3 then (1, q) else fX7_isFreeBlock_14 (fX7_isFreeBlock_2 n) (fX7_isFree q v3).2 v1 v2 v3 (fX7_isFree q v3).1)
def kX7_isFreeBlock_2 : Nat → SS → Int32 → Int32 → Int32 → Prop
  | 0, _, _, _, _ => False
  | n + 1, q, v1, v2, v3 => (((v1 + v2) ≤ v3 → True) ∧ (¬ (v1 + v2) ≤ v3 → kX7_isFree q v3 ∧ kX7_isFreeBlock_14 (kX7_isFreeBlock_2 n) (fX7_isFree q v3).2 v1 v2 v3 (fX7_isFree q v3).1))
def fX7_isFreeBlock (q : SS) (v1 : Int32) (v2 : Int32) : Int32 × SS := fX7_isFreeBlock_2 70 q v1 v2 v1
def kX7_isFreeBlock (q : SS) (v1 : Int32) (v2 : Int32) : Prop := kX7_isFreeBlock_2 70 q v1 v2 v1
set_option maxHeartbeats 4000000 in
set_option maxRecDepth 100000 in
theorem ctX7_isFreeBlock (l : Launch) (hl : l.stackTraces = false) (D : va_G) (kc : Nat → ClassId) (ad wad : Nat → Nat) (q : SS) (v1 : Int32) (v2 : Int32) (hok : kX7_isFreeBlock q v1 v2) : Ci l yX7_isFreeBlock (Cond.code yX7_isFreeBlock cX7_isFreeBlock 4 (some .boolean) :: lw_G) (zr 1 0 0) 0 0 (PX D kc) (GX D kc ad wad) (GX D kc ad wad) [.ref (ad 1), .int v1, .int v2] q (fX7_isFreeBlock q v1 v2) := by
  refine Ci.of (cc := cX7_isFreeBlock) (maxL := 4) (ret := (some .boolean)) (by decide) rfl (Nat.le_of_ble_eq_true rfl) ?_
  intro p e s m args below meth c A S hr hlocks hin hA hK
  have hx := S.1
  have hb := S.2.1
  have hE : EV A s s.heap := hK.2
  have hK : va_K D vwCl (tysK kc) s := hK.1
  generalize hFe : fX7_isFreeBlock q v1 v2 = F
  have hF : F = fX7_isFreeBlock q v1 v2 := hFe.symm
  have b14 : ∀ (k2 : SS → Int32 → Int32 → Int32 → Int32 × SS) (kk2 : SS → Int32 → Int32 → Int32 → Prop) (_ : ∀ (q : SS) (v1 : Int32) (v2 : Int32) (v3 : Int32), kk2 q v1 v2 v3 → F = k2 q v1 v2 v3 → Z p l e (zr 1 0 0) s m args below meth c 0 0 (MQ below (va_Qi (fun (x : Int32) (_ : Unit) => x = F.1) (fun _ t => (GX D kc ad wad) A F.2 t.heap) A) args s 0 0 A) 4 A (ZG D vwCl (wX kc ad wad) (PLX wad) A) q 2 [(0, .ref (ad 1)), (1, .int v1), (2, .int v2), (3, .int v3)] []) (q : SS) (v1 : Int32) (v2 : Int32) (v3 : Int32) (s0 : Int32), kX7_isFreeBlock_14 kk2 q v1 v2 v3 s0 → F = fX7_isFreeBlock_14 k2 q v1 v2 v3 s0 → Z p l e (zr 1 0 0) s m args below meth c 0 0 (MQ below (va_Qi (fun (x : Int32) (_ : Unit) => x = F.1) (fun _ t => (GX D kc ad wad) A F.2 t.heap) A) args s 0 0 A) 4 A (ZG D vwCl (wX kc ad wad) (PLX wad) A) q 14 [(0, .ref (ad 1)), (1, .int v1), (2, .int v2), (3, .int v3)] [.int s0] := by
    intro k2 kk2 hk2 q v1 v2 v3 s0 hok hF
    refine z_if_ne (tgt := 19) hx hb dX7_isFreeBlock_14 (by decide) (fun g14 => ?_) (fun g14 => ?_)
    · have hF := hF.trans (if_neg g14)
      have hok := And.right hok g14
      refine z_iinc (k := 3) (v := (v3 + 1)) (lv' := [(3, .int (v3 + 1)), (0, .ref (ad 1)), (1, .int v1), (2, .int v2)]) hx hb dX7_isFreeBlock_19 rfl rfl (by decide) rfl ?_
      refine z_goto (tgt := 2) hx hb dX7_isFreeBlock_22 (by decide) ?_
      refine z_sub [1, 2, 3, 0] rfl ?_
      exact hk2 q v1 v2 (v3 + 1) hok hF
    · have hF := hF.trans (if_pos g14)
      have hok := And.left hok g14
      refine z_iconst (v := 0) hx hb dX7_isFreeBlock_17 (by decide) ?_
      exact z_iret hx hb hlocks hr (by decide) hF dX7_isFreeBlock_18
  have b2 : ∀ (n : Nat) (q : SS) (v1 : Int32) (v2 : Int32) (v3 : Int32), kX7_isFreeBlock_2 n q v1 v2 v3 → F = fX7_isFreeBlock_2 n q v1 v2 v3 → Z p l e (zr 1 0 0) s m args below meth c 0 0 (MQ below (va_Qi (fun (x : Int32) (_ : Unit) => x = F.1) (fun _ t => (GX D kc ad wad) A F.2 t.heap) A) args s 0 0 A) 4 A (ZG D vwCl (wX kc ad wad) (PLX wad) A) q 2 [(0, .ref (ad 1)), (1, .int v1), (2, .int v2), (3, .int v3)] [] := by
    intro n
    induction n with
    | zero => intro q v1 v2 v3 hok hF; exact False.elim hok
    | succ n ih =>
      intro q v1 v2 v3 hok hF
      refine z_iload_n (j := 3) hx hb dX7_isFreeBlock_2 rfl rfl ?_
      refine z_iload_n (j := 1) hx hb dX7_isFreeBlock_3 rfl rfl ?_
      refine z_iload_n (j := 2) hx hb dX7_isFreeBlock_4 rfl rfl ?_
      refine z_iadd hx hb dX7_isFreeBlock_5 ?_
      refine z_icmp_ge (tgt := 25) hx hb dX7_isFreeBlock_6 (by decide) (fun g6 => ?_) (fun g6 => ?_)
      · have hF := hF.trans (if_pos g6)
        have hok := And.left hok g6
        refine z_iconst (v := 1) hx hb dX7_isFreeBlock_25 (by decide) ?_
        exact z_iret hx hb hlocks hr (by decide) hF dX7_isFreeBlock_26
      · have hF := hF.trans (if_neg g6)
        have hok := And.right hok g6
        refine z_aload_n (j := 0) hx hb dX7_isFreeBlock_9 rfl rfl ?_
        refine z_iload_n (j := 3) hx hb dX7_isFreeBlock_10 rfl rfl ?_
        have h11 := And.left hok
        have hok := And.right hok
        refine z_callVi (As := [.int v3]) S (ctX7_isFree l hl D kc ad wad q v3 h11) (cwV 1 S.2.2.2.2 (gV q2_159 q2_160 q2_161 q1_2 q2_162) rfl rfl rfl hX7_isFree ⟨Nat.le_of_ble_eq_true rfl, Nat.le_of_ble_eq_true rfl⟩) hA (pbX D kc) (psX hK hE) (z_recv hK 1 (fun _ => rfl) rfl) rfl rfl (Nat.le_of_ble_eq_true rfl) dX7_isFreeBlock_11 ⟨Nat.le_of_ble_eq_true rfl, Nat.le_of_ble_eq_true rfl⟩ ?_
        exact b14 (fX7_isFreeBlock_2 n) (kX7_isFreeBlock_2 n) ih (fX7_isFree q v3).2 v1 v2 v3 (fX7_isFree q v3).1 hok hF
  refine z_iload_n (j := 1) hx hb dX7_isFreeBlock_0 rfl rfl ?_
  refine z_istore_n (lv' := [(3, .int v1), (0, .ref (ad 1)), (1, .int v1), (2, .int v2)]) hx hb dX7_isFreeBlock_1 rfl (by decide) rfl ?_
  refine z_sub [1, 2, 3, 0] rfl ?_
  exact b2 70 q v1 v2 v1 hok hF
theorem hX7_isFreeBlock : yX7_isFreeBlock.cls = RX7 ∧ yX7_isFreeBlock.cls ≠ "java/lang/invoke/MethodHandle" ∧ yX7_isFreeBlock.cls ≠ "java/lang/invoke/VarHandle" ∧ (parseMethodDescriptor yX7_isFreeBlock.desc).map (fun d => d.parameters.length) = some 2 := by decide +kernel
def fX7_reserveBlock_21 : Nat → SS → Int32 → Int32 → Int32 → Int32 × SS
  | 0, q, _, _, _ => (0, q)
  | n + 1, q, v1, v2, v3 => (if (v2 + v1) ≤ v3 then (v2, q) else fX7_reserveBlock_21 n (sA q 13 (upd (gA q 13) (v3 : Int32).toNatClampNeg (vp_nar .boolean 1))) v1 v2 (v3 + 1))
def kX7_reserveBlock_21 : Nat → SS → Int32 → Int32 → Int32 → Prop
  | 0, _, _, _, _ => False
  | n + 1, q, v1, v2, v3 => (((v2 + v1) ≤ v3 → True) ∧ (¬ (v2 + v1) ≤ v3 → vp_in v3 64 ∧ kX7_reserveBlock_21 n (sA q 13 (upd (gA q 13) (v3 : Int32).toNatClampNeg (vp_nar .boolean 1))) v1 v2 (v3 + 1)))
def fX7_reserveBlock_16 (k2 : SS → Int32 → Int32 → Int32 × SS) (q : SS) (v1 : Int32) (v2 : Int32) (s0 : Int32) : Int32 × SS := (if s0 = 0 then k2 q v1 (v2 + v1) else fX7_reserveBlock_21 70 q v1 v2 v2)
def kX7_reserveBlock_16 (kk2 : SS → Int32 → Int32 → Prop) (q : SS) (v1 : Int32) (v2 : Int32) (s0 : Int32) : Prop := ((s0 = 0 → kk2 q v1 (v2 + v1)) ∧ (¬ s0 = 0 → kX7_reserveBlock_21 70 q v1 v2 v2))
def fX7_reserveBlock_2 : Nat → SS → Int32 → Int32 → Int32 × SS
  | 0, q, _, _ => (0, q)
  | n + 1, q, v1, v2 => (if 64 < (v2 + v1) then ((-1), q) else fX7_reserveBlock_16 (fX7_reserveBlock_2 n) (fX7_isFreeBlock q v2 v1).2 v1 v2 (fX7_isFreeBlock q v2 v1).1)
def kX7_reserveBlock_2 : Nat → SS → Int32 → Int32 → Prop
  | 0, _, _, _ => False
  | n + 1, q, v1, v2 => ((64 < (v2 + v1) → True) ∧ (¬ 64 < (v2 + v1) → kX7_isFreeBlock q v2 v1 ∧ kX7_reserveBlock_16 (kX7_reserveBlock_2 n) (fX7_isFreeBlock q v2 v1).2 v1 v2 (fX7_isFreeBlock q v2 v1).1))
def fX7_reserveBlock (q : SS) (v1 : Int32) : Int32 × SS := fX7_reserveBlock_2 70 q v1 0
def kX7_reserveBlock (q : SS) (v1 : Int32) : Prop := kX7_reserveBlock_2 70 q v1 0
set_option maxHeartbeats 4000000 in
set_option maxRecDepth 100000 in
theorem ctX7_reserveBlock (l : Launch) (hl : l.stackTraces = false) (D : va_G) (kc : Nat → ClassId) (ad wad : Nat → Nat) (q : SS) (v1 : Int32) (hok : kX7_reserveBlock q v1) : Ci l yX7_reserveBlock (Cond.code yX7_reserveBlock cX7_reserveBlock 4 (some .int) :: lw_G) (zr 2 0 0) 0 0 (PX D kc) (GX D kc ad wad) (GX D kc ad wad) [.ref (ad 1), .int v1] q (fX7_reserveBlock q v1) := by
  refine Ci.of (cc := cX7_reserveBlock) (maxL := 4) (ret := (some .int)) (by decide) rfl (Nat.le_of_ble_eq_true rfl) ?_
  intro p e s m args below meth c A S hr hlocks hin hA hK
  have hx := S.1
  have hb := S.2.1
  have hE : EV A s s.heap := hK.2
  have hK : va_K D vwCl (tysK kc) s := hK.1
  generalize hFe : fX7_reserveBlock q v1 = F
  have hF : F = fX7_reserveBlock q v1 := hFe.symm
  have b21 : ∀ (n : Nat) (q : SS) (v1 : Int32) (v2 : Int32) (v3 : Int32), kX7_reserveBlock_21 n q v1 v2 v3 → F = fX7_reserveBlock_21 n q v1 v2 v3 → Z p l e (zr 2 0 0) s m args below meth c 0 0 (MQ below (va_Qi (fun (x : Int32) (_ : Unit) => x = F.1) (fun _ t => (GX D kc ad wad) A F.2 t.heap) A) args s 0 0 A) 4 A (ZG D vwCl (wX kc ad wad) (PLX wad) A) q 21 [(0, .ref (ad 1)), (1, .int v1), (2, .int v2), (3, .int v3)] [] := by
    intro n
    induction n with
    | zero => intro q v1 v2 v3 hok hF; exact False.elim hok
    | succ n ih =>
      intro q v1 v2 v3 hok hF
      refine z_iload_n (j := 3) hx hb dX7_reserveBlock_21 rfl rfl ?_
      refine z_iload_n (j := 2) hx hb dX7_reserveBlock_22 rfl rfl ?_
      refine z_iload_n (j := 1) hx hb dX7_reserveBlock_23 rfl rfl ?_
      refine z_iadd hx hb dX7_reserveBlock_24 ?_
      refine z_icmp_ge (tgt := 41) hx hb dX7_reserveBlock_25 (by decide) (fun g25 => ?_) (fun g25 => ?_)
      · have hF := hF.trans (if_pos g25)
        have hok := And.left hok g25
        refine z_iload_n (j := 2) hx hb dX7_reserveBlock_41 rfl rfl ?_
        exact z_iret hx hb hlocks hr rfl hF dX7_reserveBlock_42
      · have hF := hF.trans (if_neg g25)
        have hok := And.right hok g25
        refine z_aload_n (j := 0) hx hb dX7_reserveBlock_28 rfl rfl ?_
        refine z_get (v := .ref (ad 13)) S hK inX7 1 (fun _ => rfl) rfl 1 (by decide) q1_51 rfl rfl dX7_reserveBlock_29 ?_
        refine z_iload_n (j := 3) hx hb dX7_reserveBlock_32 rfl rfl ?_
        refine z_iconst (v := 1) hx hb dX7_reserveBlock_33 (by decide) ?_
        have h34 := And.left hok
        have hok := And.right hok
        refine z_zast (f := (gA q 13)) (q' := (sA q 13 (upd (gA q 13) (v3 : Int32).toNatClampNeg (vp_nar .boolean 1)))) S hK 13 1 (fun _ => rfl) rfl h34 dX7_reserveBlock_34 (wXa13 kc ad wad _ _) (fun _ h => h) ?_
        refine z_iinc (k := 3) (v := (v3 + 1)) (lv' := [(3, .int (v3 + 1)), (0, .ref (ad 1)), (1, .int v1), (2, .int v2)]) hx hb dX7_reserveBlock_35 rfl rfl (by decide) rfl ?_
        refine z_goto (tgt := 21) hx hb dX7_reserveBlock_38 (by decide) ?_
        refine z_sub [1, 2, 3, 0] rfl ?_
        exact ih (sA q 13 (upd (gA q 13) (v3 : Int32).toNatClampNeg (vp_nar .boolean 1))) v1 v2 (v3 + 1) hok hF
  have b16 : ∀ (k2 : SS → Int32 → Int32 → Int32 × SS) (kk2 : SS → Int32 → Int32 → Prop) (_ : ∀ (q : SS) (v1 : Int32) (v2 : Int32), kk2 q v1 v2 → F = k2 q v1 v2 → Z p l e (zr 2 0 0) s m args below meth c 0 0 (MQ below (va_Qi (fun (x : Int32) (_ : Unit) => x = F.1) (fun _ t => (GX D kc ad wad) A F.2 t.heap) A) args s 0 0 A) 4 A (ZG D vwCl (wX kc ad wad) (PLX wad) A) q 2 [(0, .ref (ad 1)), (1, .int v1), (2, .int v2)] []) (q : SS) (v1 : Int32) (v2 : Int32) (s0 : Int32), kX7_reserveBlock_16 kk2 q v1 v2 s0 → F = fX7_reserveBlock_16 k2 q v1 v2 s0 → Z p l e (zr 2 0 0) s m args below meth c 0 0 (MQ below (va_Qi (fun (x : Int32) (_ : Unit) => x = F.1) (fun _ t => (GX D kc ad wad) A F.2 t.heap) A) args s 0 0 A) 4 A (ZG D vwCl (wX kc ad wad) (PLX wad) A) q 16 [(0, .ref (ad 1)), (1, .int v1), (2, .int v2)] [.int s0] := by
    intro k2 kk2 hk2 q v1 v2 s0 hok hF
    refine z_if_eq (tgt := 43) hx hb dX7_reserveBlock_16 (by decide) (fun g16 => ?_) (fun g16 => ?_)
    · have hF := hF.trans (if_pos g16)
      have hok := And.left hok g16
      refine z_iload_n (j := 2) hx hb dX7_reserveBlock_43 rfl rfl ?_
      refine z_iload_n (j := 1) hx hb dX7_reserveBlock_44 rfl rfl ?_
      refine z_iadd hx hb dX7_reserveBlock_45 ?_
      refine z_istore_n (lv' := [(2, .int (v2 + v1)), (0, .ref (ad 1)), (1, .int v1)]) hx hb dX7_reserveBlock_46 rfl (by decide) rfl ?_
      refine z_goto (tgt := 2) hx hb dX7_reserveBlock_47 (by decide) ?_
      refine z_sub [1, 2, 0] rfl ?_
      exact hk2 q v1 (v2 + v1) hok hF
    · have hF := hF.trans (if_neg g16)
      have hok := And.right hok g16
      refine z_iload_n (j := 2) hx hb dX7_reserveBlock_19 rfl rfl ?_
      refine z_istore_n (lv' := [(3, .int v2), (0, .ref (ad 1)), (1, .int v1), (2, .int v2)]) hx hb dX7_reserveBlock_20 rfl (by decide) rfl ?_
      refine z_sub [1, 2, 3, 0] rfl ?_
      exact b21 70 q v1 v2 v2 hok hF
  have b2 : ∀ (n : Nat) (q : SS) (v1 : Int32) (v2 : Int32), kX7_reserveBlock_2 n q v1 v2 → F = fX7_reserveBlock_2 n q v1 v2 → Z p l e (zr 2 0 0) s m args below meth c 0 0 (MQ below (va_Qi (fun (x : Int32) (_ : Unit) => x = F.1) (fun _ t => (GX D kc ad wad) A F.2 t.heap) A) args s 0 0 A) 4 A (ZG D vwCl (wX kc ad wad) (PLX wad) A) q 2 [(0, .ref (ad 1)), (1, .int v1), (2, .int v2)] [] := by
    intro n
    induction n with
    | zero => intro q v1 v2 hok hF; exact False.elim hok
    | succ n ih =>
      intro q v1 v2 hok hF
      refine z_iload_n (j := 2) hx hb dX7_reserveBlock_2 rfl rfl ?_
      refine z_iload_n (j := 1) hx hb dX7_reserveBlock_3 rfl rfl ?_
      refine z_iadd hx hb dX7_reserveBlock_4 ?_
      refine z_bipush (v := 64) hx hb dX7_reserveBlock_5 (by decide) ?_
      refine z_icmp_gt (tgt := 50) hx hb dX7_reserveBlock_7 (by decide) (fun g7 => ?_) (fun g7 => ?_)
      · have hF := hF.trans (if_pos g7)
        have hok := And.left hok g7
        refine z_iconst (v := (-1)) hx hb dX7_reserveBlock_50 (by decide) ?_
        exact z_iret hx hb hlocks hr rfl hF dX7_reserveBlock_51
      · have hF := hF.trans (if_neg g7)
        have hok := And.right hok g7
        refine z_aload_n (j := 0) hx hb dX7_reserveBlock_10 rfl rfl ?_
        refine z_iload_n (j := 2) hx hb dX7_reserveBlock_11 rfl rfl ?_
        refine z_iload_n (j := 1) hx hb dX7_reserveBlock_12 rfl rfl ?_
        have h13 := And.left hok
        have hok := And.right hok
        refine z_callVi (As := [.int v2, .int v1]) S (ctX7_isFreeBlock l hl D kc ad wad q v2 v1 h13) (cwV 2 S.2.2.2.2 (gV q4_137 q4_138 q4_139 q1_2 q4_140) rfl rfl rfl hX7_isFreeBlock ⟨Nat.le_of_ble_eq_true rfl, Nat.le_of_ble_eq_true rfl⟩) hA (pbX D kc) (psX hK hE) (z_recv hK 1 (fun _ => rfl) rfl) rfl rfl (Nat.le_of_ble_eq_true rfl) dX7_reserveBlock_13 ⟨Nat.le_of_ble_eq_true rfl, Nat.le_of_ble_eq_true rfl⟩ ?_
        exact b16 (fX7_reserveBlock_2 n) (kX7_reserveBlock_2 n) ih (fX7_isFreeBlock q v2 v1).2 v1 v2 (fX7_isFreeBlock q v2 v1).1 hok hF
  refine z_iconst (v := 0) hx hb dX7_reserveBlock_0 (by decide) ?_
  refine z_istore_n (lv' := [(2, .int 0), (0, .ref (ad 1)), (1, .int v1)]) hx hb dX7_reserveBlock_1 rfl (by decide) rfl ?_
  refine z_sub [1, 2, 0] rfl ?_
  exact b2 70 q v1 0 hok hF
theorem hX7_reserveBlock : yX7_reserveBlock.cls = RX7 ∧ yX7_reserveBlock.cls ≠ "java/lang/invoke/MethodHandle" ∧ yX7_reserveBlock.cls ≠ "java/lang/invoke/VarHandle" ∧ (parseMethodDescriptor yX7_reserveBlock.desc).map (fun d => d.parameters.length) = some 1 := by decide +kernel
def fX7_entryOf (q : SS) (v1 : Int32) (v2 : Int32) : Int32 × SS := (((gA q 14) ((((v1 &&& 1) * 16) + (v2 &&& 15)) : Int32).toNatClampNeg), q)
def kX7_entryOf (q : SS) (v1 : Int32) (v2 : Int32) : Prop := vp_in (((v1 &&& 1) * 16) + (v2 &&& 15)) 32 ∧ True
set_option maxHeartbeats 4000000 in
set_option maxRecDepth 100000 in
theorem ctX7_entryOf (l : Launch) (hl : l.stackTraces = false) (D : va_G) (kc : Nat → ClassId) (ad wad : Nat → Nat) (q : SS) (v1 : Int32) (v2 : Int32) (hok : kX7_entryOf q v1 v2) : Ci l yX7_entryOf (Cond.code yX7_entryOf cX7_entryOf 3 (some .int) :: lw_G) (zr 0 0 0) 0 0 (PX D kc) (GX D kc ad wad) (GX D kc ad wad) [.ref (ad 1), .int v1, .int v2] q (fX7_entryOf q v1 v2) := by
  refine Ci.of (cc := cX7_entryOf) (maxL := 3) (ret := (some .int)) (by decide) rfl (Nat.le_of_ble_eq_true rfl) ?_
  intro p e s m args below meth c A S hr hlocks hin hA hK
  have hx := S.1
  have hb := S.2.1
  have hE : EV A s s.heap := hK.2
  have hK : va_K D vwCl (tysK kc) s := hK.1
  generalize hFe : fX7_entryOf q v1 v2 = F
  have hF : F = fX7_entryOf q v1 v2 := hFe.symm
  refine z_aload_n (j := 0) hx hb dX7_entryOf_0 rfl rfl ?_
  refine z_get (v := .ref (ad 14)) S hK inX7 1 (fun _ => rfl) rfl 2 (by decide) q1_52 rfl rfl dX7_entryOf_1 ?_
  refine z_iload_n (j := 1) hx hb dX7_entryOf_4 rfl rfl ?_
  refine z_iconst (v := 1) hx hb dX7_entryOf_5 (by decide) ?_
  refine z_iand hx hb dX7_entryOf_6 ?_
  refine z_bipush (v := 16) hx hb dX7_entryOf_7 (by decide) ?_
  refine z_imul hx hb dX7_entryOf_9 ?_
  refine z_iload_n (j := 2) hx hb dX7_entryOf_10 rfl rfl ?_
  refine z_bipush (v := 15) hx hb dX7_entryOf_11 (by decide) ?_
  refine z_iand hx hb dX7_entryOf_13 ?_
  refine z_iadd hx hb dX7_entryOf_14 ?_
  have h15 := And.left hok
  have hok := And.right hok
  refine z_iald (f := (gA q 14)) S hK 14 0 (fun _ => rfl) rfl h15 dX7_entryOf_15 ?_
  exact z_iret hx hb hlocks hr rfl hF dX7_entryOf_16
theorem hX7_entryOf : yX7_entryOf.cls = RX7 ∧ yX7_entryOf.cls ≠ "java/lang/invoke/MethodHandle" ∧ yX7_entryOf.cls ≠ "java/lang/invoke/VarHandle" ∧ (parseMethodDescriptor yX7_entryOf.desc).map (fun d => d.parameters.length) = some 2 := by decide +kernel
def fX7_replaceEntry_6 (q : SS) (v1 : Int32) (v2 : Int32) (v3 : Int32) (s0 : Int32) : Int32 × SS := (s0, (sA q 14 (upd (gA q 14) ((((v1 &&& 1) * 16) + (v2 &&& 15)) : Int32).toNatClampNeg v3)))
def kX7_replaceEntry_6 (q : SS) (v1 : Int32) (v2 : Int32) (v3 : Int32) (s0 : Int32) : Prop := vp_in (((v1 &&& 1) * 16) + (v2 &&& 15)) 32 ∧ True
def fX7_replaceEntry (q : SS) (v1 : Int32) (v2 : Int32) (v3 : Int32) : Int32 × SS := fX7_replaceEntry_6 (fX7_entryOf q v1 v2).2 v1 v2 v3 (fX7_entryOf q v1 v2).1
def kX7_replaceEntry (q : SS) (v1 : Int32) (v2 : Int32) (v3 : Int32) : Prop := kX7_entryOf q v1 v2 ∧ kX7_replaceEntry_6 (fX7_entryOf q v1 v2).2 v1 v2 v3 (fX7_entryOf q v1 v2).1
set_option maxHeartbeats 4000000 in
set_option maxRecDepth 100000 in
theorem ctX7_replaceEntry (l : Launch) (hl : l.stackTraces = false) (D : va_G) (kc : Nat → ClassId) (ad wad : Nat → Nat) (q : SS) (v1 : Int32) (v2 : Int32) (v3 : Int32) (hok : kX7_replaceEntry q v1 v2 v3) : Ci l yX7_replaceEntry (Cond.code yX7_replaceEntry cX7_replaceEntry 5 (some .int) :: lw_G) (zr 1 0 0) 0 0 (PX D kc) (GX D kc ad wad) (GX D kc ad wad) [.ref (ad 1), .int v1, .int v2, .int v3] q (fX7_replaceEntry q v1 v2 v3) := by
  refine Ci.of (cc := cX7_replaceEntry) (maxL := 5) (ret := (some .int)) (by decide) rfl (Nat.le_of_ble_eq_true rfl) ?_
  intro p e s m args below meth c A S hr hlocks hin hA hK
  have hx := S.1
  have hb := S.2.1
  have hE : EV A s s.heap := hK.2
  have hK : va_K D vwCl (tysK kc) s := hK.1
  generalize hFe : fX7_replaceEntry q v1 v2 v3 = F
  have hF : F = fX7_replaceEntry q v1 v2 v3 := hFe.symm
  have b6 : ∀ (q : SS) (v1 : Int32) (v2 : Int32) (v3 : Int32) (s0 : Int32), kX7_replaceEntry_6 q v1 v2 v3 s0 → F = fX7_replaceEntry_6 q v1 v2 v3 s0 → Z p l e (zr 1 0 0) s m args below meth c 0 0 (MQ below (va_Qi (fun (x : Int32) (_ : Unit) => x = F.1) (fun _ t => (GX D kc ad wad) A F.2 t.heap) A) args s 0 0 A) 5 A (ZG D vwCl (wX kc ad wad) (PLX wad) A) q 6 [(0, .ref (ad 1)), (1, .int v1), (2, .int v2), (3, .int v3)] [.int s0] := by
    intro q v1 v2 v3 s0 hok hF
    refine z_istore (lv' := [(4, .int s0), (0, .ref (ad 1)), (1, .int v1), (2, .int v2), (3, .int v3)]) hx hb dX7_replaceEntry_6 (by decide) rfl ?_
    refine z_aload_n (j := 1) hx hb dX7_replaceEntry_8 rfl rfl ?_
    refine z_get (v := .ref (ad 14)) S hK inX7 1 (fun _ => rfl) rfl 2 (by decide) q1_52 rfl rfl dX7_replaceEntry_9 ?_
    refine z_iload_n (j := 2) hx hb dX7_replaceEntry_12 rfl rfl ?_
    refine z_iconst (v := 1) hx hb dX7_replaceEntry_13 (by decide) ?_
    refine z_iand hx hb dX7_replaceEntry_14 ?_
    refine z_bipush (v := 16) hx hb dX7_replaceEntry_15 (by decide) ?_
    refine z_imul hx hb dX7_replaceEntry_17 ?_
    refine z_iload_n (j := 3) hx hb dX7_replaceEntry_18 rfl rfl ?_
    refine z_bipush (v := 15) hx hb dX7_replaceEntry_19 (by decide) ?_
    refine z_iand hx hb dX7_replaceEntry_21 ?_
    refine z_iadd hx hb dX7_replaceEntry_22 ?_
    refine z_iload_n (j := 4) hx hb dX7_replaceEntry_23 rfl rfl ?_
    have h24 := And.left hok
    have hok := And.right hok
    refine z_iast (f := (gA q 14)) (q' := (sA q 14 (upd (gA q 14) ((((v1 &&& 1) * 16) + (v2 &&& 15)) : Int32).toNatClampNeg v3))) S hK 14 0 (fun _ => rfl) rfl h24 dX7_replaceEntry_24 (wXa14 kc ad wad _ _) (fun _ h => h) ?_
    refine z_iload (j := 0) hx hb dX7_replaceEntry_25 rfl ?_
    exact z_iret hx hb hlocks hr rfl hF dX7_replaceEntry_27
  refine z_aload_n (j := 0) hx hb dX7_replaceEntry_0 rfl rfl ?_
  refine z_iload_n (j := 1) hx hb dX7_replaceEntry_1 rfl rfl ?_
  refine z_iload_n (j := 2) hx hb dX7_replaceEntry_2 rfl rfl ?_
  have h3 := And.left hok
  have hok := And.right hok
  refine z_callVi (As := [.int v1, .int v2]) S (ctX7_entryOf l hl D kc ad wad q v1 v2 h3) (cwV 2 S.2.2.2.2 (gV q4_168 q4_169 q4_170 q1_2 q4_171) rfl rfl rfl hX7_entryOf ⟨Nat.le_of_ble_eq_true rfl, Nat.le_of_ble_eq_true rfl⟩) hA (pbX D kc) (psX hK hE) (z_recv hK 1 (fun _ => rfl) rfl) rfl rfl (Nat.le_of_ble_eq_true rfl) dX7_replaceEntry_3 ⟨Nat.le_of_ble_eq_true rfl, Nat.le_of_ble_eq_true rfl⟩ ?_
  exact b6 (fX7_entryOf q v1 v2).2 v1 v2 v3 (fX7_entryOf q v1 v2).1 hok hF
theorem hX7_replaceEntry : yX7_replaceEntry.cls = RX7 ∧ yX7_replaceEntry.cls ≠ "java/lang/invoke/MethodHandle" ∧ yX7_replaceEntry.cls ≠ "java/lang/invoke/VarHandle" ∧ (parseMethodDescriptor yX7_replaceEntry.desc).map (fun d => d.parameters.length) = some 3 := by decide +kernel
def fX7_isCaught_24 (q : SS) (s0 : Int32) : Int32 × SS := (s0, q)
def kX7_isCaught_24 (q : SS) (s0 : Int32) : Prop := narrow .boolean (.int s0) = .int s0 ∧ True
def fX7_isCaught_23 (q : SS) : Int32 × SS := fX7_isCaught_24 q 0
def kX7_isCaught_23 (q : SS) : Prop := kX7_isCaught_24 q 0
def fX7_isCaught_6 (q : SS) (v1 : Int32) (s0 : Int32) : Int32 × SS := (if s0 = 0 then (if ((gA q 15) (v1 : Int32).toNatClampNeg) = (-1) then fX7_isCaught_23 q else fX7_isCaught_24 q 1) else fX7_isCaught_23 q)
def kX7_isCaught_6 (q : SS) (v1 : Int32) (s0 : Int32) : Prop := ((s0 = 0 → vp_in v1 80 ∧ ((((gA q 15) (v1 : Int32).toNatClampNeg) = (-1) → kX7_isCaught_23 q) ∧ (¬ ((gA q 15) (v1 : Int32).toNatClampNeg) = (-1) → kX7_isCaught_24 q 1))) ∧ (¬ s0 = 0 → kX7_isCaught_23 q))
def fX7_isCaught (q : SS) (v1 : Int32) : Int32 × SS := fX7_isCaught_6 (fX10_isOutside q v1 80).2 v1 (fX10_isOutside q v1 80).1
def kX7_isCaught (q : SS) (v1 : Int32) : Prop := kX10_isOutside q v1 80 ∧ kX7_isCaught_6 (fX10_isOutside q v1 80).2 v1 (fX10_isOutside q v1 80).1
set_option maxHeartbeats 4000000 in
set_option maxRecDepth 100000 in
theorem ctX7_isCaught (l : Launch) (hl : l.stackTraces = false) (D : va_G) (kc : Nat → ClassId) (ad wad : Nat → Nat) (q : SS) (v1 : Int32) (hok : kX7_isCaught q v1) : Ci l yX7_isCaught (Cond.code yX7_isCaught cX7_isCaught 2 (some .boolean) :: lw_G) (zr 1 0 0) 0 0 (PX D kc) (GX D kc ad wad) (GX D kc ad wad) [.ref (ad 1), .int v1] q (fX7_isCaught q v1) := by
  refine Ci.of (cc := cX7_isCaught) (maxL := 2) (ret := (some .boolean)) (by decide) rfl (Nat.le_of_ble_eq_true rfl) ?_
  intro p e s m args below meth c A S hr hlocks hin hA hK
  have hx := S.1
  have hb := S.2.1
  have hE : EV A s s.heap := hK.2
  have hK : va_K D vwCl (tysK kc) s := hK.1
  generalize hFe : fX7_isCaught q v1 = F
  have hF : F = fX7_isCaught q v1 := hFe.symm
  have b24 : ∀ (q : SS) (s0 : Int32), kX7_isCaught_24 q s0 → F = fX7_isCaught_24 q s0 → Z p l e (zr 1 0 0) s m args below meth c 0 0 (MQ below (va_Qi (fun (x : Int32) (_ : Unit) => x = F.1) (fun _ t => (GX D kc ad wad) A F.2 t.heap) A) args s 0 0 A) 2 A (ZG D vwCl (wX kc ad wad) (PLX wad) A) q 24 [] [.int s0] := by
    intro q s0 hok hF
    have h24 := And.left hok
    have hok := And.right hok
    exact z_iret hx hb hlocks hr h24 hF dX7_isCaught_24
  have b23 : ∀ (q : SS), kX7_isCaught_23 q → F = fX7_isCaught_23 q → Z p l e (zr 1 0 0) s m args below meth c 0 0 (MQ below (va_Qi (fun (x : Int32) (_ : Unit) => x = F.1) (fun _ t => (GX D kc ad wad) A F.2 t.heap) A) args s 0 0 A) 2 A (ZG D vwCl (wX kc ad wad) (PLX wad) A) q 23 [] [] := by
    intro q hok hF
    refine z_iconst (v := 0) hx hb dX7_isCaught_23 (by decide) ?_
    exact b24 q 0 hok hF
  have b6 : ∀ (q : SS) (v1 : Int32) (s0 : Int32), kX7_isCaught_6 q v1 s0 → F = fX7_isCaught_6 q v1 s0 → Z p l e (zr 1 0 0) s m args below meth c 0 0 (MQ below (va_Qi (fun (x : Int32) (_ : Unit) => x = F.1) (fun _ t => (GX D kc ad wad) A F.2 t.heap) A) args s 0 0 A) 2 A (ZG D vwCl (wX kc ad wad) (PLX wad) A) q 6 [(0, .ref (ad 1)), (1, .int v1)] [.int s0] := by
    intro q v1 s0 hok hF
    refine z_if_ne (tgt := 23) hx hb dX7_isCaught_6 (by decide) (fun g6 => ?_) (fun g6 => ?_)
    · have hF := hF.trans (if_neg g6)
      have hok := And.right hok g6
      refine z_sub [] rfl ?_
      exact b23 q hok hF
    · have hF := hF.trans (if_pos g6)
      have hok := And.left hok g6
      refine z_aload_n (j := 0) hx hb dX7_isCaught_9 rfl rfl ?_
      refine z_get (v := .ref (ad 15)) S hK inX7 1 (fun _ => rfl) rfl 3 (by decide) q1_53 rfl rfl dX7_isCaught_10 ?_
      refine z_iload_n (j := 1) hx hb dX7_isCaught_13 rfl rfl ?_
      have h14 := And.left hok
      have hok := And.right hok
      refine z_iald (f := (gA q 15)) S hK 15 0 (fun _ => rfl) rfl h14 dX7_isCaught_14 ?_
      refine z_iconst (v := (-1)) hx hb dX7_isCaught_15 (by decide) ?_
      refine z_icmp_eq (tgt := 23) hx hb dX7_isCaught_16 (by decide) (fun g16 => ?_) (fun g16 => ?_)
      · have hF := hF.trans (if_pos g16)
        have hok := And.left hok g16
        refine z_sub [] rfl ?_
        exact b23 q hok hF
      · have hF := hF.trans (if_neg g16)
        have hok := And.right hok g16
        refine z_iconst (v := 1) hx hb dX7_isCaught_19 (by decide) ?_
        refine z_goto (tgt := 24) hx hb dX7_isCaught_20 (by decide) ?_
        refine z_sub [] rfl ?_
        exact b24 q 1 hok hF
  refine z_iload_n (j := 1) hx hb dX7_isCaught_0 rfl rfl ?_
  refine z_bipush (v := 80) hx hb dX7_isCaught_1 (by decide) ?_
  have h3 := And.left hok
  have hok := And.right hok
  refine z_callSNi (As := [.int v1, .int 80]) S (ctX10_isOutside l hl D kc ad wad q v1 80 h3) ⟨va_cnB 2 S.2.2.2.2 (gW q3_13) rfl rfl rfl (hE.2.2.2.2.2.1 (RX7, 34, yX10_isOutside) (List.mem_of_getElem? (i := 14) rfl)) (S.2.2.2.2 _ q1_1) hX10_isOutside ⟨Nat.le_of_ble_eq_true rfl, Nat.le_of_ble_eq_true rfl⟩, S.2.2.2.2 _ q3_12, trivial⟩ hA (pbX D kc) (psX hK hE) rfl rfl (Nat.le_of_ble_eq_true rfl) dX7_isCaught_3 ⟨Nat.le_of_ble_eq_true rfl, Nat.le_of_ble_eq_true rfl⟩ ?_
  exact b6 (fX10_isOutside q v1 80).2 v1 (fX10_isOutside q v1 80).1 hok hF
theorem hX7_isCaught : yX7_isCaught.cls = RX7 ∧ yX7_isCaught.cls ≠ "java/lang/invoke/MethodHandle" ∧ yX7_isCaught.cls ≠ "java/lang/invoke/VarHandle" ∧ (parseMethodDescriptor yX7_isCaught.desc).map (fun d => d.parameters.length) = some 1 := by decide +kernel
def fX7_replaceCatch_43 (q : SS) : SS := q
def kX7_replaceCatch_43 (q : SS) : Prop := True
def fX7_replaceCatch_30 (q : SS) (s0 : Int32) : SS := (if s0 = 0 then fX7_replaceCatch_43 q else fX7_replaceCatch_43 (sI q 205 ((gI q 205) + 1)))
def kX7_replaceCatch_30 (q : SS) (s0 : Int32) : Prop := ((s0 = 0 → kX7_replaceCatch_43 q) ∧ (¬ s0 = 0 → kX7_replaceCatch_43 (sI q 205 ((gI q 205) + 1))))
def fX7_replaceCatch_18 (q : SS) (v1 : Int32) (v2 : Int32) : SS := fX7_replaceCatch_30 (fX7_isCaught (sA q 15 (upd (gA q 15) (v1 : Int32).toNatClampNeg v2)) v1).2 (fX7_isCaught (sA q 15 (upd (gA q 15) (v1 : Int32).toNatClampNeg v2)) v1).1
def kX7_replaceCatch_18 (q : SS) (v1 : Int32) (v2 : Int32) : Prop := vp_in v1 80 ∧ kX7_isCaught (sA q 15 (upd (gA q 15) (v1 : Int32).toNatClampNeg v2)) v1 ∧ kX7_replaceCatch_30 (fX7_isCaught (sA q 15 (upd (gA q 15) (v1 : Int32).toNatClampNeg v2)) v1).2 (fX7_isCaught (sA q 15 (upd (gA q 15) (v1 : Int32).toNatClampNeg v2)) v1).1
def fX7_replaceCatch_5 (q : SS) (v1 : Int32) (v2 : Int32) (s0 : Int32) : SS := (if s0 = 0 then fX7_replaceCatch_18 q v1 v2 else fX7_replaceCatch_18 (sI q 205 ((gI q 205) - 1)) v1 v2)
def kX7_replaceCatch_5 (q : SS) (v1 : Int32) (v2 : Int32) (s0 : Int32) : Prop := ((s0 = 0 → kX7_replaceCatch_18 q v1 v2) ∧ (¬ s0 = 0 → kX7_replaceCatch_18 (sI q 205 ((gI q 205) - 1)) v1 v2))
def fX7_replaceCatch (q : SS) (v1 : Int32) (v2 : Int32) : SS := fX7_replaceCatch_5 (fX7_isCaught q v1).2 v1 v2 (fX7_isCaught q v1).1
def kX7_replaceCatch (q : SS) (v1 : Int32) (v2 : Int32) : Prop := kX7_isCaught q v1 ∧ kX7_replaceCatch_5 (fX7_isCaught q v1).2 v1 v2 (fX7_isCaught q v1).1
set_option maxHeartbeats 4000000 in
set_option maxRecDepth 100000 in
theorem ctX7_replaceCatch (l : Launch) (hl : l.stackTraces = false) (D : va_G) (kc : Nat → ClassId) (ad wad : Nat → Nat) (q : SS) (v1 : Int32) (v2 : Int32) (hok : kX7_replaceCatch q v1 v2) : Cv l yX7_replaceCatch (Cond.code yX7_replaceCatch cX7_replaceCatch 3 none :: lw_G) (zr 2 0 0) 0 0 (PX D kc) (GX D kc ad wad) (GX D kc ad wad) [.ref (ad 1), .int v1, .int v2] q (fX7_replaceCatch q v1 v2) := by
  refine Cv.of (cc := cX7_replaceCatch) (maxL := 3) (ret := none) (by decide) rfl (Nat.le_of_ble_eq_true rfl) ?_
  intro p e s m args below meth c A S hr hlocks hin hA hK
  have hx := S.1
  have hb := S.2.1
  have hE : EV A s s.heap := hK.2
  have hK : va_K D vwCl (tysK kc) s := hK.1
  generalize hFe : fX7_replaceCatch q v1 v2 = F
  have hF : F = fX7_replaceCatch q v1 v2 := hFe.symm
  have b43 : ∀ (q : SS), kX7_replaceCatch_43 q → F = fX7_replaceCatch_43 q → Z p l e (zr 2 0 0) s m args below meth c 0 0 (MQ below (va_Qv (fun (_ : Unit) => True) (fun _ t => (GX D kc ad wad) A F t.heap) A) args s 0 0 A) 3 A (ZG D vwCl (wX kc ad wad) (PLX wad) A) q 43 [] [] := by
    intro q hok hF
    exact z_vret hx hb hlocks hr hF dX7_replaceCatch_43
  have b30 : ∀ (q : SS) (s0 : Int32), kX7_replaceCatch_30 q s0 → F = fX7_replaceCatch_30 q s0 → Z p l e (zr 2 0 0) s m args below meth c 0 0 (MQ below (va_Qv (fun (_ : Unit) => True) (fun _ t => (GX D kc ad wad) A F t.heap) A) args s 0 0 A) 3 A (ZG D vwCl (wX kc ad wad) (PLX wad) A) q 30 [(0, .ref (ad 1))] [.int s0] := by
    intro q s0 hok hF
    refine z_if_eq (tgt := 43) hx hb dX7_replaceCatch_30 (by decide) (fun g30 => ?_) (fun g30 => ?_)
    · have hF := hF.trans (if_pos g30)
      have hok := And.left hok g30
      refine z_sub [] rfl ?_
      exact b43 q hok hF
    · have hF := hF.trans (if_neg g30)
      have hok := And.right hok g30
      refine z_aload_n (j := 0) hx hb dX7_replaceCatch_33 rfl rfl ?_
      refine z_dup hx hb dX7_replaceCatch_34 rfl ?_
      refine z_get (v := .int (gI q 205)) S hK inX7 1 (fun _ => rfl) rfl 5 (by decide) q1_57 rfl rfl dX7_replaceCatch_35 ?_
      refine z_iconst (v := 1) hx hb dX7_replaceCatch_38 (by decide) ?_
      refine z_iadd hx hb dX7_replaceCatch_39 ?_
      refine z_put (v := .int ((gI q 205) + 1)) (q' := (sI q 205 ((gI q 205) + 1))) S hK inX7 tyX7 tyX7_ok nmX7 1 (fun _ => rfl) rfl 5 (by decide) q1_57 rfl rfl rfl rfl (Nat.le_of_ble_eq_true rfl) dX7_replaceCatch_40 (wXp205 kc ad wad _ _) (fun _ h => h) ?_
      refine z_sub [] rfl ?_
      exact b43 (sI q 205 ((gI q 205) + 1)) hok hF
  have b18 : ∀ (q : SS) (v1 : Int32) (v2 : Int32), kX7_replaceCatch_18 q v1 v2 → F = fX7_replaceCatch_18 q v1 v2 → Z p l e (zr 2 0 0) s m args below meth c 0 0 (MQ below (va_Qv (fun (_ : Unit) => True) (fun _ t => (GX D kc ad wad) A F t.heap) A) args s 0 0 A) 3 A (ZG D vwCl (wX kc ad wad) (PLX wad) A) q 18 [(0, .ref (ad 1)), (1, .int v1), (2, .int v2)] [] := by
    intro q v1 v2 hok hF
    refine z_aload_n (j := 0) hx hb dX7_replaceCatch_18 rfl rfl ?_
    refine z_get (v := .ref (ad 15)) S hK inX7 1 (fun _ => rfl) rfl 3 (by decide) q1_53 rfl rfl dX7_replaceCatch_19 ?_
    refine z_iload_n (j := 1) hx hb dX7_replaceCatch_22 rfl rfl ?_
    refine z_iload_n (j := 2) hx hb dX7_replaceCatch_23 rfl rfl ?_
    have h24 := And.left hok
    have hok := And.right hok
    refine z_iast (f := (gA q 15)) (q' := (sA q 15 (upd (gA q 15) (v1 : Int32).toNatClampNeg v2))) S hK 15 0 (fun _ => rfl) rfl h24 dX7_replaceCatch_24 (wXa15 kc ad wad _ _) (fun _ h => h) ?_
    refine z_aload_n (j := 0) hx hb dX7_replaceCatch_25 rfl rfl ?_
    refine z_iload_n (j := 1) hx hb dX7_replaceCatch_26 rfl rfl ?_
    have h27 := And.left hok
    have hok := And.right hok
    refine z_callVi (As := [.int v1]) S (ctX7_isCaught l hl D kc ad wad (sA q 15 (upd (gA q 15) (v1 : Int32).toNatClampNeg v2)) v1 h27) (cwV 1 S.2.2.2.2 (gV q4_189 q4_180 q4_181 q1_2 q4_182) rfl rfl rfl hX7_isCaught ⟨Nat.le_of_ble_eq_true rfl, Nat.le_of_ble_eq_true rfl⟩) hA (pbX D kc) (psX hK hE) (z_recv hK 1 (fun _ => rfl) rfl) rfl rfl (Nat.le_of_ble_eq_true rfl) dX7_replaceCatch_27 ⟨Nat.le_of_ble_eq_true rfl, Nat.le_of_ble_eq_true rfl⟩ ?_
    refine z_sub [0] rfl ?_
    exact b30 (fX7_isCaught (sA q 15 (upd (gA q 15) (v1 : Int32).toNatClampNeg v2)) v1).2 (fX7_isCaught (sA q 15 (upd (gA q 15) (v1 : Int32).toNatClampNeg v2)) v1).1 hok hF
  have b5 : ∀ (q : SS) (v1 : Int32) (v2 : Int32) (s0 : Int32), kX7_replaceCatch_5 q v1 v2 s0 → F = fX7_replaceCatch_5 q v1 v2 s0 → Z p l e (zr 2 0 0) s m args below meth c 0 0 (MQ below (va_Qv (fun (_ : Unit) => True) (fun _ t => (GX D kc ad wad) A F t.heap) A) args s 0 0 A) 3 A (ZG D vwCl (wX kc ad wad) (PLX wad) A) q 5 [(0, .ref (ad 1)), (1, .int v1), (2, .int v2)] [.int s0] := by
    intro q v1 v2 s0 hok hF
    refine z_if_eq (tgt := 18) hx hb dX7_replaceCatch_5 (by decide) (fun g5 => ?_) (fun g5 => ?_)
    · have hF := hF.trans (if_pos g5)
      have hok := And.left hok g5
      exact b18 q v1 v2 hok hF
    · have hF := hF.trans (if_neg g5)
      have hok := And.right hok g5
      refine z_aload_n (j := 0) hx hb dX7_replaceCatch_8 rfl rfl ?_
      refine z_dup hx hb dX7_replaceCatch_9 rfl ?_
      refine z_get (v := .int (gI q 205)) S hK inX7 1 (fun _ => rfl) rfl 5 (by decide) q1_57 rfl rfl dX7_replaceCatch_10 ?_
      refine z_iconst (v := 1) hx hb dX7_replaceCatch_13 (by decide) ?_
      refine z_isub hx hb dX7_replaceCatch_14 ?_
      refine z_put (v := .int ((gI q 205) - 1)) (q' := (sI q 205 ((gI q 205) - 1))) S hK inX7 tyX7 tyX7_ok nmX7 1 (fun _ => rfl) rfl 5 (by decide) q1_57 rfl rfl rfl rfl (Nat.le_of_ble_eq_true rfl) dX7_replaceCatch_15 (wXp205 kc ad wad _ _) (fun _ h => h) ?_
      exact b18 (sI q 205 ((gI q 205) - 1)) v1 v2 hok hF
  refine z_aload_n (j := 0) hx hb dX7_replaceCatch_0 rfl rfl ?_
  refine z_iload_n (j := 1) hx hb dX7_replaceCatch_1 rfl rfl ?_
  have h2 := And.left hok
  have hok := And.right hok
  refine z_callVi (As := [.int v1]) S (ctX7_isCaught l hl D kc ad wad q v1 h2) (cwV 1 S.2.2.2.2 (gV q4_189 q4_180 q4_181 q1_2 q4_182) rfl rfl rfl hX7_isCaught ⟨Nat.le_of_ble_eq_true rfl, Nat.le_of_ble_eq_true rfl⟩) hA (pbX D kc) (psX hK hE) (z_recv hK 1 (fun _ => rfl) rfl) rfl rfl (Nat.le_of_ble_eq_true rfl) dX7_replaceCatch_2 ⟨Nat.le_of_ble_eq_true rfl, Nat.le_of_ble_eq_true rfl⟩ ?_
  exact b5 (fX7_isCaught q v1).2 v1 v2 (fX7_isCaught q v1).1 hok hF
theorem hX7_replaceCatch : yX7_replaceCatch.cls = RX7 ∧ yX7_replaceCatch.cls ≠ "java/lang/invoke/MethodHandle" ∧ yX7_replaceCatch.cls ≠ "java/lang/invoke/VarHandle" ∧ (parseMethodDescriptor yX7_replaceCatch.desc).map (fun d => d.parameters.length) = some 2 := by decide +kernel
def fX7_followed_18 (q : SS) (s0 : Int32) : Int32 × SS := (s0, q)
def kX7_followed_18 (q : SS) (s0 : Int32) : Prop := True
def fX7_followed_5 (q : SS) (v1 : Int32) (s0 : Int32) : Int32 × SS := (if s0 = 0 then fX7_followed_18 q v1 else fX7_followed_18 q ((gA q 15) (v1 : Int32).toNatClampNeg))
def kX7_followed_5 (q : SS) (v1 : Int32) (s0 : Int32) : Prop := ((s0 = 0 → kX7_followed_18 q v1) ∧ (¬ s0 = 0 → vp_in v1 80 ∧ kX7_followed_18 q ((gA q 15) (v1 : Int32).toNatClampNeg)))
def fX7_followed (q : SS) (v1 : Int32) : Int32 × SS := fX7_followed_5 (fX7_isCaught q v1).2 v1 (fX7_isCaught q v1).1
def kX7_followed (q : SS) (v1 : Int32) : Prop := kX7_isCaught q v1 ∧ kX7_followed_5 (fX7_isCaught q v1).2 v1 (fX7_isCaught q v1).1
set_option maxHeartbeats 4000000 in
set_option maxRecDepth 100000 in
theorem ctX7_followed (l : Launch) (hl : l.stackTraces = false) (D : va_G) (kc : Nat → ClassId) (ad wad : Nat → Nat) (q : SS) (v1 : Int32) (hok : kX7_followed q v1) : Ci l yX7_followed (Cond.code yX7_followed cX7_followed 2 (some .int) :: lw_G) (zr 2 0 0) 0 0 (PX D kc) (GX D kc ad wad) (GX D kc ad wad) [.ref (ad 1), .int v1] q (fX7_followed q v1) := by
  refine Ci.of (cc := cX7_followed) (maxL := 2) (ret := (some .int)) (by decide) rfl (Nat.le_of_ble_eq_true rfl) ?_
  intro p e s m args below meth c A S hr hlocks hin hA hK
  have hx := S.1
  have hb := S.2.1
  have hE : EV A s s.heap := hK.2
  have hK : va_K D vwCl (tysK kc) s := hK.1
  generalize hFe : fX7_followed q v1 = F
  have hF : F = fX7_followed q v1 := hFe.symm
  have b18 : ∀ (q : SS) (s0 : Int32), kX7_followed_18 q s0 → F = fX7_followed_18 q s0 → Z p l e (zr 2 0 0) s m args below meth c 0 0 (MQ below (va_Qi (fun (x : Int32) (_ : Unit) => x = F.1) (fun _ t => (GX D kc ad wad) A F.2 t.heap) A) args s 0 0 A) 2 A (ZG D vwCl (wX kc ad wad) (PLX wad) A) q 18 [] [.int s0] := by
    intro q s0 hok hF
    exact z_iret hx hb hlocks hr rfl hF dX7_followed_18
  have b5 : ∀ (q : SS) (v1 : Int32) (s0 : Int32), kX7_followed_5 q v1 s0 → F = fX7_followed_5 q v1 s0 → Z p l e (zr 2 0 0) s m args below meth c 0 0 (MQ below (va_Qi (fun (x : Int32) (_ : Unit) => x = F.1) (fun _ t => (GX D kc ad wad) A F.2 t.heap) A) args s 0 0 A) 2 A (ZG D vwCl (wX kc ad wad) (PLX wad) A) q 5 [(0, .ref (ad 1)), (1, .int v1)] [.int s0] := by
    intro q v1 s0 hok hF
    refine z_if_eq (tgt := 17) hx hb dX7_followed_5 (by decide) (fun g5 => ?_) (fun g5 => ?_)
    · have hF := hF.trans (if_pos g5)
      have hok := And.left hok g5
      refine z_iload_n (j := 1) hx hb dX7_followed_17 rfl rfl ?_
      refine z_sub [] rfl ?_
      exact b18 q v1 hok hF
    · have hF := hF.trans (if_neg g5)
      have hok := And.right hok g5
      refine z_aload_n (j := 0) hx hb dX7_followed_8 rfl rfl ?_
      refine z_get (v := .ref (ad 15)) S hK inX7 1 (fun _ => rfl) rfl 3 (by decide) q1_53 rfl rfl dX7_followed_9 ?_
      refine z_iload_n (j := 1) hx hb dX7_followed_12 rfl rfl ?_
      have h13 := And.left hok
      have hok := And.right hok
      refine z_iald (f := (gA q 15)) S hK 15 0 (fun _ => rfl) rfl h13 dX7_followed_13 ?_
      refine z_goto (tgt := 18) hx hb dX7_followed_14 (by decide) ?_
      refine z_sub [] rfl ?_
      exact b18 q ((gA q 15) (v1 : Int32).toNatClampNeg) hok hF
  refine z_aload_n (j := 0) hx hb dX7_followed_0 rfl rfl ?_
  refine z_iload_n (j := 1) hx hb dX7_followed_1 rfl rfl ?_
  have h2 := And.left hok
  have hok := And.right hok
  refine z_callVi (As := [.int v1]) S (ctX7_isCaught l hl D kc ad wad q v1 h2) (cwV 1 S.2.2.2.2 (gV q4_189 q4_180 q4_181 q1_2 q4_182) rfl rfl rfl hX7_isCaught ⟨Nat.le_of_ble_eq_true rfl, Nat.le_of_ble_eq_true rfl⟩) hA (pbX D kc) (psX hK hE) (z_recv hK 1 (fun _ => rfl) rfl) rfl rfl (Nat.le_of_ble_eq_true rfl) dX7_followed_2 ⟨Nat.le_of_ble_eq_true rfl, Nat.le_of_ble_eq_true rfl⟩ ?_
  exact b5 (fX7_isCaught q v1).2 v1 (fX7_isCaught q v1).1 hok hF
theorem hX7_followed : yX7_followed.cls = RX7 ∧ yX7_followed.cls ≠ "java/lang/invoke/MethodHandle" ∧ yX7_followed.cls ≠ "java/lang/invoke/VarHandle" ∧ (parseMethodDescriptor yX7_followed.desc).map (fun d => d.parameters.length) = some 1 := by decide +kernel
def fX2_takeByte (q : SS) : Int32 × SS := (((gA q 17) (((gI q 1201) &&& 63) : Int32).toNatClampNeg), (sI q 1201 (((gI q 1201) + 1) &&& 63)))
def kX2_takeByte (q : SS) : Prop := vp_in ((gI q 1201) &&& 63) 64 ∧ True
set_option maxHeartbeats 4000000 in
set_option maxRecDepth 100000 in
theorem ctX2_takeByte (l : Launch) (hl : l.stackTraces = false) (D : va_G) (kc : Nat → ClassId) (ad wad : Nat → Nat) (q : SS) (hok : kX2_takeByte q) : Ci l yX2_takeByte (Cond.code yX2_takeByte cX2_takeByte 3 (some .int) :: lw_G) (zr 0 0 0) 0 0 (PX D kc) (GX D kc ad wad) (GX D kc ad wad) [.ref (ad 10), .ref (ad 17)] q (fX2_takeByte q) := by
  refine Ci.of (cc := cX2_takeByte) (maxL := 3) (ret := (some .int)) (by decide) rfl (Nat.le_of_ble_eq_true rfl) ?_
  intro p e s m args below meth c A S hr hlocks hin hA hK
  have hx := S.1
  have hb := S.2.1
  have hE : EV A s s.heap := hK.2
  have hK : va_K D vwCl (tysK kc) s := hK.1
  generalize hFe : fX2_takeByte q = F
  have hF : F = fX2_takeByte q := hFe.symm
  refine z_aload_n (j := 1) hx hb dX2_takeByte_0 rfl rfl ?_
  refine z_aload_n (j := 0) hx hb dX2_takeByte_1 rfl rfl ?_
  refine z_get (v := .ref (ad 11)) S hK inX2 10 (fun _ => rfl) rfl 0 (by decide) q2_12 rfl rfl dX2_takeByte_2 ?_
  refine z_get (v := .int (gI q 1201)) S hK inX8 11 (fun _ => rfl) rfl 1 (by decide) q1_166 rfl rfl dX2_takeByte_5 ?_
  refine z_bipush (v := 63) hx hb dX2_takeByte_8 (by decide) ?_
  refine z_iand hx hb dX2_takeByte_10 ?_
  have h11 := And.left hok
  have hok := And.right hok
  refine z_iald (f := (gA q 17)) S hK 17 0 (fun _ => rfl) rfl h11 dX2_takeByte_11 ?_
  refine z_istore_n (lv' := [(2, .int ((gA q 17) (((gI q 1201) &&& 63) : Int32).toNatClampNeg)), (0, .ref (ad 10)), (1, .ref (ad 17))]) hx hb dX2_takeByte_12 rfl (by decide) rfl ?_
  refine z_aload_n (j := 1) hx hb dX2_takeByte_13 rfl rfl ?_
  refine z_get (v := .ref (ad 11)) S hK inX2 10 (fun _ => rfl) rfl 0 (by decide) q2_12 rfl rfl dX2_takeByte_14 ?_
  refine z_aload_n (j := 1) hx hb dX2_takeByte_17 rfl rfl ?_
  refine z_get (v := .ref (ad 11)) S hK inX2 10 (fun _ => rfl) rfl 0 (by decide) q2_12 rfl rfl dX2_takeByte_18 ?_
  refine z_get (v := .int (gI q 1201)) S hK inX8 11 (fun _ => rfl) rfl 1 (by decide) q1_166 rfl rfl dX2_takeByte_21 ?_
  refine z_iconst (v := 1) hx hb dX2_takeByte_24 (by decide) ?_
  refine z_iadd hx hb dX2_takeByte_25 ?_
  refine z_bipush (v := 63) hx hb dX2_takeByte_26 (by decide) ?_
  refine z_iand hx hb dX2_takeByte_28 ?_
  refine z_put (v := .int (((gI q 1201) + 1) &&& 63)) (q' := (sI q 1201 (((gI q 1201) + 1) &&& 63))) S hK inX8 tyX8 tyX8_ok nmX8 11 (fun _ => rfl) rfl 1 (by decide) q1_166 rfl rfl rfl rfl (Nat.le_of_ble_eq_true rfl) dX2_takeByte_29 (wXp1201 kc ad wad _ _) (fun _ h => h) ?_
  refine z_iload_n (j := 0) hx hb dX2_takeByte_32 rfl rfl ?_
  exact z_iret hx hb hlocks hr rfl hF dX2_takeByte_33
theorem hX2_takeByte : yX2_takeByte.cls = RX2 ∧ yX2_takeByte.cls ≠ "java/lang/invoke/MethodHandle" ∧ yX2_takeByte.cls ≠ "java/lang/invoke/VarHandle" ∧ (parseMethodDescriptor yX2_takeByte.desc).map (fun d => d.parameters.length) = some 1 := by decide +kernel
def fX2_jumpIf_21 (q : SS) : SS := q
def kX2_jumpIf_21 (q : SS) : Prop := True
def fX2_jumpIf_5 (q : SS) (v1 : Int32) (s0 : Int32) : SS := (if v1 = 0 then fX2_jumpIf_21 q else fX2_jumpIf_21 (sI q 1201 (s0 &&& 63)))
def kX2_jumpIf_5 (q : SS) (v1 : Int32) (s0 : Int32) : Prop := ((v1 = 0 → kX2_jumpIf_21 q) ∧ (¬ v1 = 0 → kX2_jumpIf_21 (sI q 1201 (s0 &&& 63))))
def fX2_jumpIf (q : SS) (v1 : Int32) : SS := fX2_jumpIf_5 (fX2_takeByte q).2 v1 (fX2_takeByte q).1
def kX2_jumpIf (q : SS) (v1 : Int32) : Prop := kX2_takeByte q ∧ kX2_jumpIf_5 (fX2_takeByte q).2 v1 (fX2_takeByte q).1
set_option maxHeartbeats 4000000 in
set_option maxRecDepth 100000 in
theorem ctX2_jumpIf (l : Launch) (hl : l.stackTraces = false) (D : va_G) (kc : Nat → ClassId) (ad wad : Nat → Nat) (q : SS) (v1 : Int32) (hok : kX2_jumpIf q v1) : Cv l yX2_jumpIf (Cond.code yX2_jumpIf cX2_jumpIf 4 none :: lw_G) (zr 1 0 0) 0 0 (PX D kc) (GX D kc ad wad) (GX D kc ad wad) [.ref (ad 10), .int v1, .ref (ad 17)] q (fX2_jumpIf q v1) := by
  refine Cv.of (cc := cX2_jumpIf) (maxL := 4) (ret := none) (by decide) rfl (Nat.le_of_ble_eq_true rfl) ?_
  intro p e s m args below meth c A S hr hlocks hin hA hK
  have hx := S.1
  have hb := S.2.1
  have hE : EV A s s.heap := hK.2
  have hK : va_K D vwCl (tysK kc) s := hK.1
  generalize hFe : fX2_jumpIf q v1 = F
  have hF : F = fX2_jumpIf q v1 := hFe.symm
  have b21 : ∀ (q : SS), kX2_jumpIf_21 q → F = fX2_jumpIf_21 q → Z p l e (zr 1 0 0) s m args below meth c 0 0 (MQ below (va_Qv (fun (_ : Unit) => True) (fun _ t => (GX D kc ad wad) A F t.heap) A) args s 0 0 A) 4 A (ZG D vwCl (wX kc ad wad) (PLX wad) A) q 21 [] [] := by
    intro q hok hF
    exact z_vret hx hb hlocks hr hF dX2_jumpIf_21
  have b5 : ∀ (q : SS) (v1 : Int32) (s0 : Int32), kX2_jumpIf_5 q v1 s0 → F = fX2_jumpIf_5 q v1 s0 → Z p l e (zr 1 0 0) s m args below meth c 0 0 (MQ below (va_Qv (fun (_ : Unit) => True) (fun _ t => (GX D kc ad wad) A F t.heap) A) args s 0 0 A) 4 A (ZG D vwCl (wX kc ad wad) (PLX wad) A) q 5 [(0, .ref (ad 10)), (1, .int v1)] [.int s0] := by
    intro q v1 s0 hok hF
    refine z_bipush (v := 63) hx hb dX2_jumpIf_5 (by decide) ?_
    refine z_iand hx hb dX2_jumpIf_7 ?_
    refine z_istore_n (lv' := [(3, .int (s0 &&& 63)), (0, .ref (ad 10)), (1, .int v1)]) hx hb dX2_jumpIf_8 rfl (by decide) rfl ?_
    refine z_iload_n (j := 2) hx hb dX2_jumpIf_9 rfl rfl ?_
    refine z_if_eq (tgt := 21) hx hb dX2_jumpIf_10 (by decide) (fun g10 => ?_) (fun g10 => ?_)
    · have hF := hF.trans (if_pos g10)
      have hok := And.left hok g10
      refine z_sub [] rfl ?_
      exact b21 q hok hF
    · have hF := hF.trans (if_neg g10)
      have hok := And.right hok g10
      refine z_aload_n (j := 1) hx hb dX2_jumpIf_13 rfl rfl ?_
      refine z_get (v := .ref (ad 11)) S hK inX2 10 (fun _ => rfl) rfl 0 (by decide) q2_12 rfl rfl dX2_jumpIf_14 ?_
      refine z_iload_n (j := 0) hx hb dX2_jumpIf_17 rfl rfl ?_
      refine z_put (v := .int (s0 &&& 63)) (q' := (sI q 1201 (s0 &&& 63))) S hK inX8 tyX8 tyX8_ok nmX8 11 (fun _ => rfl) rfl 1 (by decide) q1_166 rfl rfl rfl rfl (Nat.le_of_ble_eq_true rfl) dX2_jumpIf_18 (wXp1201 kc ad wad _ _) (fun _ h => h) ?_
      refine z_sub [] rfl ?_
      exact b21 (sI q 1201 (s0 &&& 63)) hok hF
  refine z_aload_n (j := 0) hx hb dX2_jumpIf_0 rfl rfl ?_
  refine z_aload_n (j := 2) hx hb dX2_jumpIf_1 rfl rfl ?_
  have h2 := And.left hok
  have hok := And.right hok
  refine z_callVi (As := [.ref (ad 17)]) S (ctX2_takeByte l hl D kc ad wad q h2) (cwV 1 S.2.2.2.2 (gV q5_131 q5_133 qp1_12 q1_10 q5_134) rfl rfl rfl hX2_takeByte ⟨Nat.le_of_ble_eq_true rfl, Nat.le_of_ble_eq_true rfl⟩) hA (pbX D kc) (psX hK hE) (z_recv hK 10 (fun _ => rfl) rfl) rfl rfl (Nat.le_of_ble_eq_true rfl) dX2_jumpIf_2 ⟨Nat.le_of_ble_eq_true rfl, Nat.le_of_ble_eq_true rfl⟩ ?_
  refine z_sub [0, 1] rfl ?_
  exact b5 (fX2_takeByte q).2 v1 (fX2_takeByte q).1 hok hF
theorem hX2_jumpIf : yX2_jumpIf.cls = RX2 ∧ yX2_jumpIf.cls ≠ "java/lang/invoke/MethodHandle" ∧ yX2_jumpIf.cls ≠ "java/lang/invoke/VarHandle" ∧ (parseMethodDescriptor yX2_jumpIf.desc).map (fun d => d.parameters.length) = some 2 := by decide +kernel
def fX2_combineInto_46 (q : SS) (v1 : Int32) (v5 : Int32) : SS := (sA q 27 (upd (gA q 27) ((v1 &&& 3) : Int32).toNatClampNeg v5))
def kX2_combineInto_46 (q : SS) (v1 : Int32) (v5 : Int32) : Prop := vp_in (v1 &&& 3) 4 ∧ True
def fX2_combineInto_43 (q : SS) (v1 : Int32) (v5 : Int32) (s0 : Int32) (s1 : Int32) : SS := fX2_combineInto_46 (fX8_setFlags_after q s1 s0) v1 v5
def kX2_combineInto_43 (q : SS) (v1 : Int32) (v5 : Int32) (s0 : Int32) (s1 : Int32) : Prop := kX8_setFlags_after q s1 s0 ∧ kX2_combineInto_46 (fX8_setFlags_after q s1 s0) v1 v5
def fX2_combineInto_36 (q : SS) (v1 : Int32) (v2 : Int32) (v3 : Int32) (v4 : Int32) (v5 : Int32) (s0 : Int32) : SS := fX2_combineInto_43 (fX10_hasCarry q v2 v4 v3).2 v1 v5 (fX10_hasCarry q v2 v4 v3).1 s0
def kX2_combineInto_36 (q : SS) (v1 : Int32) (v2 : Int32) (v3 : Int32) (v4 : Int32) (v5 : Int32) (s0 : Int32) : Prop := kX10_hasCarry q v2 v4 v3 ∧ kX2_combineInto_43 (fX10_hasCarry q v2 v4 v3).2 v1 v5 (fX10_hasCarry q v2 v4 v3).1 s0
def fX2_combineInto_20 (q : SS) (v1 : Int32) (v2 : Int32) (v3 : Int32) (v4 : Int32) (s0 : Int32) : SS := (if s0 = 0 then fX2_combineInto_36 q v1 v2 v3 v4 s0 1 else fX2_combineInto_36 q v1 v2 v3 v4 s0 0)
def kX2_combineInto_20 (q : SS) (v1 : Int32) (v2 : Int32) (v3 : Int32) (v4 : Int32) (s0 : Int32) : Prop := ((s0 = 0 → kX2_combineInto_36 q v1 v2 v3 v4 s0 1) ∧ (¬ s0 = 0 → kX2_combineInto_36 q v1 v2 v3 v4 s0 0))
def fX2_combineInto (q : SS) (v1 : Int32) (v2 : Int32) (v3 : Int32) : SS := fX2_combineInto_20 (fX10_resultOf q v2 ((gA q 27) ((v1 &&& 3) : Int32).toNatClampNeg) v3).2 v1 v2 v3 ((gA q 27) ((v1 &&& 3) : Int32).toNatClampNeg) (fX10_resultOf q v2 ((gA q 27) ((v1 &&& 3) : Int32).toNatClampNeg) v3).1
def kX2_combineInto (q : SS) (v1 : Int32) (v2 : Int32) (v3 : Int32) : Prop := vp_in (v1 &&& 3) 4 ∧ kX10_resultOf q v2 ((gA q 27) ((v1 &&& 3) : Int32).toNatClampNeg) v3 ∧ kX2_combineInto_20 (fX10_resultOf q v2 ((gA q 27) ((v1 &&& 3) : Int32).toNatClampNeg) v3).2 v1 v2 v3 ((gA q 27) ((v1 &&& 3) : Int32).toNatClampNeg) (fX10_resultOf q v2 ((gA q 27) ((v1 &&& 3) : Int32).toNatClampNeg) v3).1
set_option maxHeartbeats 4000000 in
set_option maxRecDepth 100000 in
theorem ctX2_combineInto (l : Launch) (hl : l.stackTraces = false) (D : va_G) (kc : Nat → ClassId) (ad wad : Nat → Nat) (q : SS) (v1 : Int32) (v2 : Int32) (v3 : Int32) (hok : kX2_combineInto q v1 v2 v3) : Cv l yX2_combineInto (Cond.code yX2_combineInto cX2_combineInto 6 none :: lw_G) (zr 1 0 0) 0 0 (PX D kc) (GX D kc ad wad) (GX D kc ad wad) [.ref (ad 10), .int v1, .int v2, .int v3] q (fX2_combineInto q v1 v2 v3) := by
  refine Cv.of (cc := cX2_combineInto) (maxL := 6) (ret := none) (by decide) rfl (Nat.le_of_ble_eq_true rfl) ?_
  intro p e s m args below meth c A S hr hlocks hin hA hK
  have hx := S.1
  have hb := S.2.1
  have hE : EV A s s.heap := hK.2
  have hK : va_K D vwCl (tysK kc) s := hK.1
  generalize hFe : fX2_combineInto q v1 v2 v3 = F
  have hF : F = fX2_combineInto q v1 v2 v3 := hFe.symm
  have b46 : ∀ (q : SS) (v1 : Int32) (v5 : Int32), kX2_combineInto_46 q v1 v5 → F = fX2_combineInto_46 q v1 v5 → Z p l e (zr 1 0 0) s m args below meth c 0 0 (MQ below (va_Qv (fun (_ : Unit) => True) (fun _ t => (GX D kc ad wad) A F t.heap) A) args s 0 0 A) 6 A (ZG D vwCl (wX kc ad wad) (PLX wad) A) q 46 [(0, .ref (ad 10)), (1, .int v1), (5, .int v5)] [] := by
    intro q v1 v5 hok hF
    refine z_aload_n (j := 0) hx hb dX2_combineInto_46 rfl rfl ?_
    refine z_get (v := .ref (ad 11)) S hK inX2 10 (fun _ => rfl) rfl 0 (by decide) q2_12 rfl rfl dX2_combineInto_47 ?_
    refine z_get (v := .ref (ad 27)) S hK inX8 11 (fun _ => rfl) rfl 0 (by decide) q1_162 rfl rfl dX2_combineInto_50 ?_
    refine z_iload_n (j := 1) hx hb dX2_combineInto_53 rfl rfl ?_
    refine z_iconst (v := 3) hx hb dX2_combineInto_54 (by decide) ?_
    refine z_iand hx hb dX2_combineInto_55 ?_
    refine z_iload (j := 2) hx hb dX2_combineInto_56 rfl ?_
    have h58 := And.left hok
    have hok := And.right hok
    refine z_iast (f := (gA q 27)) (q' := (sA q 27 (upd (gA q 27) ((v1 &&& 3) : Int32).toNatClampNeg v5))) S hK 27 0 (fun _ => rfl) rfl h58 dX2_combineInto_58 (wXa27 kc ad wad _ _) (fun _ h => h) ?_
    exact z_vret hx hb hlocks hr hF dX2_combineInto_59
  have b43 : ∀ (q : SS) (v1 : Int32) (v5 : Int32) (s0 : Int32) (s1 : Int32), kX2_combineInto_43 q v1 v5 s0 s1 → F = fX2_combineInto_43 q v1 v5 s0 s1 → Z p l e (zr 1 0 0) s m args below meth c 0 0 (MQ below (va_Qv (fun (_ : Unit) => True) (fun _ t => (GX D kc ad wad) A F t.heap) A) args s 0 0 A) 6 A (ZG D vwCl (wX kc ad wad) (PLX wad) A) q 43 [(0, .ref (ad 10)), (1, .int v1), (5, .int v5)] [.int s0, .int s1, .ref (ad 11)] := by
    intro q v1 v5 s0 s1 hok hF
    have h43 := And.left hok
    have hok := And.right hok
    refine z_callVv (As := [.int s1, .int s0]) S (ctX8_setFlags_after l hl D kc ad wad q s1 s0 h43) (cwV 2 S.2.2.2.2 (gV q5_145 q5_119 q5_120 q1_7 q5_121) rfl rfl rfl hX8_setFlags ⟨Nat.le_of_ble_eq_true rfl, Nat.le_of_ble_eq_true rfl⟩) hA (pbX D kc) (psX hK hE) (z_recv hK 11 (fun _ => rfl) rfl) rfl rfl (Nat.le_of_ble_eq_true rfl) dX2_combineInto_43 ⟨Nat.le_of_ble_eq_true rfl, Nat.le_of_ble_eq_true rfl⟩ ?_
    exact b46 (fX8_setFlags_after q s1 s0) v1 v5 hok hF
  have b36 : ∀ (q : SS) (v1 : Int32) (v2 : Int32) (v3 : Int32) (v4 : Int32) (v5 : Int32) (s0 : Int32), kX2_combineInto_36 q v1 v2 v3 v4 v5 s0 → F = fX2_combineInto_36 q v1 v2 v3 v4 v5 s0 → Z p l e (zr 1 0 0) s m args below meth c 0 0 (MQ below (va_Qv (fun (_ : Unit) => True) (fun _ t => (GX D kc ad wad) A F t.heap) A) args s 0 0 A) 6 A (ZG D vwCl (wX kc ad wad) (PLX wad) A) q 36 [(0, .ref (ad 10)), (1, .int v1), (2, .int v2), (3, .int v3), (4, .int v4), (5, .int v5)] [.int s0, .ref (ad 11)] := by
    intro q v1 v2 v3 v4 v5 s0 hok hF
    refine z_iload_n (j := 2) hx hb dX2_combineInto_36 rfl rfl ?_
    refine z_iload (j := 4) hx hb dX2_combineInto_37 rfl ?_
    refine z_iload_n (j := 3) hx hb dX2_combineInto_39 rfl rfl ?_
    have h40 := And.left hok
    have hok := And.right hok
    refine z_callSNi (As := [.int v2, .int v4, .int v3]) S (ctX10_hasCarry l hl D kc ad wad q v2 v4 v3 h40) ⟨va_cnB 3 S.2.2.2.2 (gW q5_117) rfl rfl rfl (hE.2.2.2.2.2.1 (RX2, 80, yX10_hasCarry) (List.mem_of_getElem? (i := 5) rfl)) (S.2.2.2.2 _ q1_1) hX10_hasCarry ⟨Nat.le_of_ble_eq_true rfl, Nat.le_of_ble_eq_true rfl⟩, S.2.2.2.2 _ q5_116, trivial⟩ hA (pbX D kc) (psX hK hE) rfl rfl (Nat.le_of_ble_eq_true rfl) dX2_combineInto_40 ⟨Nat.le_of_ble_eq_true rfl, Nat.le_of_ble_eq_true rfl⟩ ?_
    refine z_sub [0, 1, 5] rfl ?_
    exact b43 (fX10_hasCarry q v2 v4 v3).2 v1 v5 (fX10_hasCarry q v2 v4 v3).1 s0 hok hF
  have b20 : ∀ (q : SS) (v1 : Int32) (v2 : Int32) (v3 : Int32) (v4 : Int32) (s0 : Int32), kX2_combineInto_20 q v1 v2 v3 v4 s0 → F = fX2_combineInto_20 q v1 v2 v3 v4 s0 → Z p l e (zr 1 0 0) s m args below meth c 0 0 (MQ below (va_Qv (fun (_ : Unit) => True) (fun _ t => (GX D kc ad wad) A F t.heap) A) args s 0 0 A) 6 A (ZG D vwCl (wX kc ad wad) (PLX wad) A) q 20 [(0, .ref (ad 10)), (1, .int v1), (2, .int v2), (3, .int v3), (4, .int v4)] [.int s0] := by
    intro q v1 v2 v3 v4 s0 hok hF
    refine z_istore (lv' := [(5, .int s0), (0, .ref (ad 10)), (1, .int v1), (2, .int v2), (3, .int v3), (4, .int v4)]) hx hb dX2_combineInto_20 (by decide) rfl ?_
    refine z_aload_n (j := 1) hx hb dX2_combineInto_22 rfl rfl ?_
    refine z_get (v := .ref (ad 11)) S hK inX2 10 (fun _ => rfl) rfl 0 (by decide) q2_12 rfl rfl dX2_combineInto_23 ?_
    refine z_iload (j := 0) hx hb dX2_combineInto_26 rfl ?_
    refine z_if_ne (tgt := 35) hx hb dX2_combineInto_28 (by decide) (fun g28 => ?_) (fun g28 => ?_)
    · have hF := hF.trans (if_neg g28)
      have hok := And.right hok g28
      refine z_iconst (v := 0) hx hb dX2_combineInto_35 (by decide) ?_
      refine z_sub [1, 2, 3, 4, 5, 0] rfl ?_
      exact b36 q v1 v2 v3 v4 s0 0 hok hF
    · have hF := hF.trans (if_pos g28)
      have hok := And.left hok g28
      refine z_iconst (v := 1) hx hb dX2_combineInto_31 (by decide) ?_
      refine z_goto (tgt := 36) hx hb dX2_combineInto_32 (by decide) ?_
      refine z_sub [1, 2, 3, 4, 5, 0] rfl ?_
      exact b36 q v1 v2 v3 v4 s0 1 hok hF
  refine z_aload_n (j := 0) hx hb dX2_combineInto_0 rfl rfl ?_
  refine z_get (v := .ref (ad 11)) S hK inX2 10 (fun _ => rfl) rfl 0 (by decide) q2_12 rfl rfl dX2_combineInto_1 ?_
  refine z_get (v := .ref (ad 27)) S hK inX8 11 (fun _ => rfl) rfl 0 (by decide) q1_162 rfl rfl dX2_combineInto_4 ?_
  refine z_iload_n (j := 1) hx hb dX2_combineInto_7 rfl rfl ?_
  refine z_iconst (v := 3) hx hb dX2_combineInto_8 (by decide) ?_
  refine z_iand hx hb dX2_combineInto_9 ?_
  have h10 := And.left hok
  have hok := And.right hok
  refine z_iald (f := (gA q 27)) S hK 27 0 (fun _ => rfl) rfl h10 dX2_combineInto_10 ?_
  refine z_istore (lv' := [(4, .int ((gA q 27) ((v1 &&& 3) : Int32).toNatClampNeg)), (0, .ref (ad 10)), (1, .int v1), (2, .int v2), (3, .int v3)]) hx hb dX2_combineInto_11 (by decide) rfl ?_
  refine z_iload_n (j := 3) hx hb dX2_combineInto_13 rfl rfl ?_
  refine z_iload (j := 0) hx hb dX2_combineInto_14 rfl ?_
  refine z_iload_n (j := 4) hx hb dX2_combineInto_16 rfl rfl ?_
  have h17 := And.left hok
  have hok := And.right hok
  refine z_callSNi (As := [.int v2, .int ((gA q 27) ((v1 &&& 3) : Int32).toNatClampNeg), .int v3]) S (ctX10_resultOf l hl D kc ad wad q v2 ((gA q 27) ((v1 &&& 3) : Int32).toNatClampNeg) v3 h17) ⟨va_cnB 3 S.2.2.2.2 (gW q5_58) rfl rfl rfl (hE.2.2.2.2.2.1 (RX2, 76, yX10_resultOf) (List.mem_of_getElem? (i := 4) rfl)) (S.2.2.2.2 _ q1_1) hX10_resultOf ⟨Nat.le_of_ble_eq_true rfl, Nat.le_of_ble_eq_true rfl⟩, S.2.2.2.2 _ q5_57, trivial⟩ hA (pbX D kc) (psX hK hE) rfl rfl (Nat.le_of_ble_eq_true rfl) dX2_combineInto_17 ⟨Nat.le_of_ble_eq_true rfl, Nat.le_of_ble_eq_true rfl⟩ ?_
  refine z_sub [1, 2, 3, 4, 0] rfl ?_
  exact b20 (fX10_resultOf q v2 ((gA q 27) ((v1 &&& 3) : Int32).toNatClampNeg) v3).2 v1 v2 v3 ((gA q 27) ((v1 &&& 3) : Int32).toNatClampNeg) (fX10_resultOf q v2 ((gA q 27) ((v1 &&& 3) : Int32).toNatClampNeg) v3).1 hok hF
theorem hX2_combineInto : yX2_combineInto.cls = RX2 ∧ yX2_combineInto.cls ≠ "java/lang/invoke/MethodHandle" ∧ yX2_combineInto.cls ≠ "java/lang/invoke/VarHandle" ∧ (parseMethodDescriptor yX2_combineInto.desc).map (fun d => d.parameters.length) = some 3 := by decide +kernel
def fX2_decode_159 (q : SS) (s0 : Int32) : SS := (sI q 1104 s0)
def kX2_decode_159 (q : SS) (s0 : Int32) : Prop := True
def fX2_decode_143 (q : SS) (v5 : Int32) (v6 : Int32) (v7 : Int32) (s0 : Int32) : SS := (if v5 = 0 then fX2_decode_159 (sI q 1103 s0) v7 else fX2_decode_159 (sI q 1103 s0) v6)
def kX2_decode_143 (q : SS) (v5 : Int32) (v6 : Int32) (v7 : Int32) (s0 : Int32) : Prop := ((v5 = 0 → kX2_decode_159 (sI q 1103 s0) v7) ∧ (¬ v5 = 0 → kX2_decode_159 (sI q 1103 s0) v6))
def fX2_decode_114 (q : SS) (v4 : Int32) (s0 : Int32) : SS := (if s0 = 0 then fX2_decode_143 q s0 (v4 &&& 3) ((v4 / 4) &&& 3) (v4 &&& 3) else fX2_decode_143 q s0 (v4 &&& 3) ((v4 / 4) &&& 3) ((v4 / 4) &&& 3))
def kX2_decode_114 (q : SS) (v4 : Int32) (s0 : Int32) : Prop := ((s0 = 0 → kX2_decode_143 q s0 (v4 &&& 3) ((v4 / 4) &&& 3) (v4 &&& 3)) ∧ (¬ s0 = 0 → kX2_decode_143 q s0 (v4 &&& 3) ((v4 / 4) &&& 3) ((v4 / 4) &&& 3)))
def fX2_decode_102 (q : SS) (v3 : Int32) (v4 : Int32) : SS := (if (v3 - v3 / 2 * 2) = 1 then fX2_decode_114 q v4 1 else fX2_decode_114 q v4 0)
def kX2_decode_102 (q : SS) (v3 : Int32) (v4 : Int32) : Prop := (((v3 - v3 / 2 * 2) = 1 → kX2_decode_114 q v4 1) ∧ (¬ (v3 - v3 / 2 * 2) = 1 → kX2_decode_114 q v4 0))
def fX2_decode_71 (q : SS) (v3 : Int32) (v4 : Int32) (s0 : Int32) : SS := (if (gI q 805) = 1 then fX2_decode_102 (sI (sI (sI q 1101 s0) 1102 (v4 / 16)) 1102 (14 - (v4 / 16))) v3 v4 else fX2_decode_102 (sI (sI q 1101 s0) 1102 (v4 / 16)) v3 v4)
def kX2_decode_71 (q : SS) (v3 : Int32) (v4 : Int32) (s0 : Int32) : Prop := nf .boolean s0 ∧ (((gI q 805) = 1 → kX2_decode_102 (sI (sI (sI q 1101 s0) 1102 (v4 / 16)) 1102 (14 - (v4 / 16))) v3 v4) ∧ (¬ (gI q 805) = 1 → kX2_decode_102 (sI (sI q 1101 s0) 1102 (v4 / 16)) v3 v4))
def fX2_decode_59 (q : SS) (v3 : Int32) (v4 : Int32) : SS := (if 64 ≤ v3 then fX2_decode_71 q v3 v4 0 else fX2_decode_71 q v3 v4 1)
def kX2_decode_59 (q : SS) (v3 : Int32) (v4 : Int32) : Prop := ((64 ≤ v3 → kX2_decode_71 q v3 v4 0) ∧ (¬ 64 ≤ v3 → kX2_decode_71 q v3 v4 1))
def fX2_decode_51 (k22 : SS → Int32 → Int32 → SS) (q : SS) (v3 : Int32) (s0 : Int32) : SS := k22 q (v3 + 1) s0
def kX2_decode_51 (kk22 : SS → Int32 → Int32 → Prop) (q : SS) (v3 : Int32) (s0 : Int32) : Prop := kk22 q (v3 + 1) s0
def fX2_decode_22 : Nat → SS → Int32 → Int32 → SS
  | 0, q, _, _ => q
  | n + 1, q, v3, v4 => (if (gI q 805) = 1 then (if (v4 / 16) = 15 then (if 64 ≤ v3 then fX2_decode_59 q v3 v4 else fX2_decode_51 (fX2_decode_22 n) (fX2_takeByte q).2 v3 (fX2_takeByte q).1) else fX2_decode_59 q v3 v4) else fX2_decode_59 q v3 v4)
def kX2_decode_22 : Nat → SS → Int32 → Int32 → Prop
  | 0, _, _, _ => False
  | n + 1, q, v3, v4 => (((gI q 805) = 1 → (((v4 / 16) = 15 → ((64 ≤ v3 → kX2_decode_59 q v3 v4) ∧ (¬ 64 ≤ v3 → kX2_takeByte q ∧ kX2_decode_51 (kX2_decode_22 n) (fX2_takeByte q).2 v3 (fX2_takeByte q).1))) ∧ (¬ (v4 / 16) = 15 → kX2_decode_59 q v3 v4))) ∧ (¬ (gI q 805) = 1 → kX2_decode_59 q v3 v4))
def fX2_decode_20 (q : SS) (v3 : Int32) (s0 : Int32) : SS := fX2_decode_22 70 q v3 s0
def kX2_decode_20 (q : SS) (v3 : Int32) (s0 : Int32) : Prop := kX2_decode_22 70 q v3 s0
def fX2_decode_8 (q : SS) : SS := fX2_decode_20 (fX2_takeByte (sI q 1105 (-1))).2 0 (fX2_takeByte (sI q 1105 (-1))).1
def kX2_decode_8 (q : SS) : Prop := kX2_takeByte (sI q 1105 (-1)) ∧ kX2_decode_20 (fX2_takeByte (sI q 1105 (-1))).2 0 (fX2_takeByte (sI q 1105 (-1))).1
def fX2_decode (q : SS) : SS := fX2_decode_8 (fX8_copyFrom_after_keptv q)
def kX2_decode (q : SS) : Prop := kX8_copyFrom_after_keptv q ∧ kX2_decode_8 (fX8_copyFrom_after_keptv q)
set_option maxHeartbeats 4000000 in
set_option maxRecDepth 100000 in
theorem ctX2_decode (l : Launch) (hl : l.stackTraces = false) (D : va_G) (kc : Nat → ClassId) (ad wad : Nat → Nat) (q : SS) (hok : kX2_decode q) : Cv l yX2_decode (Cond.code yX2_decode cX2_decode 8 none :: lw_G) (zr 1 0 0) 0 0 (PX D kc) (GX D kc ad wad) (GX D kc ad wad) [.ref (ad 10), .ref (ad 7), .ref (ad 17)] q (fX2_decode q) := by
  refine Cv.of (cc := cX2_decode) (maxL := 8) (ret := none) (by decide) rfl (Nat.le_of_ble_eq_true rfl) ?_
  intro p e s m args below meth c A S hr hlocks hin hA hK
  have hx := S.1
  have hb := S.2.1
  have hE : EV A s s.heap := hK.2
  have hK : va_K D vwCl (tysK kc) s := hK.1
  generalize hFe : fX2_decode q = F
  have hF : F = fX2_decode q := hFe.symm
  have b159 : ∀ (q : SS) (s0 : Int32), kX2_decode_159 q s0 → F = fX2_decode_159 q s0 → Z p l e (zr 1 0 0) s m args below meth c 0 0 (MQ below (va_Qv (fun (_ : Unit) => True) (fun _ t => (GX D kc ad wad) A F t.heap) A) args s 0 0 A) 8 A (ZG D vwCl (wX kc ad wad) (PLX wad) A) q 159 [] [.int s0, .ref (ad 10)] := by
    intro q s0 hok hF
    refine z_put (v := .int s0) (q' := (sI q 1104 s0)) S hK inX2 tyX2 tyX2_ok nmX2 10 (fun _ => rfl) rfl 4 (by decide) q2_20 rfl rfl rfl rfl (Nat.le_of_ble_eq_true rfl) dX2_decode_159 (wXp1104 kc ad wad _ _) (fun _ h => h) ?_
    exact z_vret hx hb hlocks hr hF dX2_decode_162
  have b143 : ∀ (q : SS) (v5 : Int32) (v6 : Int32) (v7 : Int32) (s0 : Int32), kX2_decode_143 q v5 v6 v7 s0 → F = fX2_decode_143 q v5 v6 v7 s0 → Z p l e (zr 1 0 0) s m args below meth c 0 0 (MQ below (va_Qv (fun (_ : Unit) => True) (fun _ t => (GX D kc ad wad) A F t.heap) A) args s 0 0 A) 8 A (ZG D vwCl (wX kc ad wad) (PLX wad) A) q 143 [(0, .ref (ad 10)), (5, .int v5), (6, .int v6), (7, .int v7)] [.int s0, .ref (ad 10)] := by
    intro q v5 v6 v7 s0 hok hF
    refine z_put (v := .int s0) (q' := (sI q 1103 s0)) S hK inX2 tyX2 tyX2_ok nmX2 10 (fun _ => rfl) rfl 3 (by decide) q2_19 rfl rfl rfl rfl (Nat.le_of_ble_eq_true rfl) dX2_decode_143 (wXp1103 kc ad wad _ _) (fun _ h => h) ?_
    refine z_aload_n (j := 0) hx hb dX2_decode_146 rfl rfl ?_
    refine z_iload (j := 1) hx hb dX2_decode_147 rfl ?_
    refine z_if_eq (tgt := 157) hx hb dX2_decode_149 (by decide) (fun g149 => ?_) (fun g149 => ?_)
    · have hF := hF.trans (if_pos g149)
      have hok := And.left hok g149
      refine z_iload (j := 3) hx hb dX2_decode_157 rfl ?_
      refine z_sub [] rfl ?_
      exact b159 (sI q 1103 s0) v7 hok hF
    · have hF := hF.trans (if_neg g149)
      have hok := And.right hok g149
      refine z_iload (j := 2) hx hb dX2_decode_152 rfl ?_
      refine z_goto (tgt := 159) hx hb dX2_decode_154 (by decide) ?_
      refine z_sub [] rfl ?_
      exact b159 (sI q 1103 s0) v6 hok hF
  have b114 : ∀ (q : SS) (v4 : Int32) (s0 : Int32), kX2_decode_114 q v4 s0 → F = fX2_decode_114 q v4 s0 → Z p l e (zr 1 0 0) s m args below meth c 0 0 (MQ below (va_Qv (fun (_ : Unit) => True) (fun _ t => (GX D kc ad wad) A F t.heap) A) args s 0 0 A) 8 A (ZG D vwCl (wX kc ad wad) (PLX wad) A) q 114 [(0, .ref (ad 10)), (4, .int v4)] [.int s0] := by
    intro q v4 s0 hok hF
    refine z_istore (lv' := [(5, .int s0), (0, .ref (ad 10)), (4, .int v4)]) hx hb dX2_decode_114 (by decide) rfl ?_
    refine z_iload (j := 2) hx hb dX2_decode_116 rfl ?_
    refine z_iconst (v := 3) hx hb dX2_decode_118 (by decide) ?_
    refine z_iand hx hb dX2_decode_119 ?_
    refine z_istore (lv' := [(6, .int (v4 &&& 3)), (5, .int s0), (0, .ref (ad 10)), (4, .int v4)]) hx hb dX2_decode_120 (by decide) rfl ?_
    refine z_iload (j := 3) hx hb dX2_decode_122 rfl ?_
    refine z_iconst (v := 4) hx hb dX2_decode_124 (by decide) ?_
    refine z_idiv hx hb dX2_decode_125 (by decide) ?_
    refine z_iconst (v := 3) hx hb dX2_decode_126 (by decide) ?_
    refine z_iand hx hb dX2_decode_127 ?_
    refine z_istore (lv' := [(7, .int ((v4 / 4) &&& 3)), (6, .int (v4 &&& 3)), (5, .int s0), (0, .ref (ad 10)), (4, .int v4)]) hx hb dX2_decode_128 (by decide) rfl ?_
    refine z_aload_n (j := 3) hx hb dX2_decode_130 rfl rfl ?_
    refine z_iload (j := 2) hx hb dX2_decode_131 rfl ?_
    refine z_if_eq (tgt := 141) hx hb dX2_decode_133 (by decide) (fun g133 => ?_) (fun g133 => ?_)
    · have hF := hF.trans (if_pos g133)
      have hok := And.left hok g133
      refine z_iload (j := 1) hx hb dX2_decode_141 rfl ?_
      refine z_sub [3, 2, 1, 0] rfl ?_
      exact b143 q s0 (v4 &&& 3) ((v4 / 4) &&& 3) (v4 &&& 3) hok hF
    · have hF := hF.trans (if_neg g133)
      have hok := And.right hok g133
      refine z_iload (j := 0) hx hb dX2_decode_136 rfl ?_
      refine z_goto (tgt := 143) hx hb dX2_decode_138 (by decide) ?_
      refine z_sub [3, 2, 1, 0] rfl ?_
      exact b143 q s0 (v4 &&& 3) ((v4 / 4) &&& 3) ((v4 / 4) &&& 3) hok hF
  have b102 : ∀ (q : SS) (v3 : Int32) (v4 : Int32), kX2_decode_102 q v3 v4 → F = fX2_decode_102 q v3 v4 → Z p l e (zr 1 0 0) s m args below meth c 0 0 (MQ below (va_Qv (fun (_ : Unit) => True) (fun _ t => (GX D kc ad wad) A F t.heap) A) args s 0 0 A) 8 A (ZG D vwCl (wX kc ad wad) (PLX wad) A) q 102 [(0, .ref (ad 10)), (3, .int v3), (4, .int v4)] [] := by
    intro q v3 v4 hok hF
    refine z_iload_n (j := 1) hx hb dX2_decode_102 rfl rfl ?_
    refine z_iconst (v := 2) hx hb dX2_decode_103 (by decide) ?_
    refine z_irem hx hb dX2_decode_104 (by decide) ?_
    refine z_iconst (v := 1) hx hb dX2_decode_105 (by decide) ?_
    refine z_icmp_ne (tgt := 113) hx hb dX2_decode_106 (by decide) (fun g106 => ?_) (fun g106 => ?_)
    · have hF := hF.trans (if_neg g106)
      have hok := And.right hok g106
      refine z_iconst (v := 0) hx hb dX2_decode_113 (by decide) ?_
      refine z_sub [0, 2] rfl ?_
      exact b114 q v4 0 hok hF
    · have hF := hF.trans (if_pos g106)
      have hok := And.left hok g106
      refine z_iconst (v := 1) hx hb dX2_decode_109 (by decide) ?_
      refine z_goto (tgt := 114) hx hb dX2_decode_110 (by decide) ?_
      refine z_sub [0, 2] rfl ?_
      exact b114 q v4 1 hok hF
  have b71 : ∀ (q : SS) (v3 : Int32) (v4 : Int32) (s0 : Int32), kX2_decode_71 q v3 v4 s0 → F = fX2_decode_71 q v3 v4 s0 → Z p l e (zr 1 0 0) s m args below meth c 0 0 (MQ below (va_Qv (fun (_ : Unit) => True) (fun _ t => (GX D kc ad wad) A F t.heap) A) args s 0 0 A) 8 A (ZG D vwCl (wX kc ad wad) (PLX wad) A) q 71 [(0, .ref (ad 10)), (1, .ref (ad 7)), (3, .int v3), (4, .int v4)] [.int s0, .ref (ad 10)] := by
    intro q v3 v4 s0 hok hF
    have h71 := And.left hok
    have hok := And.right hok
    refine z_put (v := .int s0) (q' := (sI q 1101 s0)) S hK inX2 tyX2 tyX2_ok nmX2 10 (fun _ => rfl) rfl 1 (by decide) q2_15 rfl rfl h71.1 h71.2 (Nat.le_of_ble_eq_true rfl) dX2_decode_71 (wXp1101 kc ad wad _ _) (fun _ h => h) ?_
    refine z_aload_n (j := 0) hx hb dX2_decode_74 rfl rfl ?_
    refine z_iload (j := 3) hx hb dX2_decode_75 rfl ?_
    refine z_bipush (v := 16) hx hb dX2_decode_77 (by decide) ?_
    refine z_idiv hx hb dX2_decode_79 (by decide) ?_
    refine z_put (v := .int (v4 / 16)) (q' := (sI (sI q 1101 s0) 1102 (v4 / 16))) S hK inX2 tyX2 tyX2_ok nmX2 10 (fun _ => rfl) rfl 2 (by decide) q2_18 rfl rfl rfl rfl (Nat.le_of_ble_eq_true rfl) dX2_decode_80 (wXp1102 kc ad wad _ _) (fun _ h => h) ?_
    refine z_aload_n (j := 1) hx hb dX2_decode_83 rfl rfl ?_
    refine z_get (v := .int (gI q 805)) S hK inX8 7 (fun _ => rfl) rfl 5 (by decide) q1_176 rfl rfl dX2_decode_84 ?_
    refine z_iconst (v := 1) hx hb dX2_decode_87 (by decide) ?_
    refine z_icmp_ne (tgt := 102) hx hb dX2_decode_88 (by decide) (fun g88 => ?_) (fun g88 => ?_)
    · have hF := hF.trans (if_neg g88)
      have hok := And.right hok g88
      refine z_sub [0, 2, 3] rfl ?_
      exact b102 (sI (sI q 1101 s0) 1102 (v4 / 16)) v3 v4 hok hF
    · have hF := hF.trans (if_pos g88)
      have hok := And.left hok g88
      refine z_aload_n (j := 0) hx hb dX2_decode_91 rfl rfl ?_
      refine z_bipush (v := 14) hx hb dX2_decode_92 (by decide) ?_
      refine z_aload_n (j := 0) hx hb dX2_decode_94 rfl rfl ?_
      refine z_get (v := .int (v4 / 16)) S hK inX2 10 (fun _ => rfl) rfl 2 (by decide) q2_18 rfl rfl dX2_decode_95 ?_
      refine z_isub hx hb dX2_decode_98 ?_
      refine z_put (v := .int (14 - (v4 / 16))) (q' := (sI (sI (sI q 1101 s0) 1102 (v4 / 16)) 1102 (14 - (v4 / 16)))) S hK inX2 tyX2 tyX2_ok nmX2 10 (fun _ => rfl) rfl 2 (by decide) q2_18 rfl rfl rfl rfl (Nat.le_of_ble_eq_true rfl) dX2_decode_99 (wXp1102 kc ad wad _ _) (fun _ h => h) ?_
      refine z_sub [0, 2, 3] rfl ?_
      exact b102 (sI (sI (sI q 1101 s0) 1102 (v4 / 16)) 1102 (14 - (v4 / 16))) v3 v4 hok hF
  have b59 : ∀ (q : SS) (v3 : Int32) (v4 : Int32), kX2_decode_59 q v3 v4 → F = fX2_decode_59 q v3 v4 → Z p l e (zr 1 0 0) s m args below meth c 0 0 (MQ below (va_Qv (fun (_ : Unit) => True) (fun _ t => (GX D kc ad wad) A F t.heap) A) args s 0 0 A) 8 A (ZG D vwCl (wX kc ad wad) (PLX wad) A) q 59 [(0, .ref (ad 10)), (1, .ref (ad 7)), (3, .int v3), (4, .int v4)] [] := by
    intro q v3 v4 hok hF
    refine z_aload_n (j := 0) hx hb dX2_decode_59 rfl rfl ?_
    refine z_iload_n (j := 2) hx hb dX2_decode_60 rfl rfl ?_
    refine z_bipush (v := 64) hx hb dX2_decode_61 (by decide) ?_
    refine z_icmp_ge (tgt := 70) hx hb dX2_decode_63 (by decide) (fun g63 => ?_) (fun g63 => ?_)
    · have hF := hF.trans (if_pos g63)
      have hok := And.left hok g63
      refine z_iconst (v := 0) hx hb dX2_decode_70 (by decide) ?_
      exact b71 q v3 v4 0 hok hF
    · have hF := hF.trans (if_neg g63)
      have hok := And.right hok g63
      refine z_iconst (v := 1) hx hb dX2_decode_66 (by decide) ?_
      refine z_goto (tgt := 71) hx hb dX2_decode_67 (by decide) ?_
      exact b71 q v3 v4 1 hok hF
  have b51 : ∀ (k22 : SS → Int32 → Int32 → SS) (kk22 : SS → Int32 → Int32 → Prop) (_ : ∀ (q : SS) (v3 : Int32) (v4 : Int32), kk22 q v3 v4 → F = k22 q v3 v4 → Z p l e (zr 1 0 0) s m args below meth c 0 0 (MQ below (va_Qv (fun (_ : Unit) => True) (fun _ t => (GX D kc ad wad) A F t.heap) A) args s 0 0 A) 8 A (ZG D vwCl (wX kc ad wad) (PLX wad) A) q 22 [(0, .ref (ad 10)), (1, .ref (ad 7)), (2, .ref (ad 17)), (3, .int v3), (4, .int v4)] []) (q : SS) (v3 : Int32) (s0 : Int32), kX2_decode_51 kk22 q v3 s0 → F = fX2_decode_51 k22 q v3 s0 → Z p l e (zr 1 0 0) s m args below meth c 0 0 (MQ below (va_Qv (fun (_ : Unit) => True) (fun _ t => (GX D kc ad wad) A F t.heap) A) args s 0 0 A) 8 A (ZG D vwCl (wX kc ad wad) (PLX wad) A) q 51 [(0, .ref (ad 10)), (1, .ref (ad 7)), (2, .ref (ad 17)), (3, .int v3)] [.int s0] := by
    intro k22 kk22 hk22 q v3 s0 hok hF
    refine z_istore (lv' := [(4, .int s0), (0, .ref (ad 10)), (1, .ref (ad 7)), (2, .ref (ad 17)), (3, .int v3)]) hx hb dX2_decode_51 (by decide) rfl ?_
    refine z_iinc (k := 4) (v := (v3 + 1)) (lv' := [(3, .int (v3 + 1)), (4, .int s0), (0, .ref (ad 10)), (1, .ref (ad 7)), (2, .ref (ad 17))]) hx hb dX2_decode_53 rfl rfl (by decide) rfl ?_
    refine z_goto (tgt := 22) hx hb dX2_decode_56 (by decide) ?_
    refine z_sub [2, 3, 4, 0, 1] rfl ?_
    exact hk22 q (v3 + 1) s0 hok hF
  have b22 : ∀ (n : Nat) (q : SS) (v3 : Int32) (v4 : Int32), kX2_decode_22 n q v3 v4 → F = fX2_decode_22 n q v3 v4 → Z p l e (zr 1 0 0) s m args below meth c 0 0 (MQ below (va_Qv (fun (_ : Unit) => True) (fun _ t => (GX D kc ad wad) A F t.heap) A) args s 0 0 A) 8 A (ZG D vwCl (wX kc ad wad) (PLX wad) A) q 22 [(0, .ref (ad 10)), (1, .ref (ad 7)), (2, .ref (ad 17)), (3, .int v3), (4, .int v4)] [] := by
    intro n
    induction n with
    | zero => intro q v3 v4 hok hF; exact False.elim hok
    | succ n ih =>
      intro q v3 v4 hok hF
      refine z_aload_n (j := 1) hx hb dX2_decode_22 rfl rfl ?_
      refine z_get (v := .int (gI q 805)) S hK inX8 7 (fun _ => rfl) rfl 5 (by decide) q1_176 rfl rfl dX2_decode_23 ?_
      refine z_iconst (v := 1) hx hb dX2_decode_26 (by decide) ?_
      refine z_icmp_ne (tgt := 59) hx hb dX2_decode_27 (by decide) (fun g27 => ?_) (fun g27 => ?_)
      · have hF := hF.trans (if_neg g27)
        have hok := And.right hok g27
        refine z_sub [0, 1, 3, 4] rfl ?_
        exact b59 q v3 v4 hok hF
      · have hF := hF.trans (if_pos g27)
        have hok := And.left hok g27
        refine z_iload (j := 4) hx hb dX2_decode_30 rfl ?_
        refine z_bipush (v := 16) hx hb dX2_decode_32 (by decide) ?_
        refine z_idiv hx hb dX2_decode_34 (by decide) ?_
        refine z_bipush (v := 15) hx hb dX2_decode_35 (by decide) ?_
        refine z_icmp_ne (tgt := 59) hx hb dX2_decode_37 (by decide) (fun g37 => ?_) (fun g37 => ?_)
        · have hF := hF.trans (if_neg g37)
          have hok := And.right hok g37
          refine z_sub [0, 1, 3, 4] rfl ?_
          exact b59 q v3 v4 hok hF
        · have hF := hF.trans (if_pos g37)
          have hok := And.left hok g37
          refine z_iload_n (j := 3) hx hb dX2_decode_40 rfl rfl ?_
          refine z_bipush (v := 64) hx hb dX2_decode_41 (by decide) ?_
          refine z_icmp_ge (tgt := 59) hx hb dX2_decode_43 (by decide) (fun g43 => ?_) (fun g43 => ?_)
          · have hF := hF.trans (if_pos g43)
            have hok := And.left hok g43
            refine z_sub [0, 1, 3, 4] rfl ?_
            exact b59 q v3 v4 hok hF
          · have hF := hF.trans (if_neg g43)
            have hok := And.right hok g43
            refine z_aload_n (j := 0) hx hb dX2_decode_46 rfl rfl ?_
            refine z_aload_n (j := 2) hx hb dX2_decode_47 rfl rfl ?_
            have h48 := And.left hok
            have hok := And.right hok
            refine z_callVi (As := [.ref (ad 17)]) S (ctX2_takeByte l hl D kc ad wad q h48) (cwV 1 S.2.2.2.2 (gV q5_131 q5_133 qp1_12 q1_10 q5_134) rfl rfl rfl hX2_takeByte ⟨Nat.le_of_ble_eq_true rfl, Nat.le_of_ble_eq_true rfl⟩) hA (pbX D kc) (psX hK hE) (z_recv hK 10 (fun _ => rfl) rfl) rfl rfl (Nat.le_of_ble_eq_true rfl) dX2_decode_48 ⟨Nat.le_of_ble_eq_true rfl, Nat.le_of_ble_eq_true rfl⟩ ?_
            refine z_sub [0, 1, 2, 3] rfl ?_
            exact b51 (fX2_decode_22 n) (kX2_decode_22 n) ih (fX2_takeByte q).2 v3 (fX2_takeByte q).1 hok hF
  have b20 : ∀ (q : SS) (v3 : Int32) (s0 : Int32), kX2_decode_20 q v3 s0 → F = fX2_decode_20 q v3 s0 → Z p l e (zr 1 0 0) s m args below meth c 0 0 (MQ below (va_Qv (fun (_ : Unit) => True) (fun _ t => (GX D kc ad wad) A F t.heap) A) args s 0 0 A) 8 A (ZG D vwCl (wX kc ad wad) (PLX wad) A) q 20 [(0, .ref (ad 10)), (1, .ref (ad 7)), (2, .ref (ad 17)), (3, .int v3)] [.int s0] := by
    intro q v3 s0 hok hF
    refine z_istore (lv' := [(4, .int s0), (0, .ref (ad 10)), (1, .ref (ad 7)), (2, .ref (ad 17)), (3, .int v3)]) hx hb dX2_decode_20 (by decide) rfl ?_
    refine z_sub [1, 2, 3, 4, 0] rfl ?_
    exact b22 70 q v3 s0 hok hF
  have b8 : ∀ (q : SS), kX2_decode_8 q → F = fX2_decode_8 q → Z p l e (zr 1 0 0) s m args below meth c 0 0 (MQ below (va_Qv (fun (_ : Unit) => True) (fun _ t => (GX D kc ad wad) A F t.heap) A) args s 0 0 A) 8 A (ZG D vwCl (wX kc ad wad) (PLX wad) A) q 8 [(0, .ref (ad 10)), (1, .ref (ad 7)), (2, .ref (ad 17))] [] := by
    intro q hok hF
    refine z_aload_n (j := 0) hx hb dX2_decode_8 rfl rfl ?_
    refine z_iconst (v := (-1)) hx hb dX2_decode_9 (by decide) ?_
    refine z_put (v := .int (-1)) (q' := (sI q 1105 (-1))) S hK inX2 tyX2 tyX2_ok nmX2 10 (fun _ => rfl) rfl 5 (by decide) q2_21 rfl rfl rfl rfl (Nat.le_of_ble_eq_true rfl) dX2_decode_10 (wXp1105 kc ad wad _ _) (fun _ h => h) ?_
    refine z_iconst (v := 0) hx hb dX2_decode_13 (by decide) ?_
    refine z_istore_n (lv' := [(3, .int 0), (0, .ref (ad 10)), (1, .ref (ad 7)), (2, .ref (ad 17))]) hx hb dX2_decode_14 rfl (by decide) rfl ?_
    refine z_aload_n (j := 1) hx hb dX2_decode_15 rfl rfl ?_
    refine z_aload_n (j := 3) hx hb dX2_decode_16 rfl rfl ?_
    have h17 := And.left hok
    have hok := And.right hok
    refine z_callVi (As := [.ref (ad 17)]) S (ctX2_takeByte l hl D kc ad wad (sI q 1105 (-1)) h17) (cwV 1 S.2.2.2.2 (gV q5_131 q5_133 qp1_12 q1_10 q5_134) rfl rfl rfl hX2_takeByte ⟨Nat.le_of_ble_eq_true rfl, Nat.le_of_ble_eq_true rfl⟩) hA (pbX D kc) (psX hK hE) (z_recv hK 10 (fun _ => rfl) rfl) rfl rfl (Nat.le_of_ble_eq_true rfl) dX2_decode_17 ⟨Nat.le_of_ble_eq_true rfl, Nat.le_of_ble_eq_true rfl⟩ ?_
    refine z_sub [1, 2, 3, 0] rfl ?_
    exact b20 (fX2_takeByte (sI q 1105 (-1))).2 0 (fX2_takeByte (sI q 1105 (-1))).1 hok hF
  refine z_aload_n (j := 0) hx hb dX2_decode_0 rfl rfl ?_
  refine z_get (v := .ref (ad 11)) S hK inX2 10 (fun _ => rfl) rfl 0 (by decide) q2_12 rfl rfl dX2_decode_1 ?_
  refine z_aload_n (j := 1) hx hb dX2_decode_4 rfl rfl ?_
  have h5 := And.left hok
  have hok := And.right hok
  refine z_callVv (As := [.ref (ad 7)]) S (ctX8_copyFrom_after_keptv l hl D kc ad wad q h5) (cwV 1 S.2.2.2.2 (gV q5_130 q2_176 q2_177 q1_7 q2_178) rfl rfl rfl hX8_copyFrom ⟨Nat.le_of_ble_eq_true rfl, Nat.le_of_ble_eq_true rfl⟩) hA (pbX D kc) (psX hK hE) (z_recv hK 11 (fun _ => rfl) rfl) rfl rfl (Nat.le_of_ble_eq_true rfl) dX2_decode_5 ⟨Nat.le_of_ble_eq_true rfl, Nat.le_of_ble_eq_true rfl⟩ ?_
  exact b8 (fX8_copyFrom_after_keptv q) hok hF
theorem hX2_decode : yX2_decode.cls = RX2 ∧ yX2_decode.cls ≠ "java/lang/invoke/MethodHandle" ∧ yX2_decode.cls ≠ "java/lang/invoke/VarHandle" ∧ (parseMethodDescriptor yX2_decode.desc).map (fun d => d.parameters.length) = some 2 := by decide +kernel
def fX2_carryOut_353 (q : SS) : SS := q
def kX2_carryOut_353 (q : SS) : Prop := True
def fX2_carryOut_120 (q : SS) : SS := fX2_carryOut_353 q
def kX2_carryOut_120 (q : SS) : Prop := kX2_carryOut_353 q
def fX2_carryOut_133 (q : SS) : SS := fX2_carryOut_353 q
def kX2_carryOut_133 (q : SS) : Prop := kX2_carryOut_353 q
def fX2_carryOut_146 (q : SS) : SS := fX2_carryOut_353 q
def kX2_carryOut_146 (q : SS) : Prop := kX2_carryOut_353 q
def fX2_carryOut_158 (q : SS) : SS := fX2_carryOut_353 q
def kX2_carryOut_158 (q : SS) : Prop := kX2_carryOut_353 q
def fX2_carryOut_168 (q : SS) (s0 : Int32) (s1 : Int32) : SS := fX2_carryOut_353 (sA q 27 (upd (gA q 27) (s1 : Int32).toNatClampNeg s0))
def kX2_carryOut_168 (q : SS) (s0 : Int32) (s1 : Int32) : Prop := vp_in s1 4 ∧ kX2_carryOut_353 (sA q 27 (upd (gA q 27) (s1 : Int32).toNatClampNeg s0))
def fX2_carryOut_229 (q : SS) : SS := fX2_carryOut_353 q
def kX2_carryOut_229 (q : SS) : Prop := kX2_carryOut_353 q
def fX2_carryOut_225 (q : SS) (s0 : Int32) : SS := fX2_carryOut_229 (fX2_jumpIf q s0)
def kX2_carryOut_225 (q : SS) (s0 : Int32) : Prop := kX2_jumpIf q s0 ∧ kX2_carryOut_229 (fX2_jumpIf q s0)
def fX2_carryOut_253 (q : SS) : SS := fX2_carryOut_353 q
def kX2_carryOut_253 (q : SS) : Prop := kX2_carryOut_353 q
def fX2_carryOut_249 (q : SS) (s0 : Int32) : SS := fX2_carryOut_253 (fX2_jumpIf q s0)
def kX2_carryOut_249 (q : SS) (s0 : Int32) : Prop := kX2_jumpIf q s0 ∧ kX2_carryOut_253 (fX2_jumpIf q s0)
def fX2_carryOut_262 (q : SS) : SS := fX2_carryOut_353 q
def kX2_carryOut_262 (q : SS) : Prop := kX2_carryOut_353 q
def fX2_carryOut_277 (q : SS) (v4 : Int32) : SS := fX2_carryOut_353 (sA q 27 (upd (gA q 27) (v4 : Int32).toNatClampNeg ((((gA q 27) (v4 : Int32).toNatClampNeg) + 1) &&& 255)))
def kX2_carryOut_277 (q : SS) (v4 : Int32) : Prop := vp_in v4 4 ∧ vp_in v4 4 ∧ kX2_carryOut_353 (sA q 27 (upd (gA q 27) (v4 : Int32).toNatClampNeg ((((gA q 27) (v4 : Int32).toNatClampNeg) + 1) &&& 255)))
def fX2_carryOut (q : SS) : SS := (if (gI q 1102) = 1 then fX2_carryOut_353 (sA q 27 (upd (gA q 27) (((gI q 1103) &&& 3) : Int32).toNatClampNeg ((gA q 27) (((gI q 1104) &&& 3) : Int32).toNatClampNeg))) else (if (gI q 1102) = 2 then fX2_carryOut_120 (fX2_combineInto q ((gI q 1103) &&& 3) 1 ((gA q 27) (((gI q 1104) &&& 3) : Int32).toNatClampNeg)) else (if (gI q 1102) = 3 then fX2_carryOut_133 (fX2_combineInto q ((gI q 1103) &&& 3) 2 ((gA q 27) (((gI q 1104) &&& 3) : Int32).toNatClampNeg)) else (if (gI q 1102) = 4 then fX2_carryOut_146 (fX2_combineInto q ((gI q 1103) &&& 3) 3 ((gA q 27) (((gI q 1104) &&& 3) : Int32).toNatClampNeg)) else (if (gI q 1102) = 5 then fX2_carryOut_158 (fX2_combineInto q ((gI q 1103) &&& 3) 5 ((gA q 27) (((gI q 1103) &&& 3) : Int32).toNatClampNeg)) else (if (gI q 1102) = 6 then fX2_carryOut_168 (fX2_takeByte q).2 (fX2_takeByte q).1 ((gI q 1103) &&& 3) else (if (gI q 1102) = 7 then fX2_carryOut_353 (sA q 27 (upd (gA q 27) (((gI q 1103) &&& 3) : Int32).toNatClampNeg ((gA q 17) ((((gA q 27) (((gI q 1104) &&& 3) : Int32).toNatClampNeg) &&& 63) : Int32).toNatClampNeg))) else (if (gI q 1102) = 8 then fX2_carryOut_353 (sI (sI q 1105 (((gA q 27) (((gI q 1104) &&& 3) : Int32).toNatClampNeg) &&& 63)) 1106 ((gA q 27) (((gI q 1103) &&& 3) : Int32).toNatClampNeg)) else (if (gI q 1102) = 9 then (if (gI q 1203) = 1 then fX2_carryOut_225 q 1 else fX2_carryOut_225 q 0) else (if (gI q 1102) = 10 then (if (gI q 1204) = 1 then fX2_carryOut_249 q 1 else fX2_carryOut_249 q 0) else (if (gI q 1102) = 11 then fX2_carryOut_262 (fX2_jumpIf q 1) else (if (gI q 1102) = 12 then fX2_carryOut_277 (sA q 27 (upd (gA q 27) (((gI q 1103) &&& 3) : Int32).toNatClampNeg ((gA q 17) ((((gA q 27) (((gI q 1104) &&& 3) : Int32).toNatClampNeg) &&& 63) : Int32).toNatClampNeg))) ((gI q 1104) &&& 3) else (if (gI q 1102) = 13 then fX2_carryOut_353 (sI q 1205 (1 - (gI q 1205))) else (if (gI q 1102) = 14 then fX2_carryOut_353 (sI (sI q 1201 (gI q 1202)) 1206 1) else (if (gI q 1102) = 15 then fX2_carryOut_353 (sI q 1206 (((gA q 27) (((gI q 1103) &&& 3) : Int32).toNatClampNeg) &&& 1)) else fX2_carryOut_353 q)))))))))))))))
def kX2_carryOut (q : SS) : Prop := (((gI q 1102) = 1 → vp_in ((gI q 1104) &&& 3) 4 ∧ vp_in ((gI q 1103) &&& 3) 4 ∧ kX2_carryOut_353 (sA q 27 (upd (gA q 27) (((gI q 1103) &&& 3) : Int32).toNatClampNeg ((gA q 27) (((gI q 1104) &&& 3) : Int32).toNatClampNeg)))) ∧ (¬ (gI q 1102) = 1 → (((gI q 1102) = 2 → vp_in ((gI q 1104) &&& 3) 4 ∧ kX2_combineInto q ((gI q 1103) &&& 3) 1 ((gA q 27) (((gI q 1104) &&& 3) : Int32).toNatClampNeg) ∧ kX2_carryOut_120 (fX2_combineInto q ((gI q 1103) &&& 3) 1 ((gA q 27) (((gI q 1104) &&& 3) : Int32).toNatClampNeg))) ∧ (¬ (gI q 1102) = 2 → (((gI q 1102) = 3 → vp_in ((gI q 1104) &&& 3) 4 ∧ kX2_combineInto q ((gI q 1103) &&& 3) 2 ((gA q 27) (((gI q 1104) &&& 3) : Int32).toNatClampNeg) ∧ kX2_carryOut_133 (fX2_combineInto q ((gI q 1103) &&& 3) 2 ((gA q 27) (((gI q 1104) &&& 3) : Int32).toNatClampNeg))) ∧ (¬ (gI q 1102) = 3 → (((gI q 1102) = 4 → vp_in ((gI q 1104) &&& 3) 4 ∧ kX2_combineInto q ((gI q 1103) &&& 3) 3 ((gA q 27) (((gI q 1104) &&& 3) : Int32).toNatClampNeg) ∧ kX2_carryOut_146 (fX2_combineInto q ((gI q 1103) &&& 3) 3 ((gA q 27) (((gI q 1104) &&& 3) : Int32).toNatClampNeg))) ∧ (¬ (gI q 1102) = 4 → (((gI q 1102) = 5 → vp_in ((gI q 1103) &&& 3) 4 ∧ kX2_combineInto q ((gI q 1103) &&& 3) 5 ((gA q 27) (((gI q 1103) &&& 3) : Int32).toNatClampNeg) ∧ kX2_carryOut_158 (fX2_combineInto q ((gI q 1103) &&& 3) 5 ((gA q 27) (((gI q 1103) &&& 3) : Int32).toNatClampNeg))) ∧ (¬ (gI q 1102) = 5 → (((gI q 1102) = 6 → kX2_takeByte q ∧ kX2_carryOut_168 (fX2_takeByte q).2 (fX2_takeByte q).1 ((gI q 1103) &&& 3)) ∧ (¬ (gI q 1102) = 6 → (((gI q 1102) = 7 → vp_in ((gI q 1104) &&& 3) 4 ∧ vp_in (((gA q 27) (((gI q 1104) &&& 3) : Int32).toNatClampNeg) &&& 63) 64 ∧ vp_in ((gI q 1103) &&& 3) 4 ∧ kX2_carryOut_353 (sA q 27 (upd (gA q 27) (((gI q 1103) &&& 3) : Int32).toNatClampNeg ((gA q 17) ((((gA q 27) (((gI q 1104) &&& 3) : Int32).toNatClampNeg) &&& 63) : Int32).toNatClampNeg)))) ∧ (¬ (gI q 1102) = 7 → (((gI q 1102) = 8 → vp_in ((gI q 1104) &&& 3) 4 ∧ vp_in ((gI q 1103) &&& 3) 4 ∧ kX2_carryOut_353 (sI (sI q 1105 (((gA q 27) (((gI q 1104) &&& 3) : Int32).toNatClampNeg) &&& 63)) 1106 ((gA q 27) (((gI q 1103) &&& 3) : Int32).toNatClampNeg))) ∧ (¬ (gI q 1102) = 8 → (((gI q 1102) = 9 → (((gI q 1203) = 1 → kX2_carryOut_225 q 1) ∧ (¬ (gI q 1203) = 1 → kX2_carryOut_225 q 0))) ∧ (¬ (gI q 1102) = 9 → (((gI q 1102) = 10 → (((gI q 1204) = 1 → kX2_carryOut_249 q 1) ∧ (¬ (gI q 1204) = 1 → kX2_carryOut_249 q 0))) ∧ (¬ (gI q 1102) = 10 → (((gI q 1102) = 11 → kX2_jumpIf q 1 ∧ kX2_carryOut_262 (fX2_jumpIf q 1)) ∧ (¬ (gI q 1102) = 11 → (((gI q 1102) = 12 → vp_in ((gI q 1104) &&& 3) 4 ∧ vp_in (((gA q 27) (((gI q 1104) &&& 3) : Int32).toNatClampNeg) &&& 63) 64 ∧ vp_in ((gI q 1103) &&& 3) 4 ∧ kX2_carryOut_277 (sA q 27 (upd (gA q 27) (((gI q 1103) &&& 3) : Int32).toNatClampNeg ((gA q 17) ((((gA q 27) (((gI q 1104) &&& 3) : Int32).toNatClampNeg) &&& 63) : Int32).toNatClampNeg))) ((gI q 1104) &&& 3)) ∧ (¬ (gI q 1102) = 12 → (((gI q 1102) = 13 → kX2_carryOut_353 (sI q 1205 (1 - (gI q 1205)))) ∧ (¬ (gI q 1102) = 13 → (((gI q 1102) = 14 → kX2_carryOut_353 (sI (sI q 1201 (gI q 1202)) 1206 1)) ∧ (¬ (gI q 1102) = 14 → (((gI q 1102) = 15 → vp_in ((gI q 1103) &&& 3) 4 ∧ kX2_carryOut_353 (sI q 1206 (((gA q 27) (((gI q 1103) &&& 3) : Int32).toNatClampNeg) &&& 1))) ∧ (¬ (gI q 1102) = 15 → kX2_carryOut_353 q))))))))))))))))))))))))))))))
set_option maxHeartbeats 4000000 in
set_option maxRecDepth 100000 in
theorem ctX2_carryOut (l : Launch) (hl : l.stackTraces = false) (D : va_G) (kc : Nat → ClassId) (ad wad : Nat → Nat) (q : SS) (hok : kX2_carryOut q) : Cv l yX2_carryOut (Cond.code yX2_carryOut cX2_carryOut 5 none :: lw_G) (zr 2 0 0) 0 0 (PX D kc) (GX D kc ad wad) (GX D kc ad wad) [.ref (ad 10), .ref (ad 17)] q (fX2_carryOut q) := by
  refine Cv.of (cc := cX2_carryOut) (maxL := 5) (ret := none) (by decide) rfl (Nat.le_of_ble_eq_true rfl) ?_
  intro p e s m args below meth c A S hr hlocks hin hA hK
  have hx := S.1
  have hb := S.2.1
  have hE : EV A s s.heap := hK.2
  have hK : va_K D vwCl (tysK kc) s := hK.1
  generalize hFe : fX2_carryOut q = F
  have hF : F = fX2_carryOut q := hFe.symm
  have b353 : ∀ (q : SS), kX2_carryOut_353 q → F = fX2_carryOut_353 q → Z p l e (zr 2 0 0) s m args below meth c 0 0 (MQ below (va_Qv (fun (_ : Unit) => True) (fun _ t => (GX D kc ad wad) A F t.heap) A) args s 0 0 A) 5 A (ZG D vwCl (wX kc ad wad) (PLX wad) A) q 353 [] [] := by
    intro q hok hF
    exact z_vret hx hb hlocks hr hF dX2_carryOut_353
  have b120 : ∀ (q : SS), kX2_carryOut_120 q → F = fX2_carryOut_120 q → Z p l e (zr 2 0 0) s m args below meth c 0 0 (MQ below (va_Qv (fun (_ : Unit) => True) (fun _ t => (GX D kc ad wad) A F t.heap) A) args s 0 0 A) 5 A (ZG D vwCl (wX kc ad wad) (PLX wad) A) q 120 [] [] := by
    intro q hok hF
    refine z_goto (tgt := 353) hx hb dX2_carryOut_120 (by decide) ?_
    exact b353 q hok hF
  have b133 : ∀ (q : SS), kX2_carryOut_133 q → F = fX2_carryOut_133 q → Z p l e (zr 2 0 0) s m args below meth c 0 0 (MQ below (va_Qv (fun (_ : Unit) => True) (fun _ t => (GX D kc ad wad) A F t.heap) A) args s 0 0 A) 5 A (ZG D vwCl (wX kc ad wad) (PLX wad) A) q 133 [] [] := by
    intro q hok hF
    refine z_goto (tgt := 353) hx hb dX2_carryOut_133 (by decide) ?_
    exact b353 q hok hF
  have b146 : ∀ (q : SS), kX2_carryOut_146 q → F = fX2_carryOut_146 q → Z p l e (zr 2 0 0) s m args below meth c 0 0 (MQ below (va_Qv (fun (_ : Unit) => True) (fun _ t => (GX D kc ad wad) A F t.heap) A) args s 0 0 A) 5 A (ZG D vwCl (wX kc ad wad) (PLX wad) A) q 146 [] [] := by
    intro q hok hF
    refine z_goto (tgt := 353) hx hb dX2_carryOut_146 (by decide) ?_
    exact b353 q hok hF
  have b158 : ∀ (q : SS), kX2_carryOut_158 q → F = fX2_carryOut_158 q → Z p l e (zr 2 0 0) s m args below meth c 0 0 (MQ below (va_Qv (fun (_ : Unit) => True) (fun _ t => (GX D kc ad wad) A F t.heap) A) args s 0 0 A) 5 A (ZG D vwCl (wX kc ad wad) (PLX wad) A) q 158 [] [] := by
    intro q hok hF
    refine z_goto (tgt := 353) hx hb dX2_carryOut_158 (by decide) ?_
    exact b353 q hok hF
  have b168 : ∀ (q : SS) (s0 : Int32) (s1 : Int32), kX2_carryOut_168 q s0 s1 → F = fX2_carryOut_168 q s0 s1 → Z p l e (zr 2 0 0) s m args below meth c 0 0 (MQ below (va_Qv (fun (_ : Unit) => True) (fun _ t => (GX D kc ad wad) A F t.heap) A) args s 0 0 A) 5 A (ZG D vwCl (wX kc ad wad) (PLX wad) A) q 168 [] [.int s0, .int s1, .ref (ad 27)] := by
    intro q s0 s1 hok hF
    have h168 := And.left hok
    have hok := And.right hok
    refine z_iast (f := (gA q 27)) (q' := (sA q 27 (upd (gA q 27) (s1 : Int32).toNatClampNeg s0))) S hK 27 0 (fun _ => rfl) rfl h168 dX2_carryOut_168 (wXa27 kc ad wad _ _) (fun _ h => h) ?_
    refine z_goto (tgt := 353) hx hb dX2_carryOut_169 (by decide) ?_
    exact b353 (sA q 27 (upd (gA q 27) (s1 : Int32).toNatClampNeg s0)) hok hF
  have b229 : ∀ (q : SS), kX2_carryOut_229 q → F = fX2_carryOut_229 q → Z p l e (zr 2 0 0) s m args below meth c 0 0 (MQ below (va_Qv (fun (_ : Unit) => True) (fun _ t => (GX D kc ad wad) A F t.heap) A) args s 0 0 A) 5 A (ZG D vwCl (wX kc ad wad) (PLX wad) A) q 229 [] [] := by
    intro q hok hF
    refine z_goto (tgt := 353) hx hb dX2_carryOut_229 (by decide) ?_
    exact b353 q hok hF
  have b225 : ∀ (q : SS) (s0 : Int32), kX2_carryOut_225 q s0 → F = fX2_carryOut_225 q s0 → Z p l e (zr 2 0 0) s m args below meth c 0 0 (MQ below (va_Qv (fun (_ : Unit) => True) (fun _ t => (GX D kc ad wad) A F t.heap) A) args s 0 0 A) 5 A (ZG D vwCl (wX kc ad wad) (PLX wad) A) q 225 [(1, .ref (ad 17))] [.int s0, .ref (ad 10)] := by
    intro q s0 hok hF
    refine z_aload_n (j := 0) hx hb dX2_carryOut_225 rfl rfl ?_
    have h226 := And.left hok
    have hok := And.right hok
    refine z_callVv (As := [.int s0, .ref (ad 17)]) S (ctX2_jumpIf l hl D kc ad wad q s0 h226) (cwV 2 S.2.2.2.2 (gV q5_146 q5_148 qp1_14 q1_10 q5_149) rfl rfl rfl hX2_jumpIf ⟨Nat.le_of_ble_eq_true rfl, Nat.le_of_ble_eq_true rfl⟩) hA (pbX D kc) (psX hK hE) (z_recv hK 10 (fun _ => rfl) rfl) rfl rfl (Nat.le_of_ble_eq_true rfl) dX2_carryOut_226 ⟨Nat.le_of_ble_eq_true rfl, Nat.le_of_ble_eq_true rfl⟩ ?_
    refine z_sub [] rfl ?_
    exact b229 (fX2_jumpIf q s0) hok hF
  have b253 : ∀ (q : SS), kX2_carryOut_253 q → F = fX2_carryOut_253 q → Z p l e (zr 2 0 0) s m args below meth c 0 0 (MQ below (va_Qv (fun (_ : Unit) => True) (fun _ t => (GX D kc ad wad) A F t.heap) A) args s 0 0 A) 5 A (ZG D vwCl (wX kc ad wad) (PLX wad) A) q 253 [] [] := by
    intro q hok hF
    refine z_goto (tgt := 353) hx hb dX2_carryOut_253 (by decide) ?_
    exact b353 q hok hF
  have b249 : ∀ (q : SS) (s0 : Int32), kX2_carryOut_249 q s0 → F = fX2_carryOut_249 q s0 → Z p l e (zr 2 0 0) s m args below meth c 0 0 (MQ below (va_Qv (fun (_ : Unit) => True) (fun _ t => (GX D kc ad wad) A F t.heap) A) args s 0 0 A) 5 A (ZG D vwCl (wX kc ad wad) (PLX wad) A) q 249 [(1, .ref (ad 17))] [.int s0, .ref (ad 10)] := by
    intro q s0 hok hF
    refine z_aload_n (j := 0) hx hb dX2_carryOut_249 rfl rfl ?_
    have h250 := And.left hok
    have hok := And.right hok
    refine z_callVv (As := [.int s0, .ref (ad 17)]) S (ctX2_jumpIf l hl D kc ad wad q s0 h250) (cwV 2 S.2.2.2.2 (gV q5_146 q5_148 qp1_14 q1_10 q5_149) rfl rfl rfl hX2_jumpIf ⟨Nat.le_of_ble_eq_true rfl, Nat.le_of_ble_eq_true rfl⟩) hA (pbX D kc) (psX hK hE) (z_recv hK 10 (fun _ => rfl) rfl) rfl rfl (Nat.le_of_ble_eq_true rfl) dX2_carryOut_250 ⟨Nat.le_of_ble_eq_true rfl, Nat.le_of_ble_eq_true rfl⟩ ?_
    refine z_sub [] rfl ?_
    exact b253 (fX2_jumpIf q s0) hok hF
  have b262 : ∀ (q : SS), kX2_carryOut_262 q → F = fX2_carryOut_262 q → Z p l e (zr 2 0 0) s m args below meth c 0 0 (MQ below (va_Qv (fun (_ : Unit) => True) (fun _ t => (GX D kc ad wad) A F t.heap) A) args s 0 0 A) 5 A (ZG D vwCl (wX kc ad wad) (PLX wad) A) q 262 [] [] := by
    intro q hok hF
    refine z_goto (tgt := 353) hx hb dX2_carryOut_262 (by decide) ?_
    exact b353 q hok hF
  have b277 : ∀ (q : SS) (v4 : Int32), kX2_carryOut_277 q v4 → F = fX2_carryOut_277 q v4 → Z p l e (zr 2 0 0) s m args below meth c 0 0 (MQ below (va_Qv (fun (_ : Unit) => True) (fun _ t => (GX D kc ad wad) A F t.heap) A) args s 0 0 A) 5 A (ZG D vwCl (wX kc ad wad) (PLX wad) A) q 277 [(2, .ref (ad 27)), (4, .int v4)] [] := by
    intro q v4 hok hF
    refine z_aload_n (j := 0) hx hb dX2_carryOut_277 rfl rfl ?_
    refine z_iload (j := 1) hx hb dX2_carryOut_278 rfl ?_
    refine z_aload_n (j := 0) hx hb dX2_carryOut_280 rfl rfl ?_
    refine z_iload (j := 1) hx hb dX2_carryOut_281 rfl ?_
    have h283 := And.left hok
    have hok := And.right hok
    refine z_iald (f := (gA q 27)) S hK 27 0 (fun _ => rfl) rfl h283 dX2_carryOut_283 ?_
    refine z_iconst (v := 1) hx hb dX2_carryOut_284 (by decide) ?_
    refine z_iadd hx hb dX2_carryOut_285 ?_
    refine z_sipush (v := 255) hx hb dX2_carryOut_286 (by decide) ?_
    refine z_iand hx hb dX2_carryOut_289 ?_
    have h290 := And.left hok
    have hok := And.right hok
    refine z_iast (f := (gA q 27)) (q' := (sA q 27 (upd (gA q 27) (v4 : Int32).toNatClampNeg ((((gA q 27) (v4 : Int32).toNatClampNeg) + 1) &&& 255)))) S hK 27 0 (fun _ => rfl) rfl h290 dX2_carryOut_290 (wXa27 kc ad wad _ _) (fun _ h => h) ?_
    refine z_goto (tgt := 353) hx hb dX2_carryOut_291 (by decide) ?_
    refine z_sub [] rfl ?_
    exact b353 (sA q 27 (upd (gA q 27) (v4 : Int32).toNatClampNeg ((((gA q 27) (v4 : Int32).toNatClampNeg) + 1) &&& 255))) hok hF
  refine z_aload_n (j := 0) hx hb dX2_carryOut_0 rfl rfl ?_
  refine z_get (v := .ref (ad 11)) S hK inX2 10 (fun _ => rfl) rfl 0 (by decide) q2_12 rfl rfl dX2_carryOut_1 ?_
  refine z_get (v := .ref (ad 27)) S hK inX8 11 (fun _ => rfl) rfl 0 (by decide) q1_162 rfl rfl dX2_carryOut_4 ?_
  refine z_astore_n (lv' := [(2, .ref (ad 27)), (0, .ref (ad 10)), (1, .ref (ad 17))]) hx hb dX2_carryOut_7 rfl (by decide) rfl ?_
  refine z_aload_n (j := 1) hx hb dX2_carryOut_8 rfl rfl ?_
  refine z_get (v := .int (gI q 1103)) S hK inX2 10 (fun _ => rfl) rfl 3 (by decide) q2_19 rfl rfl dX2_carryOut_9 ?_
  refine z_iconst (v := 3) hx hb dX2_carryOut_12 (by decide) ?_
  refine z_iand hx hb dX2_carryOut_13 ?_
  refine z_istore_n (lv' := [(3, .int ((gI q 1103) &&& 3)), (2, .ref (ad 27)), (0, .ref (ad 10)), (1, .ref (ad 17))]) hx hb dX2_carryOut_14 rfl (by decide) rfl ?_
  refine z_aload_n (j := 2) hx hb dX2_carryOut_15 rfl rfl ?_
  refine z_get (v := .int (gI q 1104)) S hK inX2 10 (fun _ => rfl) rfl 4 (by decide) q2_20 rfl rfl dX2_carryOut_16 ?_
  refine z_iconst (v := 3) hx hb dX2_carryOut_19 (by decide) ?_
  refine z_iand hx hb dX2_carryOut_20 ?_
  refine z_istore (lv' := [(4, .int ((gI q 1104) &&& 3)), (3, .int ((gI q 1103) &&& 3)), (2, .ref (ad 27)), (0, .ref (ad 10)), (1, .ref (ad 17))]) hx hb dX2_carryOut_21 (by decide) rfl ?_
  refine z_aload_n (j := 3) hx hb dX2_carryOut_23 rfl rfl ?_
  refine z_get (v := .int (gI q 1102)) S hK inX2 10 (fun _ => rfl) rfl 2 (by decide) q2_18 rfl rfl dX2_carryOut_24 ?_
  by_cases g27_1 : (gI q 1102) = 1
  · have hF := hF.trans (if_pos g27_1)
    have hok := And.left hok g27_1
    refine z_tableIn (off := 73) (tgt := 100) hx hb dX2_carryOut_27 (by rw [g27_1]; decide) (by rw [g27_1]; decide) (by rw [g27_1]; rfl) (by decide) ?_
    refine z_aload_n (j := 2) hx hb dX2_carryOut_100 rfl rfl ?_
    refine z_iload_n (j := 1) hx hb dX2_carryOut_101 rfl rfl ?_
    refine z_aload_n (j := 2) hx hb dX2_carryOut_102 rfl rfl ?_
    refine z_iload (j := 0) hx hb dX2_carryOut_103 rfl ?_
    have h105 := And.left hok
    have hok := And.right hok
    refine z_iald (f := (gA q 27)) S hK 27 0 (fun _ => rfl) rfl h105 dX2_carryOut_105 ?_
    have h106 := And.left hok
    have hok := And.right hok
    refine z_iast (f := (gA q 27)) (q' := (sA q 27 (upd (gA q 27) (((gI q 1103) &&& 3) : Int32).toNatClampNeg ((gA q 27) (((gI q 1104) &&& 3) : Int32).toNatClampNeg)))) S hK 27 0 (fun _ => rfl) rfl h106 dX2_carryOut_106 (wXa27 kc ad wad _ _) (fun _ h => h) ?_
    refine z_goto (tgt := 353) hx hb dX2_carryOut_107 (by decide) ?_
    refine z_sub [] rfl ?_
    exact b353 (sA q 27 (upd (gA q 27) (((gI q 1103) &&& 3) : Int32).toNatClampNeg ((gA q 27) (((gI q 1104) &&& 3) : Int32).toNatClampNeg))) hok hF
  have hF := hF.trans (if_neg g27_1)
  have hok := And.right hok g27_1
  by_cases g27_2 : (gI q 1102) = 2
  · have hF := hF.trans (if_pos g27_2)
    have hok := And.left hok g27_2
    refine z_tableIn (off := 83) (tgt := 110) hx hb dX2_carryOut_27 (by rw [g27_2]; decide) (by rw [g27_2]; decide) (by rw [g27_2]; rfl) (by decide) ?_
    refine z_aload_n (j := 3) hx hb dX2_carryOut_110 rfl rfl ?_
    refine z_iload_n (j := 1) hx hb dX2_carryOut_111 rfl rfl ?_
    refine z_iconst (v := 1) hx hb dX2_carryOut_112 (by decide) ?_
    refine z_aload_n (j := 2) hx hb dX2_carryOut_113 rfl rfl ?_
    refine z_iload (j := 0) hx hb dX2_carryOut_114 rfl ?_
    have h116 := And.left hok
    have hok := And.right hok
    refine z_iald (f := (gA q 27)) S hK 27 0 (fun _ => rfl) rfl h116 dX2_carryOut_116 ?_
    have h117 := And.left hok
    have hok := And.right hok
    refine z_callVv (As := [.int ((gI q 1103) &&& 3), .int 1, .int ((gA q 27) (((gI q 1104) &&& 3) : Int32).toNatClampNeg)]) S (ctX2_combineInto l hl D kc ad wad q ((gI q 1103) &&& 3) 1 ((gA q 27) (((gI q 1104) &&& 3) : Int32).toNatClampNeg) h117) (cwV 3 S.2.2.2.2 (gV q5_139 q5_141 qp1_13 q1_10 q5_142) rfl rfl rfl hX2_combineInto ⟨Nat.le_of_ble_eq_true rfl, Nat.le_of_ble_eq_true rfl⟩) hA (pbX D kc) (psX hK hE) (z_recv hK 10 (fun _ => rfl) rfl) rfl rfl (Nat.le_of_ble_eq_true rfl) dX2_carryOut_117 ⟨Nat.le_of_ble_eq_true rfl, Nat.le_of_ble_eq_true rfl⟩ ?_
    refine z_sub [] rfl ?_
    exact b120 (fX2_combineInto q ((gI q 1103) &&& 3) 1 ((gA q 27) (((gI q 1104) &&& 3) : Int32).toNatClampNeg)) hok hF
  have hF := hF.trans (if_neg g27_2)
  have hok := And.right hok g27_2
  by_cases g27_3 : (gI q 1102) = 3
  · have hF := hF.trans (if_pos g27_3)
    have hok := And.left hok g27_3
    refine z_tableIn (off := 96) (tgt := 123) hx hb dX2_carryOut_27 (by rw [g27_3]; decide) (by rw [g27_3]; decide) (by rw [g27_3]; rfl) (by decide) ?_
    refine z_aload_n (j := 3) hx hb dX2_carryOut_123 rfl rfl ?_
    refine z_iload_n (j := 1) hx hb dX2_carryOut_124 rfl rfl ?_
    refine z_iconst (v := 2) hx hb dX2_carryOut_125 (by decide) ?_
    refine z_aload_n (j := 2) hx hb dX2_carryOut_126 rfl rfl ?_
    refine z_iload (j := 0) hx hb dX2_carryOut_127 rfl ?_
    have h129 := And.left hok
    have hok := And.right hok
    refine z_iald (f := (gA q 27)) S hK 27 0 (fun _ => rfl) rfl h129 dX2_carryOut_129 ?_
    have h130 := And.left hok
    have hok := And.right hok
    refine z_callVv (As := [.int ((gI q 1103) &&& 3), .int 2, .int ((gA q 27) (((gI q 1104) &&& 3) : Int32).toNatClampNeg)]) S (ctX2_combineInto l hl D kc ad wad q ((gI q 1103) &&& 3) 2 ((gA q 27) (((gI q 1104) &&& 3) : Int32).toNatClampNeg) h130) (cwV 3 S.2.2.2.2 (gV q5_139 q5_141 qp1_13 q1_10 q5_142) rfl rfl rfl hX2_combineInto ⟨Nat.le_of_ble_eq_true rfl, Nat.le_of_ble_eq_true rfl⟩) hA (pbX D kc) (psX hK hE) (z_recv hK 10 (fun _ => rfl) rfl) rfl rfl (Nat.le_of_ble_eq_true rfl) dX2_carryOut_130 ⟨Nat.le_of_ble_eq_true rfl, Nat.le_of_ble_eq_true rfl⟩ ?_
    refine z_sub [] rfl ?_
    exact b133 (fX2_combineInto q ((gI q 1103) &&& 3) 2 ((gA q 27) (((gI q 1104) &&& 3) : Int32).toNatClampNeg)) hok hF
  have hF := hF.trans (if_neg g27_3)
  have hok := And.right hok g27_3
  by_cases g27_4 : (gI q 1102) = 4
  · have hF := hF.trans (if_pos g27_4)
    have hok := And.left hok g27_4
    refine z_tableIn (off := 109) (tgt := 136) hx hb dX2_carryOut_27 (by rw [g27_4]; decide) (by rw [g27_4]; decide) (by rw [g27_4]; rfl) (by decide) ?_
    refine z_aload_n (j := 3) hx hb dX2_carryOut_136 rfl rfl ?_
    refine z_iload_n (j := 1) hx hb dX2_carryOut_137 rfl rfl ?_
    refine z_iconst (v := 3) hx hb dX2_carryOut_138 (by decide) ?_
    refine z_aload_n (j := 2) hx hb dX2_carryOut_139 rfl rfl ?_
    refine z_iload (j := 0) hx hb dX2_carryOut_140 rfl ?_
    have h142 := And.left hok
    have hok := And.right hok
    refine z_iald (f := (gA q 27)) S hK 27 0 (fun _ => rfl) rfl h142 dX2_carryOut_142 ?_
    have h143 := And.left hok
    have hok := And.right hok
    refine z_callVv (As := [.int ((gI q 1103) &&& 3), .int 3, .int ((gA q 27) (((gI q 1104) &&& 3) : Int32).toNatClampNeg)]) S (ctX2_combineInto l hl D kc ad wad q ((gI q 1103) &&& 3) 3 ((gA q 27) (((gI q 1104) &&& 3) : Int32).toNatClampNeg) h143) (cwV 3 S.2.2.2.2 (gV q5_139 q5_141 qp1_13 q1_10 q5_142) rfl rfl rfl hX2_combineInto ⟨Nat.le_of_ble_eq_true rfl, Nat.le_of_ble_eq_true rfl⟩) hA (pbX D kc) (psX hK hE) (z_recv hK 10 (fun _ => rfl) rfl) rfl rfl (Nat.le_of_ble_eq_true rfl) dX2_carryOut_143 ⟨Nat.le_of_ble_eq_true rfl, Nat.le_of_ble_eq_true rfl⟩ ?_
    refine z_sub [] rfl ?_
    exact b146 (fX2_combineInto q ((gI q 1103) &&& 3) 3 ((gA q 27) (((gI q 1104) &&& 3) : Int32).toNatClampNeg)) hok hF
  have hF := hF.trans (if_neg g27_4)
  have hok := And.right hok g27_4
  by_cases g27_5 : (gI q 1102) = 5
  · have hF := hF.trans (if_pos g27_5)
    have hok := And.left hok g27_5
    refine z_tableIn (off := 122) (tgt := 149) hx hb dX2_carryOut_27 (by rw [g27_5]; decide) (by rw [g27_5]; decide) (by rw [g27_5]; rfl) (by decide) ?_
    refine z_aload_n (j := 3) hx hb dX2_carryOut_149 rfl rfl ?_
    refine z_iload_n (j := 1) hx hb dX2_carryOut_150 rfl rfl ?_
    refine z_iconst (v := 5) hx hb dX2_carryOut_151 (by decide) ?_
    refine z_aload_n (j := 2) hx hb dX2_carryOut_152 rfl rfl ?_
    refine z_iload_n (j := 1) hx hb dX2_carryOut_153 rfl rfl ?_
    have h154 := And.left hok
    have hok := And.right hok
    refine z_iald (f := (gA q 27)) S hK 27 0 (fun _ => rfl) rfl h154 dX2_carryOut_154 ?_
    have h155 := And.left hok
    have hok := And.right hok
    refine z_callVv (As := [.int ((gI q 1103) &&& 3), .int 5, .int ((gA q 27) (((gI q 1103) &&& 3) : Int32).toNatClampNeg)]) S (ctX2_combineInto l hl D kc ad wad q ((gI q 1103) &&& 3) 5 ((gA q 27) (((gI q 1103) &&& 3) : Int32).toNatClampNeg) h155) (cwV 3 S.2.2.2.2 (gV q5_139 q5_141 qp1_13 q1_10 q5_142) rfl rfl rfl hX2_combineInto ⟨Nat.le_of_ble_eq_true rfl, Nat.le_of_ble_eq_true rfl⟩) hA (pbX D kc) (psX hK hE) (z_recv hK 10 (fun _ => rfl) rfl) rfl rfl (Nat.le_of_ble_eq_true rfl) dX2_carryOut_155 ⟨Nat.le_of_ble_eq_true rfl, Nat.le_of_ble_eq_true rfl⟩ ?_
    refine z_sub [] rfl ?_
    exact b158 (fX2_combineInto q ((gI q 1103) &&& 3) 5 ((gA q 27) (((gI q 1103) &&& 3) : Int32).toNatClampNeg)) hok hF
  have hF := hF.trans (if_neg g27_5)
  have hok := And.right hok g27_5
  by_cases g27_6 : (gI q 1102) = 6
  · have hF := hF.trans (if_pos g27_6)
    have hok := And.left hok g27_6
    refine z_tableIn (off := 134) (tgt := 161) hx hb dX2_carryOut_27 (by rw [g27_6]; decide) (by rw [g27_6]; decide) (by rw [g27_6]; rfl) (by decide) ?_
    refine z_aload_n (j := 2) hx hb dX2_carryOut_161 rfl rfl ?_
    refine z_iload_n (j := 1) hx hb dX2_carryOut_162 rfl rfl ?_
    refine z_aload_n (j := 3) hx hb dX2_carryOut_163 rfl rfl ?_
    refine z_aload_n (j := 4) hx hb dX2_carryOut_164 rfl rfl ?_
    have h165 := And.left hok
    have hok := And.right hok
    refine z_callVi (As := [.ref (ad 17)]) S (ctX2_takeByte l hl D kc ad wad q h165) (cwV 1 S.2.2.2.2 (gV q5_131 q5_133 qp1_12 q1_10 q5_134) rfl rfl rfl hX2_takeByte ⟨Nat.le_of_ble_eq_true rfl, Nat.le_of_ble_eq_true rfl⟩) hA (pbX D kc) (psX hK hE) (z_recv hK 10 (fun _ => rfl) rfl) rfl rfl (Nat.le_of_ble_eq_true rfl) dX2_carryOut_165 ⟨Nat.le_of_ble_eq_true rfl, Nat.le_of_ble_eq_true rfl⟩ ?_
    refine z_sub [] rfl ?_
    exact b168 (fX2_takeByte q).2 (fX2_takeByte q).1 ((gI q 1103) &&& 3) hok hF
  have hF := hF.trans (if_neg g27_6)
  have hok := And.right hok g27_6
  by_cases g27_7 : (gI q 1102) = 7
  · have hF := hF.trans (if_pos g27_7)
    have hok := And.left hok g27_7
    refine z_tableIn (off := 145) (tgt := 172) hx hb dX2_carryOut_27 (by rw [g27_7]; decide) (by rw [g27_7]; decide) (by rw [g27_7]; rfl) (by decide) ?_
    refine z_aload_n (j := 2) hx hb dX2_carryOut_172 rfl rfl ?_
    refine z_iload_n (j := 1) hx hb dX2_carryOut_173 rfl rfl ?_
    refine z_aload_n (j := 4) hx hb dX2_carryOut_174 rfl rfl ?_
    refine z_aload_n (j := 2) hx hb dX2_carryOut_175 rfl rfl ?_
    refine z_iload (j := 0) hx hb dX2_carryOut_176 rfl ?_
    have h178 := And.left hok
    have hok := And.right hok
    refine z_iald (f := (gA q 27)) S hK 27 0 (fun _ => rfl) rfl h178 dX2_carryOut_178 ?_
    refine z_bipush (v := 63) hx hb dX2_carryOut_179 (by decide) ?_
    refine z_iand hx hb dX2_carryOut_181 ?_
    have h182 := And.left hok
    have hok := And.right hok
    refine z_iald (f := (gA q 17)) S hK 17 0 (fun _ => rfl) rfl h182 dX2_carryOut_182 ?_
    have h183 := And.left hok
    have hok := And.right hok
    refine z_iast (f := (gA q 27)) (q' := (sA q 27 (upd (gA q 27) (((gI q 1103) &&& 3) : Int32).toNatClampNeg ((gA q 17) ((((gA q 27) (((gI q 1104) &&& 3) : Int32).toNatClampNeg) &&& 63) : Int32).toNatClampNeg)))) S hK 27 0 (fun _ => rfl) rfl h183 dX2_carryOut_183 (wXa27 kc ad wad _ _) (fun _ h => h) ?_
    refine z_goto (tgt := 353) hx hb dX2_carryOut_184 (by decide) ?_
    refine z_sub [] rfl ?_
    exact b353 (sA q 27 (upd (gA q 27) (((gI q 1103) &&& 3) : Int32).toNatClampNeg ((gA q 17) ((((gA q 27) (((gI q 1104) &&& 3) : Int32).toNatClampNeg) &&& 63) : Int32).toNatClampNeg))) hok hF
  have hF := hF.trans (if_neg g27_7)
  have hok := And.right hok g27_7
  by_cases g27_8 : (gI q 1102) = 8
  · have hF := hF.trans (if_pos g27_8)
    have hok := And.left hok g27_8
    refine z_tableIn (off := 160) (tgt := 187) hx hb dX2_carryOut_27 (by rw [g27_8]; decide) (by rw [g27_8]; decide) (by rw [g27_8]; rfl) (by decide) ?_
    refine z_aload_n (j := 3) hx hb dX2_carryOut_187 rfl rfl ?_
    refine z_aload_n (j := 2) hx hb dX2_carryOut_188 rfl rfl ?_
    refine z_iload (j := 0) hx hb dX2_carryOut_189 rfl ?_
    have h191 := And.left hok
    have hok := And.right hok
    refine z_iald (f := (gA q 27)) S hK 27 0 (fun _ => rfl) rfl h191 dX2_carryOut_191 ?_
    refine z_bipush (v := 63) hx hb dX2_carryOut_192 (by decide) ?_
    refine z_iand hx hb dX2_carryOut_194 ?_
    refine z_put (v := .int (((gA q 27) (((gI q 1104) &&& 3) : Int32).toNatClampNeg) &&& 63)) (q' := (sI q 1105 (((gA q 27) (((gI q 1104) &&& 3) : Int32).toNatClampNeg) &&& 63))) S hK inX2 tyX2 tyX2_ok nmX2 10 (fun _ => rfl) rfl 5 (by decide) q2_21 rfl rfl rfl rfl (Nat.le_of_ble_eq_true rfl) dX2_carryOut_195 (wXp1105 kc ad wad _ _) (fun _ h => h) ?_
    refine z_aload_n (j := 3) hx hb dX2_carryOut_198 rfl rfl ?_
    refine z_aload_n (j := 2) hx hb dX2_carryOut_199 rfl rfl ?_
    refine z_iload_n (j := 1) hx hb dX2_carryOut_200 rfl rfl ?_
    have h201 := And.left hok
    have hok := And.right hok
    refine z_iald (f := (gA q 27)) S hK 27 0 (fun _ => rfl) rfl h201 dX2_carryOut_201 ?_
    refine z_put (v := .int ((gA q 27) (((gI q 1103) &&& 3) : Int32).toNatClampNeg)) (q' := (sI (sI q 1105 (((gA q 27) (((gI q 1104) &&& 3) : Int32).toNatClampNeg) &&& 63)) 1106 ((gA q 27) (((gI q 1103) &&& 3) : Int32).toNatClampNeg))) S hK inX2 tyX2 tyX2_ok nmX2 10 (fun _ => rfl) rfl 6 (by decide) q2_23 rfl rfl rfl rfl (Nat.le_of_ble_eq_true rfl) dX2_carryOut_202 (wXp1106 kc ad wad _ _) (fun _ h => h) ?_
    refine z_goto (tgt := 353) hx hb dX2_carryOut_205 (by decide) ?_
    refine z_sub [] rfl ?_
    exact b353 (sI (sI q 1105 (((gA q 27) (((gI q 1104) &&& 3) : Int32).toNatClampNeg) &&& 63)) 1106 ((gA q 27) (((gI q 1103) &&& 3) : Int32).toNatClampNeg)) hok hF
  have hF := hF.trans (if_neg g27_8)
  have hok := And.right hok g27_8
  by_cases g27_9 : (gI q 1102) = 9
  · have hF := hF.trans (if_pos g27_9)
    have hok := And.left hok g27_9
    refine z_tableIn (off := 181) (tgt := 208) hx hb dX2_carryOut_27 (by rw [g27_9]; decide) (by rw [g27_9]; decide) (by rw [g27_9]; rfl) (by decide) ?_
    refine z_aload_n (j := 3) hx hb dX2_carryOut_208 rfl rfl ?_
    refine z_aload_n (j := 3) hx hb dX2_carryOut_209 rfl rfl ?_
    refine z_get (v := .ref (ad 11)) S hK inX2 10 (fun _ => rfl) rfl 0 (by decide) q2_12 rfl rfl dX2_carryOut_210 ?_
    refine z_get (v := .int (gI q 1203)) S hK inX8 11 (fun _ => rfl) rfl 3 (by decide) q1_171 rfl rfl dX2_carryOut_213 ?_
    refine z_iconst (v := 1) hx hb dX2_carryOut_216 (by decide) ?_
    refine z_icmp_ne (tgt := 224) hx hb dX2_carryOut_217 (by decide) (fun g217 => ?_) (fun g217 => ?_)
    · have hF := hF.trans (if_neg g217)
      have hok := And.right hok g217
      refine z_iconst (v := 0) hx hb dX2_carryOut_224 (by decide) ?_
      refine z_sub [4] rfl ?_
      exact b225 q 0 hok hF
    · have hF := hF.trans (if_pos g217)
      have hok := And.left hok g217
      refine z_iconst (v := 1) hx hb dX2_carryOut_220 (by decide) ?_
      refine z_goto (tgt := 225) hx hb dX2_carryOut_221 (by decide) ?_
      refine z_sub [4] rfl ?_
      exact b225 q 1 hok hF
  have hF := hF.trans (if_neg g27_9)
  have hok := And.right hok g27_9
  by_cases g27_10 : (gI q 1102) = 10
  · have hF := hF.trans (if_pos g27_10)
    have hok := And.left hok g27_10
    refine z_tableIn (off := 205) (tgt := 232) hx hb dX2_carryOut_27 (by rw [g27_10]; decide) (by rw [g27_10]; decide) (by rw [g27_10]; rfl) (by decide) ?_
    refine z_aload_n (j := 3) hx hb dX2_carryOut_232 rfl rfl ?_
    refine z_aload_n (j := 3) hx hb dX2_carryOut_233 rfl rfl ?_
    refine z_get (v := .ref (ad 11)) S hK inX2 10 (fun _ => rfl) rfl 0 (by decide) q2_12 rfl rfl dX2_carryOut_234 ?_
    refine z_get (v := .int (gI q 1204)) S hK inX8 11 (fun _ => rfl) rfl 4 (by decide) q1_174 rfl rfl dX2_carryOut_237 ?_
    refine z_iconst (v := 1) hx hb dX2_carryOut_240 (by decide) ?_
    refine z_icmp_ne (tgt := 248) hx hb dX2_carryOut_241 (by decide) (fun g241 => ?_) (fun g241 => ?_)
    · have hF := hF.trans (if_neg g241)
      have hok := And.right hok g241
      refine z_iconst (v := 0) hx hb dX2_carryOut_248 (by decide) ?_
      refine z_sub [4] rfl ?_
      exact b249 q 0 hok hF
    · have hF := hF.trans (if_pos g241)
      have hok := And.left hok g241
      refine z_iconst (v := 1) hx hb dX2_carryOut_244 (by decide) ?_
      refine z_goto (tgt := 249) hx hb dX2_carryOut_245 (by decide) ?_
      refine z_sub [4] rfl ?_
      exact b249 q 1 hok hF
  have hF := hF.trans (if_neg g27_10)
  have hok := And.right hok g27_10
  by_cases g27_11 : (gI q 1102) = 11
  · have hF := hF.trans (if_pos g27_11)
    have hok := And.left hok g27_11
    refine z_tableIn (off := 229) (tgt := 256) hx hb dX2_carryOut_27 (by rw [g27_11]; decide) (by rw [g27_11]; decide) (by rw [g27_11]; rfl) (by decide) ?_
    refine z_aload_n (j := 3) hx hb dX2_carryOut_256 rfl rfl ?_
    refine z_iconst (v := 1) hx hb dX2_carryOut_257 (by decide) ?_
    refine z_aload_n (j := 4) hx hb dX2_carryOut_258 rfl rfl ?_
    have h259 := And.left hok
    have hok := And.right hok
    refine z_callVv (As := [.int 1, .ref (ad 17)]) S (ctX2_jumpIf l hl D kc ad wad q 1 h259) (cwV 2 S.2.2.2.2 (gV q5_146 q5_148 qp1_14 q1_10 q5_149) rfl rfl rfl hX2_jumpIf ⟨Nat.le_of_ble_eq_true rfl, Nat.le_of_ble_eq_true rfl⟩) hA (pbX D kc) (psX hK hE) (z_recv hK 10 (fun _ => rfl) rfl) rfl rfl (Nat.le_of_ble_eq_true rfl) dX2_carryOut_259 ⟨Nat.le_of_ble_eq_true rfl, Nat.le_of_ble_eq_true rfl⟩ ?_
    refine z_sub [] rfl ?_
    exact b262 (fX2_jumpIf q 1) hok hF
  have hF := hF.trans (if_neg g27_11)
  have hok := And.right hok g27_11
  by_cases g27_12 : (gI q 1102) = 12
  · have hF := hF.trans (if_pos g27_12)
    have hok := And.left hok g27_12
    refine z_tableIn (off := 238) (tgt := 265) hx hb dX2_carryOut_27 (by rw [g27_12]; decide) (by rw [g27_12]; decide) (by rw [g27_12]; rfl) (by decide) ?_
    refine z_aload_n (j := 2) hx hb dX2_carryOut_265 rfl rfl ?_
    refine z_iload_n (j := 1) hx hb dX2_carryOut_266 rfl rfl ?_
    refine z_aload_n (j := 4) hx hb dX2_carryOut_267 rfl rfl ?_
    refine z_aload_n (j := 2) hx hb dX2_carryOut_268 rfl rfl ?_
    refine z_iload (j := 0) hx hb dX2_carryOut_269 rfl ?_
    have h271 := And.left hok
    have hok := And.right hok
    refine z_iald (f := (gA q 27)) S hK 27 0 (fun _ => rfl) rfl h271 dX2_carryOut_271 ?_
    refine z_bipush (v := 63) hx hb dX2_carryOut_272 (by decide) ?_
    refine z_iand hx hb dX2_carryOut_274 ?_
    have h275 := And.left hok
    have hok := And.right hok
    refine z_iald (f := (gA q 17)) S hK 17 0 (fun _ => rfl) rfl h275 dX2_carryOut_275 ?_
    have h276 := And.left hok
    have hok := And.right hok
    refine z_iast (f := (gA q 27)) (q' := (sA q 27 (upd (gA q 27) (((gI q 1103) &&& 3) : Int32).toNatClampNeg ((gA q 17) ((((gA q 27) (((gI q 1104) &&& 3) : Int32).toNatClampNeg) &&& 63) : Int32).toNatClampNeg)))) S hK 27 0 (fun _ => rfl) rfl h276 dX2_carryOut_276 (wXa27 kc ad wad _ _) (fun _ h => h) ?_
    refine z_sub [2, 0] rfl ?_
    exact b277 (sA q 27 (upd (gA q 27) (((gI q 1103) &&& 3) : Int32).toNatClampNeg ((gA q 17) ((((gA q 27) (((gI q 1104) &&& 3) : Int32).toNatClampNeg) &&& 63) : Int32).toNatClampNeg))) ((gI q 1104) &&& 3) hok hF
  have hF := hF.trans (if_neg g27_12)
  have hok := And.right hok g27_12
  by_cases g27_13 : (gI q 1102) = 13
  · have hF := hF.trans (if_pos g27_13)
    have hok := And.left hok g27_13
    refine z_tableIn (off := 267) (tgt := 294) hx hb dX2_carryOut_27 (by rw [g27_13]; decide) (by rw [g27_13]; decide) (by rw [g27_13]; rfl) (by decide) ?_
    refine z_aload_n (j := 3) hx hb dX2_carryOut_294 rfl rfl ?_
    refine z_get (v := .ref (ad 11)) S hK inX2 10 (fun _ => rfl) rfl 0 (by decide) q2_12 rfl rfl dX2_carryOut_295 ?_
    refine z_iconst (v := 1) hx hb dX2_carryOut_298 (by decide) ?_
    refine z_aload_n (j := 3) hx hb dX2_carryOut_299 rfl rfl ?_
    refine z_get (v := .ref (ad 11)) S hK inX2 10 (fun _ => rfl) rfl 0 (by decide) q2_12 rfl rfl dX2_carryOut_300 ?_
    refine z_get (v := .int (gI q 1205)) S hK inX8 11 (fun _ => rfl) rfl 5 (by decide) q1_176 rfl rfl dX2_carryOut_303 ?_
    refine z_isub hx hb dX2_carryOut_306 ?_
    refine z_put (v := .int (1 - (gI q 1205))) (q' := (sI q 1205 (1 - (gI q 1205)))) S hK inX8 tyX8 tyX8_ok nmX8 11 (fun _ => rfl) rfl 5 (by decide) q1_176 rfl rfl rfl rfl (Nat.le_of_ble_eq_true rfl) dX2_carryOut_307 (wXp1205 kc ad wad _ _) (fun _ h => h) ?_
    refine z_goto (tgt := 353) hx hb dX2_carryOut_310 (by decide) ?_
    refine z_sub [] rfl ?_
    exact b353 (sI q 1205 (1 - (gI q 1205))) hok hF
  have hF := hF.trans (if_neg g27_13)
  have hok := And.right hok g27_13
  by_cases g27_14 : (gI q 1102) = 14
  · have hF := hF.trans (if_pos g27_14)
    have hok := And.left hok g27_14
    refine z_tableIn (off := 286) (tgt := 313) hx hb dX2_carryOut_27 (by rw [g27_14]; decide) (by rw [g27_14]; decide) (by rw [g27_14]; rfl) (by decide) ?_
    refine z_aload_n (j := 3) hx hb dX2_carryOut_313 rfl rfl ?_
    refine z_get (v := .ref (ad 11)) S hK inX2 10 (fun _ => rfl) rfl 0 (by decide) q2_12 rfl rfl dX2_carryOut_314 ?_
    refine z_aload_n (j := 3) hx hb dX2_carryOut_317 rfl rfl ?_
    refine z_get (v := .ref (ad 11)) S hK inX2 10 (fun _ => rfl) rfl 0 (by decide) q2_12 rfl rfl dX2_carryOut_318 ?_
    refine z_get (v := .int (gI q 1202)) S hK inX8 11 (fun _ => rfl) rfl 2 (by decide) q1_168 rfl rfl dX2_carryOut_321 ?_
    refine z_put (v := .int (gI q 1202)) (q' := (sI q 1201 (gI q 1202))) S hK inX8 tyX8 tyX8_ok nmX8 11 (fun _ => rfl) rfl 1 (by decide) q1_166 rfl rfl rfl rfl (Nat.le_of_ble_eq_true rfl) dX2_carryOut_324 (wXp1201 kc ad wad _ _) (fun _ h => h) ?_
    refine z_aload_n (j := 3) hx hb dX2_carryOut_327 rfl rfl ?_
    refine z_get (v := .ref (ad 11)) S hK inX2 10 (fun _ => rfl) rfl 0 (by decide) q2_12 rfl rfl dX2_carryOut_328 ?_
    refine z_iconst (v := 1) hx hb dX2_carryOut_331 (by decide) ?_
    refine z_put (v := .int 1) (q' := (sI (sI q 1201 (gI q 1202)) 1206 1)) S hK inX8 tyX8 tyX8_ok nmX8 11 (fun _ => rfl) rfl 6 (by decide) q1_181 rfl rfl rfl rfl (Nat.le_of_ble_eq_true rfl) dX2_carryOut_332 (wXp1206 kc ad wad _ _) (fun _ h => h) ?_
    refine z_goto (tgt := 353) hx hb dX2_carryOut_335 (by decide) ?_
    refine z_sub [] rfl ?_
    exact b353 (sI (sI q 1201 (gI q 1202)) 1206 1) hok hF
  have hF := hF.trans (if_neg g27_14)
  have hok := And.right hok g27_14
  by_cases g27_15 : (gI q 1102) = 15
  · have hF := hF.trans (if_pos g27_15)
    have hok := And.left hok g27_15
    refine z_tableIn (off := 311) (tgt := 338) hx hb dX2_carryOut_27 (by rw [g27_15]; decide) (by rw [g27_15]; decide) (by rw [g27_15]; rfl) (by decide) ?_
    refine z_aload_n (j := 3) hx hb dX2_carryOut_338 rfl rfl ?_
    refine z_get (v := .ref (ad 11)) S hK inX2 10 (fun _ => rfl) rfl 0 (by decide) q2_12 rfl rfl dX2_carryOut_339 ?_
    refine z_aload_n (j := 2) hx hb dX2_carryOut_342 rfl rfl ?_
    refine z_iload_n (j := 1) hx hb dX2_carryOut_343 rfl rfl ?_
    have h344 := And.left hok
    have hok := And.right hok
    refine z_iald (f := (gA q 27)) S hK 27 0 (fun _ => rfl) rfl h344 dX2_carryOut_344 ?_
    refine z_iconst (v := 1) hx hb dX2_carryOut_345 (by decide) ?_
    refine z_iand hx hb dX2_carryOut_346 ?_
    refine z_put (v := .int (((gA q 27) (((gI q 1103) &&& 3) : Int32).toNatClampNeg) &&& 1)) (q' := (sI q 1206 (((gA q 27) (((gI q 1103) &&& 3) : Int32).toNatClampNeg) &&& 1))) S hK inX8 tyX8 tyX8_ok nmX8 11 (fun _ => rfl) rfl 6 (by decide) q1_181 rfl rfl rfl rfl (Nat.le_of_ble_eq_true rfl) dX2_carryOut_347 (wXp1206 kc ad wad _ _) (fun _ h => h) ?_
    refine z_goto (tgt := 353) hx hb dX2_carryOut_350 (by decide) ?_
    refine z_sub [] rfl ?_
    exact b353 (sI q 1206 (((gA q 27) (((gI q 1103) &&& 3) : Int32).toNatClampNeg) &&& 1)) hok hF
  have hF := hF.trans (if_neg g27_15)
  have hok := And.right hok g27_15
  have hsw : ((gI q 1102) : Int32).toInt < 1 ∨ 15 < ((gI q 1102) : Int32).toInt := by
    have n0 := (lv_neT g27_1 (by decide) : ¬ _ = (1 : Int))
    have n1 := (lv_neT g27_2 (by decide) : ¬ _ = (2 : Int))
    have n2 := (lv_neT g27_3 (by decide) : ¬ _ = (3 : Int))
    have n3 := (lv_neT g27_4 (by decide) : ¬ _ = (4 : Int))
    have n4 := (lv_neT g27_5 (by decide) : ¬ _ = (5 : Int))
    have n5 := (lv_neT g27_6 (by decide) : ¬ _ = (6 : Int))
    have n6 := (lv_neT g27_7 (by decide) : ¬ _ = (7 : Int))
    have n7 := (lv_neT g27_8 (by decide) : ¬ _ = (8 : Int))
    have n8 := (lv_neT g27_9 (by decide) : ¬ _ = (9 : Int))
    have n9 := (lv_neT g27_10 (by decide) : ¬ _ = (10 : Int))
    have n10 := (lv_neT g27_11 (by decide) : ¬ _ = (11 : Int))
    have n11 := (lv_neT g27_12 (by decide) : ¬ _ = (12 : Int))
    have n12 := (lv_neT g27_13 (by decide) : ¬ _ = (13 : Int))
    have n13 := (lv_neT g27_14 (by decide) : ¬ _ = (14 : Int))
    have n14 := (lv_neT g27_15 (by decide) : ¬ _ = (15 : Int))
    omega
  refine z_tableOut (tgt := 353) hx hb dX2_carryOut_27 hsw (by decide) ?_
  refine z_sub [] rfl ?_
  exact b353 q hok hF
theorem hX2_carryOut : yX2_carryOut.cls = RX2 ∧ yX2_carryOut.cls ≠ "java/lang/invoke/MethodHandle" ∧ yX2_carryOut.cls ≠ "java/lang/invoke/VarHandle" ∧ (parseMethodDescriptor yX2_carryOut.desc).map (fun d => d.parameters.length) = some 1 := by decide +kernel
