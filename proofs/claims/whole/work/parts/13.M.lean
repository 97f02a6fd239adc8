theorem wLX11_drives_a23_1 (kc : Nat → ClassId) (ad : Nat → Nat) (a8 : Nat) (q : SS) (v : Nat → Int32) : ∀ tl, ((wM kc ad q ++ (fun q : SS => ([(a8, .inl (kc 0, 7, .inl (gA q 50)))] : va_W)) q) ++ tl).set 23 (a8, .inl (kc 0, 7, .inl v)) = (wM kc ad (sA q 50 v) ++ (fun q : SS => ([(a8, .inl (kc 0, 7, .inl (gA q 50)))] : va_W)) (sA q 50 v)) ++ tl := fun _ => rfl
theorem wLX11_drives_p13_1 (kc : Nat → ClassId) (ad : Nat → Nat) (a8 : Nat) (q : SS) (v : Int32) : ∀ tl, ((wM kc ad q ++ (fun q : SS => ([(a8, .inl (kc 0, 7, .inl (gA q 50)))] : va_W)) q) ++ tl).set 0 (ad 0, .inr (13, (fM ad q).set 13 (.int v))) = (wM kc ad (sI q 13 v) ++ (fun q : SS => ([(a8, .inl (kc 0, 7, .inl (gA q 50)))] : va_W)) (sI q 13 v)) ++ tl := fun _ => rfl
def fX11_drives_166 (q : SS) (s0 : Int32) : Int32 × SS := (s0, q)
def kX11_drives_166 (q : SS) (s0 : Int32) : Prop := True
def fX11_drives_153 (q : SS) (v2 : Int32) (v3 : Int32) (s0 : Int32) (s1 : Int32) : Int32 × SS := (if v3 = 0 then fX11_drives_166 (sI q 13 (s1 + s0)) 0 else fX11_drives_166 (sI q 13 (s1 + s0)) v2)
def kX11_drives_153 (q : SS) (v2 : Int32) (v3 : Int32) (s0 : Int32) (s1 : Int32) : Prop := ((v3 = 0 → kX11_drives_166 (sI q 13 (s1 + s0)) 0) ∧ (¬ v3 = 0 → kX11_drives_166 (sI q 13 (s1 + s0)) v2))
def fX11_drives_132 (k97 : SS → Int32 → Int32 → Int32 → Int32 → Int32 × SS) (q : SS) (v1 : Int32) (v2 : Int32) (v3 : Int32) (v5 : Int32) : Int32 × SS := k97 q v1 v2 v3 (v5 + 1)
def kX11_drives_132 (kk97 : SS → Int32 → Int32 → Int32 → Int32 → Prop) (q : SS) (v1 : Int32) (v2 : Int32) (v3 : Int32) (v5 : Int32) : Prop := kk97 q v1 v2 v3 (v5 + 1)
def fX11_drives_97 : Nat → SS → Int32 → Int32 → Int32 → Int32 → Int32 × SS
  | 0, q, _, _, _, _ => (0, q)
  | n + 1, q, v1, v2, v3, v5 => (if 7 ≤ v5 then (if v3 ≤ 1 then fX11_drives_153 q v2 v3 0 (gI q 13) else fX11_drives_153 q v2 v3 1 (gI q 13)) else (if (((((gA q 1) (v1 : Int32).toNatClampNeg) : Int32) >>> (v5 &&& 31)) &&& 1) = 0 then fX11_drives_132 (fX11_drives_97 n) q v1 v2 v3 v5 else fX11_drives_132 (fX11_drives_97 n) q v1 (v2 &&& ((gA q 50) (v5 : Int32).toNatClampNeg)) (v3 + 1) v5))
def kX11_drives_97 : Nat → SS → Int32 → Int32 → Int32 → Int32 → Prop
  | 0, _, _, _, _, _ => False
  | n + 1, q, v1, v2, v3, v5 => ((7 ≤ v5 → ((v3 ≤ 1 → kX11_drives_153 q v2 v3 0 (gI q 13)) ∧ (¬ v3 ≤ 1 → kX11_drives_153 q v2 v3 1 (gI q 13)))) ∧ (¬ 7 ≤ v5 → vp_in v1 80 ∧ (((((((gA q 1) (v1 : Int32).toNatClampNeg) : Int32) >>> (v5 &&& 31)) &&& 1) = 0 → kX11_drives_132 (kX11_drives_97 n) q v1 v2 v3 v5) ∧ (¬ (((((gA q 1) (v1 : Int32).toNatClampNeg) : Int32) >>> (v5 &&& 31)) &&& 1) = 0 → vp_in v5 7 ∧ kX11_drives_132 (kX11_drives_97 n) q v1 (v2 &&& ((gA q 50) (v5 : Int32).toNatClampNeg)) (v3 + 1) v5))))
def fX11_drives_81 (q : SS) (v1 : Int32) (v2 : Int32) (v3 : Int32) (s0 : Int32) (s2 : Int32) : Int32 × SS := fX11_drives_97 130 (sA (sA q 50 (upd (gA q 50) (s2 : Int32).toNatClampNeg ((gA q 15) (s0 : Int32).toNatClampNeg))) 50 (upd (upd (gA q 50) (s2 : Int32).toNatClampNeg ((gA q 15) (s0 : Int32).toNatClampNeg)) (6 : Int32).toNatClampNeg ((gA q 7) (v1 : Int32).toNatClampNeg))) v1 v2 v3 0
def kX11_drives_81 (q : SS) (v1 : Int32) (v2 : Int32) (v3 : Int32) (s0 : Int32) (s2 : Int32) : Prop := vp_in s0 16 ∧ vp_in s2 7 ∧ vp_in v1 80 ∧ kX11_drives_97 130 (sA (sA q 50 (upd (gA q 50) (s2 : Int32).toNatClampNeg ((gA q 15) (s0 : Int32).toNatClampNeg))) 50 (upd (upd (gA q 50) (s2 : Int32).toNatClampNeg ((gA q 15) (s0 : Int32).toNatClampNeg)) (6 : Int32).toNatClampNeg ((gA q 7) (v1 : Int32).toNatClampNeg))) v1 v2 v3 0
def fX11_drives_67 (q : SS) (v1 : Int32) (v2 : Int32) (v3 : Int32) (s0 : Int32) (s2 : Int32) : Int32 × SS := fX11_drives_81 (fX11_registerOf (sA q 50 (upd (gA q 50) (s2 : Int32).toNatClampNeg ((gA q 15) (s0 : Int32).toNatClampNeg))) 1).2 v1 v2 v3 (fX11_registerOf (sA q 50 (upd (gA q 50) (s2 : Int32).toNatClampNeg ((gA q 15) (s0 : Int32).toNatClampNeg))) 1).1 5
def kX11_drives_67 (q : SS) (v1 : Int32) (v2 : Int32) (v3 : Int32) (s0 : Int32) (s2 : Int32) : Prop := vp_in s0 16 ∧ vp_in s2 7 ∧ kX11_registerOf (sA q 50 (upd (gA q 50) (s2 : Int32).toNatClampNeg ((gA q 15) (s0 : Int32).toNatClampNeg))) 1 ∧ gA (fX11_registerOf (sA q 50 (upd (gA q 50) (s2 : Int32).toNatClampNeg ((gA q 15) (s0 : Int32).toNatClampNeg))) 1).2 50 = gA (sA q 50 (upd (gA q 50) (s2 : Int32).toNatClampNeg ((gA q 15) (s0 : Int32).toNatClampNeg))) 50 ∧ kX11_drives_81 (fX11_registerOf (sA q 50 (upd (gA q 50) (s2 : Int32).toNatClampNeg ((gA q 15) (s0 : Int32).toNatClampNeg))) 1).2 v1 v2 v3 (fX11_registerOf (sA q 50 (upd (gA q 50) (s2 : Int32).toNatClampNeg ((gA q 15) (s0 : Int32).toNatClampNeg))) 1).1 5
def fX11_drives_45 (q : SS) (v1 : Int32) (v2 : Int32) (v3 : Int32) : Int32 × SS := fX11_drives_67 (fX11_registerOf (sA q 50 (upd (gA q 50) (3 : Int32).toNatClampNeg ((gA q 15) (4 : Int32).toNatClampNeg))) 0).2 v1 v2 v3 (fX11_registerOf (sA q 50 (upd (gA q 50) (3 : Int32).toNatClampNeg ((gA q 15) (4 : Int32).toNatClampNeg))) 0).1 4
def kX11_drives_45 (q : SS) (v1 : Int32) (v2 : Int32) (v3 : Int32) : Prop := kX11_registerOf (sA q 50 (upd (gA q 50) (3 : Int32).toNatClampNeg ((gA q 15) (4 : Int32).toNatClampNeg))) 0 ∧ gA (fX11_registerOf (sA q 50 (upd (gA q 50) (3 : Int32).toNatClampNeg ((gA q 15) (4 : Int32).toNatClampNeg))) 0).2 50 = gA (sA q 50 (upd (gA q 50) (3 : Int32).toNatClampNeg ((gA q 15) (4 : Int32).toNatClampNeg))) 50 ∧ kX11_drives_67 (fX11_registerOf (sA q 50 (upd (gA q 50) (3 : Int32).toNatClampNeg ((gA q 15) (4 : Int32).toNatClampNeg))) 0).2 v1 v2 v3 (fX11_registerOf (sA q 50 (upd (gA q 50) (3 : Int32).toNatClampNeg ((gA q 15) (4 : Int32).toNatClampNeg))) 0).1 4
def fX11_drives (q : SS) (v1 : Int32) : Int32 × SS := fX11_drives_45 (sA (sA (sA (sA q 50 (fun _ => 0)) 50 (upd (fun _ => 0) (0 : Int32).toNatClampNeg ((gA q 15) (10 : Int32).toNatClampNeg))) 50 (upd (upd (fun _ => 0) (0 : Int32).toNatClampNeg ((gA q 15) (10 : Int32).toNatClampNeg)) (1 : Int32).toNatClampNeg ((gA q 15) (11 : Int32).toNatClampNeg))) 50 (upd (upd (upd (fun _ => 0) (0 : Int32).toNatClampNeg ((gA q 15) (10 : Int32).toNatClampNeg)) (1 : Int32).toNatClampNeg ((gA q 15) (11 : Int32).toNatClampNeg)) (2 : Int32).toNatClampNeg ((gA q 15) (13 : Int32).toNatClampNeg))) v1 255 0
def kX11_drives (q : SS) (v1 : Int32) : Prop := kX11_drives_45 (sA (sA (sA (sA q 50 (fun _ => 0)) 50 (upd (fun _ => 0) (0 : Int32).toNatClampNeg ((gA q 15) (10 : Int32).toNatClampNeg))) 50 (upd (upd (fun _ => 0) (0 : Int32).toNatClampNeg ((gA q 15) (10 : Int32).toNatClampNeg)) (1 : Int32).toNatClampNeg ((gA q 15) (11 : Int32).toNatClampNeg))) 50 (upd (upd (upd (fun _ => 0) (0 : Int32).toNatClampNeg ((gA q 15) (10 : Int32).toNatClampNeg)) (1 : Int32).toNatClampNeg ((gA q 15) (11 : Int32).toNatClampNeg)) (2 : Int32).toNatClampNeg ((gA q 15) (13 : Int32).toNatClampNeg))) v1 255 0
set_option maxHeartbeats 4000000 in
set_option maxRecDepth 100000 in
theorem ctX11_drives (l : Launch) (D : va_G) (kc : Nat → ClassId) (ad : Nat → Nat) (q : SS) (v1 : Int32) (hok : kX11_drives q v1) : Ci l yX11_drives (Cond.code yX11_drives cX11_drives 6 (some .int) :: lw_G) (zr 1 1 7) 1 7 (PM D kc) (GM D kc ad) (GM D kc ad) [.ref (ad 0), .int v1] q (fX11_drives q v1) := by
  refine Ci.of (cc := cX11_drives) (maxL := 6) (ret := (some .int)) (by decide) rfl (Nat.le_of_ble_eq_true rfl) ?_
  intro p e s m args below meth c A S hr hlocks hin hA hK
  have hx := S.1
  have hb := S.2.1
  have hK : va_K D vwCl (tysK kc) s := hK
  generalize hFe : fX11_drives q v1 = F
  have hF : F = fX11_drives q v1 := hFe.symm
  have b166 : ∀ (a8 : Nat) (q : SS) (s0 : Int32), kX11_drives_166 q s0 → F = fX11_drives_166 q s0 → Z p l e (zr 1 1 7) s m args below meth c 1 7 (MQ below (va_Qi (fun (x : Int32) (_ : Unit) => x = F.1) (fun _ t => (GM D kc ad) A F.2 t.heap) A) args s 1 7 A) 6 A (ZG D vwCl (fun q => wM kc ad q ++ (fun q : SS => ([(a8, .inl (kc 0, 7, .inl (gA q 50)))] : va_W)) q) (fun _ tl => tl = []) A) q 166 [] [.int s0] := by
    intro a8 q s0 hok hF
    refine z_weak (G2 := ZG D vwCl (wM kc ad) (fun _ tl => tl = []) A) (fun _ _ h => z_drop h) ?_
    exact z_iret hx hb hlocks hr rfl hF dX11_drives_166
  have b153 : ∀ (a8 : Nat) (q : SS) (v2 : Int32) (v3 : Int32) (s0 : Int32) (s1 : Int32), kX11_drives_153 q v2 v3 s0 s1 → F = fX11_drives_153 q v2 v3 s0 s1 → Z p l e (zr 1 1 7) s m args below meth c 1 7 (MQ below (va_Qi (fun (x : Int32) (_ : Unit) => x = F.1) (fun _ t => (GM D kc ad) A F.2 t.heap) A) args s 1 7 A) 6 A (ZG D vwCl (fun q => wM kc ad q ++ (fun q : SS => ([(a8, .inl (kc 0, 7, .inl (gA q 50)))] : va_W)) q) (fun _ tl => tl = []) A) q 153 [(2, .int v2), (3, .int v3)] [.int s0, .int s1, .ref (ad 0)] := by
    intro a8 q v2 v3 s0 s1 hok hF
    refine z_iadd hx hb dX11_drives_153 ?_
    refine z_put (v := .int (s1 + s0)) (q' := (sI q 13 (s1 + s0))) S hK inX11 tyX11 tyX11_ok nmX11 0 (fun _ => rfl) rfl 13 (by decide) q6_110 rfl rfl rfl rfl (Nat.le_of_ble_eq_true rfl) dX11_drives_154 (wLX11_drives_p13_1 kc ad a8 _ _) (fun _ h => h) ?_
    refine z_iload_n (j := 1) hx hb dX11_drives_157 rfl rfl ?_
    refine z_if_ne (tgt := 165) hx hb dX11_drives_158 (by decide) (fun g158 => ?_) (fun g158 => ?_)
    · have hF := hF.trans (if_neg g158)
      have hok := And.right hok g158
      refine z_iload_n (j := 0) hx hb dX11_drives_165 rfl rfl ?_
      refine z_sub [] rfl ?_
      exact b166 a8 (sI q 13 (s1 + s0)) v2 hok hF
    · have hF := hF.trans (if_pos g158)
      have hok := And.left hok g158
      refine z_iconst (v := 0) hx hb dX11_drives_161 (by decide) ?_
      refine z_goto (tgt := 166) hx hb dX11_drives_162 (by decide) ?_
      refine z_sub [] rfl ?_
      exact b166 a8 (sI q 13 (s1 + s0)) 0 hok hF
  have b132 : ∀ (a8 : Nat) (k97 : SS → Int32 → Int32 → Int32 → Int32 → Int32 × SS) (kk97 : SS → Int32 → Int32 → Int32 → Int32 → Prop) (_ : ∀ (q : SS) (v1 : Int32) (v2 : Int32) (v3 : Int32) (v5 : Int32), kk97 q v1 v2 v3 v5 → F = k97 q v1 v2 v3 v5 → Z p l e (zr 1 1 7) s m args below meth c 1 7 (MQ below (va_Qi (fun (x : Int32) (_ : Unit) => x = F.1) (fun _ t => (GM D kc ad) A F.2 t.heap) A) args s 1 7 A) 6 A (ZG D vwCl (fun q => wM kc ad q ++ (fun q : SS => ([(a8, .inl (kc 0, 7, .inl (gA q 50)))] : va_W)) q) (fun _ tl => tl = []) A) q 97 [(0, .ref (ad 0)), (1, .int v1), (2, .int v2), (3, .int v3), (4, .ref a8), (5, .int v5)] []) (q : SS) (v1 : Int32) (v2 : Int32) (v3 : Int32) (v5 : Int32), kX11_drives_132 kk97 q v1 v2 v3 v5 → F = fX11_drives_132 k97 q v1 v2 v3 v5 → Z p l e (zr 1 1 7) s m args below meth c 1 7 (MQ below (va_Qi (fun (x : Int32) (_ : Unit) => x = F.1) (fun _ t => (GM D kc ad) A F.2 t.heap) A) args s 1 7 A) 6 A (ZG D vwCl (fun q => wM kc ad q ++ (fun q : SS => ([(a8, .inl (kc 0, 7, .inl (gA q 50)))] : va_W)) q) (fun _ tl => tl = []) A) q 132 [(0, .ref (ad 0)), (1, .int v1), (2, .int v2), (3, .int v3), (4, .ref a8), (5, .int v5)] [] := by
    intro a8 k97 kk97 hk97 q v1 v2 v3 v5 hok hF
    refine z_iinc (k := 5) (v := (v5 + 1)) (lv' := [(5, .int (v5 + 1)), (0, .ref (ad 0)), (1, .int v1), (2, .int v2), (3, .int v3), (4, .ref a8)]) hx hb dX11_drives_132 rfl rfl (by decide) rfl ?_
    refine z_goto (tgt := 97) hx hb dX11_drives_135 (by decide) ?_
    refine z_sub [1, 2, 3, 4, 5, 0] rfl ?_
    exact hk97 q v1 v2 v3 (v5 + 1) hok hF
  have b97 : ∀ (a8 : Nat) (n : Nat) (q : SS) (v1 : Int32) (v2 : Int32) (v3 : Int32) (v5 : Int32), kX11_drives_97 n q v1 v2 v3 v5 → F = fX11_drives_97 n q v1 v2 v3 v5 → Z p l e (zr 1 1 7) s m args below meth c 1 7 (MQ below (va_Qi (fun (x : Int32) (_ : Unit) => x = F.1) (fun _ t => (GM D kc ad) A F.2 t.heap) A) args s 1 7 A) 6 A (ZG D vwCl (fun q => wM kc ad q ++ (fun q : SS => ([(a8, .inl (kc 0, 7, .inl (gA q 50)))] : va_W)) q) (fun _ tl => tl = []) A) q 97 [(0, .ref (ad 0)), (1, .int v1), (2, .int v2), (3, .int v3), (4, .ref a8), (5, .int v5)] [] := by
    intro a8 n
    induction n with
    | zero => intro q v1 v2 v3 v5 hok hF; exact False.elim hok
    | succ n ih =>
      intro q v1 v2 v3 v5 hok hF
      refine z_iload (j := 5) hx hb dX11_drives_97 rfl ?_
      refine z_bipush (v := 7) hx hb dX11_drives_99 (by decide) ?_
      refine z_icmp_ge (tgt := 138) hx hb dX11_drives_101 (by decide) (fun g101 => ?_) (fun g101 => ?_)
      · have hF := hF.trans (if_pos g101)
        have hok := And.left hok g101
        refine z_aload_n (j := 0) hx hb dX11_drives_138 rfl rfl ?_
        refine z_dup hx hb dX11_drives_139 rfl ?_
        refine z_get (v := .int (gI q 13)) S hK inX11 0 (fun _ => rfl) rfl 13 (by decide) q6_110 rfl rfl dX11_drives_140 ?_
        refine z_iload_n (j := 3) hx hb dX11_drives_143 rfl rfl ?_
        refine z_iconst (v := 1) hx hb dX11_drives_144 (by decide) ?_
        refine z_icmp_le (tgt := 152) hx hb dX11_drives_145 (by decide) (fun g145 => ?_) (fun g145 => ?_)
        · have hF := hF.trans (if_pos g145)
          have hok := And.left hok g145
          refine z_iconst (v := 0) hx hb dX11_drives_152 (by decide) ?_
          refine z_sub [2, 3] rfl ?_
          exact b153 a8 q v2 v3 0 (gI q 13) hok hF
        · have hF := hF.trans (if_neg g145)
          have hok := And.right hok g145
          refine z_iconst (v := 1) hx hb dX11_drives_148 (by decide) ?_
          refine z_goto (tgt := 153) hx hb dX11_drives_149 (by decide) ?_
          refine z_sub [2, 3] rfl ?_
          exact b153 a8 q v2 v3 1 (gI q 13) hok hF
      · have hF := hF.trans (if_neg g101)
        have hok := And.right hok g101
        refine z_aload_n (j := 0) hx hb dX11_drives_104 rfl rfl ?_
        refine z_get (v := .ref (ad 1)) S hK inX11 0 (fun _ => rfl) rfl 28 (by decide) q6_125 rfl rfl dX11_drives_105 ?_
        refine z_iload_n (j := 1) hx hb dX11_drives_108 rfl rfl ?_
        have h109 := And.left hok
        have hok := And.right hok
        refine z_iald (f := (gA q 1)) S hK 1 0 (fun _ => rfl) rfl h109 dX11_drives_109 ?_
        refine z_iload (j := 5) hx hb dX11_drives_110 rfl ?_
        refine z_ishr hx hb dX11_drives_112 ?_
        refine z_iconst (v := 1) hx hb dX11_drives_113 (by decide) ?_
        refine z_iand hx hb dX11_drives_114 ?_
        refine z_if_ne (tgt := 121) hx hb dX11_drives_115 (by decide) (fun g115 => ?_) (fun g115 => ?_)
        · have hF := hF.trans (if_neg g115)
          have hok := And.right hok g115
          refine z_iload_n (j := 2) hx hb dX11_drives_121 rfl rfl ?_
          refine z_aload (j := 4) hx hb dX11_drives_122 rfl ?_
          refine z_iload (j := 5) hx hb dX11_drives_124 rfl ?_
          have h126 := And.left hok
          have hok := And.right hok
          refine z_iald (f := (gA q 50)) S hK 23 0 (fun _ => rfl) rfl h126 dX11_drives_126 ?_
          refine z_iand hx hb dX11_drives_127 ?_
          refine z_istore_n (lv' := [(2, .int (v2 &&& ((gA q 50) (v5 : Int32).toNatClampNeg))), (0, .ref (ad 0)), (1, .int v1), (3, .int v3), (4, .ref a8), (5, .int v5)]) hx hb dX11_drives_128 rfl (by decide) rfl ?_
          refine z_iinc (k := 3) (v := (v3 + 1)) (lv' := [(3, .int (v3 + 1)), (2, .int (v2 &&& ((gA q 50) (v5 : Int32).toNatClampNeg))), (0, .ref (ad 0)), (1, .int v1), (4, .ref a8), (5, .int v5)]) hx hb dX11_drives_129 rfl rfl (by decide) rfl ?_
          refine z_sub [2, 3, 1, 0, 4, 5] rfl ?_
          exact b132 a8 (fX11_drives_97 n) (kX11_drives_97 n) ih q v1 (v2 &&& ((gA q 50) (v5 : Int32).toNatClampNeg)) (v3 + 1) v5 hok hF
        · have hF := hF.trans (if_pos g115)
          have hok := And.left hok g115
          refine z_goto (tgt := 132) hx hb dX11_drives_118 (by decide) ?_
          exact b132 a8 (fX11_drives_97 n) (kX11_drives_97 n) ih q v1 v2 v3 v5 hok hF
  have b81 : ∀ (a8 : Nat) (q : SS) (v1 : Int32) (v2 : Int32) (v3 : Int32) (s0 : Int32) (s2 : Int32), kX11_drives_81 q v1 v2 v3 s0 s2 → F = fX11_drives_81 q v1 v2 v3 s0 s2 → Z p l e (zr 1 1 7) s m args below meth c 1 7 (MQ below (va_Qi (fun (x : Int32) (_ : Unit) => x = F.1) (fun _ t => (GM D kc ad) A F.2 t.heap) A) args s 1 7 A) 6 A (ZG D vwCl (fun q => wM kc ad q ++ (fun q : SS => ([(a8, .inl (kc 0, 7, .inl (gA q 50)))] : va_W)) q) (fun _ tl => tl = []) A) q 81 [(0, .ref (ad 0)), (1, .int v1), (2, .int v2), (3, .int v3), (4, .ref a8)] [.int s0, .ref (ad 15), .int s2, .ref a8] := by
    intro a8 q v1 v2 v3 s0 s2 hok hF
    have h81 := And.left hok
    have hok := And.right hok
    refine z_iald (f := (gA q 15)) S hK 15 0 (fun _ => rfl) rfl h81 dX11_drives_81 ?_
    have h82 := And.left hok
    have hok := And.right hok
    refine z_iast (f := (gA q 50)) (q' := (sA q 50 (upd (gA q 50) (s2 : Int32).toNatClampNeg ((gA q 15) (s0 : Int32).toNatClampNeg)))) S hK 23 0 (fun _ => rfl) rfl h82 dX11_drives_82 (wLX11_drives_a23_1 kc ad a8 _ _) (fun _ h => h) ?_
    refine z_aload (j := 4) hx hb dX11_drives_83 rfl ?_
    refine z_bipush (v := 6) hx hb dX11_drives_85 (by decide) ?_
    refine z_aload_n (j := 0) hx hb dX11_drives_87 rfl rfl ?_
    refine z_get (v := .ref (ad 7)) S hK inX11 0 (fun _ => rfl) rfl 34 (by decide) q6_131 rfl rfl dX11_drives_88 ?_
    refine z_iload_n (j := 1) hx hb dX11_drives_91 rfl rfl ?_
    have h92 := And.left hok
    have hok := And.right hok
    refine z_iald (f := (gA q 7)) S hK 7 0 (fun _ => rfl) rfl h92 dX11_drives_92 ?_
    refine z_iast (f := (upd (gA q 50) (s2 : Int32).toNatClampNeg ((gA q 15) (s0 : Int32).toNatClampNeg))) (q' := (sA (sA q 50 (upd (gA q 50) (s2 : Int32).toNatClampNeg ((gA q 15) (s0 : Int32).toNatClampNeg))) 50 (upd (upd (gA q 50) (s2 : Int32).toNatClampNeg ((gA q 15) (s0 : Int32).toNatClampNeg)) (6 : Int32).toNatClampNeg ((gA q 7) (v1 : Int32).toNatClampNeg)))) S hK 23 0 (fun _ => rfl) rfl (show ¬ (_ ∨ _) from by decide) dX11_drives_93 (wLX11_drives_a23_1 kc ad a8 _ _) (fun _ h => h) ?_
    refine z_iconst (v := 0) hx hb dX11_drives_94 (by decide) ?_
    refine z_istore (lv' := [(5, .int 0), (0, .ref (ad 0)), (1, .int v1), (2, .int v2), (3, .int v3), (4, .ref a8)]) hx hb dX11_drives_95 (by decide) rfl ?_
    refine z_sub [1, 2, 3, 4, 5, 0] rfl ?_
    exact b97 a8 130 (sA (sA q 50 (upd (gA q 50) (s2 : Int32).toNatClampNeg ((gA q 15) (s0 : Int32).toNatClampNeg))) 50 (upd (upd (gA q 50) (s2 : Int32).toNatClampNeg ((gA q 15) (s0 : Int32).toNatClampNeg)) (6 : Int32).toNatClampNeg ((gA q 7) (v1 : Int32).toNatClampNeg))) v1 v2 v3 0 hok hF
  have b67 : ∀ (a8 : Nat) (q : SS) (v1 : Int32) (v2 : Int32) (v3 : Int32) (s0 : Int32) (s2 : Int32), kX11_drives_67 q v1 v2 v3 s0 s2 → F = fX11_drives_67 q v1 v2 v3 s0 s2 → Z p l e (zr 1 1 7) s m args below meth c 1 7 (MQ below (va_Qi (fun (x : Int32) (_ : Unit) => x = F.1) (fun _ t => (GM D kc ad) A F.2 t.heap) A) args s 1 7 A) 6 A (ZG D vwCl (fun q => wM kc ad q ++ (fun q : SS => ([(a8, .inl (kc 0, 7, .inl (gA q 50)))] : va_W)) q) (fun _ tl => tl = []) A) q 67 [(0, .ref (ad 0)), (1, .int v1), (2, .int v2), (3, .int v3), (4, .ref a8)] [.int s0, .ref (ad 15), .int s2, .ref a8] := by
    intro a8 q v1 v2 v3 s0 s2 hok hF
    have h67 := And.left hok
    have hok := And.right hok
    refine z_iald (f := (gA q 15)) S hK 15 0 (fun _ => rfl) rfl h67 dX11_drives_67 ?_
    have h68 := And.left hok
    have hok := And.right hok
    refine z_iast (f := (gA q 50)) (q' := (sA q 50 (upd (gA q 50) (s2 : Int32).toNatClampNeg ((gA q 15) (s0 : Int32).toNatClampNeg)))) S hK 23 0 (fun _ => rfl) rfl h68 dX11_drives_68 (wLX11_drives_a23_1 kc ad a8 _ _) (fun _ h => h) ?_
    refine z_aload (j := 4) hx hb dX11_drives_69 rfl ?_
    refine z_iconst (v := 5) hx hb dX11_drives_71 (by decide) ?_
    refine z_aload_n (j := 0) hx hb dX11_drives_72 rfl rfl ?_
    refine z_get (v := .ref (ad 15)) S hK inX11 0 (fun _ => rfl) rfl 42 (by decide) q6_139 rfl rfl dX11_drives_73 ?_
    refine z_aload_n (j := 0) hx hb dX11_drives_76 rfl rfl ?_
    refine z_iconst (v := 1) hx hb dX11_drives_77 (by decide) ?_
    have h78 := And.left hok
    have hok := And.right hok
    have h78_50 := And.left hok
    have hok := And.right hok
    refine z_callLVi (As := [.int 1]) (loc := (fun q : SS => ([(a8, .inl (kc 0, 7, .inl (gA q 50)))] : va_W))) S (ctX11_registerOf l D kc ad (sA q 50 (upd (gA q 50) (s2 : Int32).toNatClampNeg ((gA q 15) (s0 : Int32).toNatClampNeg))) 1 h78) (cwV 1 S.2.2.2.2 (gV q7_129 q7_131 qp3_0 q1_12 q7_132) rfl rfl rfl hX11_registerOf ⟨Nat.le_of_ble_eq_true rfl, Nat.le_of_ble_eq_true rfl⟩) hA (pbM D kc) (fun _ _ hW => va_K.moved hW.alike hK) (fun _ => z_recv hK 0 (fun _ => rfl) rfl) (by simp only [h78_50]) rfl rfl (Nat.le_of_ble_eq_true rfl) dX11_drives_78 ⟨Nat.le_of_ble_eq_true rfl, Nat.le_of_ble_eq_true rfl⟩ ?_
    exact b81 a8 (fX11_registerOf (sA q 50 (upd (gA q 50) (s2 : Int32).toNatClampNeg ((gA q 15) (s0 : Int32).toNatClampNeg))) 1).2 v1 v2 v3 (fX11_registerOf (sA q 50 (upd (gA q 50) (s2 : Int32).toNatClampNeg ((gA q 15) (s0 : Int32).toNatClampNeg))) 1).1 5 hok hF
  have b45 : ∀ (a8 : Nat) (q : SS) (v1 : Int32) (v2 : Int32) (v3 : Int32), kX11_drives_45 q v1 v2 v3 → F = fX11_drives_45 q v1 v2 v3 → Z p l e (zr 1 1 7) s m args below meth c 1 7 (MQ below (va_Qi (fun (x : Int32) (_ : Unit) => x = F.1) (fun _ t => (GM D kc ad) A F.2 t.heap) A) args s 1 7 A) 6 A (ZG D vwCl (fun q => wM kc ad q ++ (fun q : SS => ([(a8, .inl (kc 0, 7, .inl (gA q 50)))] : va_W)) q) (fun _ tl => tl = []) A) q 45 [(0, .ref (ad 0)), (1, .int v1), (2, .int v2), (3, .int v3), (4, .ref a8)] [] := by
    intro a8 q v1 v2 v3 hok hF
    refine z_aload (j := 4) hx hb dX11_drives_45 rfl ?_
    refine z_iconst (v := 3) hx hb dX11_drives_47 (by decide) ?_
    refine z_aload_n (j := 0) hx hb dX11_drives_48 rfl rfl ?_
    refine z_get (v := .ref (ad 15)) S hK inX11 0 (fun _ => rfl) rfl 42 (by decide) q6_139 rfl rfl dX11_drives_49 ?_
    refine z_iconst (v := 4) hx hb dX11_drives_52 (by decide) ?_
    refine z_iald (f := (gA q 15)) S hK 15 0 (fun _ => rfl) rfl (show ¬ (_ ∨ _) from by decide) dX11_drives_53 ?_
    refine z_iast (f := (gA q 50)) (q' := (sA q 50 (upd (gA q 50) (3 : Int32).toNatClampNeg ((gA q 15) (4 : Int32).toNatClampNeg)))) S hK 23 0 (fun _ => rfl) rfl (show ¬ (_ ∨ _) from by decide) dX11_drives_54 (wLX11_drives_a23_1 kc ad a8 _ _) (fun _ h => h) ?_
    refine z_aload (j := 4) hx hb dX11_drives_55 rfl ?_
    refine z_iconst (v := 4) hx hb dX11_drives_57 (by decide) ?_
    refine z_aload_n (j := 0) hx hb dX11_drives_58 rfl rfl ?_
    refine z_get (v := .ref (ad 15)) S hK inX11 0 (fun _ => rfl) rfl 42 (by decide) q6_139 rfl rfl dX11_drives_59 ?_
    refine z_aload_n (j := 0) hx hb dX11_drives_62 rfl rfl ?_
    refine z_iconst (v := 0) hx hb dX11_drives_63 (by decide) ?_
    have h64 := And.left hok
    have hok := And.right hok
    have h64_50 := And.left hok
    have hok := And.right hok
    refine z_callLVi (As := [.int 0]) (loc := (fun q : SS => ([(a8, .inl (kc 0, 7, .inl (gA q 50)))] : va_W))) S (ctX11_registerOf l D kc ad (sA q 50 (upd (gA q 50) (3 : Int32).toNatClampNeg ((gA q 15) (4 : Int32).toNatClampNeg))) 0 h64) (cwV 1 S.2.2.2.2 (gV q7_129 q7_131 qp3_0 q1_12 q7_132) rfl rfl rfl hX11_registerOf ⟨Nat.le_of_ble_eq_true rfl, Nat.le_of_ble_eq_true rfl⟩) hA (pbM D kc) (fun _ _ hW => va_K.moved hW.alike hK) (fun _ => z_recv hK 0 (fun _ => rfl) rfl) (by simp only [h64_50]) rfl rfl (Nat.le_of_ble_eq_true rfl) dX11_drives_64 ⟨Nat.le_of_ble_eq_true rfl, Nat.le_of_ble_eq_true rfl⟩ ?_
    exact b67 a8 (fX11_registerOf (sA q 50 (upd (gA q 50) (3 : Int32).toNatClampNeg ((gA q 15) (4 : Int32).toNatClampNeg))) 0).2 v1 v2 v3 (fX11_registerOf (sA q 50 (upd (gA q 50) (3 : Int32).toNatClampNeg ((gA q 15) (4 : Int32).toNatClampNeg))) 0).1 4 hok hF
  refine z_sipush (v := 255) hx hb dX11_drives_0 (by decide) ?_
  refine z_istore_n (lv' := [(2, .int 255), (0, .ref (ad 0)), (1, .int v1)]) hx hb dX11_drives_3 rfl (by decide) rfl ?_
  refine z_iconst (v := 0) hx hb dX11_drives_4 (by decide) ?_
  refine z_istore_n (lv' := [(3, .int 0), (2, .int 255), (0, .ref (ad 0)), (1, .int v1)]) hx hb dX11_drives_5 rfl (by decide) rfl ?_
  refine z_bipush (v := 7) hx hb dX11_drives_6 (by decide) ?_
  refine z_newa (a0 := (7, .inl (fun _ => 0))) (q' := (sA q 50 (fun _ => 0))) S hK hA rfl (fun _ h => by cases h) 0 rfl q1_72 (fun a8 q => wM kc ad q ++ (fun q : SS => ([(a8, .inl (kc 0, 7, .inl (gA q 50)))] : va_W)) q) (fun _ => rfl) (by decide) (by decide) (Nat.le_of_ble_eq_true rfl) (Nat.le_of_ble_eq_true rfl) (Nat.le_of_ble_eq_true rfl) dX11_drives_8 (fun _ => rfl) (fun a8 => ?_)
  refine z_astore (lv' := [(4, .ref a8), (3, .int 0), (2, .int 255), (0, .ref (ad 0)), (1, .int v1)]) hx hb dX11_drives_10 (by decide) rfl ?_
  refine z_aload (j := 0) hx hb dX11_drives_12 rfl ?_
  refine z_iconst (v := 0) hx hb dX11_drives_14 (by decide) ?_
  refine z_aload_n (j := 3) hx hb dX11_drives_15 rfl rfl ?_
  refine z_get (v := .ref (ad 15)) S hK inX11 0 (fun _ => rfl) rfl 42 (by decide) q6_139 rfl rfl dX11_drives_16 ?_
  refine z_bipush (v := 10) hx hb dX11_drives_19 (by decide) ?_
  refine z_iald (f := (gA q 15)) S hK 15 0 (fun _ => rfl) rfl (show ¬ (_ ∨ _) from by decide) dX11_drives_21 ?_
  refine z_iast (f := (fun _ => 0)) (q' := (sA (sA q 50 (fun _ => 0)) 50 (upd (fun _ => 0) (0 : Int32).toNatClampNeg ((gA q 15) (10 : Int32).toNatClampNeg)))) S hK 23 0 (fun _ => rfl) rfl (show ¬ (_ ∨ _) from by decide) dX11_drives_22 (wLX11_drives_a23_1 kc ad a8 _ _) (fun _ h => h) ?_
  refine z_aload (j := 0) hx hb dX11_drives_23 rfl ?_
  refine z_iconst (v := 1) hx hb dX11_drives_25 (by decide) ?_
  refine z_aload_n (j := 3) hx hb dX11_drives_26 rfl rfl ?_
  refine z_get (v := .ref (ad 15)) S hK inX11 0 (fun _ => rfl) rfl 42 (by decide) q6_139 rfl rfl dX11_drives_27 ?_
  refine z_bipush (v := 11) hx hb dX11_drives_30 (by decide) ?_
  refine z_iald (f := (gA q 15)) S hK 15 0 (fun _ => rfl) rfl (show ¬ (_ ∨ _) from by decide) dX11_drives_32 ?_
  refine z_iast (f := (upd (fun _ => 0) (0 : Int32).toNatClampNeg ((gA q 15) (10 : Int32).toNatClampNeg))) (q' := (sA (sA (sA q 50 (fun _ => 0)) 50 (upd (fun _ => 0) (0 : Int32).toNatClampNeg ((gA q 15) (10 : Int32).toNatClampNeg))) 50 (upd (upd (fun _ => 0) (0 : Int32).toNatClampNeg ((gA q 15) (10 : Int32).toNatClampNeg)) (1 : Int32).toNatClampNeg ((gA q 15) (11 : Int32).toNatClampNeg)))) S hK 23 0 (fun _ => rfl) rfl (show ¬ (_ ∨ _) from by decide) dX11_drives_33 (wLX11_drives_a23_1 kc ad a8 _ _) (fun _ h => h) ?_
  refine z_aload (j := 0) hx hb dX11_drives_34 rfl ?_
  refine z_iconst (v := 2) hx hb dX11_drives_36 (by decide) ?_
  refine z_aload_n (j := 3) hx hb dX11_drives_37 rfl rfl ?_
  refine z_get (v := .ref (ad 15)) S hK inX11 0 (fun _ => rfl) rfl 42 (by decide) q6_139 rfl rfl dX11_drives_38 ?_
  refine z_bipush (v := 13) hx hb dX11_drives_41 (by decide) ?_
  refine z_iald (f := (gA q 15)) S hK 15 0 (fun _ => rfl) rfl (show ¬ (_ ∨ _) from by decide) dX11_drives_43 ?_
  refine z_iast (f := (upd (upd (fun _ => 0) (0 : Int32).toNatClampNeg ((gA q 15) (10 : Int32).toNatClampNeg)) (1 : Int32).toNatClampNeg ((gA q 15) (11 : Int32).toNatClampNeg))) (q' := (sA (sA (sA (sA q 50 (fun _ => 0)) 50 (upd (fun _ => 0) (0 : Int32).toNatClampNeg ((gA q 15) (10 : Int32).toNatClampNeg))) 50 (upd (upd (fun _ => 0) (0 : Int32).toNatClampNeg ((gA q 15) (10 : Int32).toNatClampNeg)) (1 : Int32).toNatClampNeg ((gA q 15) (11 : Int32).toNatClampNeg))) 50 (upd (upd (upd (fun _ => 0) (0 : Int32).toNatClampNeg ((gA q 15) (10 : Int32).toNatClampNeg)) (1 : Int32).toNatClampNeg ((gA q 15) (11 : Int32).toNatClampNeg)) (2 : Int32).toNatClampNeg ((gA q 15) (13 : Int32).toNatClampNeg)))) S hK 23 0 (fun _ => rfl) rfl (show ¬ (_ ∨ _) from by decide) dX11_drives_44 (wLX11_drives_a23_1 kc ad a8 _ _) (fun _ h => h) ?_
  refine z_sub [3, 4, 2, 1, 0] rfl ?_
  exact b45 a8 (sA (sA (sA (sA q 50 (fun _ => 0)) 50 (upd (fun _ => 0) (0 : Int32).toNatClampNeg ((gA q 15) (10 : Int32).toNatClampNeg))) 50 (upd (upd (fun _ => 0) (0 : Int32).toNatClampNeg ((gA q 15) (10 : Int32).toNatClampNeg)) (1 : Int32).toNatClampNeg ((gA q 15) (11 : Int32).toNatClampNeg))) 50 (upd (upd (upd (fun _ => 0) (0 : Int32).toNatClampNeg ((gA q 15) (10 : Int32).toNatClampNeg)) (1 : Int32).toNatClampNeg ((gA q 15) (11 : Int32).toNatClampNeg)) (2 : Int32).toNatClampNeg ((gA q 15) (13 : Int32).toNatClampNeg))) v1 255 0 hok hF
theorem hX11_drives : yX11_drives.cls = RX11 ∧ yX11_drives.cls ≠ "java/lang/invoke/MethodHandle" ∧ yX11_drives.cls ≠ "java/lang/invoke/VarHandle" ∧ (parseMethodDescriptor yX11_drives.desc).map (fun d => d.parameters.length) = some 1 := by decide +kernel
def fX11_does_260 (q : SS) (v1 : Int32) (v2 : Int32) : SS := (fX11_orders q v1 v2)
def kX11_does_260 (q : SS) (v1 : Int32) (v2 : Int32) : Prop := kX11_orders q v1 v2 ∧ True
def fX11_does_231 (q : SS) (v1 : Int32) (v2 : Int32) : SS := (if ((gA q 4) (v1 : Int32).toNatClampNeg) = 2 then fX11_does_260 (sA q 17 (upd (gA q 17) (((gA q 15) (12 : Int32).toNatClampNeg) : Int32).toNatClampNeg ((gA q 15) (13 : Int32).toNatClampNeg))) v1 v2 else fX11_does_260 q v1 v2)
def kX11_does_231 (q : SS) (v1 : Int32) (v2 : Int32) : Prop := vp_in v1 80 ∧ ((((gA q 4) (v1 : Int32).toNatClampNeg) = 2 → vp_in ((gA q 15) (12 : Int32).toNatClampNeg) 64 ∧ kX11_does_260 (sA q 17 (upd (gA q 17) (((gA q 15) (12 : Int32).toNatClampNeg) : Int32).toNatClampNeg ((gA q 15) (13 : Int32).toNatClampNeg))) v1 v2) ∧ (¬ ((gA q 4) (v1 : Int32).toNatClampNeg) = 2 → kX11_does_260 q v1 v2))
def fX11_does_202 (q : SS) (v1 : Int32) (v2 : Int32) : SS := (if ((gA q 4) (v1 : Int32).toNatClampNeg) = 1 then fX11_does_231 (sA q 15 (upd (gA q 15) (13 : Int32).toNatClampNeg ((gA q 17) (((gA q 15) (12 : Int32).toNatClampNeg) : Int32).toNatClampNeg))) v1 v2 else fX11_does_231 q v1 v2)
def kX11_does_202 (q : SS) (v1 : Int32) (v2 : Int32) : Prop := vp_in v1 80 ∧ ((((gA q 4) (v1 : Int32).toNatClampNeg) = 1 → vp_in ((gA q 15) (12 : Int32).toNatClampNeg) 64 ∧ kX11_does_231 (sA q 15 (upd (gA q 15) (13 : Int32).toNatClampNeg ((gA q 17) (((gA q 15) (12 : Int32).toNatClampNeg) : Int32).toNatClampNeg))) v1 v2) ∧ (¬ ((gA q 4) (v1 : Int32).toNatClampNeg) = 1 → kX11_does_231 q v1 v2))
def fX11_does_117 (q : SS) (v1 : Int32) (v2 : Int32) (s0 : Int32) (s1 : Int32) : SS := (if ((gA q 4) (v1 : Int32).toNatClampNeg) = 0 then fX11_does_202 (sI (sL q 21 ((gL q 21) + (((s1 + s0) : Int32).toInt64))) 17 ((gI q 17) + (s1 + s0))) v1 v2 else (if ((gA q 13) ((((gA q 15) (12 : Int32).toNatClampNeg) / 16) : Int32).toNatClampNeg) = 0 then fX11_does_202 (sI (sL q 21 ((gL q 21) + (((s1 + s0) : Int32).toInt64))) 17 ((gI q 17) + (s1 + s0))) v1 v2 else (fX11_back (sI (sI (sI (sI (sL q 21 ((gL q 21) + (((s1 + s0) : Int32).toInt64))) 17 ((gI q 17) + (s1 + s0))) 14 ((gI q 14) + 1)) 23 119) 5 (((gA q 15) (12 : Int32).toNatClampNeg) / 16)))))
def kX11_does_117 (q : SS) (v1 : Int32) (v2 : Int32) (s0 : Int32) (s1 : Int32) : Prop := vp_in v1 80 ∧ ((((gA q 4) (v1 : Int32).toNatClampNeg) = 0 → kX11_does_202 (sI (sL q 21 ((gL q 21) + (((s1 + s0) : Int32).toInt64))) 17 ((gI q 17) + (s1 + s0))) v1 v2) ∧ (¬ ((gA q 4) (v1 : Int32).toNatClampNeg) = 0 → vp_in (((gA q 15) (12 : Int32).toNatClampNeg) / 16) 4 ∧ ((((gA q 13) ((((gA q 15) (12 : Int32).toNatClampNeg) / 16) : Int32).toNatClampNeg) = 0 → kX11_does_202 (sI (sL q 21 ((gL q 21) + (((s1 + s0) : Int32).toInt64))) 17 ((gI q 17) + (s1 + s0))) v1 v2) ∧ (¬ ((gA q 13) ((((gA q 15) (12 : Int32).toNatClampNeg) / 16) : Int32).toNatClampNeg) = 0 → kX11_back (sI (sI (sI (sI (sL q 21 ((gL q 21) + (((s1 + s0) : Int32).toInt64))) 17 ((gI q 17) + (s1 + s0))) 14 ((gI q 14) + 1)) 23 119) 5 (((gA q 15) (12 : Int32).toNatClampNeg) / 16)) ∧ True))))
def fX11_does_99 (q : SS) (v1 : Int32) (v2 : Int32) : SS := (if ((gA q 4) (v1 : Int32).toNatClampNeg) = 0 then fX11_does_117 q v1 v2 0 1 else fX11_does_117 q v1 v2 (gI q 3) 1)
def kX11_does_99 (q : SS) (v1 : Int32) (v2 : Int32) : Prop := vp_in v1 80 ∧ ((((gA q 4) (v1 : Int32).toNatClampNeg) = 0 → kX11_does_117 q v1 v2 0 1) ∧ (¬ ((gA q 4) (v1 : Int32).toNatClampNeg) = 0 → kX11_does_117 q v1 v2 (gI q 3) 1))
def fX11_does_93 (q : SS) (v1 : Int32) (v2 : Int32) : SS := fX11_does_99 (fX11_listens q v1 v2) v1 v2
def kX11_does_93 (q : SS) (v1 : Int32) (v2 : Int32) : Prop := kX11_listens q v1 v2 ∧ kX11_does_99 (fX11_listens q v1 v2) v1 v2
def fX11_does_49 (q : SS) (v1 : Int32) (s0 : Int32) : SS := (if ((gA q 11) (v1 : Int32).toNatClampNeg) = 0 then fX11_does_93 q v1 s0 else fX11_does_93 (sI (sI (sI (sI q 26 1) 18 ((gA q 2) (v1 : Int32).toNatClampNeg)) 19 ((gA q 15) (10 : Int32).toNatClampNeg)) 20 (gI q 8)) v1 s0)
def kX11_does_49 (q : SS) (v1 : Int32) (s0 : Int32) : Prop := vp_in v1 80 ∧ ((((gA q 11) (v1 : Int32).toNatClampNeg) = 0 → kX11_does_93 q v1 s0) ∧ (¬ ((gA q 11) (v1 : Int32).toNatClampNeg) = 0 → vp_in v1 80 ∧ kX11_does_93 (sI (sI (sI (sI q 26 1) 18 ((gA q 2) (v1 : Int32).toNatClampNeg)) 19 ((gA q 15) (10 : Int32).toNatClampNeg)) 20 (gI q 8)) v1 s0))
def fX11_does_16 (q : SS) (v1 : Int32) (s0 : Int32) : SS := fX11_does_49 (fX11_combined (sI (sI q 8 s0) 9 ((gA q 1) (v1 : Int32).toNatClampNeg)) ((gA q 2) (v1 : Int32).toNatClampNeg) ((gA q 15) (10 : Int32).toNatClampNeg) s0).2 v1 (fX11_combined (sI (sI q 8 s0) 9 ((gA q 1) (v1 : Int32).toNatClampNeg)) ((gA q 2) (v1 : Int32).toNatClampNeg) ((gA q 15) (10 : Int32).toNatClampNeg) s0).1
def kX11_does_16 (q : SS) (v1 : Int32) (s0 : Int32) : Prop := vp_in v1 80 ∧ vp_in v1 80 ∧ kX11_combined (sI (sI q 8 s0) 9 ((gA q 1) (v1 : Int32).toNatClampNeg)) ((gA q 2) (v1 : Int32).toNatClampNeg) ((gA q 15) (10 : Int32).toNatClampNeg) s0 ∧ kX11_does_49 (fX11_combined (sI (sI q 8 s0) 9 ((gA q 1) (v1 : Int32).toNatClampNeg)) ((gA q 2) (v1 : Int32).toNatClampNeg) ((gA q 15) (10 : Int32).toNatClampNeg) s0).2 v1 (fX11_combined (sI (sI q 8 s0) 9 ((gA q 1) (v1 : Int32).toNatClampNeg)) ((gA q 2) (v1 : Int32).toNatClampNeg) ((gA q 15) (10 : Int32).toNatClampNeg) s0).1
def fX11_does (q : SS) : SS := fX11_does_16 (fX11_drives (sI q 25 1) (gI q 6)).2 (gI q 6) (fX11_drives (sI q 25 1) (gI q 6)).1
def kX11_does (q : SS) : Prop := kX11_drives (sI q 25 1) (gI q 6) ∧ kX11_does_16 (fX11_drives (sI q 25 1) (gI q 6)).2 (gI q 6) (fX11_drives (sI q 25 1) (gI q 6)).1
set_option maxHeartbeats 4000000 in
set_option maxRecDepth 100000 in
theorem ctX11_does (l : Launch) (D : va_G) (kc : Nat → ClassId) (ad : Nat → Nat) (q : SS) (hok : kX11_does q) : Cv l yX11_does (Cond.code yX11_does cX11_does 4 none :: lw_G) (zr 6 1 7) 1 7 (PM D kc) (GM D kc ad) (GM D kc ad) [.ref (ad 0)] q (fX11_does q) := by
  refine Cv.of (cc := cX11_does) (maxL := 4) (ret := none) (by decide) rfl (Nat.le_of_ble_eq_true rfl) ?_
  intro p e s m args below meth c A S hr hlocks hin hA hK
  have hx := S.1
  have hb := S.2.1
  have hK : va_K D vwCl (tysK kc) s := hK
  generalize hFe : fX11_does q = F
  have hF : F = fX11_does q := hFe.symm
  have b260 : ∀ (q : SS) (v1 : Int32) (v2 : Int32), kX11_does_260 q v1 v2 → F = fX11_does_260 q v1 v2 → Z p l e (zr 6 1 7) s m args below meth c 1 7 (MQ below (va_Qv (fun (_ : Unit) => True) (fun _ t => (GM D kc ad) A F t.heap) A) args s 1 7 A) 4 A (ZG D vwCl (wM kc ad) (fun _ tl => tl = []) A) q 260 [(0, .ref (ad 0)), (1, .int v1), (2, .int v2)] [] := by
    intro q v1 v2 hok hF
    refine z_aload_n (j := 0) hx hb dX11_does_260 rfl rfl ?_
    refine z_iload_n (j := 1) hx hb dX11_does_261 rfl rfl ?_
    refine z_iload_n (j := 2) hx hb dX11_does_262 rfl rfl ?_
    have h263 := And.left hok
    have hok := And.right hok
    refine z_callVv (As := [.int v1, .int v2]) S (ctX11_orders l D kc ad q v1 v2 h263) (cwV 2 S.2.2.2.2 (gV q7_140 q7_142 qp3_2 q1_12 q7_143) rfl rfl rfl hX11_orders ⟨Nat.le_of_ble_eq_true rfl, Nat.le_of_ble_eq_true rfl⟩) hA (pbM D kc) (psM hK) (z_recv hK 0 (fun _ => rfl) rfl) rfl rfl (Nat.le_of_ble_eq_true rfl) dX11_does_263 ⟨Nat.le_of_ble_eq_true rfl, Nat.le_of_ble_eq_true rfl⟩ ?_
    exact z_vret hx hb hlocks hr hF dX11_does_266
  have b231 : ∀ (q : SS) (v1 : Int32) (v2 : Int32), kX11_does_231 q v1 v2 → F = fX11_does_231 q v1 v2 → Z p l e (zr 6 1 7) s m args below meth c 1 7 (MQ below (va_Qv (fun (_ : Unit) => True) (fun _ t => (GM D kc ad) A F t.heap) A) args s 1 7 A) 4 A (ZG D vwCl (wM kc ad) (fun _ tl => tl = []) A) q 231 [(0, .ref (ad 0)), (1, .int v1), (2, .int v2)] [] := by
    intro q v1 v2 hok hF
    refine z_aload_n (j := 0) hx hb dX11_does_231 rfl rfl ?_
    refine z_get (v := .ref (ad 4)) S hK inX11 0 (fun _ => rfl) rfl 31 (by decide) q6_128 rfl rfl dX11_does_232 ?_
    refine z_iload_n (j := 1) hx hb dX11_does_235 rfl rfl ?_
    have h236 := And.left hok
    have hok := And.right hok
    refine z_iald (f := (gA q 4)) S hK 4 0 (fun _ => rfl) rfl h236 dX11_does_236 ?_
    refine z_iconst (v := 2) hx hb dX11_does_237 (by decide) ?_
    refine z_icmp_ne (tgt := 260) hx hb dX11_does_238 (by decide) (fun g238 => ?_) (fun g238 => ?_)
    · have hF := hF.trans (if_neg g238)
      have hok := And.right hok g238
      exact b260 q v1 v2 hok hF
    · have hF := hF.trans (if_pos g238)
      have hok := And.left hok g238
      refine z_aload_n (j := 0) hx hb dX11_does_241 rfl rfl ?_
      refine z_get (v := .ref (ad 17)) S hK inX11 0 (fun _ => rfl) rfl 44 (by decide) q6_141 rfl rfl dX11_does_242 ?_
      refine z_aload_n (j := 0) hx hb dX11_does_245 rfl rfl ?_
      refine z_get (v := .ref (ad 15)) S hK inX11 0 (fun _ => rfl) rfl 42 (by decide) q6_139 rfl rfl dX11_does_246 ?_
      refine z_bipush (v := 12) hx hb dX11_does_249 (by decide) ?_
      refine z_iald (f := (gA q 15)) S hK 15 0 (fun _ => rfl) rfl (show ¬ (_ ∨ _) from by decide) dX11_does_251 ?_
      refine z_aload_n (j := 0) hx hb dX11_does_252 rfl rfl ?_
      refine z_get (v := .ref (ad 15)) S hK inX11 0 (fun _ => rfl) rfl 42 (by decide) q6_139 rfl rfl dX11_does_253 ?_
      refine z_bipush (v := 13) hx hb dX11_does_256 (by decide) ?_
      refine z_iald (f := (gA q 15)) S hK 15 0 (fun _ => rfl) rfl (show ¬ (_ ∨ _) from by decide) dX11_does_258 ?_
      have h259 := And.left hok
      have hok := And.right hok
      refine z_iast (f := (gA q 17)) (q' := (sA q 17 (upd (gA q 17) (((gA q 15) (12 : Int32).toNatClampNeg) : Int32).toNatClampNeg ((gA q 15) (13 : Int32).toNatClampNeg)))) S hK 17 0 (fun _ => rfl) rfl h259 dX11_does_259 (wMa17 kc ad _ _) (fun _ h => h) ?_
      exact b260 (sA q 17 (upd (gA q 17) (((gA q 15) (12 : Int32).toNatClampNeg) : Int32).toNatClampNeg ((gA q 15) (13 : Int32).toNatClampNeg))) v1 v2 hok hF
  have b202 : ∀ (q : SS) (v1 : Int32) (v2 : Int32), kX11_does_202 q v1 v2 → F = fX11_does_202 q v1 v2 → Z p l e (zr 6 1 7) s m args below meth c 1 7 (MQ below (va_Qv (fun (_ : Unit) => True) (fun _ t => (GM D kc ad) A F t.heap) A) args s 1 7 A) 4 A (ZG D vwCl (wM kc ad) (fun _ tl => tl = []) A) q 202 [(0, .ref (ad 0)), (1, .int v1), (2, .int v2)] [] := by
    intro q v1 v2 hok hF
    refine z_aload_n (j := 0) hx hb dX11_does_202 rfl rfl ?_
    refine z_get (v := .ref (ad 4)) S hK inX11 0 (fun _ => rfl) rfl 31 (by decide) q6_128 rfl rfl dX11_does_203 ?_
    refine z_iload_n (j := 1) hx hb dX11_does_206 rfl rfl ?_
    have h207 := And.left hok
    have hok := And.right hok
    refine z_iald (f := (gA q 4)) S hK 4 0 (fun _ => rfl) rfl h207 dX11_does_207 ?_
    refine z_iconst (v := 1) hx hb dX11_does_208 (by decide) ?_
    refine z_icmp_ne (tgt := 231) hx hb dX11_does_209 (by decide) (fun g209 => ?_) (fun g209 => ?_)
    · have hF := hF.trans (if_neg g209)
      have hok := And.right hok g209
      exact b231 q v1 v2 hok hF
    · have hF := hF.trans (if_pos g209)
      have hok := And.left hok g209
      refine z_aload_n (j := 0) hx hb dX11_does_212 rfl rfl ?_
      refine z_get (v := .ref (ad 15)) S hK inX11 0 (fun _ => rfl) rfl 42 (by decide) q6_139 rfl rfl dX11_does_213 ?_
      refine z_bipush (v := 13) hx hb dX11_does_216 (by decide) ?_
      refine z_aload_n (j := 0) hx hb dX11_does_218 rfl rfl ?_
      refine z_get (v := .ref (ad 17)) S hK inX11 0 (fun _ => rfl) rfl 44 (by decide) q6_141 rfl rfl dX11_does_219 ?_
      refine z_aload_n (j := 0) hx hb dX11_does_222 rfl rfl ?_
      refine z_get (v := .ref (ad 15)) S hK inX11 0 (fun _ => rfl) rfl 42 (by decide) q6_139 rfl rfl dX11_does_223 ?_
      refine z_bipush (v := 12) hx hb dX11_does_226 (by decide) ?_
      refine z_iald (f := (gA q 15)) S hK 15 0 (fun _ => rfl) rfl (show ¬ (_ ∨ _) from by decide) dX11_does_228 ?_
      have h229 := And.left hok
      have hok := And.right hok
      refine z_iald (f := (gA q 17)) S hK 17 0 (fun _ => rfl) rfl h229 dX11_does_229 ?_
      refine z_iast (f := (gA q 15)) (q' := (sA q 15 (upd (gA q 15) (13 : Int32).toNatClampNeg ((gA q 17) (((gA q 15) (12 : Int32).toNatClampNeg) : Int32).toNatClampNeg)))) S hK 15 0 (fun _ => rfl) rfl (show ¬ (_ ∨ _) from by decide) dX11_does_230 (wMa15 kc ad _ _) (fun _ h => h) ?_
      exact b231 (sA q 15 (upd (gA q 15) (13 : Int32).toNatClampNeg ((gA q 17) (((gA q 15) (12 : Int32).toNatClampNeg) : Int32).toNatClampNeg))) v1 v2 hok hF
  have b117 : ∀ (q : SS) (v1 : Int32) (v2 : Int32) (s0 : Int32) (s1 : Int32), kX11_does_117 q v1 v2 s0 s1 → F = fX11_does_117 q v1 v2 s0 s1 → Z p l e (zr 6 1 7) s m args below meth c 1 7 (MQ below (va_Qv (fun (_ : Unit) => True) (fun _ t => (GM D kc ad) A F t.heap) A) args s 1 7 A) 4 A (ZG D vwCl (wM kc ad) (fun _ tl => tl = []) A) q 117 [(0, .ref (ad 0)), (1, .int v1), (2, .int v2)] [.int s0, .int s1] := by
    intro q v1 v2 s0 s1 hok hF
    refine z_iadd hx hb dX11_does_117 ?_
    refine z_istore_n (lv' := [(3, .int (s1 + s0)), (0, .ref (ad 0)), (1, .int v1), (2, .int v2)]) hx hb dX11_does_118 rfl (by decide) rfl ?_
    refine z_aload_n (j := 1) hx hb dX11_does_119 rfl rfl ?_
    refine z_dup hx hb dX11_does_120 rfl ?_
    refine z_get (v := .long (gL q 21)) S hK inX11 0 (fun _ => rfl) rfl 21 (by decide) q6_118 rfl rfl dX11_does_121 ?_
    refine z_iload_n (j := 0) hx hb dX11_does_124 rfl rfl ?_
    refine z_i2l hx hb dX11_does_125 ?_
    refine z_ladd hx hb dX11_does_126 ?_
    refine z_put (v := .long ((gL q 21) + (((s1 + s0) : Int32).toInt64))) (q' := (sL q 21 ((gL q 21) + (((s1 + s0) : Int32).toInt64)))) S hK inX11 tyX11 tyX11_ok nmX11 0 (fun _ => rfl) rfl 21 (by decide) q6_118 rfl rfl rfl rfl (Nat.le_of_ble_eq_true rfl) dX11_does_127 (wMp21 kc ad _ _) (fun _ h => h) ?_
    refine z_aload_n (j := 1) hx hb dX11_does_130 rfl rfl ?_
    refine z_dup hx hb dX11_does_131 rfl ?_
    refine z_get (v := .int (gI q 17)) S hK inX11 0 (fun _ => rfl) rfl 17 (by decide) q6_114 rfl rfl dX11_does_132 ?_
    refine z_iload_n (j := 0) hx hb dX11_does_135 rfl rfl ?_
    refine z_iadd hx hb dX11_does_136 ?_
    refine z_put (v := .int ((gI q 17) + (s1 + s0))) (q' := (sI (sL q 21 ((gL q 21) + (((s1 + s0) : Int32).toInt64))) 17 ((gI q 17) + (s1 + s0)))) S hK inX11 tyX11 tyX11_ok nmX11 0 (fun _ => rfl) rfl 17 (by decide) q6_114 rfl rfl rfl rfl (Nat.le_of_ble_eq_true rfl) dX11_does_137 (wMp17 kc ad _ _) (fun _ h => h) ?_
    refine z_aload_n (j := 1) hx hb dX11_does_140 rfl rfl ?_
    refine z_get (v := .ref (ad 4)) S hK inX11 0 (fun _ => rfl) rfl 31 (by decide) q6_128 rfl rfl dX11_does_141 ?_
    refine z_iload_n (j := 2) hx hb dX11_does_144 rfl rfl ?_
    have h145 := And.left hok
    have hok := And.right hok
    refine z_iald (f := (gA q 4)) S hK 4 0 (fun _ => rfl) rfl h145 dX11_does_145 ?_
    refine z_if_eq (tgt := 202) hx hb dX11_does_146 (by decide) (fun g146 => ?_) (fun g146 => ?_)
    · have hF := hF.trans (if_pos g146)
      have hok := And.left hok g146
      refine z_sub [1, 2, 3] rfl ?_
      exact b202 (sI (sL q 21 ((gL q 21) + (((s1 + s0) : Int32).toInt64))) 17 ((gI q 17) + (s1 + s0))) v1 v2 hok hF
    · have hF := hF.trans (if_neg g146)
      have hok := And.right hok g146
      refine z_aload_n (j := 1) hx hb dX11_does_149 rfl rfl ?_
      refine z_get (v := .ref (ad 13)) S hK inX11 0 (fun _ => rfl) rfl 40 (by decide) q6_137 rfl rfl dX11_does_150 ?_
      refine z_aload_n (j := 1) hx hb dX11_does_153 rfl rfl ?_
      refine z_get (v := .ref (ad 15)) S hK inX11 0 (fun _ => rfl) rfl 42 (by decide) q6_139 rfl rfl dX11_does_154 ?_
      refine z_bipush (v := 12) hx hb dX11_does_157 (by decide) ?_
      refine z_iald (f := (gA q 15)) S hK 15 0 (fun _ => rfl) rfl (show ¬ (_ ∨ _) from by decide) dX11_does_159 ?_
      refine z_bipush (v := 16) hx hb dX11_does_160 (by decide) ?_
      refine z_idiv hx hb dX11_does_162 (by decide) ?_
      have h163 := And.left hok
      have hok := And.right hok
      refine z_zald (f := (gA q 13)) S hK 13 1 (fun _ => rfl) rfl h163 dX11_does_163 ?_
      refine z_if_eq (tgt := 202) hx hb dX11_does_164 (by decide) (fun g164 => ?_) (fun g164 => ?_)
      · have hF := hF.trans (if_pos g164)
        have hok := And.left hok g164
        refine z_sub [1, 2, 3] rfl ?_
        exact b202 (sI (sL q 21 ((gL q 21) + (((s1 + s0) : Int32).toInt64))) 17 ((gI q 17) + (s1 + s0))) v1 v2 hok hF
      · have hF := hF.trans (if_neg g164)
        have hok := And.right hok g164
        refine z_aload_n (j := 1) hx hb dX11_does_167 rfl rfl ?_
        refine z_dup hx hb dX11_does_168 rfl ?_
        refine z_get (v := .int (gI q 14)) S hK inX11 0 (fun _ => rfl) rfl 14 (by decide) q6_111 rfl rfl dX11_does_169 ?_
        refine z_iconst (v := 1) hx hb dX11_does_172 (by decide) ?_
        refine z_iadd hx hb dX11_does_173 ?_
        refine z_put (v := .int ((gI q 14) + 1)) (q' := (sI (sI (sL q 21 ((gL q 21) + (((s1 + s0) : Int32).toInt64))) 17 ((gI q 17) + (s1 + s0))) 14 ((gI q 14) + 1))) S hK inX11 tyX11 tyX11_ok nmX11 0 (fun _ => rfl) rfl 14 (by decide) q6_111 rfl rfl rfl rfl (Nat.le_of_ble_eq_true rfl) dX11_does_174 (wMp14 kc ad _ _) (fun _ h => h) ?_
        refine z_aload_n (j := 1) hx hb dX11_does_177 rfl rfl ?_
        refine z_bipush (v := 119) hx hb dX11_does_178 (by decide) ?_
        refine z_put (v := .int 119) (q' := (sI (sI (sI (sL q 21 ((gL q 21) + (((s1 + s0) : Int32).toInt64))) 17 ((gI q 17) + (s1 + s0))) 14 ((gI q 14) + 1)) 23 119)) S hK inX11 tyX11 tyX11_ok nmX11 0 (fun _ => rfl) rfl 23 (by decide) q6_120 rfl rfl rfl rfl (Nat.le_of_ble_eq_true rfl) dX11_does_180 (wMp23 kc ad _ _) (fun _ h => h) ?_
        refine z_aload_n (j := 1) hx hb dX11_does_183 rfl rfl ?_
        refine z_aload_n (j := 1) hx hb dX11_does_184 rfl rfl ?_
        refine z_get (v := .ref (ad 15)) S hK inX11 0 (fun _ => rfl) rfl 42 (by decide) q6_139 rfl rfl dX11_does_185 ?_
        refine z_bipush (v := 12) hx hb dX11_does_188 (by decide) ?_
        refine z_iald (f := (gA q 15)) S hK 15 0 (fun _ => rfl) rfl (show ¬ (_ ∨ _) from by decide) dX11_does_190 ?_
        refine z_bipush (v := 16) hx hb dX11_does_191 (by decide) ?_
        refine z_idiv hx hb dX11_does_193 (by decide) ?_
        refine z_put (v := .int (((gA q 15) (12 : Int32).toNatClampNeg) / 16)) (q' := (sI (sI (sI (sI (sL q 21 ((gL q 21) + (((s1 + s0) : Int32).toInt64))) 17 ((gI q 17) + (s1 + s0))) 14 ((gI q 14) + 1)) 23 119) 5 (((gA q 15) (12 : Int32).toNatClampNeg) / 16))) S hK inX11 tyX11 tyX11_ok nmX11 0 (fun _ => rfl) rfl 5 (by decide) q6_102 rfl rfl rfl rfl (Nat.le_of_ble_eq_true rfl) dX11_does_194 (wMp5 kc ad _ _) (fun _ h => h) ?_
        refine z_aload_n (j := 1) hx hb dX11_does_197 rfl rfl ?_
        have h198 := And.left hok
        have hok := And.right hok
        refine z_callVv (As := []) S (ctX11_back l D kc ad (sI (sI (sI (sI (sL q 21 ((gL q 21) + (((s1 + s0) : Int32).toInt64))) 17 ((gI q 17) + (s1 + s0))) 14 ((gI q 14) + 1)) 23 119) 5 (((gA q 15) (12 : Int32).toNatClampNeg) / 16)) h198) (cwV 0 S.2.2.2.2 (gV q7_105 q7_107 qp2_11 q1_12 q7_108) rfl rfl rfl hX11_back ⟨Nat.le_of_ble_eq_true rfl, Nat.le_of_ble_eq_true rfl⟩) hA (pbM D kc) (psM hK) (z_recv hK 0 (fun _ => rfl) rfl) rfl rfl (Nat.le_of_ble_eq_true rfl) dX11_does_198 ⟨Nat.le_of_ble_eq_true rfl, Nat.le_of_ble_eq_true rfl⟩ ?_
        exact z_vret hx hb hlocks hr hF dX11_does_201
  have b99 : ∀ (q : SS) (v1 : Int32) (v2 : Int32), kX11_does_99 q v1 v2 → F = fX11_does_99 q v1 v2 → Z p l e (zr 6 1 7) s m args below meth c 1 7 (MQ below (va_Qv (fun (_ : Unit) => True) (fun _ t => (GM D kc ad) A F t.heap) A) args s 1 7 A) 4 A (ZG D vwCl (wM kc ad) (fun _ tl => tl = []) A) q 99 [(0, .ref (ad 0)), (1, .int v1), (2, .int v2)] [] := by
    intro q v1 v2 hok hF
    refine z_iconst (v := 1) hx hb dX11_does_99 (by decide) ?_
    refine z_aload_n (j := 0) hx hb dX11_does_100 rfl rfl ?_
    refine z_get (v := .ref (ad 4)) S hK inX11 0 (fun _ => rfl) rfl 31 (by decide) q6_128 rfl rfl dX11_does_101 ?_
    refine z_iload_n (j := 1) hx hb dX11_does_104 rfl rfl ?_
    have h105 := And.left hok
    have hok := And.right hok
    refine z_iald (f := (gA q 4)) S hK 4 0 (fun _ => rfl) rfl h105 dX11_does_105 ?_
    refine z_if_ne (tgt := 113) hx hb dX11_does_106 (by decide) (fun g106 => ?_) (fun g106 => ?_)
    · have hF := hF.trans (if_neg g106)
      have hok := And.right hok g106
      refine z_aload_n (j := 0) hx hb dX11_does_113 rfl rfl ?_
      refine z_get (v := .int (gI q 3)) S hK inX11 0 (fun _ => rfl) rfl 3 (by decide) q6_100 rfl rfl dX11_does_114 ?_
      exact b117 q v1 v2 (gI q 3) 1 hok hF
    · have hF := hF.trans (if_pos g106)
      have hok := And.left hok g106
      refine z_iconst (v := 0) hx hb dX11_does_109 (by decide) ?_
      refine z_goto (tgt := 117) hx hb dX11_does_110 (by decide) ?_
      exact b117 q v1 v2 0 1 hok hF
  have b93 : ∀ (q : SS) (v1 : Int32) (v2 : Int32), kX11_does_93 q v1 v2 → F = fX11_does_93 q v1 v2 → Z p l e (zr 6 1 7) s m args below meth c 1 7 (MQ below (va_Qv (fun (_ : Unit) => True) (fun _ t => (GM D kc ad) A F t.heap) A) args s 1 7 A) 4 A (ZG D vwCl (wM kc ad) (fun _ tl => tl = []) A) q 93 [(0, .ref (ad 0)), (1, .int v1), (2, .int v2)] [] := by
    intro q v1 v2 hok hF
    refine z_aload_n (j := 0) hx hb dX11_does_93 rfl rfl ?_
    refine z_iload_n (j := 1) hx hb dX11_does_94 rfl rfl ?_
    refine z_iload_n (j := 2) hx hb dX11_does_95 rfl rfl ?_
    have h96 := And.left hok
    have hok := And.right hok
    refine z_callVv (As := [.int v1, .int v2]) S (ctX11_listens l D kc ad q v1 v2 h96) (cwV 2 S.2.2.2.2 (gV q7_136 q7_138 qp3_1 q1_12 q7_139) rfl rfl rfl hX11_listens ⟨Nat.le_of_ble_eq_true rfl, Nat.le_of_ble_eq_true rfl⟩) hA (pbM D kc) (psM hK) (z_recv hK 0 (fun _ => rfl) rfl) rfl rfl (Nat.le_of_ble_eq_true rfl) dX11_does_96 ⟨Nat.le_of_ble_eq_true rfl, Nat.le_of_ble_eq_true rfl⟩ ?_
    exact b99 (fX11_listens q v1 v2) v1 v2 hok hF
  have b49 : ∀ (q : SS) (v1 : Int32) (s0 : Int32), kX11_does_49 q v1 s0 → F = fX11_does_49 q v1 s0 → Z p l e (zr 6 1 7) s m args below meth c 1 7 (MQ below (va_Qv (fun (_ : Unit) => True) (fun _ t => (GM D kc ad) A F t.heap) A) args s 1 7 A) 4 A (ZG D vwCl (wM kc ad) (fun _ tl => tl = []) A) q 49 [(0, .ref (ad 0)), (1, .int v1)] [.int s0] := by
    intro q v1 s0 hok hF
    refine z_istore_n (lv' := [(2, .int s0), (0, .ref (ad 0)), (1, .int v1)]) hx hb dX11_does_49 rfl (by decide) rfl ?_
    refine z_aload_n (j := 1) hx hb dX11_does_50 rfl rfl ?_
    refine z_get (v := .ref (ad 11)) S hK inX11 0 (fun _ => rfl) rfl 38 (by decide) q6_135 rfl rfl dX11_does_51 ?_
    refine z_iload_n (j := 2) hx hb dX11_does_54 rfl rfl ?_
    have h55 := And.left hok
    have hok := And.right hok
    refine z_zald (f := (gA q 11)) S hK 11 1 (fun _ => rfl) rfl h55 dX11_does_55 ?_
    refine z_if_eq (tgt := 93) hx hb dX11_does_56 (by decide) (fun g56 => ?_) (fun g56 => ?_)
    · have hF := hF.trans (if_pos g56)
      have hok := And.left hok g56
      refine z_sub [1, 2, 0] rfl ?_
      exact b93 q v1 s0 hok hF
    · have hF := hF.trans (if_neg g56)
      have hok := And.right hok g56
      refine z_aload_n (j := 1) hx hb dX11_does_59 rfl rfl ?_
      refine z_iconst (v := 1) hx hb dX11_does_60 (by decide) ?_
      refine z_put (v := .int 1) (q' := (sI q 26 1)) S hK inX11 tyX11 tyX11_ok nmX11 0 (fun _ => rfl) rfl 26 (by decide) q6_123 rfl rfl rfl rfl (Nat.le_of_ble_eq_true rfl) dX11_does_61 (wMp26 kc ad _ _) (fun _ h => h) ?_
      refine z_aload_n (j := 1) hx hb dX11_does_64 rfl rfl ?_
      refine z_aload_n (j := 1) hx hb dX11_does_65 rfl rfl ?_
      refine z_get (v := .ref (ad 2)) S hK inX11 0 (fun _ => rfl) rfl 29 (by decide) q6_126 rfl rfl dX11_does_66 ?_
      refine z_iload_n (j := 2) hx hb dX11_does_69 rfl rfl ?_
      have h70 := And.left hok
      have hok := And.right hok
      refine z_iald (f := (gA q 2)) S hK 2 0 (fun _ => rfl) rfl h70 dX11_does_70 ?_
      refine z_put (v := .int ((gA q 2) (v1 : Int32).toNatClampNeg)) (q' := (sI (sI q 26 1) 18 ((gA q 2) (v1 : Int32).toNatClampNeg))) S hK inX11 tyX11 tyX11_ok nmX11 0 (fun _ => rfl) rfl 18 (by decide) q6_115 rfl rfl rfl rfl (Nat.le_of_ble_eq_true rfl) dX11_does_71 (wMp18 kc ad _ _) (fun _ h => h) ?_
      refine z_aload_n (j := 1) hx hb dX11_does_74 rfl rfl ?_
      refine z_aload_n (j := 1) hx hb dX11_does_75 rfl rfl ?_
      refine z_get (v := .ref (ad 15)) S hK inX11 0 (fun _ => rfl) rfl 42 (by decide) q6_139 rfl rfl dX11_does_76 ?_
      refine z_bipush (v := 10) hx hb dX11_does_79 (by decide) ?_
      refine z_iald (f := (gA q 15)) S hK 15 0 (fun _ => rfl) rfl (show ¬ (_ ∨ _) from by decide) dX11_does_81 ?_
      refine z_put (v := .int ((gA q 15) (10 : Int32).toNatClampNeg)) (q' := (sI (sI (sI q 26 1) 18 ((gA q 2) (v1 : Int32).toNatClampNeg)) 19 ((gA q 15) (10 : Int32).toNatClampNeg))) S hK inX11 tyX11 tyX11_ok nmX11 0 (fun _ => rfl) rfl 19 (by decide) q6_116 rfl rfl rfl rfl (Nat.le_of_ble_eq_true rfl) dX11_does_82 (wMp19 kc ad _ _) (fun _ h => h) ?_
      refine z_aload_n (j := 1) hx hb dX11_does_85 rfl rfl ?_
      refine z_aload_n (j := 1) hx hb dX11_does_86 rfl rfl ?_
      refine z_get (v := .int (gI q 8)) S hK inX11 0 (fun _ => rfl) rfl 8 (by decide) q6_105 rfl rfl dX11_does_87 ?_
      refine z_put (v := .int (gI q 8)) (q' := (sI (sI (sI (sI q 26 1) 18 ((gA q 2) (v1 : Int32).toNatClampNeg)) 19 ((gA q 15) (10 : Int32).toNatClampNeg)) 20 (gI q 8))) S hK inX11 tyX11 tyX11_ok nmX11 0 (fun _ => rfl) rfl 20 (by decide) q6_117 rfl rfl rfl rfl (Nat.le_of_ble_eq_true rfl) dX11_does_90 (wMp20 kc ad _ _) (fun _ h => h) ?_
      refine z_sub [1, 2, 0] rfl ?_
      exact b93 (sI (sI (sI (sI q 26 1) 18 ((gA q 2) (v1 : Int32).toNatClampNeg)) 19 ((gA q 15) (10 : Int32).toNatClampNeg)) 20 (gI q 8)) v1 s0 hok hF
  have b16 : ∀ (q : SS) (v1 : Int32) (s0 : Int32), kX11_does_16 q v1 s0 → F = fX11_does_16 q v1 s0 → Z p l e (zr 6 1 7) s m args below meth c 1 7 (MQ below (va_Qv (fun (_ : Unit) => True) (fun _ t => (GM D kc ad) A F t.heap) A) args s 1 7 A) 4 A (ZG D vwCl (wM kc ad) (fun _ tl => tl = []) A) q 16 [(0, .ref (ad 0)), (1, .int v1)] [.int s0, .ref (ad 0)] := by
    intro q v1 s0 hok hF
    refine z_put (v := .int s0) (q' := (sI q 8 s0)) S hK inX11 tyX11 tyX11_ok nmX11 0 (fun _ => rfl) rfl 8 (by decide) q6_105 rfl rfl rfl rfl (Nat.le_of_ble_eq_true rfl) dX11_does_16 (wMp8 kc ad _ _) (fun _ h => h) ?_
    refine z_aload_n (j := 0) hx hb dX11_does_19 rfl rfl ?_
    refine z_aload_n (j := 0) hx hb dX11_does_20 rfl rfl ?_
    refine z_get (v := .ref (ad 1)) S hK inX11 0 (fun _ => rfl) rfl 28 (by decide) q6_125 rfl rfl dX11_does_21 ?_
    refine z_iload_n (j := 1) hx hb dX11_does_24 rfl rfl ?_
    have h25 := And.left hok
    have hok := And.right hok
    refine z_iald (f := (gA q 1)) S hK 1 0 (fun _ => rfl) rfl h25 dX11_does_25 ?_
    refine z_put (v := .int ((gA q 1) (v1 : Int32).toNatClampNeg)) (q' := (sI (sI q 8 s0) 9 ((gA q 1) (v1 : Int32).toNatClampNeg))) S hK inX11 tyX11 tyX11_ok nmX11 0 (fun _ => rfl) rfl 9 (by decide) q6_106 rfl rfl rfl rfl (Nat.le_of_ble_eq_true rfl) dX11_does_26 (wMp9 kc ad _ _) (fun _ h => h) ?_
    refine z_aload_n (j := 0) hx hb dX11_does_29 rfl rfl ?_
    refine z_get (v := .ref (ad 2)) S hK inX11 0 (fun _ => rfl) rfl 29 (by decide) q6_126 rfl rfl dX11_does_30 ?_
    refine z_iload_n (j := 1) hx hb dX11_does_33 rfl rfl ?_
    have h34 := And.left hok
    have hok := And.right hok
    refine z_iald (f := (gA q 2)) S hK 2 0 (fun _ => rfl) rfl h34 dX11_does_34 ?_
    refine z_aload_n (j := 0) hx hb dX11_does_35 rfl rfl ?_
    refine z_get (v := .ref (ad 15)) S hK inX11 0 (fun _ => rfl) rfl 42 (by decide) q6_139 rfl rfl dX11_does_36 ?_
    refine z_bipush (v := 10) hx hb dX11_does_39 (by decide) ?_
    refine z_iald (f := (gA q 15)) S hK 15 0 (fun _ => rfl) rfl (show ¬ (_ ∨ _) from by decide) dX11_does_41 ?_
    refine z_aload_n (j := 0) hx hb dX11_does_42 rfl rfl ?_
    refine z_get (v := .int s0) S hK inX11 0 (fun _ => rfl) rfl 8 (by decide) q6_105 rfl rfl dX11_does_43 ?_
    have h46 := And.left hok
    have hok := And.right hok
    refine z_callSi (As := [.int ((gA q 2) (v1 : Int32).toNatClampNeg), .int ((gA q 15) (10 : Int32).toNatClampNeg), .int s0]) S (ctX11_combined l D kc ad (sI (sI q 8 s0) 9 ((gA q 1) (v1 : Int32).toNatClampNeg)) ((gA q 2) (v1 : Int32).toNatClampNeg) ((gA q 15) (10 : Int32).toNatClampNeg) s0 h46) (va_cwS 3 S.2.2.2.2 (gS q7_133 q7_134 q1_12 q7_135) rfl rfl rfl hX11_combined ⟨Nat.le_of_ble_eq_true rfl, Nat.le_of_ble_eq_true rfl⟩) hA (pbM D kc) (psM hK) rfl rfl (Nat.le_of_ble_eq_true rfl) dX11_does_46 ⟨Nat.le_of_ble_eq_true rfl, Nat.le_of_ble_eq_true rfl⟩ ?_
    exact b49 (fX11_combined (sI (sI q 8 s0) 9 ((gA q 1) (v1 : Int32).toNatClampNeg)) ((gA q 2) (v1 : Int32).toNatClampNeg) ((gA q 15) (10 : Int32).toNatClampNeg) s0).2 v1 (fX11_combined (sI (sI q 8 s0) 9 ((gA q 1) (v1 : Int32).toNatClampNeg)) ((gA q 2) (v1 : Int32).toNatClampNeg) ((gA q 15) (10 : Int32).toNatClampNeg) s0).1 hok hF
  refine z_aload_n (j := 0) hx hb dX11_does_0 rfl rfl ?_
  refine z_get (v := .int (gI q 6)) S hK inX11 0 (fun _ => rfl) rfl 6 (by decide) q6_103 rfl rfl dX11_does_1 ?_
  refine z_istore_n (lv' := [(1, .int (gI q 6)), (0, .ref (ad 0))]) hx hb dX11_does_4 rfl (by decide) rfl ?_
  refine z_aload_n (j := 1) hx hb dX11_does_5 rfl rfl ?_
  refine z_iconst (v := 1) hx hb dX11_does_6 (by decide) ?_
  refine z_put (v := .int 1) (q' := (sI q 25 1)) S hK inX11 tyX11 tyX11_ok nmX11 0 (fun _ => rfl) rfl 25 (by decide) q6_122 rfl rfl rfl rfl (Nat.le_of_ble_eq_true rfl) dX11_does_7 (wMp25 kc ad _ _) (fun _ h => h) ?_
  refine z_aload_n (j := 1) hx hb dX11_does_10 rfl rfl ?_
  refine z_aload_n (j := 1) hx hb dX11_does_11 rfl rfl ?_
  refine z_iload_n (j := 0) hx hb dX11_does_12 rfl rfl ?_
  have h13 := And.left hok
  have hok := And.right hok
  refine z_callVi (As := [.int (gI q 6)]) S (ctX11_drives l D kc ad (sI q 25 1) (gI q 6) h13) (cwV 1 S.2.2.2.2 (gV q7_125 q7_127 qp2_15 q1_12 q7_128) rfl rfl rfl hX11_drives ⟨Nat.le_of_ble_eq_true rfl, Nat.le_of_ble_eq_true rfl⟩) hA (pbM D kc) (psM hK) (z_recv hK 0 (fun _ => rfl) rfl) rfl rfl (Nat.le_of_ble_eq_true rfl) dX11_does_13 ⟨Nat.le_of_ble_eq_true rfl, Nat.le_of_ble_eq_true rfl⟩ ?_
  refine z_sub [1, 0] rfl ?_
  exact b16 (fX11_drives (sI q 25 1) (gI q 6)).2 (gI q 6) (fX11_drives (sI q 25 1) (gI q 6)).1 hok hF
theorem hX11_does : yX11_does.cls = RX11 ∧ yX11_does.cls ≠ "java/lang/invoke/MethodHandle" ∧ yX11_does.cls ≠ "java/lang/invoke/VarHandle" ∧ (parseMethodDescriptor yX11_does.desc).map (fun d => d.parameters.length) = some 0 := by decide +kernel
def fX11_goes_40 (q : SS) : Int32 × SS := (0, (sI q 23 108))
def kX11_goes_40 (q : SS) : Prop := True
def fX11_goes_36 (q : SS) : Int32 × SS := fX11_goes_40 (fX11_back q)
def kX11_goes_36 (q : SS) : Prop := kX11_back q ∧ kX11_goes_40 (fX11_back q)
def fX11_goes_52 (q : SS) : Int32 × SS := (1, q)
def kX11_goes_52 (q : SS) : Prop := True
def fX11_goes_21 (q : SS) (s0 : Int32) : Int32 × SS := (if s0 = 0 then fX11_goes_36 q else (if ((gA q 10) ((gI q 6) : Int32).toNatClampNeg) = 0 then fX11_goes_36 q else fX11_goes_52 (fX11_does q)))
def kX11_goes_21 (q : SS) (s0 : Int32) : Prop := ((s0 = 0 → kX11_goes_36 q) ∧ (¬ s0 = 0 → vp_in (gI q 6) 80 ∧ ((((gA q 10) ((gI q 6) : Int32).toNatClampNeg) = 0 → kX11_goes_36 q) ∧ (¬ ((gA q 10) ((gI q 6) : Int32).toNatClampNeg) = 0 → kX11_does q ∧ kX11_goes_52 (fX11_does q)))))
def fX11_goes (q : SS) : Int32 × SS := (if (gI q 23) = 114 then fX11_goes_21 (fX11_isIn q (gI q 6) 0 79).2 (fX11_isIn q (gI q 6) 0 79).1 else (0, q))
def kX11_goes (q : SS) : Prop := (((gI q 23) = 114 → kX11_isIn q (gI q 6) 0 79 ∧ kX11_goes_21 (fX11_isIn q (gI q 6) 0 79).2 (fX11_isIn q (gI q 6) 0 79).1) ∧ (¬ (gI q 23) = 114 → True))
set_option maxHeartbeats 4000000 in
set_option maxRecDepth 100000 in
theorem ctX11_goes (l : Launch) (D : va_G) (kc : Nat → ClassId) (ad : Nat → Nat) (q : SS) (hok : kX11_goes q) : Ci l yX11_goes (Cond.code yX11_goes cX11_goes 1 (some .boolean) :: lw_G) (zr 7 1 7) 1 7 (PM D kc) (GM D kc ad) (GM D kc ad) [.ref (ad 0)] q (fX11_goes q) := by
  refine Ci.of (cc := cX11_goes) (maxL := 1) (ret := (some .boolean)) (by decide) rfl (Nat.le_of_ble_eq_true rfl) ?_
  intro p e s m args below meth c A S hr hlocks hin hA hK
  have hx := S.1
  have hb := S.2.1
  have hK : va_K D vwCl (tysK kc) s := hK
  generalize hFe : fX11_goes q = F
  have hF : F = fX11_goes q := hFe.symm
  have b40 : ∀ (q : SS), kX11_goes_40 q → F = fX11_goes_40 q → Z p l e (zr 7 1 7) s m args below meth c 0 0 (MQ below (va_Qi (fun (x : Int32) (_ : Unit) => x = F.1) (fun _ t => (GM D kc ad) A F.2 t.heap) A) args s 1 7 A) 1 A (ZG D vwCl (wM kc ad) (fun _ tl => tl = []) A) q 40 [(0, .ref (ad 0))] [] := by
    intro q hok hF
    refine z_aload_n (j := 0) hx hb dX11_goes_40 rfl rfl ?_
    refine z_bipush (v := 108) hx hb dX11_goes_41 (by decide) ?_
    refine z_put (v := .int 108) (q' := (sI q 23 108)) S hK inX11 tyX11 tyX11_ok nmX11 0 (fun _ => rfl) rfl 23 (by decide) q6_120 rfl rfl rfl rfl (Nat.le_of_ble_eq_true rfl) dX11_goes_43 (wMp23 kc ad _ _) (fun _ h => h) ?_
    refine z_iconst (v := 0) hx hb dX11_goes_46 (by decide) ?_
    refine z_widen (ce := 1) (sl := 7) (Nat.le_of_ble_eq_true rfl) (Nat.le_of_ble_eq_true rfl) ?_
    exact z_iret hx hb hlocks hr (by decide) hF dX11_goes_47
  have b36 : ∀ (q : SS), kX11_goes_36 q → F = fX11_goes_36 q → Z p l e (zr 7 1 7) s m args below meth c 0 0 (MQ below (va_Qi (fun (x : Int32) (_ : Unit) => x = F.1) (fun _ t => (GM D kc ad) A F.2 t.heap) A) args s 1 7 A) 1 A (ZG D vwCl (wM kc ad) (fun _ tl => tl = []) A) q 36 [(0, .ref (ad 0))] [] := by
    intro q hok hF
    refine z_aload_n (j := 0) hx hb dX11_goes_36 rfl rfl ?_
    have h37 := And.left hok
    have hok := And.right hok
    refine z_callVv (As := []) S (ctX11_back l D kc ad q h37) (cwV 0 S.2.2.2.2 (gV q7_105 q7_107 qp2_11 q1_12 q7_108) rfl rfl rfl hX11_back ⟨Nat.le_of_ble_eq_true rfl, Nat.le_of_ble_eq_true rfl⟩) hA (pbM D kc) (psM hK) (z_recv hK 0 (fun _ => rfl) rfl) rfl rfl (Nat.le_of_ble_eq_true rfl) dX11_goes_37 ⟨Nat.le_of_ble_eq_true rfl, Nat.le_of_ble_eq_true rfl⟩ ?_
    exact b40 (fX11_back q) hok hF
  have b52 : ∀ (q : SS), kX11_goes_52 q → F = fX11_goes_52 q → Z p l e (zr 7 1 7) s m args below meth c 1 7 (MQ below (va_Qi (fun (x : Int32) (_ : Unit) => x = F.1) (fun _ t => (GM D kc ad) A F.2 t.heap) A) args s 1 7 A) 1 A (ZG D vwCl (wM kc ad) (fun _ tl => tl = []) A) q 52 [] [] := by
    intro q hok hF
    refine z_iconst (v := 1) hx hb dX11_goes_52 (by decide) ?_
    exact z_iret hx hb hlocks hr (by decide) hF dX11_goes_53
  have b21 : ∀ (q : SS) (s0 : Int32), kX11_goes_21 q s0 → F = fX11_goes_21 q s0 → Z p l e (zr 7 1 7) s m args below meth c 0 0 (MQ below (va_Qi (fun (x : Int32) (_ : Unit) => x = F.1) (fun _ t => (GM D kc ad) A F.2 t.heap) A) args s 1 7 A) 1 A (ZG D vwCl (wM kc ad) (fun _ tl => tl = []) A) q 21 [(0, .ref (ad 0))] [.int s0] := by
    intro q s0 hok hF
    refine z_if_eq (tgt := 36) hx hb dX11_goes_21 (by decide) (fun g21 => ?_) (fun g21 => ?_)
    · have hF := hF.trans (if_pos g21)
      have hok := And.left hok g21
      exact b36 q hok hF
    · have hF := hF.trans (if_neg g21)
      have hok := And.right hok g21
      refine z_aload_n (j := 0) hx hb dX11_goes_24 rfl rfl ?_
      refine z_get (v := .ref (ad 10)) S hK inX11 0 (fun _ => rfl) rfl 37 (by decide) q6_134 rfl rfl dX11_goes_25 ?_
      refine z_aload_n (j := 0) hx hb dX11_goes_28 rfl rfl ?_
      refine z_get (v := .int (gI q 6)) S hK inX11 0 (fun _ => rfl) rfl 6 (by decide) q6_103 rfl rfl dX11_goes_29 ?_
      have h32 := And.left hok
      have hok := And.right hok
      refine z_zald (f := (gA q 10)) S hK 10 1 (fun _ => rfl) rfl h32 dX11_goes_32 ?_
      refine z_if_ne (tgt := 48) hx hb dX11_goes_33 (by decide) (fun g33 => ?_) (fun g33 => ?_)
      · have hF := hF.trans (if_neg g33)
        have hok := And.right hok g33
        refine z_aload_n (j := 0) hx hb dX11_goes_48 rfl rfl ?_
        have h49 := And.left hok
        have hok := And.right hok
        refine z_callVv (As := []) S (ctX11_does l D kc ad q h49) (cwV 0 S.2.2.2.2 (gV q7_121 q7_123 qp2_14 q1_12 q7_124) rfl rfl rfl hX11_does ⟨Nat.le_of_ble_eq_true rfl, Nat.le_of_ble_eq_true rfl⟩) hA (pbM D kc) (psM hK) (z_recv hK 0 (fun _ => rfl) rfl) rfl rfl (Nat.le_of_ble_eq_true rfl) dX11_goes_49 ⟨Nat.le_of_ble_eq_true rfl, Nat.le_of_ble_eq_true rfl⟩ ?_
        refine z_sub [] rfl ?_
        exact b52 (fX11_does q) hok hF
      · have hF := hF.trans (if_pos g33)
        have hok := And.left hok g33
        exact b36 q hok hF
  refine z_aload_n (j := 0) hx hb dX11_goes_0 rfl rfl ?_
  refine z_get (v := .int (gI q 23)) S hK inX11 0 (fun _ => rfl) rfl 23 (by decide) q6_120 rfl rfl dX11_goes_1 ?_
  refine z_bipush (v := 114) hx hb dX11_goes_4 (by decide) ?_
  refine z_icmp_eq (tgt := 11) hx hb dX11_goes_6 (by decide) (fun g6 => ?_) (fun g6 => ?_)
  · have hF := hF.trans (if_pos g6)
    have hok := And.left hok g6
    refine z_aload_n (j := 0) hx hb dX11_goes_11 rfl rfl ?_
    refine z_get (v := .int (gI q 6)) S hK inX11 0 (fun _ => rfl) rfl 6 (by decide) q6_103 rfl rfl dX11_goes_12 ?_
    refine z_iconst (v := 0) hx hb dX11_goes_15 (by decide) ?_
    refine z_bipush (v := 79) hx hb dX11_goes_16 (by decide) ?_
    have h18 := And.left hok
    have hok := And.right hok
    refine z_callSi (As := [.int (gI q 6), .int 0, .int 79]) S (ctX11_isIn l D kc ad q (gI q 6) 0 79 h18) (va_cwS 3 S.2.2.2.2 (gS q7_21 q7_22 q1_12 q7_23) rfl rfl rfl hX11_isIn ⟨Nat.le_of_ble_eq_true rfl, Nat.le_of_ble_eq_true rfl⟩) hA (pbM D kc) (psM hK) rfl rfl (Nat.le_of_ble_eq_true rfl) dX11_goes_18 ⟨Nat.le_of_ble_eq_true rfl, Nat.le_of_ble_eq_true rfl⟩ ?_
    exact b21 (fX11_isIn q (gI q 6) 0 79).2 (fX11_isIn q (gI q 6) 0 79).1 hok hF
  · have hF := hF.trans (if_neg g6)
    have hok := And.right hok g6
    refine z_iconst (v := 0) hx hb dX11_goes_9 (by decide) ?_
    refine z_widen (ce := 1) (sl := 7) (Nat.le_of_ble_eq_true rfl) (Nat.le_of_ble_eq_true rfl) ?_
    exact z_iret hx hb hlocks hr (by decide) hF dX11_goes_10
theorem hX11_goes : yX11_goes.cls = RX11 ∧ yX11_goes.cls ≠ "java/lang/invoke/MethodHandle" ∧ yX11_goes.cls ≠ "java/lang/invoke/VarHandle" ∧ (parseMethodDescriptor yX11_goes.desc).map (fun d => d.parameters.length) = some 0 := by decide +kernel
def fX11_step_41 (q : SS) (v2 : Int32) : Int32 × SS := (v2, q)
def kX11_step_41 (q : SS) (v2 : Int32) : Prop := True
def fX11_step_32 (k23 : SS → Int32 → Int32 → Int32 × SS) (q : SS) (v1 : Int32) (v2 : Int32) (s0 : Int32) : Int32 × SS := (if s0 = 0 then fX11_step_41 q v2 else k23 q v1 (v2 + 1))
def kX11_step_32 (kk23 : SS → Int32 → Int32 → Prop) (q : SS) (v1 : Int32) (v2 : Int32) (s0 : Int32) : Prop := ((s0 = 0 → kX11_step_41 q v2) ∧ (¬ s0 = 0 → kk23 q v1 (v2 + 1)))
def fX11_step_23 : Nat → SS → Int32 → Int32 → Int32 × SS
  | 0, q, _, _ => (0, q)
  | n + 1, q, v1, v2 => (if v1 ≤ v2 then fX11_step_41 q v2 else fX11_step_32 (fX11_step_23 n) (fX11_goes q).2 v1 v2 (fX11_goes q).1)
def kX11_step_23 : Nat → SS → Int32 → Int32 → Prop
  | 0, _, _, _ => False
  | n + 1, q, v1, v2 => ((v1 ≤ v2 → kX11_step_41 q v2) ∧ (¬ v1 ≤ v2 → kX11_goes q ∧ kX11_step_32 (kX11_step_23 n) (fX11_goes q).2 v1 v2 (fX11_goes q).1))
def fX11_step_7 (q : SS) (v1 : Int32) (s0 : Int32) : Int32 × SS := (if s0 = 0 then ((fX11_refuse q 1).1, (fX11_refuse q 1).2) else fX11_step_23 130 (sI q 0 0) v1 0)
def kX11_step_7 (q : SS) (v1 : Int32) (s0 : Int32) : Prop := ((s0 = 0 → kX11_refuse q 1 ∧ True) ∧ (¬ s0 = 0 → kX11_step_23 130 (sI q 0 0) v1 0))
def fX11_step (q : SS) (v1 : Int32) : Int32 × SS := fX11_step_7 (fX11_isIn q v1 1 100).2 v1 (fX11_isIn q v1 1 100).1
def kX11_step (q : SS) (v1 : Int32) : Prop := kX11_isIn q v1 1 100 ∧ kX11_step_7 (fX11_isIn q v1 1 100).2 v1 (fX11_isIn q v1 1 100).1
set_option maxHeartbeats 4000000 in
set_option maxRecDepth 100000 in
theorem ctX11_step (l : Launch) (D : va_G) (kc : Nat → ClassId) (ad : Nat → Nat) (q : SS) (v1 : Int32) (hok : kX11_step q v1) : Ci l yX11_step (Cond.code yX11_step cX11_step 3 (some .int) :: lw_G) (zr 8 131 917) 131 917 (PM D kc) (GM D kc ad) (GM D kc ad) [.ref (ad 0), .int v1] q (fX11_step q v1) := by
  refine Ci.of (cc := cX11_step) (maxL := 3) (ret := (some .int)) (by decide) rfl (Nat.le_of_ble_eq_true rfl) ?_
  intro p e s m args below meth c A S hr hlocks hin hA hK
  have hx := S.1
  have hb := S.2.1
  have hK : va_K D vwCl (tysK kc) s := hK
  generalize hFe : fX11_step q v1 = F
  have hF : F = fX11_step q v1 := hFe.symm
  have b41 : ∀ (c0 c1 : Nat) (_ : c0 ≤ 131) (_ : c1 ≤ 917) (q : SS) (v2 : Int32), kX11_step_41 q v2 → F = fX11_step_41 q v2 → Z p l e (zr 8 131 917) s m args below meth c c0 c1 (MQ below (va_Qi (fun (x : Int32) (_ : Unit) => x = F.1) (fun _ t => (GM D kc ad) A F.2 t.heap) A) args s 131 917 A) 3 A (ZG D vwCl (wM kc ad) (fun _ tl => tl = []) A) q 41 [(2, .int v2)] [] := by
    intro c0 c1 hc0 hc1 q v2 hok hF
    refine z_iload_n (j := 0) hx hb dX11_step_41 rfl rfl ?_
    refine z_widen (ce := 131) (sl := 917) (by omega) (by omega) ?_
    exact z_iret hx hb hlocks hr rfl hF dX11_step_42
  have b32 : ∀ (c0 c1 : Nat) (_ : c0 ≤ 131) (_ : c1 ≤ 917) (k23 : SS → Int32 → Int32 → Int32 × SS) (kk23 : SS → Int32 → Int32 → Prop) (_ : ∀ (q : SS) (v1 : Int32) (v2 : Int32), kk23 q v1 v2 → F = k23 q v1 v2 → Z p l e (zr 8 131 917) s m args below meth c c0 c1 (MQ below (va_Qi (fun (x : Int32) (_ : Unit) => x = F.1) (fun _ t => (GM D kc ad) A F.2 t.heap) A) args s 131 917 A) 3 A (ZG D vwCl (wM kc ad) (fun _ tl => tl = []) A) q 23 [(0, .ref (ad 0)), (1, .int v1), (2, .int v2)] []) (q : SS) (v1 : Int32) (v2 : Int32) (s0 : Int32), kX11_step_32 kk23 q v1 v2 s0 → F = fX11_step_32 k23 q v1 v2 s0 → Z p l e (zr 8 131 917) s m args below meth c c0 c1 (MQ below (va_Qi (fun (x : Int32) (_ : Unit) => x = F.1) (fun _ t => (GM D kc ad) A F.2 t.heap) A) args s 131 917 A) 3 A (ZG D vwCl (wM kc ad) (fun _ tl => tl = []) A) q 32 [(0, .ref (ad 0)), (1, .int v1), (2, .int v2)] [.int s0] := by
    intro c0 c1 hc0 hc1 k23 kk23 hk23 q v1 v2 s0 hok hF
    refine z_if_eq (tgt := 41) hx hb dX11_step_32 (by decide) (fun g32 => ?_) (fun g32 => ?_)
    · have hF := hF.trans (if_pos g32)
      have hok := And.left hok g32
      refine z_sub [2] rfl ?_
      exact b41 c0 c1 (by omega) (by omega) q v2 hok hF
    · have hF := hF.trans (if_neg g32)
      have hok := And.right hok g32
      refine z_iinc (k := 2) (v := (v2 + 1)) (lv' := [(2, .int (v2 + 1)), (0, .ref (ad 0)), (1, .int v1)]) hx hb dX11_step_35 rfl rfl (by decide) rfl ?_
      refine z_goto (tgt := 23) hx hb dX11_step_38 (by decide) ?_
      refine z_sub [1, 2, 0] rfl ?_
      exact hk23 q v1 (v2 + 1) hok hF
  have b23 : ∀ (n : Nat) (c0 c1 : Nat) (_ : c0 + n * 1 ≤ 131) (_ : c1 + n * 7 ≤ 917) (q : SS) (v1 : Int32) (v2 : Int32), kX11_step_23 n q v1 v2 → F = fX11_step_23 n q v1 v2 → Z p l e (zr 8 131 917) s m args below meth c c0 c1 (MQ below (va_Qi (fun (x : Int32) (_ : Unit) => x = F.1) (fun _ t => (GM D kc ad) A F.2 t.heap) A) args s 131 917 A) 3 A (ZG D vwCl (wM kc ad) (fun _ tl => tl = []) A) q 23 [(0, .ref (ad 0)), (1, .int v1), (2, .int v2)] [] := by
    intro n
    induction n with
    | zero => intro c0 c1 hc0 hc1 q v1 v2 hok hF; exact False.elim hok
    | succ n ih =>
      intro c0 c1 hc0 hc1 q v1 v2 hok hF
      refine z_iload_n (j := 2) hx hb dX11_step_23 rfl rfl ?_
      refine z_iload_n (j := 1) hx hb dX11_step_24 rfl rfl ?_
      refine z_icmp_ge (tgt := 41) hx hb dX11_step_25 (by decide) (fun g25 => ?_) (fun g25 => ?_)
      · have hF := hF.trans (if_pos g25)
        have hok := And.left hok g25
        refine z_sub [2] rfl ?_
        exact b41 c0 c1 (by omega) (by omega) q v2 hok hF
      · have hF := hF.trans (if_neg g25)
        have hok := And.right hok g25
        refine z_aload_n (j := 0) hx hb dX11_step_28 rfl rfl ?_
        have h29 := And.left hok
        have hok := And.right hok
        refine z_callVi (As := []) S (ctX11_goes l D kc ad q h29) (cwV 0 S.2.2.2.2 (gV q7_117 q7_119 qp2_13 q1_12 q7_120) rfl rfl rfl hX11_goes ⟨Nat.le_of_ble_eq_true rfl, Nat.le_of_ble_eq_true rfl⟩) hA (pbM D kc) (psM hK) (z_recv hK 0 (fun _ => rfl) rfl) rfl rfl (Nat.le_of_ble_eq_true rfl) dX11_step_29 ⟨(show c0 + 1 ≤ 131 by omega), (show c1 + 7 ≤ 917 by omega)⟩ ?_
        exact b32 (c0 + 1) (c1 + 7) (by omega) (by omega) (fX11_step_23 n) (kX11_step_23 n) (ih (c0 + 1) (c1 + 7) (by omega) (by omega)) (fX11_goes q).2 v1 v2 (fX11_goes q).1 hok hF
  have b7 : ∀ (q : SS) (v1 : Int32) (s0 : Int32), kX11_step_7 q v1 s0 → F = fX11_step_7 q v1 s0 → Z p l e (zr 8 131 917) s m args below meth c 0 0 (MQ below (va_Qi (fun (x : Int32) (_ : Unit) => x = F.1) (fun _ t => (GM D kc ad) A F.2 t.heap) A) args s 131 917 A) 3 A (ZG D vwCl (wM kc ad) (fun _ tl => tl = []) A) q 7 [(0, .ref (ad 0)), (1, .int v1)] [.int s0] := by
    intro q v1 s0 hok hF
    refine z_if_ne (tgt := 16) hx hb dX11_step_7 (by decide) (fun g7 => ?_) (fun g7 => ?_)
    · have hF := hF.trans (if_neg g7)
      have hok := And.right hok g7
      refine z_aload_n (j := 0) hx hb dX11_step_16 rfl rfl ?_
      refine z_iconst (v := 0) hx hb dX11_step_17 (by decide) ?_
      refine z_put (v := .int 0) (q' := (sI q 0 0)) S hK inX11 tyX11 tyX11_ok nmX11 0 (fun _ => rfl) rfl 0 (by decide) q6_97 rfl rfl rfl rfl (Nat.le_of_ble_eq_true rfl) dX11_step_18 (wMp0 kc ad _ _) (fun _ h => h) ?_
      refine z_iconst (v := 0) hx hb dX11_step_21 (by decide) ?_
      refine z_istore_n (lv' := [(2, .int 0), (0, .ref (ad 0)), (1, .int v1)]) hx hb dX11_step_22 rfl (by decide) rfl ?_
      refine z_sub [1, 2, 0] rfl ?_
      exact b23 130 0 0 (by omega) (by omega) (sI q 0 0) v1 0 hok hF
    · have hF := hF.trans (if_pos g7)
      have hok := And.left hok g7
      refine z_aload_n (j := 0) hx hb dX11_step_10 rfl rfl ?_
      refine z_iconst (v := 1) hx hb dX11_step_11 (by decide) ?_
      have h12 := And.left hok
      have hok := And.right hok
      refine z_callVi (As := [.int 1]) S (ctX11_refuse l D kc ad q 1 h12) (cwV 1 S.2.2.2.2 (gV q7_30 q7_32 qp2_8 q1_12 q7_33) rfl rfl rfl hX11_refuse ⟨Nat.le_of_ble_eq_true rfl, Nat.le_of_ble_eq_true rfl⟩) hA (pbM D kc) (psM hK) (z_recv hK 0 (fun _ => rfl) rfl) rfl rfl (Nat.le_of_ble_eq_true rfl) dX11_step_12 ⟨Nat.le_of_ble_eq_true rfl, Nat.le_of_ble_eq_true rfl⟩ ?_
      refine z_widen (ce := 131) (sl := 917) (Nat.le_of_ble_eq_true rfl) (Nat.le_of_ble_eq_true rfl) ?_
      exact z_iret hx hb hlocks hr rfl hF dX11_step_15
  refine z_iload_n (j := 1) hx hb dX11_step_0 rfl rfl ?_
  refine z_iconst (v := 1) hx hb dX11_step_1 (by decide) ?_
  refine z_bipush (v := 100) hx hb dX11_step_2 (by decide) ?_
  have h4 := And.left hok
  have hok := And.right hok
  refine z_callSi (As := [.int v1, .int 1, .int 100]) S (ctX11_isIn l D kc ad q v1 1 100 h4) (va_cwS 3 S.2.2.2.2 (gS q7_21 q7_22 q1_12 q7_23) rfl rfl rfl hX11_isIn ⟨Nat.le_of_ble_eq_true rfl, Nat.le_of_ble_eq_true rfl⟩) hA (pbM D kc) (psM hK) rfl rfl (Nat.le_of_ble_eq_true rfl) dX11_step_4 ⟨Nat.le_of_ble_eq_true rfl, Nat.le_of_ble_eq_true rfl⟩ ?_
  exact b7 (fX11_isIn q v1 1 100).2 v1 (fX11_isIn q v1 1 100).1 hok hF
theorem hX11_step : yX11_step.cls = RX11 ∧ yX11_step.cls ≠ "java/lang/invoke/MethodHandle" ∧ yX11_step.cls ≠ "java/lang/invoke/VarHandle" ∧ (parseMethodDescriptor yX11_step.desc).map (fun d => d.parameters.length) = some 1 := by decide +kernel
def fX11_run_58 (q : SS) (v2 : Int32) : Int32 × SS := (((gI q 10) - v2), q)
def kX11_run_58 (q : SS) (v2 : Int32) : Prop := True
def fX11_run_49 (k28 : SS → Int32 → Int32 → Int32 → Int32 × SS) (q : SS) (v1 : Int32) (v2 : Int32) (v3 : Int32) (s0 : Int32) : Int32 × SS := (if s0 = 0 then fX11_run_58 q v2 else k28 q v1 v2 (v3 + 1))
def kX11_run_49 (kk28 : SS → Int32 → Int32 → Int32 → Prop) (q : SS) (v1 : Int32) (v2 : Int32) (v3 : Int32) (s0 : Int32) : Prop := ((s0 = 0 → kX11_run_58 q v2) ∧ (¬ s0 = 0 → kk28 q v1 v2 (v3 + 1)))
def fX11_run_28 : Nat → SS → Int32 → Int32 → Int32 → Int32 × SS
  | 0, q, _, _, _ => (0, q)
  | n + 1, q, v1, v2, v3 => (if v1 ≤ ((gI q 10) - v2) then fX11_run_58 q v2 else (if 200 ≤ v3 then fX11_run_58 q v2 else fX11_run_49 (fX11_run_28 n) (fX11_goes q).2 v1 v2 v3 (fX11_goes q).1))
def kX11_run_28 : Nat → SS → Int32 → Int32 → Int32 → Prop
  | 0, _, _, _, _ => False
  | n + 1, q, v1, v2, v3 => ((v1 ≤ ((gI q 10) - v2) → kX11_run_58 q v2) ∧ (¬ v1 ≤ ((gI q 10) - v2) → ((200 ≤ v3 → kX11_run_58 q v2) ∧ (¬ 200 ≤ v3 → kX11_goes q ∧ kX11_run_49 (kX11_run_28 n) (fX11_goes q).2 v1 v2 v3 (fX11_goes q).1))))
def fX11_run_7 (q : SS) (v1 : Int32) (s0 : Int32) : Int32 × SS := (if s0 = 0 then ((fX11_refuse q 1).1, (fX11_refuse q 1).2) else fX11_run_28 262 (sI q 0 0) v1 (gI q 10) 0)
def kX11_run_7 (q : SS) (v1 : Int32) (s0 : Int32) : Prop := ((s0 = 0 → kX11_refuse q 1 ∧ True) ∧ (¬ s0 = 0 → kX11_run_28 262 (sI q 0 0) v1 (gI q 10) 0))
def fX11_run (q : SS) (v1 : Int32) : Int32 × SS := fX11_run_7 (fX11_isIn q v1 1 20).2 v1 (fX11_isIn q v1 1 20).1
def kX11_run (q : SS) (v1 : Int32) : Prop := kX11_isIn q v1 1 20 ∧ kX11_run_7 (fX11_isIn q v1 1 20).2 v1 (fX11_isIn q v1 1 20).1
set_option maxHeartbeats 4000000 in
set_option maxRecDepth 100000 in
theorem ctX11_run (l : Launch) (D : va_G) (kc : Nat → ClassId) (ad : Nat → Nat) (q : SS) (v1 : Int32) (hok : kX11_run q v1) : Ci l yX11_run (Cond.code yX11_run cX11_run 4 (some .int) :: lw_G) (zr 8 262 1834) 262 1834 (PM D kc) (GM D kc ad) (GM D kc ad) [.ref (ad 0), .int v1] q (fX11_run q v1) := by
  refine Ci.of (cc := cX11_run) (maxL := 4) (ret := (some .int)) (by decide) rfl (Nat.le_of_ble_eq_true rfl) ?_
  intro p e s m args below meth c A S hr hlocks hin hA hK
  have hx := S.1
  have hb := S.2.1
  have hK : va_K D vwCl (tysK kc) s := hK
  generalize hFe : fX11_run q v1 = F
  have hF : F = fX11_run q v1 := hFe.symm
  have b58 : ∀ (c0 c1 : Nat) (_ : c0 ≤ 262) (_ : c1 ≤ 1834) (q : SS) (v2 : Int32), kX11_run_58 q v2 → F = fX11_run_58 q v2 → Z p l e (zr 8 262 1834) s m args below meth c c0 c1 (MQ below (va_Qi (fun (x : Int32) (_ : Unit) => x = F.1) (fun _ t => (GM D kc ad) A F.2 t.heap) A) args s 262 1834 A) 4 A (ZG D vwCl (wM kc ad) (fun _ tl => tl = []) A) q 58 [(0, .ref (ad 0)), (2, .int v2)] [] := by
    intro c0 c1 hc0 hc1 q v2 hok hF
    refine z_aload_n (j := 0) hx hb dX11_run_58 rfl rfl ?_
    refine z_get (v := .int (gI q 10)) S hK inX11 0 (fun _ => rfl) rfl 10 (by decide) q6_107 rfl rfl dX11_run_59 ?_
    refine z_iload_n (j := 1) hx hb dX11_run_62 rfl rfl ?_
    refine z_isub hx hb dX11_run_63 ?_
    refine z_widen (ce := 262) (sl := 1834) (by omega) (by omega) ?_
    exact z_iret hx hb hlocks hr rfl hF dX11_run_64
  have b49 : ∀ (c0 c1 : Nat) (_ : c0 ≤ 262) (_ : c1 ≤ 1834) (k28 : SS → Int32 → Int32 → Int32 → Int32 × SS) (kk28 : SS → Int32 → Int32 → Int32 → Prop) (_ : ∀ (q : SS) (v1 : Int32) (v2 : Int32) (v3 : Int32), kk28 q v1 v2 v3 → F = k28 q v1 v2 v3 → Z p l e (zr 8 262 1834) s m args below meth c c0 c1 (MQ below (va_Qi (fun (x : Int32) (_ : Unit) => x = F.1) (fun _ t => (GM D kc ad) A F.2 t.heap) A) args s 262 1834 A) 4 A (ZG D vwCl (wM kc ad) (fun _ tl => tl = []) A) q 28 [(0, .ref (ad 0)), (1, .int v1), (2, .int v2), (3, .int v3)] []) (q : SS) (v1 : Int32) (v2 : Int32) (v3 : Int32) (s0 : Int32), kX11_run_49 kk28 q v1 v2 v3 s0 → F = fX11_run_49 k28 q v1 v2 v3 s0 → Z p l e (zr 8 262 1834) s m args below meth c c0 c1 (MQ below (va_Qi (fun (x : Int32) (_ : Unit) => x = F.1) (fun _ t => (GM D kc ad) A F.2 t.heap) A) args s 262 1834 A) 4 A (ZG D vwCl (wM kc ad) (fun _ tl => tl = []) A) q 49 [(0, .ref (ad 0)), (1, .int v1), (2, .int v2), (3, .int v3)] [.int s0] := by
    intro c0 c1 hc0 hc1 k28 kk28 hk28 q v1 v2 v3 s0 hok hF
    refine z_if_eq (tgt := 58) hx hb dX11_run_49 (by decide) (fun g49 => ?_) (fun g49 => ?_)
    · have hF := hF.trans (if_pos g49)
      have hok := And.left hok g49
      refine z_sub [0, 2] rfl ?_
      exact b58 c0 c1 (by omega) (by omega) q v2 hok hF
    · have hF := hF.trans (if_neg g49)
      have hok := And.right hok g49
      refine z_iinc (k := 3) (v := (v3 + 1)) (lv' := [(3, .int (v3 + 1)), (0, .ref (ad 0)), (1, .int v1), (2, .int v2)]) hx hb dX11_run_52 rfl rfl (by decide) rfl ?_
      refine z_goto (tgt := 28) hx hb dX11_run_55 (by decide) ?_
      refine z_sub [1, 2, 3, 0] rfl ?_
      exact hk28 q v1 v2 (v3 + 1) hok hF
  have b28 : ∀ (n : Nat) (c0 c1 : Nat) (_ : c0 + n * 1 ≤ 262) (_ : c1 + n * 7 ≤ 1834) (q : SS) (v1 : Int32) (v2 : Int32) (v3 : Int32), kX11_run_28 n q v1 v2 v3 → F = fX11_run_28 n q v1 v2 v3 → Z p l e (zr 8 262 1834) s m args below meth c c0 c1 (MQ below (va_Qi (fun (x : Int32) (_ : Unit) => x = F.1) (fun _ t => (GM D kc ad) A F.2 t.heap) A) args s 262 1834 A) 4 A (ZG D vwCl (wM kc ad) (fun _ tl => tl = []) A) q 28 [(0, .ref (ad 0)), (1, .int v1), (2, .int v2), (3, .int v3)] [] := by
    intro n
    induction n with
    | zero => intro c0 c1 hc0 hc1 q v1 v2 v3 hok hF; exact False.elim hok
    | succ n ih =>
      intro c0 c1 hc0 hc1 q v1 v2 v3 hok hF
      refine z_aload_n (j := 0) hx hb dX11_run_28 rfl rfl ?_
      refine z_get (v := .int (gI q 10)) S hK inX11 0 (fun _ => rfl) rfl 10 (by decide) q6_107 rfl rfl dX11_run_29 ?_
      refine z_iload_n (j := 2) hx hb dX11_run_32 rfl rfl ?_
      refine z_isub hx hb dX11_run_33 ?_
      refine z_iload_n (j := 1) hx hb dX11_run_34 rfl rfl ?_
      refine z_icmp_ge (tgt := 58) hx hb dX11_run_35 (by decide) (fun g35 => ?_) (fun g35 => ?_)
      · have hF := hF.trans (if_pos g35)
        have hok := And.left hok g35
        refine z_sub [0, 2] rfl ?_
        exact b58 c0 c1 (by omega) (by omega) q v2 hok hF
      · have hF := hF.trans (if_neg g35)
        have hok := And.right hok g35
        refine z_iload_n (j := 3) hx hb dX11_run_38 rfl rfl ?_
        refine z_sipush (v := 200) hx hb dX11_run_39 (by decide) ?_
        refine z_icmp_ge (tgt := 58) hx hb dX11_run_42 (by decide) (fun g42 => ?_) (fun g42 => ?_)
        · have hF := hF.trans (if_pos g42)
          have hok := And.left hok g42
          refine z_sub [0, 2] rfl ?_
          exact b58 c0 c1 (by omega) (by omega) q v2 hok hF
        · have hF := hF.trans (if_neg g42)
          have hok := And.right hok g42
          refine z_aload_n (j := 0) hx hb dX11_run_45 rfl rfl ?_
          have h46 := And.left hok
          have hok := And.right hok
          refine z_callVi (As := []) S (ctX11_goes l D kc ad q h46) (cwV 0 S.2.2.2.2 (gV q7_117 q7_119 qp2_13 q1_12 q7_120) rfl rfl rfl hX11_goes ⟨Nat.le_of_ble_eq_true rfl, Nat.le_of_ble_eq_true rfl⟩) hA (pbM D kc) (psM hK) (z_recv hK 0 (fun _ => rfl) rfl) rfl rfl (Nat.le_of_ble_eq_true rfl) dX11_run_46 ⟨(show c0 + 1 ≤ 262 by omega), (show c1 + 7 ≤ 1834 by omega)⟩ ?_
          exact b49 (c0 + 1) (c1 + 7) (by omega) (by omega) (fX11_run_28 n) (kX11_run_28 n) (ih (c0 + 1) (c1 + 7) (by omega) (by omega)) (fX11_goes q).2 v1 v2 v3 (fX11_goes q).1 hok hF
  have b7 : ∀ (q : SS) (v1 : Int32) (s0 : Int32), kX11_run_7 q v1 s0 → F = fX11_run_7 q v1 s0 → Z p l e (zr 8 262 1834) s m args below meth c 0 0 (MQ below (va_Qi (fun (x : Int32) (_ : Unit) => x = F.1) (fun _ t => (GM D kc ad) A F.2 t.heap) A) args s 262 1834 A) 4 A (ZG D vwCl (wM kc ad) (fun _ tl => tl = []) A) q 7 [(0, .ref (ad 0)), (1, .int v1)] [.int s0] := by
    intro q v1 s0 hok hF
    refine z_if_ne (tgt := 16) hx hb dX11_run_7 (by decide) (fun g7 => ?_) (fun g7 => ?_)
    · have hF := hF.trans (if_neg g7)
      have hok := And.right hok g7
      refine z_aload_n (j := 0) hx hb dX11_run_16 rfl rfl ?_
      refine z_iconst (v := 0) hx hb dX11_run_17 (by decide) ?_
      refine z_put (v := .int 0) (q' := (sI q 0 0)) S hK inX11 tyX11 tyX11_ok nmX11 0 (fun _ => rfl) rfl 0 (by decide) q6_97 rfl rfl rfl rfl (Nat.le_of_ble_eq_true rfl) dX11_run_18 (wMp0 kc ad _ _) (fun _ h => h) ?_
      refine z_aload_n (j := 0) hx hb dX11_run_21 rfl rfl ?_
      refine z_get (v := .int (gI q 10)) S hK inX11 0 (fun _ => rfl) rfl 10 (by decide) q6_107 rfl rfl dX11_run_22 ?_
      refine z_istore_n (lv' := [(2, .int (gI q 10)), (0, .ref (ad 0)), (1, .int v1)]) hx hb dX11_run_25 rfl (by decide) rfl ?_
      refine z_iconst (v := 0) hx hb dX11_run_26 (by decide) ?_
      refine z_istore_n (lv' := [(3, .int 0), (2, .int (gI q 10)), (0, .ref (ad 0)), (1, .int v1)]) hx hb dX11_run_27 rfl (by decide) rfl ?_
      refine z_sub [2, 3, 1, 0] rfl ?_
      exact b28 262 0 0 (by omega) (by omega) (sI q 0 0) v1 (gI q 10) 0 hok hF
    · have hF := hF.trans (if_pos g7)
      have hok := And.left hok g7
      refine z_aload_n (j := 0) hx hb dX11_run_10 rfl rfl ?_
      refine z_iconst (v := 1) hx hb dX11_run_11 (by decide) ?_
      have h12 := And.left hok
      have hok := And.right hok
      refine z_callVi (As := [.int 1]) S (ctX11_refuse l D kc ad q 1 h12) (cwV 1 S.2.2.2.2 (gV q7_30 q7_32 qp2_8 q1_12 q7_33) rfl rfl rfl hX11_refuse ⟨Nat.le_of_ble_eq_true rfl, Nat.le_of_ble_eq_true rfl⟩) hA (pbM D kc) (psM hK) (z_recv hK 0 (fun _ => rfl) rfl) rfl rfl (Nat.le_of_ble_eq_true rfl) dX11_run_12 ⟨Nat.le_of_ble_eq_true rfl, Nat.le_of_ble_eq_true rfl⟩ ?_
      refine z_widen (ce := 262) (sl := 1834) (Nat.le_of_ble_eq_true rfl) (Nat.le_of_ble_eq_true rfl) ?_
      exact z_iret hx hb hlocks hr rfl hF dX11_run_15
  refine z_iload_n (j := 1) hx hb dX11_run_0 rfl rfl ?_
  refine z_iconst (v := 1) hx hb dX11_run_1 (by decide) ?_
  refine z_bipush (v := 20) hx hb dX11_run_2 (by decide) ?_
  have h4 := And.left hok
  have hok := And.right hok
  refine z_callSi (As := [.int v1, .int 1, .int 20]) S (ctX11_isIn l D kc ad q v1 1 20 h4) (va_cwS 3 S.2.2.2.2 (gS q7_21 q7_22 q1_12 q7_23) rfl rfl rfl hX11_isIn ⟨Nat.le_of_ble_eq_true rfl, Nat.le_of_ble_eq_true rfl⟩) hA (pbM D kc) (psM hK) rfl rfl (Nat.le_of_ble_eq_true rfl) dX11_run_4 ⟨Nat.le_of_ble_eq_true rfl, Nat.le_of_ble_eq_true rfl⟩ ?_
  exact b7 (fX11_isIn q v1 1 20).2 v1 (fX11_isIn q v1 1 20).1 hok hF
theorem hX11_run : yX11_run.cls = RX11 ∧ yX11_run.cls ≠ "java/lang/invoke/MethodHandle" ∧ yX11_run.cls ≠ "java/lang/invoke/VarHandle" ∧ (parseMethodDescriptor yX11_run.desc).map (fun d => d.parameters.length) = some 1 := by decide +kernel
