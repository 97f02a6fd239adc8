theorem wLX11_walks_a23_2 (kc : Nat → ClassId) (ad : Nat → Nat) (a3 : Nat) (a9 : Nat) (q : SS) (v : Nat → Int32) : ∀ tl, ((wM kc ad q ++ (fun q : SS => ([(a3, .inl (kc 0, 1300, .inl (gA q 51))), (a9, .inl (kc 1, 1296, .inl (gA q 52)))] : va_W)) q) ++ tl).set 23 (a3, .inl (kc 0, 1300, .inl v)) = (wM kc ad (sA q 51 v) ++ (fun q : SS => ([(a3, .inl (kc 0, 1300, .inl (gA q 51))), (a9, .inl (kc 1, 1296, .inl (gA q 52)))] : va_W)) (sA q 51 v)) ++ tl := fun _ => rfl
theorem wLX11_walks_a24_2 (kc : Nat → ClassId) (ad : Nat → Nat) (a3 : Nat) (a9 : Nat) (q : SS) (v : Nat → Int32) : ∀ tl, ((wM kc ad q ++ (fun q : SS => ([(a3, .inl (kc 0, 1300, .inl (gA q 51))), (a9, .inl (kc 1, 1296, .inl (gA q 52)))] : va_W)) q) ++ tl).set 24 (a9, .inl (kc 1, 1296, .inl v)) = (wM kc ad (sA q 52 v) ++ (fun q : SS => ([(a3, .inl (kc 0, 1300, .inl (gA q 51))), (a9, .inl (kc 1, 1296, .inl (gA q 52)))] : va_W)) (sA q 52 v)) ++ tl := fun _ => rfl
def fX11_walks_331 (q : SS) (s0 : Int32) : Int32 × SS := (s0, q)
def kX11_walks_331 (q : SS) (s0 : Int32) : Prop := True
def fX11_walks_311 (k247 : SS → Int32 → Int32 → Int32 → Int32 → Int32 × SS) (q : SS) (v2 : Int32) (v6 : Int32) (v8 : Int32) (s0 : Int32) (s1 : Int32) : Int32 × SS := k247 q v2 v6 (s1 + s0) (v8 + 1)
def kX11_walks_311 (kk247 : SS → Int32 → Int32 → Int32 → Int32 → Prop) (q : SS) (v2 : Int32) (v6 : Int32) (v8 : Int32) (s0 : Int32) (s1 : Int32) : Prop := kk247 q v2 v6 (s1 + s0) (v8 + 1)
def fX11_walks_310 (k247 : SS → Int32 → Int32 → Int32 → Int32 → Int32 × SS) (q : SS) (v2 : Int32) (v6 : Int32) (v8 : Int32) (s0 : Int32) : Int32 × SS := fX11_walks_311 k247 q v2 v6 v8 0 s0
def kX11_walks_310 (kk247 : SS → Int32 → Int32 → Int32 → Int32 → Prop) (q : SS) (v2 : Int32) (v6 : Int32) (v8 : Int32) (s0 : Int32) : Prop := kX11_walks_311 kk247 q v2 v6 v8 0 s0
def fX11_walks_260 (k247 : SS → Int32 → Int32 → Int32 → Int32 → Int32 × SS) : Nat → SS → Int32 → Int32 → Int32 → Int32 → Int32 → Int32 → Int32 × SS
  | 0, q, _, _, _, _, _, _ => (0, q)
  | n + 1, q, v2, v6, v7, v8, v9, v10 => (if 16 ≤ v10 then (if v9 = 0 then fX11_walks_310 k247 q v2 v6 v8 v7 else (if ((gA q 10) (v8 : Int32).toNatClampNeg) = 0 then fX11_walks_310 k247 q v2 v6 v8 v7 else fX11_walks_311 k247 q v2 v6 v8 1 v7)) else fX11_walks_260 k247 n q v2 v6 v7 v8 (v9 ||| ((gA q 52) (((16 * v8) + v10) : Int32).toNatClampNeg)) (v10 + 1))
def kX11_walks_260 (kk247 : SS → Int32 → Int32 → Int32 → Int32 → Prop) : Nat → SS → Int32 → Int32 → Int32 → Int32 → Int32 → Int32 → Prop
  | 0, _, _, _, _, _, _, _ => False
  | n + 1, q, v2, v6, v7, v8, v9, v10 => ((16 ≤ v10 → ((v9 = 0 → kX11_walks_310 kk247 q v2 v6 v8 v7) ∧ (¬ v9 = 0 → vp_in v8 80 ∧ ((((gA q 10) (v8 : Int32).toNatClampNeg) = 0 → kX11_walks_310 kk247 q v2 v6 v8 v7) ∧ (¬ ((gA q 10) (v8 : Int32).toNatClampNeg) = 0 → kX11_walks_311 kk247 q v2 v6 v8 1 v7))))) ∧ (¬ 16 ≤ v10 → vp_in ((16 * v8) + v10) 1296 ∧ kX11_walks_260 kk247 n q v2 v6 v7 v8 (v9 ||| ((gA q 52) (((16 * v8) + v10) : Int32).toNatClampNeg)) (v10 + 1)))
def fX11_walks_247 : Nat → SS → Int32 → Int32 → Int32 → Int32 → Int32 × SS
  | 0, q, _, _, _, _ => (0, q)
  | n + 1, q, v2, v6, v7, v8 => (if 80 ≤ v8 then (if v2 = 0 then fX11_walks_331 q v7 else fX11_walks_331 q v6) else fX11_walks_260 (fX11_walks_247 n) 1300 q v2 v6 v7 v8 0 0)
def kX11_walks_247 : Nat → SS → Int32 → Int32 → Int32 → Int32 → Prop
  | 0, _, _, _, _, _ => False
  | n + 1, q, v2, v6, v7, v8 => ((80 ≤ v8 → ((v2 = 0 → kX11_walks_331 q v7) ∧ (¬ v2 = 0 → kX11_walks_331 q v6))) ∧ (¬ 80 ≤ v8 → kX11_walks_260 (kX11_walks_247 n) 1300 q v2 v6 v7 v8 0 0))
def fX11_walks_235 (k37 : SS → Int32 → Int32 → Int32 → Int32 → Int32 × SS) (k135 : SS → Int32 → Int32 → Int32 → Int32 → Int32 → Int32 → Int32 → Int32 × SS) (q : SS) (v2 : Int32) (v5 : Int32) (v6 : Int32) (v7 : Int32) (v8 : Int32) (v9 : Int32) (v10 : Int32) : Int32 × SS := k135 q v2 v5 v6 v7 v8 v9 (v10 + 1)
def kX11_walks_235 (kk37 : SS → Int32 → Int32 → Int32 → Int32 → Prop) (kk135 : SS → Int32 → Int32 → Int32 → Int32 → Int32 → Int32 → Int32 → Prop) (q : SS) (v2 : Int32) (v5 : Int32) (v6 : Int32) (v7 : Int32) (v8 : Int32) (v9 : Int32) (v10 : Int32) : Prop := kk135 q v2 v5 v6 v7 v8 v9 (v10 + 1)
def fX11_walks_184 (k37 : SS → Int32 → Int32 → Int32 → Int32 → Int32 × SS) (k135 : SS → Int32 → Int32 → Int32 → Int32 → Int32 → Int32 → Int32 → Int32 × SS) (q : SS) (v2 : Int32) (v5 : Int32) (v6 : Int32) (v7 : Int32) (v8 : Int32) (v9 : Int32) (v10 : Int32) (s0 : Int32) : Int32 × SS := (if s0 < 0 then fX11_walks_235 k37 k135 q v2 v5 v6 v7 v8 v9 v10 else (if ((gA q 52) (((16 * s0) + v9) : Int32).toNatClampNeg) = 0 then fX11_walks_235 k37 k135 (sA (sA q 52 (upd (gA q 52) (((16 * s0) + v9) : Int32).toNatClampNeg (vp_nar .boolean 1))) 51 (upd (gA q 51) (v5 : Int32).toNatClampNeg ((16 * s0) + v9))) v2 (v5 + 1) v6 v7 v8 v9 v10 else fX11_walks_235 k37 k135 q v2 v5 v6 v7 v8 v9 v10))
def kX11_walks_184 (kk37 : SS → Int32 → Int32 → Int32 → Int32 → Prop) (kk135 : SS → Int32 → Int32 → Int32 → Int32 → Int32 → Int32 → Int32 → Prop) (q : SS) (v2 : Int32) (v5 : Int32) (v6 : Int32) (v7 : Int32) (v8 : Int32) (v9 : Int32) (v10 : Int32) (s0 : Int32) : Prop := ((s0 < 0 → kX11_walks_235 kk37 kk135 q v2 v5 v6 v7 v8 v9 v10) ∧ (¬ s0 < 0 → vp_in ((16 * s0) + v9) 1296 ∧ ((((gA q 52) (((16 * s0) + v9) : Int32).toNatClampNeg) = 0 → vp_in ((16 * s0) + v9) 1296 ∧ vp_in v5 1300 ∧ kX11_walks_235 kk37 kk135 (sA (sA q 52 (upd (gA q 52) (((16 * s0) + v9) : Int32).toNatClampNeg (vp_nar .boolean 1))) 51 (upd (gA q 51) (v5 : Int32).toNatClampNeg ((16 * s0) + v9))) v2 (v5 + 1) v6 v7 v8 v9 v10) ∧ (¬ ((gA q 52) (((16 * s0) + v9) : Int32).toNatClampNeg) = 0 → kX11_walks_235 kk37 kk135 q v2 v5 v6 v7 v8 v9 v10))))
def fX11_walks_169 (k37 : SS → Int32 → Int32 → Int32 → Int32 → Int32 × SS) (k135 : SS → Int32 → Int32 → Int32 → Int32 → Int32 → Int32 → Int32 → Int32 × SS) (q : SS) (v2 : Int32) (v5 : Int32) (v6 : Int32) (v7 : Int32) (v8 : Int32) (v9 : Int32) (v10 : Int32) (s0 : Int32) : Int32 × SS := fX11_walks_184 k37 k135 q v2 v5 v6 v7 v8 v9 v10 s0
def kX11_walks_169 (kk37 : SS → Int32 → Int32 → Int32 → Int32 → Prop) (kk135 : SS → Int32 → Int32 → Int32 → Int32 → Int32 → Int32 → Int32 → Prop) (q : SS) (v2 : Int32) (v5 : Int32) (v6 : Int32) (v7 : Int32) (v8 : Int32) (v9 : Int32) (v10 : Int32) (s0 : Int32) : Prop := kX11_walks_184 kk37 kk135 q v2 v5 v6 v7 v8 v9 v10 s0
def fX11_walks_135 (k37 : SS → Int32 → Int32 → Int32 → Int32 → Int32 × SS) : Nat → SS → Int32 → Int32 → Int32 → Int32 → Int32 → Int32 → Int32 → Int32 × SS
  | 0, q, _, _, _, _, _, _, _ => (0, q)
  | n + 1, q, v2, v5, v6, v7, v8, v9, v10 => (if 9 ≤ v10 then k37 q v2 v5 v6 v7 else (if v10 = 8 then (if ((gA q 9) (v8 : Int32).toNatClampNeg) = 99 then fX11_walks_169 k37 (fX11_walks_135 k37 n) (fX11_follows q (v8 + 1)).2 v2 v5 v6 v7 v8 v9 v10 (fX11_follows q (v8 + 1)).1 else fX11_walks_184 k37 (fX11_walks_135 k37 n) q v2 v5 v6 v7 v8 v9 v10 (-1)) else fX11_walks_184 k37 (fX11_walks_135 k37 n) (fX11_way q v8 v10).2 v2 v5 v6 v7 v8 v9 v10 (fX11_way q v8 v10).1))
def kX11_walks_135 (kk37 : SS → Int32 → Int32 → Int32 → Int32 → Prop) : Nat → SS → Int32 → Int32 → Int32 → Int32 → Int32 → Int32 → Int32 → Prop
  | 0, _, _, _, _, _, _, _, _ => False
  | n + 1, q, v2, v5, v6, v7, v8, v9, v10 => ((9 ≤ v10 → kk37 q v2 v5 v6 v7) ∧ (¬ 9 ≤ v10 → ((v10 = 8 → vp_in v8 80 ∧ ((((gA q 9) (v8 : Int32).toNatClampNeg) = 99 → kX11_follows q (v8 + 1) ∧ gA (fX11_follows q (v8 + 1)).2 51 = gA q 51 ∧ gA (fX11_follows q (v8 + 1)).2 52 = gA q 52 ∧ kX11_walks_169 kk37 (kX11_walks_135 kk37 n) (fX11_follows q (v8 + 1)).2 v2 v5 v6 v7 v8 v9 v10 (fX11_follows q (v8 + 1)).1) ∧ (¬ ((gA q 9) (v8 : Int32).toNatClampNeg) = 99 → kX11_walks_184 kk37 (kX11_walks_135 kk37 n) q v2 v5 v6 v7 v8 v9 v10 (-1)))) ∧ (¬ v10 = 8 → kX11_way q v8 v10 ∧ gA (fX11_way q v8 v10).2 51 = gA q 51 ∧ gA (fX11_way q v8 v10).2 52 = gA q 52 ∧ kX11_walks_184 kk37 (kX11_walks_135 kk37 n) (fX11_way q v8 v10).2 v2 v5 v6 v7 v8 v9 v10 (fX11_way q v8 v10).1))))
def fX11_walks_128 (k37 : SS → Int32 → Int32 → Int32 → Int32 → Int32 × SS) (q : SS) (v2 : Int32) (v5 : Int32) (v6 : Int32) (v7 : Int32) (v8 : Int32) (s0 : Int32) (s1 : Int32) (s2 : Int32) : Int32 × SS := fX11_walks_135 k37 1300 q v2 v5 v6 v7 v8 (s2 ||| (s1 ||| s0)) 0
def kX11_walks_128 (kk37 : SS → Int32 → Int32 → Int32 → Int32 → Prop) (q : SS) (v2 : Int32) (v5 : Int32) (v6 : Int32) (v7 : Int32) (v8 : Int32) (s0 : Int32) (s1 : Int32) (s2 : Int32) : Prop := kX11_walks_135 kk37 1300 q v2 v5 v6 v7 v8 (s2 ||| (s1 ||| s0)) 0
def fX11_walks_91 (k37 : SS → Int32 → Int32 → Int32 → Int32 → Int32 × SS) (q : SS) (v2 : Int32) (v5 : Int32) (v7 : Int32) (v8 : Int32) (v9 : Int32) (s0 : Int32) (s1 : Int32) : Int32 × SS := (if ((gA q 4) (v8 : Int32).toNatClampNeg) = 1 then fX11_walks_128 k37 q v2 v5 (s1 ||| (s0 &&& (v9 ^^^ (-1)))) v7 v8 8 (((gA q 3) (v8 : Int32).toNatClampNeg) &&& 15) v9 else fX11_walks_128 k37 q v2 v5 (s1 ||| (s0 &&& (v9 ^^^ (-1)))) v7 v8 0 (((gA q 3) (v8 : Int32).toNatClampNeg) &&& 15) v9)
def kX11_walks_91 (kk37 : SS → Int32 → Int32 → Int32 → Int32 → Prop) (q : SS) (v2 : Int32) (v5 : Int32) (v7 : Int32) (v8 : Int32) (v9 : Int32) (s0 : Int32) (s1 : Int32) : Prop := vp_in v8 80 ∧ vp_in v8 80 ∧ ((((gA q 4) (v8 : Int32).toNatClampNeg) = 1 → kX11_walks_128 kk37 q v2 v5 (s1 ||| (s0 &&& (v9 ^^^ (-1)))) v7 v8 8 (((gA q 3) (v8 : Int32).toNatClampNeg) &&& 15) v9) ∧ (¬ ((gA q 4) (v8 : Int32).toNatClampNeg) = 1 → kX11_walks_128 kk37 q v2 v5 (s1 ||| (s0 &&& (v9 ^^^ (-1)))) v7 v8 0 (((gA q 3) (v8 : Int32).toNatClampNeg) &&& 15) v9))
def fX11_walks_37 : Nat → SS → Int32 → Int32 → Int32 → Int32 → Int32 × SS
  | 0, q, _, _, _, _ => (0, q)
  | n + 1, q, v2, v5, v6, v7 => (if v5 ≤ 0 then fX11_walks_247 1300 q v2 v6 v7 0 else (if 80 ≤ (((gA q 51) ((v5 + (-1)) : Int32).toNatClampNeg) / 16) then fX11_walks_37 n q v2 (v5 + (-1)) v6 v7 else (if ((gA q 10) ((((gA q 51) ((v5 + (-1)) : Int32).toNatClampNeg) / 16) : Int32).toNatClampNeg) = 0 then fX11_walks_37 n q v2 (v5 + (-1)) v6 v7 else fX11_walks_91 (fX11_walks_37 n) (fX11_reads q (((gA q 51) ((v5 + (-1)) : Int32).toNatClampNeg) / 16)).2 v2 (v5 + (-1)) v7 (((gA q 51) ((v5 + (-1)) : Int32).toNatClampNeg) / 16) (((gA q 51) ((v5 + (-1)) : Int32).toNatClampNeg) - ((gA q 51) ((v5 + (-1)) : Int32).toNatClampNeg) / 16 * 16) (fX11_reads q (((gA q 51) ((v5 + (-1)) : Int32).toNatClampNeg) / 16)).1 v6)))
def kX11_walks_37 : Nat → SS → Int32 → Int32 → Int32 → Int32 → Prop
  | 0, _, _, _, _, _ => False
  | n + 1, q, v2, v5, v6, v7 => ((v5 ≤ 0 → kX11_walks_247 1300 q v2 v6 v7 0) ∧ (¬ v5 ≤ 0 → vp_in (v5 + (-1)) 1300 ∧ vp_in (v5 + (-1)) 1300 ∧ ((80 ≤ (((gA q 51) ((v5 + (-1)) : Int32).toNatClampNeg) / 16) → kX11_walks_37 n q v2 (v5 + (-1)) v6 v7) ∧ (¬ 80 ≤ (((gA q 51) ((v5 + (-1)) : Int32).toNatClampNeg) / 16) → vp_in (((gA q 51) ((v5 + (-1)) : Int32).toNatClampNeg) / 16) 80 ∧ ((((gA q 10) ((((gA q 51) ((v5 + (-1)) : Int32).toNatClampNeg) / 16) : Int32).toNatClampNeg) = 0 → kX11_walks_37 n q v2 (v5 + (-1)) v6 v7) ∧ (¬ ((gA q 10) ((((gA q 51) ((v5 + (-1)) : Int32).toNatClampNeg) / 16) : Int32).toNatClampNeg) = 0 → kX11_reads q (((gA q 51) ((v5 + (-1)) : Int32).toNatClampNeg) / 16) ∧ gA (fX11_reads q (((gA q 51) ((v5 + (-1)) : Int32).toNatClampNeg) / 16)).2 51 = gA q 51 ∧ gA (fX11_reads q (((gA q 51) ((v5 + (-1)) : Int32).toNatClampNeg) / 16)).2 52 = gA q 52 ∧ kX11_walks_91 (kX11_walks_37 n) (fX11_reads q (((gA q 51) ((v5 + (-1)) : Int32).toNatClampNeg) / 16)).2 v2 (v5 + (-1)) v7 (((gA q 51) ((v5 + (-1)) : Int32).toNatClampNeg) / 16) (((gA q 51) ((v5 + (-1)) : Int32).toNatClampNeg) - ((gA q 51) ((v5 + (-1)) : Int32).toNatClampNeg) / 16 * 16) (fX11_reads q (((gA q 51) ((v5 + (-1)) : Int32).toNatClampNeg) / 16)).1 v6))))))
def fX11_walks (q : SS) (v1 : Int32) (v2 : Int32) : Int32 × SS := fX11_walks_37 1300 (sA (sA (sA (sA q 51 (fun _ => 0)) 52 (fun _ => 0)) 51 (upd (fun _ => 0) (0 : Int32).toNatClampNeg (16 * v1))) 52 (upd (fun _ => 0) ((16 * v1) : Int32).toNatClampNeg (vp_nar .boolean 1))) v2 1 0 0
def kX11_walks (q : SS) (v1 : Int32) (v2 : Int32) : Prop := vp_in (16 * v1) 1296 ∧ kX11_walks_37 1300 (sA (sA (sA (sA q 51 (fun _ => 0)) 52 (fun _ => 0)) 51 (upd (fun _ => 0) (0 : Int32).toNatClampNeg (16 * v1))) 52 (upd (fun _ => 0) ((16 * v1) : Int32).toNatClampNeg (vp_nar .boolean 1))) v2 1 0 0
set_option maxHeartbeats 4000000 in
set_option maxRecDepth 100000 in
theorem ctX11_walks (l : Launch) (D : va_G) (kc : Nat → ClassId) (ad : Nat → Nat) (q : SS) (v1 : Int32) (v2 : Int32) (hok : kX11_walks q v1 v2) : Ci l yX11_walks (Cond.code yX11_walks cX11_walks 12 (some .int) :: lw_G) (zr 3 2 2596) 2 2596 (PM D kc) (GM D kc ad) (GM D kc ad) [.ref (ad 0), .int v1, .int v2] q (fX11_walks q v1 v2) := by
  refine Ci.of (cc := cX11_walks) (maxL := 12) (ret := (some .int)) (by decide) rfl (Nat.le_of_ble_eq_true rfl) ?_
  intro p e s m args below meth c A S hr hlocks hin hA hK
  have hx := S.1
  have hb := S.2.1
  have hK : va_K D vwCl (tysK kc) s := hK
  generalize hFe : fX11_walks q v1 v2 = F
  have hF : F = fX11_walks q v1 v2 := hFe.symm
  have b331 : ∀ (a3 : Nat) (a9 : Nat) (q : SS) (s0 : Int32), kX11_walks_331 q s0 → F = fX11_walks_331 q s0 → Z p l e (zr 3 2 2596) s m args below meth c 2 2596 (MQ below (va_Qi (fun (x : Int32) (_ : Unit) => x = F.1) (fun _ t => (GM D kc ad) A F.2 t.heap) A) args s 2 2596 A) 12 A (ZG D vwCl (fun q => wM kc ad q ++ (fun q : SS => ([(a3, .inl (kc 0, 1300, .inl (gA q 51))), (a9, .inl (kc 1, 1296, .inl (gA q 52)))] : va_W)) q) (fun _ tl => tl = []) A) q 331 [] [.int s0] := by
    intro a3 a9 q s0 hok hF
    refine z_weak (G2 := ZG D vwCl (wM kc ad) (fun _ tl => tl = []) A) (fun _ _ h => z_drop h) ?_
    exact z_iret hx hb hlocks hr rfl hF dX11_walks_331
  have b311 : ∀ (a3 : Nat) (a9 : Nat) (k247 : SS → Int32 → Int32 → Int32 → Int32 → Int32 × SS) (kk247 : SS → Int32 → Int32 → Int32 → Int32 → Prop) (_ : ∀ (q : SS) (v2 : Int32) (v6 : Int32) (v7 : Int32) (v8 : Int32), kk247 q v2 v6 v7 v8 → F = k247 q v2 v6 v7 v8 → Z p l e (zr 3 2 2596) s m args below meth c 2 2596 (MQ below (va_Qi (fun (x : Int32) (_ : Unit) => x = F.1) (fun _ t => (GM D kc ad) A F.2 t.heap) A) args s 2 2596 A) 12 A (ZG D vwCl (fun q => wM kc ad q ++ (fun q : SS => ([(a3, .inl (kc 0, 1300, .inl (gA q 51))), (a9, .inl (kc 1, 1296, .inl (gA q 52)))] : va_W)) q) (fun _ tl => tl = []) A) q 247 [(0, .ref (ad 0)), (2, .int v2), (4, .ref a9), (6, .int v6), (7, .int v7), (8, .int v8)] []) (q : SS) (v2 : Int32) (v6 : Int32) (v8 : Int32) (s0 : Int32) (s1 : Int32), kX11_walks_311 kk247 q v2 v6 v8 s0 s1 → F = fX11_walks_311 k247 q v2 v6 v8 s0 s1 → Z p l e (zr 3 2 2596) s m args below meth c 2 2596 (MQ below (va_Qi (fun (x : Int32) (_ : Unit) => x = F.1) (fun _ t => (GM D kc ad) A F.2 t.heap) A) args s 2 2596 A) 12 A (ZG D vwCl (fun q => wM kc ad q ++ (fun q : SS => ([(a3, .inl (kc 0, 1300, .inl (gA q 51))), (a9, .inl (kc 1, 1296, .inl (gA q 52)))] : va_W)) q) (fun _ tl => tl = []) A) q 311 [(0, .ref (ad 0)), (2, .int v2), (4, .ref a9), (6, .int v6), (8, .int v8)] [.int s0, .int s1] := by
    intro a3 a9 k247 kk247 hk247 q v2 v6 v8 s0 s1 hok hF
    refine z_iadd hx hb dX11_walks_311 ?_
    refine z_istore (lv' := [(7, .int (s1 + s0)), (0, .ref (ad 0)), (2, .int v2), (4, .ref a9), (6, .int v6), (8, .int v8)]) hx hb dX11_walks_312 (by decide) rfl ?_
    refine z_iinc (k := 5) (v := (v8 + 1)) (lv' := [(8, .int (v8 + 1)), (7, .int (s1 + s0)), (0, .ref (ad 0)), (2, .int v2), (4, .ref a9), (6, .int v6)]) hx hb dX11_walks_314 rfl rfl (by decide) rfl ?_
    refine z_goto (tgt := 247) hx hb dX11_walks_317 (by decide) ?_
    refine z_sub [2, 3, 4, 5, 1, 0] rfl ?_
    exact hk247 q v2 v6 (s1 + s0) (v8 + 1) hok hF
  have b310 : ∀ (a3 : Nat) (a9 : Nat) (k247 : SS → Int32 → Int32 → Int32 → Int32 → Int32 × SS) (kk247 : SS → Int32 → Int32 → Int32 → Int32 → Prop) (_ : ∀ (q : SS) (v2 : Int32) (v6 : Int32) (v7 : Int32) (v8 : Int32), kk247 q v2 v6 v7 v8 → F = k247 q v2 v6 v7 v8 → Z p l e (zr 3 2 2596) s m args below meth c 2 2596 (MQ below (va_Qi (fun (x : Int32) (_ : Unit) => x = F.1) (fun _ t => (GM D kc ad) A F.2 t.heap) A) args s 2 2596 A) 12 A (ZG D vwCl (fun q => wM kc ad q ++ (fun q : SS => ([(a3, .inl (kc 0, 1300, .inl (gA q 51))), (a9, .inl (kc 1, 1296, .inl (gA q 52)))] : va_W)) q) (fun _ tl => tl = []) A) q 247 [(0, .ref (ad 0)), (2, .int v2), (4, .ref a9), (6, .int v6), (7, .int v7), (8, .int v8)] []) (q : SS) (v2 : Int32) (v6 : Int32) (v8 : Int32) (s0 : Int32), kX11_walks_310 kk247 q v2 v6 v8 s0 → F = fX11_walks_310 k247 q v2 v6 v8 s0 → Z p l e (zr 3 2 2596) s m args below meth c 2 2596 (MQ below (va_Qi (fun (x : Int32) (_ : Unit) => x = F.1) (fun _ t => (GM D kc ad) A F.2 t.heap) A) args s 2 2596 A) 12 A (ZG D vwCl (fun q => wM kc ad q ++ (fun q : SS => ([(a3, .inl (kc 0, 1300, .inl (gA q 51))), (a9, .inl (kc 1, 1296, .inl (gA q 52)))] : va_W)) q) (fun _ tl => tl = []) A) q 310 [(0, .ref (ad 0)), (2, .int v2), (4, .ref a9), (6, .int v6), (8, .int v8)] [.int s0] := by
    intro a3 a9 k247 kk247 hk247 q v2 v6 v8 s0 hok hF
    refine z_iconst (v := 0) hx hb dX11_walks_310 (by decide) ?_
    exact b311 a3 a9 k247 kk247 hk247 q v2 v6 v8 0 s0 hok hF
  have b260 : ∀ (a3 : Nat) (a9 : Nat)  (k247 : SS → Int32 → Int32 → Int32 → Int32 → Int32 × SS) (kk247 : SS → Int32 → Int32 → Int32 → Int32 → Prop) (_ : ∀ (q : SS) (v2 : Int32) (v6 : Int32) (v7 : Int32) (v8 : Int32), kk247 q v2 v6 v7 v8 → F = k247 q v2 v6 v7 v8 → Z p l e (zr 3 2 2596) s m args below meth c 2 2596 (MQ below (va_Qi (fun (x : Int32) (_ : Unit) => x = F.1) (fun _ t => (GM D kc ad) A F.2 t.heap) A) args s 2 2596 A) 12 A (ZG D vwCl (fun q => wM kc ad q ++ (fun q : SS => ([(a3, .inl (kc 0, 1300, .inl (gA q 51))), (a9, .inl (kc 1, 1296, .inl (gA q 52)))] : va_W)) q) (fun _ tl => tl = []) A) q 247 [(0, .ref (ad 0)), (2, .int v2), (4, .ref a9), (6, .int v6), (7, .int v7), (8, .int v8)] []) (n : Nat) (q : SS) (v2 : Int32) (v6 : Int32) (v7 : Int32) (v8 : Int32) (v9 : Int32) (v10 : Int32), kX11_walks_260 kk247 n q v2 v6 v7 v8 v9 v10 → F = fX11_walks_260 k247 n q v2 v6 v7 v8 v9 v10 → Z p l e (zr 3 2 2596) s m args below meth c 2 2596 (MQ below (va_Qi (fun (x : Int32) (_ : Unit) => x = F.1) (fun _ t => (GM D kc ad) A F.2 t.heap) A) args s 2 2596 A) 12 A (ZG D vwCl (fun q => wM kc ad q ++ (fun q : SS => ([(a3, .inl (kc 0, 1300, .inl (gA q 51))), (a9, .inl (kc 1, 1296, .inl (gA q 52)))] : va_W)) q) (fun _ tl => tl = []) A) q 260 [(0, .ref (ad 0)), (2, .int v2), (4, .ref a9), (6, .int v6), (7, .int v7), (8, .int v8), (9, .int v9), (10, .int v10)] [] := by
    intro a3 a9 k247 kk247 hk247 n
    induction n with
    | zero => intro q v2 v6 v7 v8 v9 v10 hok hF; exact False.elim hok
    | succ n ih =>
      intro q v2 v6 v7 v8 v9 v10 hok hF
      refine z_iload (j := 7) hx hb dX11_walks_260 rfl ?_
      refine z_bipush (v := 16) hx hb dX11_walks_262 (by decide) ?_
      refine z_icmp_ge (tgt := 289) hx hb dX11_walks_264 (by decide) (fun g264 => ?_) (fun g264 => ?_)
      · have hF := hF.trans (if_pos g264)
        have hok := And.left hok g264
        refine z_iload (j := 4) hx hb dX11_walks_289 rfl ?_
        refine z_iload (j := 6) hx hb dX11_walks_291 rfl ?_
        refine z_if_eq (tgt := 310) hx hb dX11_walks_293 (by decide) (fun g293 => ?_) (fun g293 => ?_)
        · have hF := hF.trans (if_pos g293)
          have hok := And.left hok g293
          refine z_sub [0, 1, 2, 3, 5] rfl ?_
          exact b310 a3 a9 k247 kk247 hk247 q v2 v6 v8 v7 hok hF
        · have hF := hF.trans (if_neg g293)
          have hok := And.right hok g293
          refine z_aload_n (j := 0) hx hb dX11_walks_296 rfl rfl ?_
          refine z_get (v := .ref (ad 10)) S hK inX11 0 (fun _ => rfl) rfl 37 (by decide) q6_134 rfl rfl dX11_walks_297 ?_
          refine z_iload (j := 5) hx hb dX11_walks_300 rfl ?_
          have h302 := And.left hok
          have hok := And.right hok
          refine z_zald (f := (gA q 10)) S hK 10 1 (fun _ => rfl) rfl h302 dX11_walks_302 ?_
          refine z_if_eq (tgt := 310) hx hb dX11_walks_303 (by decide) (fun g303 => ?_) (fun g303 => ?_)
          · have hF := hF.trans (if_pos g303)
            have hok := And.left hok g303
            refine z_sub [0, 1, 2, 3, 5] rfl ?_
            exact b310 a3 a9 k247 kk247 hk247 q v2 v6 v8 v7 hok hF
          · have hF := hF.trans (if_neg g303)
            have hok := And.right hok g303
            refine z_iconst (v := 1) hx hb dX11_walks_306 (by decide) ?_
            refine z_goto (tgt := 311) hx hb dX11_walks_307 (by decide) ?_
            refine z_sub [0, 1, 2, 3, 5] rfl ?_
            exact b311 a3 a9 k247 kk247 hk247 q v2 v6 v8 1 v7 hok hF
      · have hF := hF.trans (if_neg g264)
        have hok := And.right hok g264
        refine z_iload (j := 6) hx hb dX11_walks_267 rfl ?_
        refine z_aload (j := 2) hx hb dX11_walks_269 rfl ?_
        refine z_bipush (v := 16) hx hb dX11_walks_271 (by decide) ?_
        refine z_iload (j := 5) hx hb dX11_walks_273 rfl ?_
        refine z_imul hx hb dX11_walks_275 ?_
        refine z_iload (j := 7) hx hb dX11_walks_276 rfl ?_
        refine z_iadd hx hb dX11_walks_278 ?_
        have h279 := And.left hok
        have hok := And.right hok
        refine z_zald (f := (gA q 52)) S hK 24 1 (fun _ => rfl) rfl h279 dX11_walks_279 ?_
        refine z_ior hx hb dX11_walks_280 ?_
        refine z_istore (lv' := [(9, .int (v9 ||| ((gA q 52) (((16 * v8) + v10) : Int32).toNatClampNeg))), (0, .ref (ad 0)), (2, .int v2), (4, .ref a9), (6, .int v6), (7, .int v7), (8, .int v8), (10, .int v10)]) hx hb dX11_walks_281 (by decide) rfl ?_
        refine z_iinc (k := 7) (v := (v10 + 1)) (lv' := [(10, .int (v10 + 1)), (9, .int (v9 ||| ((gA q 52) (((16 * v8) + v10) : Int32).toNatClampNeg))), (0, .ref (ad 0)), (2, .int v2), (4, .ref a9), (6, .int v6), (7, .int v7), (8, .int v8)]) hx hb dX11_walks_283 rfl rfl (by decide) rfl ?_
        refine z_goto (tgt := 260) hx hb dX11_walks_286 (by decide) ?_
        refine z_sub [2, 3, 4, 5, 6, 7, 1, 0] rfl ?_
        exact ih q v2 v6 v7 v8 (v9 ||| ((gA q 52) (((16 * v8) + v10) : Int32).toNatClampNeg)) (v10 + 1) hok hF
  have b247 : ∀ (a3 : Nat) (a9 : Nat) (n : Nat) (q : SS) (v2 : Int32) (v6 : Int32) (v7 : Int32) (v8 : Int32), kX11_walks_247 n q v2 v6 v7 v8 → F = fX11_walks_247 n q v2 v6 v7 v8 → Z p l e (zr 3 2 2596) s m args below meth c 2 2596 (MQ below (va_Qi (fun (x : Int32) (_ : Unit) => x = F.1) (fun _ t => (GM D kc ad) A F.2 t.heap) A) args s 2 2596 A) 12 A (ZG D vwCl (fun q => wM kc ad q ++ (fun q : SS => ([(a3, .inl (kc 0, 1300, .inl (gA q 51))), (a9, .inl (kc 1, 1296, .inl (gA q 52)))] : va_W)) q) (fun _ tl => tl = []) A) q 247 [(0, .ref (ad 0)), (2, .int v2), (4, .ref a9), (6, .int v6), (7, .int v7), (8, .int v8)] [] := by
    intro a3 a9 n
    induction n with
    | zero => intro q v2 v6 v7 v8 hok hF; exact False.elim hok
    | succ n ih =>
      intro q v2 v6 v7 v8 hok hF
      refine z_iload (j := 5) hx hb dX11_walks_247 rfl ?_
      refine z_bipush (v := 80) hx hb dX11_walks_249 (by decide) ?_
      refine z_icmp_ge (tgt := 320) hx hb dX11_walks_251 (by decide) (fun g251 => ?_) (fun g251 => ?_)
      · have hF := hF.trans (if_pos g251)
        have hok := And.left hok g251
        refine z_iload_n (j := 1) hx hb dX11_walks_320 rfl rfl ?_
        refine z_if_eq (tgt := 329) hx hb dX11_walks_321 (by decide) (fun g321 => ?_) (fun g321 => ?_)
        · have hF := hF.trans (if_pos g321)
          have hok := And.left hok g321
          refine z_iload (j := 4) hx hb dX11_walks_329 rfl ?_
          refine z_sub [] rfl ?_
          exact b331 a3 a9 q v7 hok hF
        · have hF := hF.trans (if_neg g321)
          have hok := And.right hok g321
          refine z_iload (j := 3) hx hb dX11_walks_324 rfl ?_
          refine z_goto (tgt := 331) hx hb dX11_walks_326 (by decide) ?_
          refine z_sub [] rfl ?_
          exact b331 a3 a9 q v6 hok hF
      · have hF := hF.trans (if_neg g251)
        have hok := And.right hok g251
        refine z_iconst (v := 0) hx hb dX11_walks_254 (by decide) ?_
        refine z_istore (lv' := [(9, .int 0), (0, .ref (ad 0)), (2, .int v2), (4, .ref a9), (6, .int v6), (7, .int v7), (8, .int v8)]) hx hb dX11_walks_255 (by decide) rfl ?_
        refine z_iconst (v := 0) hx hb dX11_walks_257 (by decide) ?_
        refine z_istore (lv' := [(10, .int 0), (9, .int 0), (0, .ref (ad 0)), (2, .int v2), (4, .ref a9), (6, .int v6), (7, .int v7), (8, .int v8)]) hx hb dX11_walks_258 (by decide) rfl ?_
        refine z_sub [2, 3, 4, 5, 6, 7, 1, 0] rfl ?_
        exact b260 a3 a9 (fX11_walks_247 n) (kX11_walks_247 n) ih 1300 q v2 v6 v7 v8 0 0 hok hF
  have b235 : ∀ (a3 : Nat) (a9 : Nat) (k37 : SS → Int32 → Int32 → Int32 → Int32 → Int32 × SS) (kk37 : SS → Int32 → Int32 → Int32 → Int32 → Prop) (_ : ∀ (q : SS) (v2 : Int32) (v5 : Int32) (v6 : Int32) (v7 : Int32), kk37 q v2 v5 v6 v7 → F = k37 q v2 v5 v6 v7 → Z p l e (zr 3 2 2596) s m args below meth c 2 2596 (MQ below (va_Qi (fun (x : Int32) (_ : Unit) => x = F.1) (fun _ t => (GM D kc ad) A F.2 t.heap) A) args s 2 2596 A) 12 A (ZG D vwCl (fun q => wM kc ad q ++ (fun q : SS => ([(a3, .inl (kc 0, 1300, .inl (gA q 51))), (a9, .inl (kc 1, 1296, .inl (gA q 52)))] : va_W)) q) (fun _ tl => tl = []) A) q 37 [(0, .ref (ad 0)), (2, .int v2), (3, .ref a3), (4, .ref a9), (5, .int v5), (6, .int v6), (7, .int v7)] []) (k135 : SS → Int32 → Int32 → Int32 → Int32 → Int32 → Int32 → Int32 → Int32 × SS) (kk135 : SS → Int32 → Int32 → Int32 → Int32 → Int32 → Int32 → Int32 → Prop) (_ : ∀ (q : SS) (v2 : Int32) (v5 : Int32) (v6 : Int32) (v7 : Int32) (v8 : Int32) (v9 : Int32) (v10 : Int32), kk135 q v2 v5 v6 v7 v8 v9 v10 → F = k135 q v2 v5 v6 v7 v8 v9 v10 → Z p l e (zr 3 2 2596) s m args below meth c 2 2596 (MQ below (va_Qi (fun (x : Int32) (_ : Unit) => x = F.1) (fun _ t => (GM D kc ad) A F.2 t.heap) A) args s 2 2596 A) 12 A (ZG D vwCl (fun q => wM kc ad q ++ (fun q : SS => ([(a3, .inl (kc 0, 1300, .inl (gA q 51))), (a9, .inl (kc 1, 1296, .inl (gA q 52)))] : va_W)) q) (fun _ tl => tl = []) A) q 135 [(0, .ref (ad 0)), (2, .int v2), (3, .ref a3), (4, .ref a9), (5, .int v5), (6, .int v6), (7, .int v7), (8, .int v8), (9, .int v9), (10, .int v10)] []) (q : SS) (v2 : Int32) (v5 : Int32) (v6 : Int32) (v7 : Int32) (v8 : Int32) (v9 : Int32) (v10 : Int32), kX11_walks_235 kk37 kk135 q v2 v5 v6 v7 v8 v9 v10 → F = fX11_walks_235 k37 k135 q v2 v5 v6 v7 v8 v9 v10 → Z p l e (zr 3 2 2596) s m args below meth c 2 2596 (MQ below (va_Qi (fun (x : Int32) (_ : Unit) => x = F.1) (fun _ t => (GM D kc ad) A F.2 t.heap) A) args s 2 2596 A) 12 A (ZG D vwCl (fun q => wM kc ad q ++ (fun q : SS => ([(a3, .inl (kc 0, 1300, .inl (gA q 51))), (a9, .inl (kc 1, 1296, .inl (gA q 52)))] : va_W)) q) (fun _ tl => tl = []) A) q 235 [(0, .ref (ad 0)), (2, .int v2), (3, .ref a3), (4, .ref a9), (5, .int v5), (6, .int v6), (7, .int v7), (8, .int v8), (9, .int v9), (10, .int v10)] [] := by
    intro a3 a9 k37 kk37 hk37 k135 kk135 hk135 q v2 v5 v6 v7 v8 v9 v10 hok hF
    refine z_iinc (k := 9) (v := (v10 + 1)) (lv' := [(10, .int (v10 + 1)), (0, .ref (ad 0)), (2, .int v2), (3, .ref a3), (4, .ref a9), (5, .int v5), (6, .int v6), (7, .int v7), (8, .int v8), (9, .int v9)]) hx hb dX11_walks_235 rfl rfl (by decide) rfl ?_
    refine z_goto (tgt := 135) hx hb dX11_walks_238 (by decide) ?_
    refine z_sub [1, 2, 3, 4, 5, 6, 7, 8, 9, 0] rfl ?_
    exact hk135 q v2 v5 v6 v7 v8 v9 (v10 + 1) hok hF
  have b184 : ∀ (a3 : Nat) (a9 : Nat) (k37 : SS → Int32 → Int32 → Int32 → Int32 → Int32 × SS) (kk37 : SS → Int32 → Int32 → Int32 → Int32 → Prop) (_ : ∀ (q : SS) (v2 : Int32) (v5 : Int32) (v6 : Int32) (v7 : Int32), kk37 q v2 v5 v6 v7 → F = k37 q v2 v5 v6 v7 → Z p l e (zr 3 2 2596) s m args below meth c 2 2596 (MQ below (va_Qi (fun (x : Int32) (_ : Unit) => x = F.1) (fun _ t => (GM D kc ad) A F.2 t.heap) A) args s 2 2596 A) 12 A (ZG D vwCl (fun q => wM kc ad q ++ (fun q : SS => ([(a3, .inl (kc 0, 1300, .inl (gA q 51))), (a9, .inl (kc 1, 1296, .inl (gA q 52)))] : va_W)) q) (fun _ tl => tl = []) A) q 37 [(0, .ref (ad 0)), (2, .int v2), (3, .ref a3), (4, .ref a9), (5, .int v5), (6, .int v6), (7, .int v7)] []) (k135 : SS → Int32 → Int32 → Int32 → Int32 → Int32 → Int32 → Int32 → Int32 × SS) (kk135 : SS → Int32 → Int32 → Int32 → Int32 → Int32 → Int32 → Int32 → Prop) (_ : ∀ (q : SS) (v2 : Int32) (v5 : Int32) (v6 : Int32) (v7 : Int32) (v8 : Int32) (v9 : Int32) (v10 : Int32), kk135 q v2 v5 v6 v7 v8 v9 v10 → F = k135 q v2 v5 v6 v7 v8 v9 v10 → Z p l e (zr 3 2 2596) s m args below meth c 2 2596 (MQ below (va_Qi (fun (x : Int32) (_ : Unit) => x = F.1) (fun _ t => (GM D kc ad) A F.2 t.heap) A) args s 2 2596 A) 12 A (ZG D vwCl (fun q => wM kc ad q ++ (fun q : SS => ([(a3, .inl (kc 0, 1300, .inl (gA q 51))), (a9, .inl (kc 1, 1296, .inl (gA q 52)))] : va_W)) q) (fun _ tl => tl = []) A) q 135 [(0, .ref (ad 0)), (2, .int v2), (3, .ref a3), (4, .ref a9), (5, .int v5), (6, .int v6), (7, .int v7), (8, .int v8), (9, .int v9), (10, .int v10)] []) (q : SS) (v2 : Int32) (v5 : Int32) (v6 : Int32) (v7 : Int32) (v8 : Int32) (v9 : Int32) (v10 : Int32) (s0 : Int32), kX11_walks_184 kk37 kk135 q v2 v5 v6 v7 v8 v9 v10 s0 → F = fX11_walks_184 k37 k135 q v2 v5 v6 v7 v8 v9 v10 s0 → Z p l e (zr 3 2 2596) s m args below meth c 2 2596 (MQ below (va_Qi (fun (x : Int32) (_ : Unit) => x = F.1) (fun _ t => (GM D kc ad) A F.2 t.heap) A) args s 2 2596 A) 12 A (ZG D vwCl (fun q => wM kc ad q ++ (fun q : SS => ([(a3, .inl (kc 0, 1300, .inl (gA q 51))), (a9, .inl (kc 1, 1296, .inl (gA q 52)))] : va_W)) q) (fun _ tl => tl = []) A) q 184 [(0, .ref (ad 0)), (2, .int v2), (3, .ref a3), (4, .ref a9), (5, .int v5), (6, .int v6), (7, .int v7), (8, .int v8), (9, .int v9), (10, .int v10)] [.int s0] := by
    intro a3 a9 k37 kk37 hk37 k135 kk135 hk135 q v2 v5 v6 v7 v8 v9 v10 s0 hok hF
    refine z_istore (lv' := [(11, .int s0), (0, .ref (ad 0)), (2, .int v2), (3, .ref a3), (4, .ref a9), (5, .int v5), (6, .int v6), (7, .int v7), (8, .int v8), (9, .int v9), (10, .int v10)]) hx hb dX11_walks_184 (by decide) rfl ?_
    refine z_iload (j := 0) hx hb dX11_walks_186 rfl ?_
    refine z_if_lt (tgt := 235) hx hb dX11_walks_188 (by decide) (fun g188 => ?_) (fun g188 => ?_)
    · have hF := hF.trans (if_pos g188)
      have hok := And.left hok g188
      refine z_sub [1, 2, 3, 4, 5, 6, 7, 8, 9, 10] rfl ?_
      exact b235 a3 a9 k37 kk37 hk37 k135 kk135 hk135 q v2 v5 v6 v7 v8 v9 v10 hok hF
    · have hF := hF.trans (if_neg g188)
      have hok := And.right hok g188
      refine z_aload (j := 4) hx hb dX11_walks_191 rfl ?_
      refine z_bipush (v := 16) hx hb dX11_walks_193 (by decide) ?_
      refine z_iload (j := 0) hx hb dX11_walks_195 rfl ?_
      refine z_imul hx hb dX11_walks_197 ?_
      refine z_iload (j := 9) hx hb dX11_walks_198 rfl ?_
      refine z_iadd hx hb dX11_walks_200 ?_
      have h201 := And.left hok
      have hok := And.right hok
      refine z_zald (f := (gA q 52)) S hK 24 1 (fun _ => rfl) rfl h201 dX11_walks_201 ?_
      refine z_if_eq (tgt := 208) hx hb dX11_walks_202 (by decide) (fun g202 => ?_) (fun g202 => ?_)
      · have hF := hF.trans (if_pos g202)
        have hok := And.left hok g202
        refine z_aload (j := 4) hx hb dX11_walks_208 rfl ?_
        refine z_bipush (v := 16) hx hb dX11_walks_210 (by decide) ?_
        refine z_iload (j := 0) hx hb dX11_walks_212 rfl ?_
        refine z_imul hx hb dX11_walks_214 ?_
        refine z_iload (j := 9) hx hb dX11_walks_215 rfl ?_
        refine z_iadd hx hb dX11_walks_217 ?_
        refine z_iconst (v := 1) hx hb dX11_walks_218 (by decide) ?_
        have h219 := And.left hok
        have hok := And.right hok
        refine z_zast (f := (gA q 52)) (q' := (sA q 52 (upd (gA q 52) (((16 * s0) + v9) : Int32).toNatClampNeg (vp_nar .boolean 1)))) S hK 24 1 (fun _ => rfl) rfl h219 dX11_walks_219 (wLX11_walks_a24_2 kc ad a3 a9 _ _) (fun _ h => h) ?_
        refine z_aload_n (j := 3) hx hb dX11_walks_220 rfl rfl ?_
        refine z_iload (j := 5) hx hb dX11_walks_221 rfl ?_
        refine z_bipush (v := 16) hx hb dX11_walks_223 (by decide) ?_
        refine z_iload (j := 0) hx hb dX11_walks_225 rfl ?_
        refine z_imul hx hb dX11_walks_227 ?_
        refine z_iload (j := 9) hx hb dX11_walks_228 rfl ?_
        refine z_iadd hx hb dX11_walks_230 ?_
        have h231 := And.left hok
        have hok := And.right hok
        refine z_iast (f := (gA q 51)) (q' := (sA (sA q 52 (upd (gA q 52) (((16 * s0) + v9) : Int32).toNatClampNeg (vp_nar .boolean 1))) 51 (upd (gA q 51) (v5 : Int32).toNatClampNeg ((16 * s0) + v9)))) S hK 23 0 (fun _ => rfl) rfl h231 dX11_walks_231 (wLX11_walks_a23_2 kc ad a3 a9 _ _) (fun _ h => h) ?_
        refine z_iinc (k := 5) (v := (v5 + 1)) (lv' := [(5, .int (v5 + 1)), (11, .int s0), (0, .ref (ad 0)), (2, .int v2), (3, .ref a3), (4, .ref a9), (6, .int v6), (7, .int v7), (8, .int v8), (9, .int v9), (10, .int v10)]) hx hb dX11_walks_232 rfl rfl (by decide) rfl ?_
        refine z_sub [2, 3, 4, 5, 0, 6, 7, 8, 9, 10] rfl ?_
        exact b235 a3 a9 k37 kk37 hk37 k135 kk135 hk135 (sA (sA q 52 (upd (gA q 52) (((16 * s0) + v9) : Int32).toNatClampNeg (vp_nar .boolean 1))) 51 (upd (gA q 51) (v5 : Int32).toNatClampNeg ((16 * s0) + v9))) v2 (v5 + 1) v6 v7 v8 v9 v10 hok hF
      · have hF := hF.trans (if_neg g202)
        have hok := And.right hok g202
        refine z_goto (tgt := 235) hx hb dX11_walks_205 (by decide) ?_
        refine z_sub [1, 2, 3, 4, 5, 6, 7, 8, 9, 10] rfl ?_
        exact b235 a3 a9 k37 kk37 hk37 k135 kk135 hk135 q v2 v5 v6 v7 v8 v9 v10 hok hF
  have b169 : ∀ (a3 : Nat) (a9 : Nat) (k37 : SS → Int32 → Int32 → Int32 → Int32 → Int32 × SS) (kk37 : SS → Int32 → Int32 → Int32 → Int32 → Prop) (_ : ∀ (q : SS) (v2 : Int32) (v5 : Int32) (v6 : Int32) (v7 : Int32), kk37 q v2 v5 v6 v7 → F = k37 q v2 v5 v6 v7 → Z p l e (zr 3 2 2596) s m args below meth c 2 2596 (MQ below (va_Qi (fun (x : Int32) (_ : Unit) => x = F.1) (fun _ t => (GM D kc ad) A F.2 t.heap) A) args s 2 2596 A) 12 A (ZG D vwCl (fun q => wM kc ad q ++ (fun q : SS => ([(a3, .inl (kc 0, 1300, .inl (gA q 51))), (a9, .inl (kc 1, 1296, .inl (gA q 52)))] : va_W)) q) (fun _ tl => tl = []) A) q 37 [(0, .ref (ad 0)), (2, .int v2), (3, .ref a3), (4, .ref a9), (5, .int v5), (6, .int v6), (7, .int v7)] []) (k135 : SS → Int32 → Int32 → Int32 → Int32 → Int32 → Int32 → Int32 → Int32 × SS) (kk135 : SS → Int32 → Int32 → Int32 → Int32 → Int32 → Int32 → Int32 → Prop) (_ : ∀ (q : SS) (v2 : Int32) (v5 : Int32) (v6 : Int32) (v7 : Int32) (v8 : Int32) (v9 : Int32) (v10 : Int32), kk135 q v2 v5 v6 v7 v8 v9 v10 → F = k135 q v2 v5 v6 v7 v8 v9 v10 → Z p l e (zr 3 2 2596) s m args below meth c 2 2596 (MQ below (va_Qi (fun (x : Int32) (_ : Unit) => x = F.1) (fun _ t => (GM D kc ad) A F.2 t.heap) A) args s 2 2596 A) 12 A (ZG D vwCl (fun q => wM kc ad q ++ (fun q : SS => ([(a3, .inl (kc 0, 1300, .inl (gA q 51))), (a9, .inl (kc 1, 1296, .inl (gA q 52)))] : va_W)) q) (fun _ tl => tl = []) A) q 135 [(0, .ref (ad 0)), (2, .int v2), (3, .ref a3), (4, .ref a9), (5, .int v5), (6, .int v6), (7, .int v7), (8, .int v8), (9, .int v9), (10, .int v10)] []) (q : SS) (v2 : Int32) (v5 : Int32) (v6 : Int32) (v7 : Int32) (v8 : Int32) (v9 : Int32) (v10 : Int32) (s0 : Int32), kX11_walks_169 kk37 kk135 q v2 v5 v6 v7 v8 v9 v10 s0 → F = fX11_walks_169 k37 k135 q v2 v5 v6 v7 v8 v9 v10 s0 → Z p l e (zr 3 2 2596) s m args below meth c 2 2596 (MQ below (va_Qi (fun (x : Int32) (_ : Unit) => x = F.1) (fun _ t => (GM D kc ad) A F.2 t.heap) A) args s 2 2596 A) 12 A (ZG D vwCl (fun q => wM kc ad q ++ (fun q : SS => ([(a3, .inl (kc 0, 1300, .inl (gA q 51))), (a9, .inl (kc 1, 1296, .inl (gA q 52)))] : va_W)) q) (fun _ tl => tl = []) A) q 169 [(0, .ref (ad 0)), (2, .int v2), (3, .ref a3), (4, .ref a9), (5, .int v5), (6, .int v6), (7, .int v7), (8, .int v8), (9, .int v9), (10, .int v10)] [.int s0] := by
    intro a3 a9 k37 kk37 hk37 k135 kk135 hk135 q v2 v5 v6 v7 v8 v9 v10 s0 hok hF
    refine z_goto (tgt := 184) hx hb dX11_walks_169 (by decide) ?_
    exact b184 a3 a9 k37 kk37 hk37 k135 kk135 hk135 q v2 v5 v6 v7 v8 v9 v10 s0 hok hF
  have b135 : ∀ (a3 : Nat) (a9 : Nat)  (k37 : SS → Int32 → Int32 → Int32 → Int32 → Int32 × SS) (kk37 : SS → Int32 → Int32 → Int32 → Int32 → Prop) (_ : ∀ (q : SS) (v2 : Int32) (v5 : Int32) (v6 : Int32) (v7 : Int32), kk37 q v2 v5 v6 v7 → F = k37 q v2 v5 v6 v7 → Z p l e (zr 3 2 2596) s m args below meth c 2 2596 (MQ below (va_Qi (fun (x : Int32) (_ : Unit) => x = F.1) (fun _ t => (GM D kc ad) A F.2 t.heap) A) args s 2 2596 A) 12 A (ZG D vwCl (fun q => wM kc ad q ++ (fun q : SS => ([(a3, .inl (kc 0, 1300, .inl (gA q 51))), (a9, .inl (kc 1, 1296, .inl (gA q 52)))] : va_W)) q) (fun _ tl => tl = []) A) q 37 [(0, .ref (ad 0)), (2, .int v2), (3, .ref a3), (4, .ref a9), (5, .int v5), (6, .int v6), (7, .int v7)] []) (n : Nat) (q : SS) (v2 : Int32) (v5 : Int32) (v6 : Int32) (v7 : Int32) (v8 : Int32) (v9 : Int32) (v10 : Int32), kX11_walks_135 kk37 n q v2 v5 v6 v7 v8 v9 v10 → F = fX11_walks_135 k37 n q v2 v5 v6 v7 v8 v9 v10 → Z p l e (zr 3 2 2596) s m args below meth c 2 2596 (MQ below (va_Qi (fun (x : Int32) (_ : Unit) => x = F.1) (fun _ t => (GM D kc ad) A F.2 t.heap) A) args s 2 2596 A) 12 A (ZG D vwCl (fun q => wM kc ad q ++ (fun q : SS => ([(a3, .inl (kc 0, 1300, .inl (gA q 51))), (a9, .inl (kc 1, 1296, .inl (gA q 52)))] : va_W)) q) (fun _ tl => tl = []) A) q 135 [(0, .ref (ad 0)), (2, .int v2), (3, .ref a3), (4, .ref a9), (5, .int v5), (6, .int v6), (7, .int v7), (8, .int v8), (9, .int v9), (10, .int v10)] [] := by
    intro a3 a9 k37 kk37 hk37 n
    induction n with
    | zero => intro q v2 v5 v6 v7 v8 v9 v10 hok hF; exact False.elim hok
    | succ n ih =>
      intro q v2 v5 v6 v7 v8 v9 v10 hok hF
      refine z_iload (j := 9) hx hb dX11_walks_135 rfl ?_
      refine z_bipush (v := 9) hx hb dX11_walks_137 (by decide) ?_
      refine z_icmp_ge (tgt := 241) hx hb dX11_walks_139 (by decide) (fun g139 => ?_) (fun g139 => ?_)
      · have hF := hF.trans (if_pos g139)
        have hok := And.left hok g139
        refine z_goto (tgt := 37) hx hb dX11_walks_241 (by decide) ?_
        refine z_sub [0, 1, 2, 3, 4, 5, 6] rfl ?_
        exact hk37 q v2 v5 v6 v7 hok hF
      · have hF := hF.trans (if_neg g139)
        have hok := And.right hok g139
        refine z_iload (j := 9) hx hb dX11_walks_142 rfl ?_
        refine z_bipush (v := 8) hx hb dX11_walks_144 (by decide) ?_
        refine z_icmp_ne (tgt := 176) hx hb dX11_walks_146 (by decide) (fun g146 => ?_) (fun g146 => ?_)
        · have hF := hF.trans (if_neg g146)
          have hok := And.right hok g146
          refine z_aload_n (j := 0) hx hb dX11_walks_176 rfl rfl ?_
          refine z_iload (j := 7) hx hb dX11_walks_177 rfl ?_
          refine z_iload (j := 9) hx hb dX11_walks_179 rfl ?_
          have h181 := And.left hok
          have hok := And.right hok
          have h181_51 := And.left hok
          have hok := And.right hok
          have h181_52 := And.left hok
          have hok := And.right hok
          refine z_callLVi (As := [.int v8, .int v10]) (loc := (fun q : SS => ([(a3, .inl (kc 0, 1300, .inl (gA q 51))), (a9, .inl (kc 1, 1296, .inl (gA q 52)))] : va_W))) S (ctX11_way l D kc ad q v8 v10 h181) (cwV 2 S.2.2.2.2 (gV q8_2 q8_4 qp4_0 q1_12 q8_5) rfl rfl rfl hX11_way ⟨Nat.le_of_ble_eq_true rfl, Nat.le_of_ble_eq_true rfl⟩) hA (pbM D kc) (fun _ _ hW => va_K.moved hW.alike hK) (fun _ => z_recv hK 0 (fun _ => rfl) rfl) (by simp only [h181_51, h181_52]) rfl rfl (Nat.le_of_ble_eq_true rfl) dX11_walks_181 ⟨Nat.le_of_ble_eq_true rfl, Nat.le_of_ble_eq_true rfl⟩ ?_
          exact b184 a3 a9 k37 kk37 hk37 (fX11_walks_135 k37 n) (kX11_walks_135 kk37 n) ih (fX11_way q v8 v10).2 v2 v5 v6 v7 v8 v9 v10 (fX11_way q v8 v10).1 hok hF
        · have hF := hF.trans (if_pos g146)
          have hok := And.left hok g146
          refine z_aload_n (j := 0) hx hb dX11_walks_149 rfl rfl ?_
          refine z_get (v := .ref (ad 9)) S hK inX11 0 (fun _ => rfl) rfl 36 (by decide) q6_133 rfl rfl dX11_walks_150 ?_
          refine z_iload (j := 7) hx hb dX11_walks_153 rfl ?_
          have h155 := And.left hok
          have hok := And.right hok
          refine z_cald (f := (gA q 9)) S hK 9 3 (fun _ => rfl) rfl h155 dX11_walks_155 ?_
          refine z_bipush (v := 99) hx hb dX11_walks_156 (by decide) ?_
          refine z_icmp_ne (tgt := 172) hx hb dX11_walks_158 (by decide) (fun g158 => ?_) (fun g158 => ?_)
          · have hF := hF.trans (if_neg g158)
            have hok := And.right hok g158
            refine z_iconst (v := (-1)) hx hb dX11_walks_172 (by decide) ?_
            refine z_goto (tgt := 184) hx hb dX11_walks_173 (by decide) ?_
            exact b184 a3 a9 k37 kk37 hk37 (fX11_walks_135 k37 n) (kX11_walks_135 kk37 n) ih q v2 v5 v6 v7 v8 v9 v10 (-1) hok hF
          · have hF := hF.trans (if_pos g158)
            have hok := And.left hok g158
            refine z_aload_n (j := 0) hx hb dX11_walks_161 rfl rfl ?_
            refine z_iload (j := 7) hx hb dX11_walks_162 rfl ?_
            refine z_iconst (v := 1) hx hb dX11_walks_164 (by decide) ?_
            refine z_iadd hx hb dX11_walks_165 ?_
            have h166 := And.left hok
            have hok := And.right hok
            have h166_51 := And.left hok
            have hok := And.right hok
            have h166_52 := And.left hok
            have hok := And.right hok
            refine z_callLVi (As := [.int (v8 + 1)]) (loc := (fun q : SS => ([(a3, .inl (kc 0, 1300, .inl (gA q 51))), (a9, .inl (kc 1, 1296, .inl (gA q 52)))] : va_W))) S (ctX11_follows l D kc ad q (v8 + 1) h166) (cwV 1 S.2.2.2.2 (gV q7_167 q7_169 qp3_8 q1_12 q7_170) rfl rfl rfl hX11_follows ⟨Nat.le_of_ble_eq_true rfl, Nat.le_of_ble_eq_true rfl⟩) hA (pbM D kc) (fun _ _ hW => va_K.moved hW.alike hK) (fun _ => z_recv hK 0 (fun _ => rfl) rfl) (by simp only [h166_51, h166_52]) rfl rfl (Nat.le_of_ble_eq_true rfl) dX11_walks_166 ⟨Nat.le_of_ble_eq_true rfl, Nat.le_of_ble_eq_true rfl⟩ ?_
            exact b169 a3 a9 k37 kk37 hk37 (fX11_walks_135 k37 n) (kX11_walks_135 kk37 n) ih (fX11_follows q (v8 + 1)).2 v2 v5 v6 v7 v8 v9 v10 (fX11_follows q (v8 + 1)).1 hok hF
  have b128 : ∀ (a3 : Nat) (a9 : Nat) (k37 : SS → Int32 → Int32 → Int32 → Int32 → Int32 × SS) (kk37 : SS → Int32 → Int32 → Int32 → Int32 → Prop) (_ : ∀ (q : SS) (v2 : Int32) (v5 : Int32) (v6 : Int32) (v7 : Int32), kk37 q v2 v5 v6 v7 → F = k37 q v2 v5 v6 v7 → Z p l e (zr 3 2 2596) s m args below meth c 2 2596 (MQ below (va_Qi (fun (x : Int32) (_ : Unit) => x = F.1) (fun _ t => (GM D kc ad) A F.2 t.heap) A) args s 2 2596 A) 12 A (ZG D vwCl (fun q => wM kc ad q ++ (fun q : SS => ([(a3, .inl (kc 0, 1300, .inl (gA q 51))), (a9, .inl (kc 1, 1296, .inl (gA q 52)))] : va_W)) q) (fun _ tl => tl = []) A) q 37 [(0, .ref (ad 0)), (2, .int v2), (3, .ref a3), (4, .ref a9), (5, .int v5), (6, .int v6), (7, .int v7)] []) (q : SS) (v2 : Int32) (v5 : Int32) (v6 : Int32) (v7 : Int32) (v8 : Int32) (s0 : Int32) (s1 : Int32) (s2 : Int32), kX11_walks_128 kk37 q v2 v5 v6 v7 v8 s0 s1 s2 → F = fX11_walks_128 k37 q v2 v5 v6 v7 v8 s0 s1 s2 → Z p l e (zr 3 2 2596) s m args below meth c 2 2596 (MQ below (va_Qi (fun (x : Int32) (_ : Unit) => x = F.1) (fun _ t => (GM D kc ad) A F.2 t.heap) A) args s 2 2596 A) 12 A (ZG D vwCl (fun q => wM kc ad q ++ (fun q : SS => ([(a3, .inl (kc 0, 1300, .inl (gA q 51))), (a9, .inl (kc 1, 1296, .inl (gA q 52)))] : va_W)) q) (fun _ tl => tl = []) A) q 128 [(0, .ref (ad 0)), (2, .int v2), (3, .ref a3), (4, .ref a9), (5, .int v5), (6, .int v6), (7, .int v7), (8, .int v8)] [.int s0, .int s1, .int s2] := by
    intro a3 a9 k37 kk37 hk37 q v2 v5 v6 v7 v8 s0 s1 s2 hok hF
    refine z_ior hx hb dX11_walks_128 ?_
    refine z_ior hx hb dX11_walks_129 ?_
    refine z_istore (lv' := [(9, .int (s2 ||| (s1 ||| s0))), (0, .ref (ad 0)), (2, .int v2), (3, .ref a3), (4, .ref a9), (5, .int v5), (6, .int v6), (7, .int v7), (8, .int v8)]) hx hb dX11_walks_130 (by decide) rfl ?_
    refine z_iconst (v := 0) hx hb dX11_walks_132 (by decide) ?_
    refine z_istore (lv' := [(10, .int 0), (9, .int (s2 ||| (s1 ||| s0))), (0, .ref (ad 0)), (2, .int v2), (3, .ref a3), (4, .ref a9), (5, .int v5), (6, .int v6), (7, .int v7), (8, .int v8)]) hx hb dX11_walks_133 (by decide) rfl ?_
    refine z_sub [2, 3, 4, 5, 6, 7, 8, 9, 1, 0] rfl ?_
    exact b135 a3 a9 k37 kk37 hk37 1300 q v2 v5 v6 v7 v8 (s2 ||| (s1 ||| s0)) 0 hok hF
  have b91 : ∀ (a3 : Nat) (a9 : Nat) (k37 : SS → Int32 → Int32 → Int32 → Int32 → Int32 × SS) (kk37 : SS → Int32 → Int32 → Int32 → Int32 → Prop) (_ : ∀ (q : SS) (v2 : Int32) (v5 : Int32) (v6 : Int32) (v7 : Int32), kk37 q v2 v5 v6 v7 → F = k37 q v2 v5 v6 v7 → Z p l e (zr 3 2 2596) s m args below meth c 2 2596 (MQ below (va_Qi (fun (x : Int32) (_ : Unit) => x = F.1) (fun _ t => (GM D kc ad) A F.2 t.heap) A) args s 2 2596 A) 12 A (ZG D vwCl (fun q => wM kc ad q ++ (fun q : SS => ([(a3, .inl (kc 0, 1300, .inl (gA q 51))), (a9, .inl (kc 1, 1296, .inl (gA q 52)))] : va_W)) q) (fun _ tl => tl = []) A) q 37 [(0, .ref (ad 0)), (2, .int v2), (3, .ref a3), (4, .ref a9), (5, .int v5), (6, .int v6), (7, .int v7)] []) (q : SS) (v2 : Int32) (v5 : Int32) (v7 : Int32) (v8 : Int32) (v9 : Int32) (s0 : Int32) (s1 : Int32), kX11_walks_91 kk37 q v2 v5 v7 v8 v9 s0 s1 → F = fX11_walks_91 k37 q v2 v5 v7 v8 v9 s0 s1 → Z p l e (zr 3 2 2596) s m args below meth c 2 2596 (MQ below (va_Qi (fun (x : Int32) (_ : Unit) => x = F.1) (fun _ t => (GM D kc ad) A F.2 t.heap) A) args s 2 2596 A) 12 A (ZG D vwCl (fun q => wM kc ad q ++ (fun q : SS => ([(a3, .inl (kc 0, 1300, .inl (gA q 51))), (a9, .inl (kc 1, 1296, .inl (gA q 52)))] : va_W)) q) (fun _ tl => tl = []) A) q 91 [(0, .ref (ad 0)), (2, .int v2), (3, .ref a3), (4, .ref a9), (5, .int v5), (7, .int v7), (8, .int v8), (9, .int v9)] [.int s0, .int s1] := by
    intro a3 a9 k37 kk37 hk37 q v2 v5 v7 v8 v9 s0 s1 hok hF
    refine z_iload (j := 7) hx hb dX11_walks_91 rfl ?_
    refine z_iconst (v := (-1)) hx hb dX11_walks_93 (by decide) ?_
    refine z_ixor hx hb dX11_walks_94 ?_
    refine z_iand hx hb dX11_walks_95 ?_
    refine z_ior hx hb dX11_walks_96 ?_
    refine z_istore (lv' := [(6, .int (s1 ||| (s0 &&& (v9 ^^^ (-1))))), (0, .ref (ad 0)), (2, .int v2), (3, .ref a3), (4, .ref a9), (5, .int v5), (7, .int v7), (8, .int v8), (9, .int v9)]) hx hb dX11_walks_97 (by decide) rfl ?_
    refine z_iload (j := 8) hx hb dX11_walks_99 rfl ?_
    refine z_aload_n (j := 1) hx hb dX11_walks_101 rfl rfl ?_
    refine z_get (v := .ref (ad 3)) S hK inX11 0 (fun _ => rfl) rfl 30 (by decide) q6_127 rfl rfl dX11_walks_102 ?_
    refine z_iload (j := 7) hx hb dX11_walks_105 rfl ?_
    have h107 := And.left hok
    have hok := And.right hok
    refine z_iald (f := (gA q 3)) S hK 3 0 (fun _ => rfl) rfl h107 dX11_walks_107 ?_
    refine z_bipush (v := 15) hx hb dX11_walks_108 (by decide) ?_
    refine z_iand hx hb dX11_walks_110 ?_
    refine z_aload_n (j := 1) hx hb dX11_walks_111 rfl rfl ?_
    refine z_get (v := .ref (ad 4)) S hK inX11 0 (fun _ => rfl) rfl 31 (by decide) q6_128 rfl rfl dX11_walks_112 ?_
    refine z_iload (j := 7) hx hb dX11_walks_115 rfl ?_
    have h117 := And.left hok
    have hok := And.right hok
    refine z_iald (f := (gA q 4)) S hK 4 0 (fun _ => rfl) rfl h117 dX11_walks_117 ?_
    refine z_iconst (v := 1) hx hb dX11_walks_118 (by decide) ?_
    refine z_icmp_ne (tgt := 127) hx hb dX11_walks_119 (by decide) (fun g119 => ?_) (fun g119 => ?_)
    · have hF := hF.trans (if_neg g119)
      have hok := And.right hok g119
      refine z_iconst (v := 0) hx hb dX11_walks_127 (by decide) ?_
      refine z_sub [1, 2, 3, 4, 5, 0, 6, 7] rfl ?_
      exact b128 a3 a9 k37 kk37 hk37 q v2 v5 (s1 ||| (s0 &&& (v9 ^^^ (-1)))) v7 v8 0 (((gA q 3) (v8 : Int32).toNatClampNeg) &&& 15) v9 hok hF
    · have hF := hF.trans (if_pos g119)
      have hok := And.left hok g119
      refine z_bipush (v := 8) hx hb dX11_walks_122 (by decide) ?_
      refine z_goto (tgt := 128) hx hb dX11_walks_124 (by decide) ?_
      refine z_sub [1, 2, 3, 4, 5, 0, 6, 7] rfl ?_
      exact b128 a3 a9 k37 kk37 hk37 q v2 v5 (s1 ||| (s0 &&& (v9 ^^^ (-1)))) v7 v8 8 (((gA q 3) (v8 : Int32).toNatClampNeg) &&& 15) v9 hok hF
  have b37 : ∀ (a3 : Nat) (a9 : Nat) (n : Nat) (q : SS) (v2 : Int32) (v5 : Int32) (v6 : Int32) (v7 : Int32), kX11_walks_37 n q v2 v5 v6 v7 → F = fX11_walks_37 n q v2 v5 v6 v7 → Z p l e (zr 3 2 2596) s m args below meth c 2 2596 (MQ below (va_Qi (fun (x : Int32) (_ : Unit) => x = F.1) (fun _ t => (GM D kc ad) A F.2 t.heap) A) args s 2 2596 A) 12 A (ZG D vwCl (fun q => wM kc ad q ++ (fun q : SS => ([(a3, .inl (kc 0, 1300, .inl (gA q 51))), (a9, .inl (kc 1, 1296, .inl (gA q 52)))] : va_W)) q) (fun _ tl => tl = []) A) q 37 [(0, .ref (ad 0)), (2, .int v2), (3, .ref a3), (4, .ref a9), (5, .int v5), (6, .int v6), (7, .int v7)] [] := by
    intro a3 a9 n
    induction n with
    | zero => intro q v2 v5 v6 v7 hok hF; exact False.elim hok
    | succ n ih =>
      intro q v2 v5 v6 v7 hok hF
      refine z_iload (j := 4) hx hb dX11_walks_37 rfl ?_
      refine z_if_le (tgt := 244) hx hb dX11_walks_39 (by decide) (fun g39 => ?_) (fun g39 => ?_)
      · have hF := hF.trans (if_pos g39)
        have hok := And.left hok g39
        refine z_iconst (v := 0) hx hb dX11_walks_244 (by decide) ?_
        refine z_istore (lv' := [(8, .int 0), (0, .ref (ad 0)), (2, .int v2), (3, .ref a3), (4, .ref a9), (5, .int v5), (6, .int v6), (7, .int v7)]) hx hb dX11_walks_245 (by decide) rfl ?_
        refine z_sub [1, 2, 4, 6, 7, 0] rfl ?_
        exact b247 a3 a9 1300 q v2 v6 v7 0 hok hF
      · have hF := hF.trans (if_neg g39)
        have hok := And.right hok g39
        refine z_iinc (k := 4) (v := (v5 + (-1))) (lv' := [(5, .int (v5 + (-1))), (0, .ref (ad 0)), (2, .int v2), (3, .ref a3), (4, .ref a9), (6, .int v6), (7, .int v7)]) hx hb dX11_walks_42 rfl rfl (by decide) rfl ?_
        refine z_aload_n (j := 3) hx hb dX11_walks_45 rfl rfl ?_
        refine z_iload (j := 0) hx hb dX11_walks_46 rfl ?_
        have h48 := And.left hok
        have hok := And.right hok
        refine z_iald (f := (gA q 51)) S hK 23 0 (fun _ => rfl) rfl h48 dX11_walks_48 ?_
        refine z_bipush (v := 16) hx hb dX11_walks_49 (by decide) ?_
        refine z_idiv hx hb dX11_walks_51 (by decide) ?_
        refine z_istore (lv' := [(8, .int (((gA q 51) ((v5 + (-1)) : Int32).toNatClampNeg) / 16)), (5, .int (v5 + (-1))), (0, .ref (ad 0)), (2, .int v2), (3, .ref a3), (4, .ref a9), (6, .int v6), (7, .int v7)]) hx hb dX11_walks_52 (by decide) rfl ?_
        refine z_aload_n (j := 4) hx hb dX11_walks_54 rfl rfl ?_
        refine z_iload (j := 1) hx hb dX11_walks_55 rfl ?_
        have h57 := And.left hok
        have hok := And.right hok
        refine z_iald (f := (gA q 51)) S hK 23 0 (fun _ => rfl) rfl h57 dX11_walks_57 ?_
        refine z_bipush (v := 16) hx hb dX11_walks_58 (by decide) ?_
        refine z_irem hx hb dX11_walks_60 (by decide) ?_
        refine z_istore (lv' := [(9, .int (((gA q 51) ((v5 + (-1)) : Int32).toNatClampNeg) - ((gA q 51) ((v5 + (-1)) : Int32).toNatClampNeg) / 16 * 16)), (8, .int (((gA q 51) ((v5 + (-1)) : Int32).toNatClampNeg) / 16)), (5, .int (v5 + (-1))), (0, .ref (ad 0)), (2, .int v2), (3, .ref a3), (4, .ref a9), (6, .int v6), (7, .int v7)]) hx hb dX11_walks_61 (by decide) rfl ?_
        refine z_iload (j := 1) hx hb dX11_walks_63 rfl ?_
        refine z_bipush (v := 80) hx hb dX11_walks_65 (by decide) ?_
        refine z_icmp_ge (tgt := 37) hx hb dX11_walks_67 (by decide) (fun g67 => ?_) (fun g67 => ?_)
        · have hF := hF.trans (if_pos g67)
          have hok := And.left hok g67
          refine z_sub [3, 4, 5, 6, 2, 7, 8] rfl ?_
          exact ih q v2 (v5 + (-1)) v6 v7 hok hF
        · have hF := hF.trans (if_neg g67)
          have hok := And.right hok g67
          refine z_aload_n (j := 3) hx hb dX11_walks_70 rfl rfl ?_
          refine z_get (v := .ref (ad 10)) S hK inX11 0 (fun _ => rfl) rfl 37 (by decide) q6_134 rfl rfl dX11_walks_71 ?_
          refine z_iload (j := 1) hx hb dX11_walks_74 rfl ?_
          have h76 := And.left hok
          have hok := And.right hok
          refine z_zald (f := (gA q 10)) S hK 10 1 (fun _ => rfl) rfl h76 dX11_walks_76 ?_
          refine z_if_ne (tgt := 83) hx hb dX11_walks_77 (by decide) (fun g77 => ?_) (fun g77 => ?_)
          · have hF := hF.trans (if_neg g77)
            have hok := And.right hok g77
            refine z_iload (j := 7) hx hb dX11_walks_83 rfl ?_
            refine z_aload_n (j := 3) hx hb dX11_walks_85 rfl rfl ?_
            refine z_iload (j := 1) hx hb dX11_walks_86 rfl ?_
            have h88 := And.left hok
            have hok := And.right hok
            have h88_51 := And.left hok
            have hok := And.right hok
            have h88_52 := And.left hok
            have hok := And.right hok
            refine z_callLVi (As := [.int (((gA q 51) ((v5 + (-1)) : Int32).toNatClampNeg) / 16)]) (loc := (fun q : SS => ([(a3, .inl (kc 0, 1300, .inl (gA q 51))), (a9, .inl (kc 1, 1296, .inl (gA q 52)))] : va_W))) S (ctX11_reads l D kc ad q (((gA q 51) ((v5 + (-1)) : Int32).toNatClampNeg) / 16) h88) (cwV 1 S.2.2.2.2 (gV q7_238 q8_0 qp3_15 q1_12 q8_1) rfl rfl rfl hX11_reads ⟨Nat.le_of_ble_eq_true rfl, Nat.le_of_ble_eq_true rfl⟩) hA (pbM D kc) (fun _ _ hW => va_K.moved hW.alike hK) (fun _ => z_recv hK 0 (fun _ => rfl) rfl) (by simp only [h88_51, h88_52]) rfl rfl (Nat.le_of_ble_eq_true rfl) dX11_walks_88 ⟨Nat.le_of_ble_eq_true rfl, Nat.le_of_ble_eq_true rfl⟩ ?_
            refine z_sub [3, 4, 5, 6, 2, 8, 1, 0] rfl ?_
            exact b91 a3 a9 (fX11_walks_37 n) (kX11_walks_37 n) ih (fX11_reads q (((gA q 51) ((v5 + (-1)) : Int32).toNatClampNeg) / 16)).2 v2 (v5 + (-1)) v7 (((gA q 51) ((v5 + (-1)) : Int32).toNatClampNeg) / 16) (((gA q 51) ((v5 + (-1)) : Int32).toNatClampNeg) - ((gA q 51) ((v5 + (-1)) : Int32).toNatClampNeg) / 16 * 16) (fX11_reads q (((gA q 51) ((v5 + (-1)) : Int32).toNatClampNeg) / 16)).1 v6 hok hF
          · have hF := hF.trans (if_pos g77)
            have hok := And.left hok g77
            refine z_goto (tgt := 37) hx hb dX11_walks_80 (by decide) ?_
            refine z_sub [3, 4, 5, 6, 2, 7, 8] rfl ?_
            exact ih q v2 (v5 + (-1)) v6 v7 hok hF
  refine z_sipush (v := 1300) hx hb dX11_walks_0 (by decide) ?_
  refine z_newa (a0 := (1300, .inl (fun _ => 0))) (q' := (sA q 51 (fun _ => 0))) S hK hA rfl (fun _ h => by cases h) 0 rfl q1_72 (fun a3 q => wM kc ad q ++ (fun q : SS => ([(a3, .inl (kc 0, 1300, .inl (gA q 51)))] : va_W)) q) (fun _ => rfl) (by decide) (by decide) (Nat.le_of_ble_eq_true rfl) (Nat.le_of_ble_eq_true rfl) (Nat.le_of_ble_eq_true rfl) dX11_walks_3 (fun _ => rfl) (fun a3 => ?_)
  refine z_astore_n (lv' := [(3, .ref a3), (0, .ref (ad 0)), (1, .int v1), (2, .int v2)]) hx hb dX11_walks_5 rfl (by decide) rfl ?_
  refine z_sipush (v := 1296) hx hb dX11_walks_6 (by decide) ?_
  refine z_newa (a0 := (1296, .inl (fun _ => 0))) (q' := (sA (sA q 51 (fun _ => 0)) 52 (fun _ => 0))) S hK hA rfl (fun _ h => by cases h) 1 rfl q1_71 (fun a9 q => wM kc ad q ++ (fun q : SS => ([(a3, .inl (kc 0, 1300, .inl (gA q 51))), (a9, .inl (kc 1, 1296, .inl (gA q 52)))] : va_W)) q) (fun _ => rfl) (by decide) (by decide) (Nat.le_of_ble_eq_true rfl) (Nat.le_of_ble_eq_true rfl) (Nat.le_of_ble_eq_true rfl) dX11_walks_9 (fun _ => rfl) (fun a9 => ?_)
  refine z_astore (lv' := [(4, .ref a9), (3, .ref a3), (0, .ref (ad 0)), (1, .int v1), (2, .int v2)]) hx hb dX11_walks_11 (by decide) rfl ?_
  refine z_iconst (v := 1) hx hb dX11_walks_13 (by decide) ?_
  refine z_istore (lv' := [(5, .int 1), (4, .ref a9), (3, .ref a3), (0, .ref (ad 0)), (1, .int v1), (2, .int v2)]) hx hb dX11_walks_14 (by decide) rfl ?_
  refine z_iconst (v := 0) hx hb dX11_walks_16 (by decide) ?_
  refine z_istore (lv' := [(6, .int 0), (5, .int 1), (4, .ref a9), (3, .ref a3), (0, .ref (ad 0)), (1, .int v1), (2, .int v2)]) hx hb dX11_walks_17 (by decide) rfl ?_
  refine z_iconst (v := 0) hx hb dX11_walks_19 (by decide) ?_
  refine z_istore (lv' := [(7, .int 0), (6, .int 0), (5, .int 1), (4, .ref a9), (3, .ref a3), (0, .ref (ad 0)), (1, .int v1), (2, .int v2)]) hx hb dX11_walks_20 (by decide) rfl ?_
  refine z_aload_n (j := 4) hx hb dX11_walks_22 rfl rfl ?_
  refine z_iconst (v := 0) hx hb dX11_walks_23 (by decide) ?_
  refine z_bipush (v := 16) hx hb dX11_walks_24 (by decide) ?_
  refine z_iload_n (j := 6) hx hb dX11_walks_26 rfl rfl ?_
  refine z_imul hx hb dX11_walks_27 ?_
  refine z_iast (f := (fun _ => 0)) (q' := (sA (sA (sA q 51 (fun _ => 0)) 52 (fun _ => 0)) 51 (upd (fun _ => 0) (0 : Int32).toNatClampNeg (16 * v1)))) S hK 23 0 (fun _ => rfl) rfl (show ¬ (_ ∨ _) from by decide) dX11_walks_28 (wLX11_walks_a23_2 kc ad a3 a9 _ _) (fun _ h => h) ?_
  refine z_aload (j := 3) hx hb dX11_walks_29 rfl ?_
  refine z_bipush (v := 16) hx hb dX11_walks_31 (by decide) ?_
  refine z_iload_n (j := 6) hx hb dX11_walks_33 rfl rfl ?_
  refine z_imul hx hb dX11_walks_34 ?_
  refine z_iconst (v := 1) hx hb dX11_walks_35 (by decide) ?_
  have h36 := And.left hok
  have hok := And.right hok
  refine z_zast (f := (fun _ => 0)) (q' := (sA (sA (sA (sA q 51 (fun _ => 0)) 52 (fun _ => 0)) 51 (upd (fun _ => 0) (0 : Int32).toNatClampNeg (16 * v1))) 52 (upd (fun _ => 0) ((16 * v1) : Int32).toNatClampNeg (vp_nar .boolean 1)))) S hK 24 1 (fun _ => rfl) rfl h36 dX11_walks_36 (wLX11_walks_a24_2 kc ad a3 a9 _ _) (fun _ h => h) ?_
  refine z_sub [5, 7, 4, 3, 2, 1, 0] rfl ?_
  exact b37 a3 a9 1300 (sA (sA (sA (sA q 51 (fun _ => 0)) 52 (fun _ => 0)) 51 (upd (fun _ => 0) (0 : Int32).toNatClampNeg (16 * v1))) 52 (upd (fun _ => 0) ((16 * v1) : Int32).toNatClampNeg (vp_nar .boolean 1))) v2 1 0 0 hok hF
theorem hX11_walks : yX11_walks.cls = RX11 ∧ yX11_walks.cls ≠ "java/lang/invoke/MethodHandle" ∧ yX11_walks.cls ≠ "java/lang/invoke/VarHandle" ∧ (parseMethodDescriptor yX11_walks.desc).map (fun d => d.parameters.length) = some 2 := by decide +kernel
def fX11_unset_20 (q : SS) (s0 : Int32) : Int32 × SS := (s0, q)
def kX11_unset_20 (q : SS) (s0 : Int32) : Prop := True
def fX11_unset_7 (q : SS) (v1 : Int32) (s0 : Int32) : Int32 × SS := (if s0 = 0 then fX11_unset_20 (fX11_walks q v1 1).2 (fX11_walks q v1 1).1 else fX11_unset_20 q 0)
def kX11_unset_7 (q : SS) (v1 : Int32) (s0 : Int32) : Prop := ((s0 = 0 → kX11_walks q v1 1 ∧ kX11_unset_20 (fX11_walks q v1 1).2 (fX11_walks q v1 1).1) ∧ (¬ s0 = 0 → kX11_unset_20 q 0))
def fX11_unset (q : SS) (v1 : Int32) : Int32 × SS := fX11_unset_7 (fX11_out q v1 80).2 v1 (fX11_out q v1 80).1
def kX11_unset (q : SS) (v1 : Int32) : Prop := kX11_out q v1 80 ∧ kX11_unset_7 (fX11_out q v1 80).2 v1 (fX11_out q v1 80).1
set_option maxHeartbeats 4000000 in
set_option maxRecDepth 100000 in
theorem ctX11_unset (l : Launch) (D : va_G) (kc : Nat → ClassId) (ad : Nat → Nat) (q : SS) (v1 : Int32) (hok : kX11_unset q v1) : Ci l yX11_unset (Cond.code yX11_unset cX11_unset 2 (some .int) :: lw_G) (zr 4 2 2596) 2 2596 (PM D kc) (GM D kc ad) (GM D kc ad) [.ref (ad 0), .int v1] q (fX11_unset q v1) := by
  refine Ci.of (cc := cX11_unset) (maxL := 2) (ret := (some .int)) (by decide) rfl (Nat.le_of_ble_eq_true rfl) ?_
  intro p e s m args below meth c A S hr hlocks hin hA hK
  have hx := S.1
  have hb := S.2.1
  have hK : va_K D vwCl (tysK kc) s := hK
  generalize hFe : fX11_unset q v1 = F
  have hF : F = fX11_unset q v1 := hFe.symm
  have b20 : ∀ (q : SS) (s0 : Int32), kX11_unset_20 q s0 → F = fX11_unset_20 q s0 → Z p l e (zr 4 2 2596) s m args below meth c 2 2596 (MQ below (va_Qi (fun (x : Int32) (_ : Unit) => x = F.1) (fun _ t => (GM D kc ad) A F.2 t.heap) A) args s 2 2596 A) 2 A (ZG D vwCl (wM kc ad) (fun _ tl => tl = []) A) q 20 [] [.int s0] := by
    intro q s0 hok hF
    exact z_iret hx hb hlocks hr rfl hF dX11_unset_20
  have b7 : ∀ (q : SS) (v1 : Int32) (s0 : Int32), kX11_unset_7 q v1 s0 → F = fX11_unset_7 q v1 s0 → Z p l e (zr 4 2 2596) s m args below meth c 0 0 (MQ below (va_Qi (fun (x : Int32) (_ : Unit) => x = F.1) (fun _ t => (GM D kc ad) A F.2 t.heap) A) args s 2 2596 A) 2 A (ZG D vwCl (wM kc ad) (fun _ tl => tl = []) A) q 7 [(0, .ref (ad 0)), (1, .int v1)] [.int s0] := by
    intro q v1 s0 hok hF
    refine z_if_eq (tgt := 14) hx hb dX11_unset_7 (by decide) (fun g7 => ?_) (fun g7 => ?_)
    · have hF := hF.trans (if_pos g7)
      have hok := And.left hok g7
      refine z_aload_n (j := 0) hx hb dX11_unset_14 rfl rfl ?_
      refine z_iload_n (j := 1) hx hb dX11_unset_15 rfl rfl ?_
      refine z_iconst (v := 1) hx hb dX11_unset_16 (by decide) ?_
      have h17 := And.left hok
      have hok := And.right hok
      refine z_callVi (As := [.int v1, .int 1]) S (ctX11_walks l D kc ad q v1 1 h17) (cwV 2 S.2.2.2.2 (gV q7_234 q7_236 qp3_14 q1_12 q7_237) rfl rfl rfl hX11_walks ⟨Nat.le_of_ble_eq_true rfl, Nat.le_of_ble_eq_true rfl⟩) hA (pbM D kc) (psM hK) (z_recv hK 0 (fun _ => rfl) rfl) rfl rfl (Nat.le_of_ble_eq_true rfl) dX11_unset_17 ⟨Nat.le_of_ble_eq_true rfl, Nat.le_of_ble_eq_true rfl⟩ ?_
      refine z_sub [] rfl ?_
      exact b20 (fX11_walks q v1 1).2 (fX11_walks q v1 1).1 hok hF
    · have hF := hF.trans (if_neg g7)
      have hok := And.right hok g7
      refine z_iconst (v := 0) hx hb dX11_unset_10 (by decide) ?_
      refine z_goto (tgt := 20) hx hb dX11_unset_11 (by decide) ?_
      refine z_widen (ce := 2) (sl := 2596) (Nat.le_of_ble_eq_true rfl) (Nat.le_of_ble_eq_true rfl) ?_
      refine z_sub [] rfl ?_
      exact b20 q 0 hok hF
  refine z_aload_n (j := 0) hx hb dX11_unset_0 rfl rfl ?_
  refine z_iload_n (j := 1) hx hb dX11_unset_1 rfl rfl ?_
  refine z_bipush (v := 80) hx hb dX11_unset_2 (by decide) ?_
  have h4 := And.left hok
  have hok := And.right hok
  refine z_callVi (As := [.int v1, .int 80]) S (ctX11_out l D kc ad q v1 80 h4) (cwV 2 S.2.2.2.2 (gV q7_17 q7_19 qp2_7 q1_12 q7_20) rfl rfl rfl hX11_out ⟨Nat.le_of_ble_eq_true rfl, Nat.le_of_ble_eq_true rfl⟩) hA (pbM D kc) (psM hK) (z_recv hK 0 (fun _ => rfl) rfl) rfl rfl (Nat.le_of_ble_eq_true rfl) dX11_unset_4 ⟨Nat.le_of_ble_eq_true rfl, Nat.le_of_ble_eq_true rfl⟩ ?_
  exact b7 (fX11_out q v1 80).2 v1 (fX11_out q v1 80).1 hok hF
theorem hX11_unset : yX11_unset.cls = RX11 ∧ yX11_unset.cls ≠ "java/lang/invoke/MethodHandle" ∧ yX11_unset.cls ≠ "java/lang/invoke/VarHandle" ∧ (parseMethodDescriptor yX11_unset.desc).map (fun d => d.parameters.length) = some 1 := by decide +kernel
def fX11_reached_20 (q : SS) (s0 : Int32) : Int32 × SS := (s0, q)
def kX11_reached_20 (q : SS) (s0 : Int32) : Prop := True
def fX11_reached_7 (q : SS) (v1 : Int32) (s0 : Int32) : Int32 × SS := (if s0 = 0 then fX11_reached_20 (fX11_walks q v1 0).2 (fX11_walks q v1 0).1 else fX11_reached_20 q 0)
def kX11_reached_7 (q : SS) (v1 : Int32) (s0 : Int32) : Prop := ((s0 = 0 → kX11_walks q v1 0 ∧ kX11_reached_20 (fX11_walks q v1 0).2 (fX11_walks q v1 0).1) ∧ (¬ s0 = 0 → kX11_reached_20 q 0))
def fX11_reached (q : SS) (v1 : Int32) : Int32 × SS := fX11_reached_7 (fX11_out q v1 80).2 v1 (fX11_out q v1 80).1
def kX11_reached (q : SS) (v1 : Int32) : Prop := kX11_out q v1 80 ∧ kX11_reached_7 (fX11_out q v1 80).2 v1 (fX11_out q v1 80).1
set_option maxHeartbeats 4000000 in
set_option maxRecDepth 100000 in
theorem ctX11_reached (l : Launch) (D : va_G) (kc : Nat → ClassId) (ad : Nat → Nat) (q : SS) (v1 : Int32) (hok : kX11_reached q v1) : Ci l yX11_reached (Cond.code yX11_reached cX11_reached 2 (some .int) :: lw_G) (zr 4 2 2596) 2 2596 (PM D kc) (GM D kc ad) (GM D kc ad) [.ref (ad 0), .int v1] q (fX11_reached q v1) := by
  refine Ci.of (cc := cX11_reached) (maxL := 2) (ret := (some .int)) (by decide) rfl (Nat.le_of_ble_eq_true rfl) ?_
  intro p e s m args below meth c A S hr hlocks hin hA hK
  have hx := S.1
  have hb := S.2.1
  have hK : va_K D vwCl (tysK kc) s := hK
  generalize hFe : fX11_reached q v1 = F
  have hF : F = fX11_reached q v1 := hFe.symm
  have b20 : ∀ (q : SS) (s0 : Int32), kX11_reached_20 q s0 → F = fX11_reached_20 q s0 → Z p l e (zr 4 2 2596) s m args below meth c 2 2596 (MQ below (va_Qi (fun (x : Int32) (_ : Unit) => x = F.1) (fun _ t => (GM D kc ad) A F.2 t.heap) A) args s 2 2596 A) 2 A (ZG D vwCl (wM kc ad) (fun _ tl => tl = []) A) q 20 [] [.int s0] := by
    intro q s0 hok hF
    exact z_iret hx hb hlocks hr rfl hF dX11_reached_20
  have b7 : ∀ (q : SS) (v1 : Int32) (s0 : Int32), kX11_reached_7 q v1 s0 → F = fX11_reached_7 q v1 s0 → Z p l e (zr 4 2 2596) s m args below meth c 0 0 (MQ below (va_Qi (fun (x : Int32) (_ : Unit) => x = F.1) (fun _ t => (GM D kc ad) A F.2 t.heap) A) args s 2 2596 A) 2 A (ZG D vwCl (wM kc ad) (fun _ tl => tl = []) A) q 7 [(0, .ref (ad 0)), (1, .int v1)] [.int s0] := by
    intro q v1 s0 hok hF
    refine z_if_eq (tgt := 14) hx hb dX11_reached_7 (by decide) (fun g7 => ?_) (fun g7 => ?_)
    · have hF := hF.trans (if_pos g7)
      have hok := And.left hok g7
      refine z_aload_n (j := 0) hx hb dX11_reached_14 rfl rfl ?_
      refine z_iload_n (j := 1) hx hb dX11_reached_15 rfl rfl ?_
      refine z_iconst (v := 0) hx hb dX11_reached_16 (by decide) ?_
      have h17 := And.left hok
      have hok := And.right hok
      refine z_callVi (As := [.int v1, .int 0]) S (ctX11_walks l D kc ad q v1 0 h17) (cwV 2 S.2.2.2.2 (gV q7_234 q7_236 qp3_14 q1_12 q7_237) rfl rfl rfl hX11_walks ⟨Nat.le_of_ble_eq_true rfl, Nat.le_of_ble_eq_true rfl⟩) hA (pbM D kc) (psM hK) (z_recv hK 0 (fun _ => rfl) rfl) rfl rfl (Nat.le_of_ble_eq_true rfl) dX11_reached_17 ⟨Nat.le_of_ble_eq_true rfl, Nat.le_of_ble_eq_true rfl⟩ ?_
      refine z_sub [] rfl ?_
      exact b20 (fX11_walks q v1 0).2 (fX11_walks q v1 0).1 hok hF
    · have hF := hF.trans (if_neg g7)
      have hok := And.right hok g7
      refine z_iconst (v := 0) hx hb dX11_reached_10 (by decide) ?_
      refine z_goto (tgt := 20) hx hb dX11_reached_11 (by decide) ?_
      refine z_widen (ce := 2) (sl := 2596) (Nat.le_of_ble_eq_true rfl) (Nat.le_of_ble_eq_true rfl) ?_
      refine z_sub [] rfl ?_
      exact b20 q 0 hok hF
  refine z_aload_n (j := 0) hx hb dX11_reached_0 rfl rfl ?_
  refine z_iload_n (j := 1) hx hb dX11_reached_1 rfl rfl ?_
  refine z_bipush (v := 80) hx hb dX11_reached_2 (by decide) ?_
  have h4 := And.left hok
  have hok := And.right hok
  refine z_callVi (As := [.int v1, .int 80]) S (ctX11_out l D kc ad q v1 80 h4) (cwV 2 S.2.2.2.2 (gV q7_17 q7_19 qp2_7 q1_12 q7_20) rfl rfl rfl hX11_out ⟨Nat.le_of_ble_eq_true rfl, Nat.le_of_ble_eq_true rfl⟩) hA (pbM D kc) (psM hK) (z_recv hK 0 (fun _ => rfl) rfl) rfl rfl (Nat.le_of_ble_eq_true rfl) dX11_reached_4 ⟨Nat.le_of_ble_eq_true rfl, Nat.le_of_ble_eq_true rfl⟩ ?_
  exact b7 (fX11_out q v1 80).2 v1 (fX11_out q v1 80).1 hok hF
theorem hX11_reached : yX11_reached.cls = RX11 ∧ yX11_reached.cls ≠ "java/lang/invoke/MethodHandle" ∧ yX11_reached.cls ≠ "java/lang/invoke/VarHandle" ∧ (parseMethodDescriptor yX11_reached.desc).map (fun d => d.parameters.length) = some 1 := by decide +kernel
