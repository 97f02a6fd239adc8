def fX10_requireIndex_5 (q : SS) (s0 : Int32) : (Nat × SS) ⊕ SS := (if s0 = 0 then (.inr q) else (.inl (0, q)))
def kX10_requireIndex_5 (q : SS) (s0 : Int32) : Prop := ((s0 = 0 → True) ∧ (¬ s0 = 0 → True))
def fX10_requireIndex (q : SS) (v0 : Int32) (v1 : Int32) : (Nat × SS) ⊕ SS := fX10_requireIndex_5 (fX10_isOutside q v0 v1).2 (fX10_isOutside q v0 v1).1
def kX10_requireIndex (q : SS) (v0 : Int32) (v1 : Int32) : Prop := kX10_isOutside q v0 v1 ∧ kX10_requireIndex_5 (fX10_isOutside q v0 v1).2 (fX10_isOutside q v0 v1).1
set_option maxHeartbeats 4000000 in
set_option maxRecDepth 100000 in
theorem ctX10_requireIndex (l : Launch) (hl : l.stackTraces = false) (D : va_G) (kc : Nat → ClassId) (ad wad : Nat → Nat) (q : SS) (v0 : Int32) (v1 : Int32) (hok : kX10_requireIndex q v0 v1) : Xv l yX10_requireIndex (Cond.code yX10_requireIndex cX10_requireIndex 2 none :: lw_G) (zr 6 1 6) 1 6 (PX D kc) (GX D kc ad wad) (GX D kc ad wad) [.int v0, .int v1] q (fX10_requireIndex q v0 v1) := by
  refine Xv.of (cc := cX10_requireIndex) (maxL := 2) (ret := none) (by decide) rfl (Nat.le_of_ble_eq_true rfl) ?_
  intro p e s m args below meth c A S hr hlocks htab hA hK
  have hx := S.1
  have hb := S.2.1
  have hE : EV A s s.heap := hK.2
  have hK : va_K D vwCl (tysK kc) s := hK.1
  generalize hFe : fX10_requireIndex q v0 v1 = F
  have hF : F = fX10_requireIndex q v0 v1 := hFe.symm
  have b5 : ∀ (q : SS) (s0 : Int32), kX10_requireIndex_5 q s0 → F = fX10_requireIndex_5 q s0 → Z p l e (zr 6 1 6) s m args below meth c 0 0 (vx_MQ below (va_Qv (fun (u : SS) => F = .inr u) (fun u t => (GX D kc ad wad) A u t.heap) A) (vx_X (fun (u : Nat × SS) => F = .inl u) (fun E u t => E = exn u.1 ∧ (GX D kc ad wad) A u.2 t.heap) A) args s 1 6 A) 2 A (ZG D vwCl (wX kc ad wad) (PLX wad) A) q 5 [] [.int s0] := by
    intro q s0 hok hF
    refine z_if_eq (tgt := 19) hx hb dX10_requireIndex_5 (by decide) (fun g5 => ?_) (fun g5 => ?_)
    · have hF := hF.trans (if_pos g5)
      have hok := And.left hok g5
      refine z_widen (ce := 1) (sl := 6) (Nat.le_of_ble_eq_true rfl) (Nat.le_of_ble_eq_true rfl) ?_
      exact x_vret hx hb hlocks hr hF dX10_requireIndex_19
    · have hF := hF.trans (if_neg g5)
      have hok := And.right hok g5
      exact x_throwW (k := 0) (ic := 113) (names := ["java/lang/RuntimeException", "java/lang/Exception"]) (text := "there is no such number") S hl htab hlocks hE (KG.x D kc ad wad) (fun _ h => h) hF (by decide +kernel) (by decide +kernel) q3_115 q1_16 (List.mem_of_getElem? (i := 13) rfl) xt_0 (List.forall_mem_cons.mpr ⟨rfl, List.forall_mem_cons.mpr ⟨rfl, xo_0⟩⟩) dX10_requireIndex_8 dX10_requireIndex_11 dX10_requireIndex_12 dX10_requireIndex_15 dX10_requireIndex_18 (Nat.le_of_ble_eq_true rfl) (Nat.le_of_ble_eq_true rfl) (Nat.le_of_ble_eq_true rfl) (Nat.le_of_ble_eq_true rfl) (Nat.le_of_ble_eq_true rfl) (Nat.le_of_ble_eq_true rfl)
  refine z_iload_n (j := 0) hx hb dX10_requireIndex_0 rfl rfl ?_
  refine z_iload_n (j := 1) hx hb dX10_requireIndex_1 rfl rfl ?_
  have h2 := And.left hok
  have hok := And.right hok
  refine z_callSi (As := [.int v0, .int v1]) S (ctX10_isOutside l hl D kc ad wad q v0 v1 h2) (va_cwS 2 S.2.2.2.2 (gS q3_114 q3_12 q1_1 q3_13) rfl rfl rfl hX10_isOutside ⟨Nat.le_of_ble_eq_true rfl, Nat.le_of_ble_eq_true rfl⟩) hA (pbX D kc) (psX hK hE) rfl rfl (Nat.le_of_ble_eq_true rfl) dX10_requireIndex_2 ⟨Nat.le_of_ble_eq_true rfl, Nat.le_of_ble_eq_true rfl⟩ ?_
  refine z_sub [] rfl ?_
  exact b5 (fX10_isOutside q v0 v1).2 (fX10_isOutside q v0 v1).1 hok hF
theorem hX10_requireIndex : yX10_requireIndex.cls ≠ "java/lang/invoke/MethodHandle" ∧ yX10_requireIndex.cls ≠ "java/lang/invoke/VarHandle" ∧ (parseMethodDescriptor yX10_requireIndex.desc).map (fun d => d.parameters.length) = some 2 := by decide +kernel
def fX10_requireNumber_10 (q : SS) : (Nat × SS) ⊕ SS := (.inl (1, q))
def kX10_requireNumber_10 (q : SS) : Prop := True
def fX10_requireNumber (q : SS) (v0 : Int32) (v1 : Int32) (v2 : Int32) : (Nat × SS) ⊕ SS := (if v0 < v1 then fX10_requireNumber_10 q else (if v0 ≤ v2 then (.inr q) else fX10_requireNumber_10 q))
def kX10_requireNumber (q : SS) (v0 : Int32) (v1 : Int32) (v2 : Int32) : Prop := ((v0 < v1 → kX10_requireNumber_10 q) ∧ (¬ v0 < v1 → ((v0 ≤ v2 → True) ∧ (¬ v0 ≤ v2 → kX10_requireNumber_10 q))))
set_option maxHeartbeats 4000000 in
set_option maxRecDepth 100000 in
theorem ctX10_requireNumber (l : Launch) (hl : l.stackTraces = false) (D : va_G) (kc : Nat → ClassId) (ad wad : Nat → Nat) (q : SS) (v0 : Int32) (v1 : Int32) (v2 : Int32) (hok : kX10_requireNumber q v0 v1 v2) : Xv l yX10_requireNumber (Cond.code yX10_requireNumber cX10_requireNumber 3 none :: lw_G) (zr 6 1 6) 1 6 (PX D kc) (GX D kc ad wad) (GX D kc ad wad) [.int v0, .int v1, .int v2] q (fX10_requireNumber q v0 v1 v2) := by
  refine Xv.of (cc := cX10_requireNumber) (maxL := 3) (ret := none) (by decide) rfl (Nat.le_of_ble_eq_true rfl) ?_
  intro p e s m args below meth c A S hr hlocks htab hA hK
  have hx := S.1
  have hb := S.2.1
  have hE : EV A s s.heap := hK.2
  have hK : va_K D vwCl (tysK kc) s := hK.1
  generalize hFe : fX10_requireNumber q v0 v1 v2 = F
  have hF : F = fX10_requireNumber q v0 v1 v2 := hFe.symm
  have b10 : ∀ (q : SS), kX10_requireNumber_10 q → F = fX10_requireNumber_10 q → Z p l e (zr 6 1 6) s m args below meth c 0 0 (vx_MQ below (va_Qv (fun (u : SS) => F = .inr u) (fun u t => (GX D kc ad wad) A u t.heap) A) (vx_X (fun (u : Nat × SS) => F = .inl u) (fun E u t => E = exn u.1 ∧ (GX D kc ad wad) A u.2 t.heap) A) args s 1 6 A) 3 A (ZG D vwCl (wX kc ad wad) (PLX wad) A) q 10 [] [] := by
    intro q hok hF
    exact x_throwW (k := 1) (ic := 132) (names := ["java/lang/RuntimeException", "java/lang/Exception"]) (text := "the number is out of range") S hl htab hlocks hE (KG.x D kc ad wad) (fun _ h => h) hF (by decide +kernel) (by decide +kernel) q3_131 q1_19 (List.mem_of_getElem? (i := 14) rfl) xt_1 (List.forall_mem_cons.mpr ⟨rfl, List.forall_mem_cons.mpr ⟨rfl, xo_1⟩⟩) dX10_requireNumber_10 dX10_requireNumber_13 dX10_requireNumber_14 dX10_requireNumber_17 dX10_requireNumber_20 (Nat.le_of_ble_eq_true rfl) (Nat.le_of_ble_eq_true rfl) (Nat.le_of_ble_eq_true rfl) (Nat.le_of_ble_eq_true rfl) (Nat.le_of_ble_eq_true rfl) (Nat.le_of_ble_eq_true rfl)
  refine z_iload_n (j := 0) hx hb dX10_requireNumber_0 rfl rfl ?_
  refine z_iload_n (j := 1) hx hb dX10_requireNumber_1 rfl rfl ?_
  refine z_icmp_lt (tgt := 10) hx hb dX10_requireNumber_2 (by decide) (fun g2 => ?_) (fun g2 => ?_)
  · have hF := hF.trans (if_pos g2)
    have hok := And.left hok g2
    refine z_sub [] rfl ?_
    exact b10 q hok hF
  · have hF := hF.trans (if_neg g2)
    have hok := And.right hok g2
    refine z_iload_n (j := 0) hx hb dX10_requireNumber_5 rfl rfl ?_
    refine z_iload_n (j := 2) hx hb dX10_requireNumber_6 rfl rfl ?_
    refine z_icmp_le (tgt := 21) hx hb dX10_requireNumber_7 (by decide) (fun g7 => ?_) (fun g7 => ?_)
    · have hF := hF.trans (if_pos g7)
      have hok := And.left hok g7
      refine z_widen (ce := 1) (sl := 6) (Nat.le_of_ble_eq_true rfl) (Nat.le_of_ble_eq_true rfl) ?_
      exact x_vret hx hb hlocks hr hF dX10_requireNumber_21
    · have hF := hF.trans (if_neg g7)
      have hok := And.right hok g7
      refine z_sub [] rfl ?_
      exact b10 q hok hF
theorem hX10_requireNumber : yX10_requireNumber.cls ≠ "java/lang/invoke/MethodHandle" ∧ yX10_requireNumber.cls ≠ "java/lang/invoke/VarHandle" ∧ (parseMethodDescriptor yX10_requireNumber.desc).map (fun d => d.parameters.length) = some 3 := by decide +kernel
def fX10_requireNotBegun (q : SS) : (Nat × SS) ⊕ SS := (if (gI q 511) = 0 then (.inr q) else (.inl (4, q)))
def kX10_requireNotBegun (q : SS) : Prop := (((gI q 511) = 0 → True) ∧ (¬ (gI q 511) = 0 → True))
set_option maxHeartbeats 4000000 in
set_option maxRecDepth 100000 in
theorem ctX10_requireNotBegun (l : Launch) (hl : l.stackTraces = false) (D : va_G) (kc : Nat → ClassId) (ad wad : Nat → Nat) (q : SS) (hok : kX10_requireNotBegun q) : Xv l yX10_requireNotBegun (Cond.code yX10_requireNotBegun cX10_requireNotBegun 1 none :: lw_G) (zr 6 1 6) 1 6 (PX D kc) (GX D kc ad wad) (GX D kc ad wad) [.ref (ad 0)] q (fX10_requireNotBegun q) := by
  refine Xv.of (cc := cX10_requireNotBegun) (maxL := 1) (ret := none) (by decide) rfl (Nat.le_of_ble_eq_true rfl) ?_
  intro p e s m args below meth c A S hr hlocks htab hA hK
  have hx := S.1
  have hb := S.2.1
  have hE : EV A s s.heap := hK.2
  have hK : va_K D vwCl (tysK kc) s := hK.1
  generalize hFe : fX10_requireNotBegun q = F
  have hF : F = fX10_requireNotBegun q := hFe.symm
  refine z_aload_n (j := 0) hx hb dX10_requireNotBegun_0 rfl rfl ?_
  refine z_get (v := .ref (ad 4)) S hK inX10 0 (fun _ => rfl) rfl 3 (by decide) q2_138 rfl rfl dX10_requireNotBegun_1 ?_
  refine z_get (v := .int (gI q 511)) S hK inX6 4 (fun _ => rfl) rfl 11 (by decide) q2_55 rfl rfl dX10_requireNotBegun_4 ?_
  refine z_if_eq (tgt := 21) hx hb dX10_requireNotBegun_7 (by decide) (fun g7 => ?_) (fun g7 => ?_)
  · have hF := hF.trans (if_pos g7)
    have hok := And.left hok g7
    refine z_widen (ce := 1) (sl := 6) (Nat.le_of_ble_eq_true rfl) (Nat.le_of_ble_eq_true rfl) ?_
    exact x_vret hx hb hlocks hr hF dX10_requireNotBegun_21
  · have hF := hF.trans (if_neg g7)
    have hok := And.right hok g7
    exact x_throwW (k := 4) (ic := 141) (names := ["java/lang/RuntimeException", "java/lang/Exception"]) (text := "an instruction has begun") S hl htab hlocks hE (KG.x D kc ad wad) (fun _ h => h) hF (by decide +kernel) (by decide +kernel) q4_141 q1_28 (List.mem_of_getElem? (i := 16) rfl) xt_4 (List.forall_mem_cons.mpr ⟨rfl, List.forall_mem_cons.mpr ⟨rfl, xo_4⟩⟩) dX10_requireNotBegun_10 dX10_requireNotBegun_13 dX10_requireNotBegun_14 dX10_requireNotBegun_17 dX10_requireNotBegun_20 (Nat.le_of_ble_eq_true rfl) (Nat.le_of_ble_eq_true rfl) (Nat.le_of_ble_eq_true rfl) (Nat.le_of_ble_eq_true rfl) (Nat.le_of_ble_eq_true rfl) (Nat.le_of_ble_eq_true rfl)
theorem hX10_requireNotBegun : yX10_requireNotBegun.cls = RX10 ∧ yX10_requireNotBegun.cls ≠ "java/lang/invoke/MethodHandle" ∧ yX10_requireNotBegun.cls ≠ "java/lang/invoke/VarHandle" ∧ (parseMethodDescriptor yX10_requireNotBegun.desc).map (fun d => d.parameters.length) = some 0 := by decide +kernel
def fX10_requireWord_36 (q : SS) (s0 : Int32) : (Nat × SS) ⊕ SS := (if 0 ≤ s0 then (.inr q) else (.inl (1, q)))
def kX10_requireWord_36 (q : SS) (s0 : Int32) : Prop := ((0 ≤ s0 → True) ∧ (¬ 0 ≤ s0 → True))
def fX10_requireWord (q : SS) (v0 : Int32) (v1 : Int32) (v2 : Int32) (v3 : Int32) (v4 : Int32) : (Nat × SS) ⊕ SS := (xb (fX10_requireNumber q v0 0 127) (fun u4 => (xb (fX10_requireNumber u4 v1 0 255) (fun u12 => (xb (fX10_requireNumber u12 v2 0 2) (fun u18 => (xb (fX10_requireNumber u18 v4 0 7) (fun u26 => fX10_requireWord_36 (fJ0_indexOf_0f7a4_t0 u26 v3).2 (fJ0_indexOf_0f7a4_t0 u26 v3).1))))))))
def kX10_requireWord (q : SS) (v0 : Int32) (v1 : Int32) (v2 : Int32) (v3 : Int32) (v4 : Int32) : Prop := kX10_requireNumber q v0 0 127 ∧ (∀ u4, (fX10_requireNumber q v0 0 127) = .inr u4 → kX10_requireNumber u4 v1 0 255 ∧ (∀ u12, (fX10_requireNumber u4 v1 0 255) = .inr u12 → kX10_requireNumber u12 v2 0 2 ∧ (∀ u18, (fX10_requireNumber u12 v2 0 2) = .inr u18 → kX10_requireNumber u18 v4 0 7 ∧ (∀ u26, (fX10_requireNumber u18 v4 0 7) = .inr u26 → kJ0_indexOf_0f7a4_t0 u26 v3 ∧ kX10_requireWord_36 (fJ0_indexOf_0f7a4_t0 u26 v3).2 (fJ0_indexOf_0f7a4_t0 u26 v3).1))))
set_option maxHeartbeats 4000000 in
set_option maxRecDepth 100000 in
theorem ctX10_requireWord (l : Launch) (hl : l.stackTraces = false) (D : va_G) (kc : Nat → ClassId) (ad wad : Nat → Nat) (q : SS) (v0 : Int32) (v1 : Int32) (v2 : Int32) (v3 : Int32) (v4 : Int32) (hok : kX10_requireWord q v0 v1 v2 v3 v4) : Xv l yX10_requireWord (Cond.code yX10_requireWord cX10_requireWord 5 none :: lw_G) (zr 7 5 30) 5 30 (PX D kc) (GX D kc ad wad) (GX D kc ad wad) [.int v0, .int v1, .int v2, .int v3, .int v4] q (fX10_requireWord q v0 v1 v2 v3 v4) := by
  refine Xv.of (cc := cX10_requireWord) (maxL := 5) (ret := none) (by decide) rfl (Nat.le_of_ble_eq_true rfl) ?_
  intro p e s m args below meth c A S hr hlocks htab hA hK
  have hx := S.1
  have hb := S.2.1
  have hE : EV A s s.heap := hK.2
  have hK : va_K D vwCl (tysK kc) s := hK.1
  obtain ⟨⟨adK, adV, hS4, hr0, hr1, hr2, hr3⟩, -⟩ := id hE
  generalize hFe : fX10_requireWord q v0 v1 v2 v3 v4 = F
  have hF : F = fX10_requireWord q v0 v1 v2 v3 v4 := hFe.symm
  have b36 : ∀ (q : SS) (s0 : Int32), kX10_requireWord_36 q s0 → F = fX10_requireWord_36 q s0 → Z p l e (zr 7 5 30) s m args below meth c 4 24 (vx_MQ below (va_Qv (fun (u : SS) => F = .inr u) (fun u t => (GX D kc ad wad) A u t.heap) A) (vx_X (fun (u : Nat × SS) => F = .inl u) (fun E u t => E = exn u.1 ∧ (GX D kc ad wad) A u.2 t.heap) A) args s 5 30 A) 5 A (ZG D vwCl (wX kc ad wad) (PLX wad) A) q 36 [] [.int s0] := by
    intro q s0 hok hF
    refine z_if_ge (tgt := 50) hx hb dX10_requireWord_36 (by decide) (fun g36 => ?_) (fun g36 => ?_)
    · have hF := hF.trans (if_pos g36)
      have hok := And.left hok g36
      refine z_widen (ce := 5) (sl := 30) (Nat.le_of_ble_eq_true rfl) (Nat.le_of_ble_eq_true rfl) ?_
      exact x_vret hx hb hlocks hr hF dX10_requireWord_50
    · have hF := hF.trans (if_neg g36)
      have hok := And.right hok g36
      exact x_throwW (k := 1) (ic := 132) (names := ["java/lang/RuntimeException", "java/lang/Exception"]) (text := "there is no such order") S hl htab hlocks hE (KG.x D kc ad wad) (fun _ h => h) hF (by decide +kernel) (by decide +kernel) q3_131 q1_19 (List.mem_of_getElem? (i := 15) rfl) xt_1 (List.forall_mem_cons.mpr ⟨rfl, List.forall_mem_cons.mpr ⟨rfl, xo_1⟩⟩) dX10_requireWord_39 dX10_requireWord_42 dX10_requireWord_43 dX10_requireWord_46 dX10_requireWord_49 (Nat.le_of_ble_eq_true rfl) (Nat.le_of_ble_eq_true rfl) (Nat.le_of_ble_eq_true rfl) (Nat.le_of_ble_eq_true rfl) (Nat.le_of_ble_eq_true rfl) (Nat.le_of_ble_eq_true rfl)
  refine z_iload_n (j := 0) hx hb dX10_requireWord_0 rfl rfl ?_
  refine z_iconst (v := 0) hx hb dX10_requireWord_1 (by decide) ?_
  refine z_bipush (v := 127) hx hb dX10_requireWord_2 (by decide) ?_
  have h4 := And.left hok
  have hok := And.right hok
  refine x_callSv (As := [.int v0, .int 0, .int 127]) S (ctX10_requireNumber l hl D kc ad wad q v0 0 127 h4) (va_cwS 3 S.2.2.2.2 (gS q3_128 q3_129 q1_1 q3_130) rfl rfl rfl hX10_requireNumber ⟨Nat.le_of_ble_eq_true rfl, Nat.le_of_ble_eq_true rfl⟩) hA (pbX D kc) (psX hK hE) rfl rfl (Nat.le_of_ble_eq_true rfl) dX10_requireWord_4 ⟨Nat.le_of_ble_eq_true rfl, Nat.le_of_ble_eq_true rfl⟩ (fun u4 g4 => ?_) (fun u g4 => x_out htab hlocks (hF.trans (xb_l g4)) (fun _ h => h) (Nat.le_of_ble_eq_true rfl) (Nat.le_of_ble_eq_true rfl))
  have hF := hF.trans (xb_r g4)
  have hok := hok u4 g4
  refine z_iload_n (j := 1) hx hb dX10_requireWord_7 rfl rfl ?_
  refine z_iconst (v := 0) hx hb dX10_requireWord_8 (by decide) ?_
  refine z_sipush (v := 255) hx hb dX10_requireWord_9 (by decide) ?_
  have h12 := And.left hok
  have hok := And.right hok
  refine x_callSv (As := [.int v1, .int 0, .int 255]) S (ctX10_requireNumber l hl D kc ad wad u4 v1 0 255 h12) (va_cwS 3 S.2.2.2.2 (gS q3_128 q3_129 q1_1 q3_130) rfl rfl rfl hX10_requireNumber ⟨Nat.le_of_ble_eq_true rfl, Nat.le_of_ble_eq_true rfl⟩) hA (pbX D kc) (psX hK hE) rfl rfl (Nat.le_of_ble_eq_true rfl) dX10_requireWord_12 ⟨Nat.le_of_ble_eq_true rfl, Nat.le_of_ble_eq_true rfl⟩ (fun u12 g12 => ?_) (fun u g12 => x_out htab hlocks (hF.trans (xb_l g12)) (fun _ h => h) (Nat.le_of_ble_eq_true rfl) (Nat.le_of_ble_eq_true rfl))
  have hF := hF.trans (xb_r g12)
  have hok := hok u12 g12
  refine z_iload_n (j := 2) hx hb dX10_requireWord_15 rfl rfl ?_
  refine z_iconst (v := 0) hx hb dX10_requireWord_16 (by decide) ?_
  refine z_iconst (v := 2) hx hb dX10_requireWord_17 (by decide) ?_
  have h18 := And.left hok
  have hok := And.right hok
  refine x_callSv (As := [.int v2, .int 0, .int 2]) S (ctX10_requireNumber l hl D kc ad wad u12 v2 0 2 h18) (va_cwS 3 S.2.2.2.2 (gS q3_128 q3_129 q1_1 q3_130) rfl rfl rfl hX10_requireNumber ⟨Nat.le_of_ble_eq_true rfl, Nat.le_of_ble_eq_true rfl⟩) hA (pbX D kc) (psX hK hE) rfl rfl (Nat.le_of_ble_eq_true rfl) dX10_requireWord_18 ⟨Nat.le_of_ble_eq_true rfl, Nat.le_of_ble_eq_true rfl⟩ (fun u18 g18 => ?_) (fun u g18 => x_out htab hlocks (hF.trans (xb_l g18)) (fun _ h => h) (Nat.le_of_ble_eq_true rfl) (Nat.le_of_ble_eq_true rfl))
  have hF := hF.trans (xb_r g18)
  have hok := hok u18 g18
  refine z_iload (j := 4) hx hb dX10_requireWord_21 rfl ?_
  refine z_iconst (v := 0) hx hb dX10_requireWord_23 (by decide) ?_
  refine z_bipush (v := 7) hx hb dX10_requireWord_24 (by decide) ?_
  have h26 := And.left hok
  have hok := And.right hok
  refine x_callSv (As := [.int v4, .int 0, .int 7]) S (ctX10_requireNumber l hl D kc ad wad u18 v4 0 7 h26) (va_cwS 3 S.2.2.2.2 (gS q3_128 q3_129 q1_1 q3_130) rfl rfl rfl hX10_requireNumber ⟨Nat.le_of_ble_eq_true rfl, Nat.le_of_ble_eq_true rfl⟩) hA (pbX D kc) (psX hK hE) rfl rfl (Nat.le_of_ble_eq_true rfl) dX10_requireWord_26 ⟨Nat.le_of_ble_eq_true rfl, Nat.le_of_ble_eq_true rfl⟩ (fun u26 g26 => ?_) (fun u g26 => x_out htab hlocks (hF.trans (xb_l g26)) (fun _ h => h) (Nat.le_of_ble_eq_true rfl) (Nat.le_of_ble_eq_true rfl))
  have hF := hF.trans (xb_r g26)
  have hok := hok u26 g26
  refine z_ldcSW hx hb S.2.2.2.1 hr0 dX10_requireWord_29 ?_
  refine z_iload_n (j := 3) hx hb dX10_requireWord_32 rfl rfl ?_
  have h33 := And.left hok
  have hok := And.right hok
  refine z_callVi_ (As := [.int v3]) S (ctJ0_indexOf_0f7a4_t0 l (GX D kc ad wad) (adK 0) (adV 0) u26 v3 h33) (cwV 1 S.2.2.2.2 (gV q3_151 q3_152 q3_153 q1_18 q3_154) rfl rfl rfl hJ0_indexOf_0f7a4 ⟨Nat.le_of_ble_eq_true rfl, Nat.le_of_ble_eq_true rfl⟩) hA (pbJ (adK 0) (adV 0) 0) (psJ (PJ.of hS4 (by decide) hE.2.2.1)) (rvJ (hS4.1 0 (by decide)).1) rfl rfl (Nat.le_of_ble_eq_true rfl) dX10_requireWord_33 ⟨Nat.le_of_ble_eq_true rfl, Nat.le_of_ble_eq_true rfl⟩ ?_
  refine z_sub [] rfl ?_
  exact b36 (fJ0_indexOf_0f7a4_t0 u26 v3).2 (fJ0_indexOf_0f7a4_t0 u26 v3).1 hok hF
theorem hX10_requireWord : yX10_requireWord.cls ≠ "java/lang/invoke/MethodHandle" ∧ yX10_requireWord.cls ≠ "java/lang/invoke/VarHandle" ∧ (parseMethodDescriptor yX10_requireWord.desc).map (fun d => d.parameters.length) = some 5 := by decide +kernel
def fX10_setConstant (q : SS) (v1 : Int32) (v2 : Int32) : (Nat × SS) ⊕ (Int32 × SS) := (xb (fX10_requireIndex q v1 80) (fun u3 => (xb (fX10_requireNumber u3 v2 0 255) (fun u11 => (oc (fX7_wordAt u11 v1).1 ((.inl (3, (fX7_wordAt u11 v1).2))) (fun w19 => (.inr ((gA (fX7_wordAt u11 v1).2 38 w19), (sA (fX7_wordAt u11 v1).2 38 (upd (gA (fX7_wordAt u11 v1).2 38) w19 v2))))))))))
def kX10_setConstant (q : SS) (v1 : Int32) (v2 : Int32) : Prop := kX10_requireIndex q v1 80 ∧ (∀ u3, (fX10_requireIndex q v1 80) = .inr u3 → kX10_requireNumber u3 v2 0 255 ∧ (∀ u11, (fX10_requireNumber u3 v2 0 255) = .inr u11 → kX7_wordAt u11 v1 ∧ (((fX7_wordAt u11 v1).1 = none → True) ∧ (∀ w19, (fX7_wordAt u11 v1).1 = some w19 → isW (fX7_wordAt u11 v1).2 w19 ∧ isW (fX7_wordAt u11 v1).2 w19 ∧ True))))
set_option maxHeartbeats 4000000 in
set_option maxRecDepth 100000 in
theorem ctX10_setConstant (l : Launch) (hl : l.stackTraces = false) (D : va_G) (kc : Nat → ClassId) (ad : Nat → Nat) (q : SS) (v1 : Int32) (v2 : Int32) (hok : kX10_setConstant q v1 v2) : Xi l yX10_setConstant (Cond.code yX10_setConstant cX10_setConstant 5 (some .int) :: lw_G) (zr 7 20 200) 20 200 (PX D kc) (GXe D kc ad) (GXe D kc ad) [.ref (ad 0), .int v1, .int v2] q (fX10_setConstant q v1 v2) := by
  refine Xi.of (cc := cX10_setConstant) (maxL := 5) (ret := (some .int)) (by decide) rfl (Nat.le_of_ble_eq_true rfl) ?_
  intro p e s m args below meth c A S hr hlocks htab hA hK
  have hx := S.1
  have hb := S.2.1
  have hE : EV A s s.heap := hK.2
  have hK : va_K D vwCl (tysK kc) s := hK.1
  refine z_exw (fun wad => ?_)
  generalize hFe : fX10_setConstant q v1 v2 = F
  have hF : F = fX10_setConstant q v1 v2 := hFe.symm
  refine z_iload_n (j := 1) hx hb dX10_setConstant_0 rfl rfl ?_
  refine z_bipush (v := 80) hx hb dX10_setConstant_1 (by decide) ?_
  have h3 := And.left hok
  have hok := And.right hok
  refine x_callSv (As := [.int v1, .int 80]) S (ctX10_requireIndex l hl D kc ad wad q v1 80 h3) (va_cwS 2 S.2.2.2.2 (gS q3_111 q3_112 q1_1 q3_113) rfl rfl rfl hX10_requireIndex ⟨Nat.le_of_ble_eq_true rfl, Nat.le_of_ble_eq_true rfl⟩) hA (pbX D kc) (psX hK hE) rfl rfl (Nat.le_of_ble_eq_true rfl) dX10_setConstant_3 ⟨Nat.le_of_ble_eq_true rfl, Nat.le_of_ble_eq_true rfl⟩ (fun u3 g3 => ?_) (fun u g3 => x_out htab hlocks (hF.trans (xb_l g3)) (fun _ h => ⟨wad, h⟩) (Nat.le_of_ble_eq_true rfl) (Nat.le_of_ble_eq_true rfl))
  have hF := hF.trans (xb_r g3)
  have hok := hok u3 g3
  refine z_iload_n (j := 2) hx hb dX10_setConstant_6 rfl rfl ?_
  refine z_iconst (v := 0) hx hb dX10_setConstant_7 (by decide) ?_
  refine z_sipush (v := 255) hx hb dX10_setConstant_8 (by decide) ?_
  have h11 := And.left hok
  have hok := And.right hok
  refine x_callSv (As := [.int v2, .int 0, .int 255]) S (ctX10_requireNumber l hl D kc ad wad u3 v2 0 255 h11) (va_cwS 3 S.2.2.2.2 (gS q3_128 q3_129 q1_1 q3_130) rfl rfl rfl hX10_requireNumber ⟨Nat.le_of_ble_eq_true rfl, Nat.le_of_ble_eq_true rfl⟩) hA (pbX D kc) (psX hK hE) rfl rfl (Nat.le_of_ble_eq_true rfl) dX10_setConstant_11 ⟨Nat.le_of_ble_eq_true rfl, Nat.le_of_ble_eq_true rfl⟩ (fun u11 g11 => ?_) (fun u g11 => x_out htab hlocks (hF.trans (xb_l g11)) (fun _ h => ⟨wad, h⟩) (Nat.le_of_ble_eq_true rfl) (Nat.le_of_ble_eq_true rfl))
  have hF := hF.trans (xb_r g11)
  have hok := hok u11 g11
  refine z_aload_n (j := 0) hx hb dX10_setConstant_14 rfl rfl ?_
  refine z_get (v := .ref (ad 1)) S hK inX10 0 (fun _ => rfl) rfl 0 (by decide) q2_135 rfl rfl dX10_setConstant_15 ?_
  refine z_iload_n (j := 1) hx hb dX10_setConstant_18 rfl rfl ?_
  have h19 := And.left hok
  have hok := And.right hok
  refine z_callVw (As := [.int v1]) S (ctX7_wordAt l hl D kc ad wad u11 v1 h19) (cwV 1 S.2.2.2.2 (gV q4_84 q4_85 q4_86 q1_2 q4_87) rfl rfl rfl hX7_wordAt ⟨Nat.le_of_ble_eq_true rfl, Nat.le_of_ble_eq_true rfl⟩) hA (pbX D kc) (psX hK hE) (z_recv hK 1 (fun _ => rfl) rfl) rfl rfl (Nat.le_of_ble_eq_true rfl) dX10_setConstant_19 ⟨Nat.le_of_ble_eq_true rfl, Nat.le_of_ble_eq_true rfl⟩ (fun g19 => ?_) (fun w19 g19 => ?_)
  · have hF := hF.trans (oc_n g19)
    have hok := And.left hok g19
    refine z_astore_nN (lv' := [(3, .null), (0, .ref (ad 0)), (1, .int v1), (2, .int v2)]) hx hb dX10_setConstant_22 rfl (by decide) rfl ?_
    refine z_aload_nN (j := 0) hx hb dX10_setConstant_23 rfl rfl ?_
    refine z_ifnonnullN hx hb dX10_setConstant_24 ?_
    exact x_throwN (k := 3) (ic := 121) (text := "there is no word") S hl htab hlocks hE (KG.x D kc ad wad) (fun _ h => ⟨wad, h⟩) hF rfl rfl q4_89 q1_27 (List.mem_of_getElem? (i := 3) rfl) xt_3 dX10_setConstant_27 dX10_setConstant_30 dX10_setConstant_31 dX10_setConstant_33 dX10_setConstant_36 (Nat.le_of_ble_eq_true rfl) (Nat.le_of_ble_eq_true rfl) (Nat.le_of_ble_eq_true rfl) (Nat.le_of_ble_eq_true rfl) (Nat.le_of_ble_eq_true rfl) (Nat.le_of_ble_eq_true rfl)
  · have hF := hF.trans (oc_s g19)
    have hok := And.right hok w19 g19
    refine z_astore_n (lv' := [(3, .ref (wad w19)), (0, .ref (ad 0)), (1, .int v1), (2, .int v2)]) hx hb dX10_setConstant_22 rfl (by decide) rfl ?_
    refine z_aload_n (j := 0) hx hb dX10_setConstant_23 rfl rfl ?_
    refine z_ifnonnull (tgt := 37) hx hb dX10_setConstant_24 (by decide) ?_
    refine z_aload_n (j := 0) hx hb dX10_setConstant_37 rfl rfl ?_
    have h38 := And.left hok
    have hok := And.right hok
    refine z_getW (v := .int (gA (fX7_wordAt u11 v1).2 38 w19)) S hK h38 inX9 8 (by decide) q4_54 rfl rfl dX10_setConstant_38 ?_
    refine z_istore (lv' := [(4, .int (gA (fX7_wordAt u11 v1).2 38 w19)), (3, .ref (wad w19)), (0, .ref (ad 0)), (1, .int v1), (2, .int v2)]) hx hb dX10_setConstant_41 (by decide) rfl ?_
    refine z_aload_n (j := 1) hx hb dX10_setConstant_43 rfl rfl ?_
    refine z_iload_n (j := 4) hx hb dX10_setConstant_44 rfl rfl ?_
    have h45_w := And.left hok
    have hok := And.right hok
    refine z_putW S hK h45_w inX9 8 (by decide) q4_54 rfl rfl rfl rfl dX10_setConstant_45 ?_
    refine z_iload (j := 0) hx hb dX10_setConstant_48 rfl ?_
    refine z_weak (G2 := GXe D kc ad A) (fun _ _ h => ⟨wad, h⟩) ?_
    refine z_widen (ce := 20) (sl := 200) (Nat.le_of_ble_eq_true rfl) (Nat.le_of_ble_eq_true rfl) ?_
    exact x_iret hx hb hlocks hr rfl hF dX10_setConstant_50
theorem hX10_setConstant : yX10_setConstant.cls = RX10 ∧ yX10_setConstant.cls ≠ "java/lang/invoke/MethodHandle" ∧ yX10_setConstant.cls ≠ "java/lang/invoke/VarHandle" ∧ (parseMethodDescriptor yX10_setConstant.desc).map (fun d => d.parameters.length) = some 2 := by decide +kernel
def fX10_reason (q : SS) (v1 : Int32) (v2 : Int32) (v3 : Int32) (v4 : Int32) (v5 : Int32) : (Nat × SS) ⊕ (Int32 × SS) := (xb (fX10_requireWord q v1 v2 v3 v4 v5) (fun u7 => (.inr ((fX10_reasonAgainst u7 v1 v2 v3 v4 v5).1, (fX10_reasonAgainst u7 v1 v2 v3 v4 v5).2))))
def kX10_reason (q : SS) (v1 : Int32) (v2 : Int32) (v3 : Int32) (v4 : Int32) (v5 : Int32) : Prop := kX10_requireWord q v1 v2 v3 v4 v5 ∧ (∀ u7, (fX10_requireWord q v1 v2 v3 v4 v5) = .inr u7 → kX10_reasonAgainst u7 v1 v2 v3 v4 v5 ∧ narrow .char (.int (fX10_reasonAgainst u7 v1 v2 v3 v4 v5).1) = .int (fX10_reasonAgainst u7 v1 v2 v3 v4 v5).1 ∧ True)
set_option maxHeartbeats 4000000 in
set_option maxRecDepth 100000 in
theorem ctX10_reason (l : Launch) (hl : l.stackTraces = false) (D : va_G) (kc : Nat → ClassId) (ad : Nat → Nat) (q : SS) (v1 : Int32) (v2 : Int32) (v3 : Int32) (v4 : Int32) (v5 : Int32) (hok : kX10_reason q v1 v2 v3 v4 v5) : Xi l yX10_reason (Cond.code yX10_reason cX10_reason 6 (some .char) :: lw_G) (zr 8 20 200) 20 200 (PX D kc) (GXe D kc ad) (GXe D kc ad) [.ref (ad 0), .int v1, .int v2, .int v3, .int v4, .int v5] q (fX10_reason q v1 v2 v3 v4 v5) := by
  refine Xi.of (cc := cX10_reason) (maxL := 6) (ret := (some .char)) (by decide) rfl (Nat.le_of_ble_eq_true rfl) ?_
  intro p e s m args below meth c A S hr hlocks htab hA hK
  have hx := S.1
  have hb := S.2.1
  have hE : EV A s s.heap := hK.2
  have hK : va_K D vwCl (tysK kc) s := hK.1
  refine z_exw (fun wad => ?_)
  generalize hFe : fX10_reason q v1 v2 v3 v4 v5 = F
  have hF : F = fX10_reason q v1 v2 v3 v4 v5 := hFe.symm
  refine z_iload_n (j := 1) hx hb dX10_reason_0 rfl rfl ?_
  refine z_iload_n (j := 2) hx hb dX10_reason_1 rfl rfl ?_
  refine z_iload_n (j := 3) hx hb dX10_reason_2 rfl rfl ?_
  refine z_iload (j := 4) hx hb dX10_reason_3 rfl ?_
  refine z_iload (j := 5) hx hb dX10_reason_5 rfl ?_
  have h7 := And.left hok
  have hok := And.right hok
  refine x_callSv (As := [.int v1, .int v2, .int v3, .int v4, .int v5]) S (ctX10_requireWord l hl D kc ad wad q v1 v2 v3 v4 v5 h7) (va_cwS 5 S.2.2.2.2 (gS q3_147 q3_148 q1_1 q3_149) rfl rfl rfl hX10_requireWord ⟨Nat.le_of_ble_eq_true rfl, Nat.le_of_ble_eq_true rfl⟩) hA (pbX D kc) (psX hK hE) rfl rfl (Nat.le_of_ble_eq_true rfl) dX10_reason_7 ⟨Nat.le_of_ble_eq_true rfl, Nat.le_of_ble_eq_true rfl⟩ (fun u7 g7 => ?_) (fun u g7 => x_out htab hlocks (hF.trans (xb_l g7)) (fun _ h => ⟨wad, h⟩) (Nat.le_of_ble_eq_true rfl) (Nat.le_of_ble_eq_true rfl))
  have hF := hF.trans (xb_r g7)
  have hok := hok u7 g7
  refine z_iload_n (j := 1) hx hb dX10_reason_10 rfl rfl ?_
  refine z_iload_n (j := 2) hx hb dX10_reason_11 rfl rfl ?_
  refine z_iload_n (j := 3) hx hb dX10_reason_12 rfl rfl ?_
  refine z_iload (j := 4) hx hb dX10_reason_13 rfl ?_
  refine z_iload (j := 5) hx hb dX10_reason_15 rfl ?_
  have h17 := And.left hok
  have hok := And.right hok
  refine z_callSi (As := [.int v1, .int v2, .int v3, .int v4, .int v5]) S (ctX10_reasonAgainst l hl D kc ad wad u7 v1 v2 v3 v4 v5 h17) (va_cwS 5 S.2.2.2.2 (gS q3_238 q3_239 q1_1 q4_0) rfl rfl rfl hX10_reasonAgainst ⟨Nat.le_of_ble_eq_true rfl, Nat.le_of_ble_eq_true rfl⟩) hA (pbX D kc) (psX hK hE) rfl rfl (Nat.le_of_ble_eq_true rfl) dX10_reason_17 ⟨Nat.le_of_ble_eq_true rfl, Nat.le_of_ble_eq_true rfl⟩ ?_
  have h20 := And.left hok
  have hok := And.right hok
  refine z_weak (G2 := GXe D kc ad A) (fun _ _ h => ⟨wad, h⟩) ?_
  refine z_widen (ce := 20) (sl := 200) (Nat.le_of_ble_eq_true rfl) (Nat.le_of_ble_eq_true rfl) ?_
  exact x_iret hx hb hlocks hr h20 hF dX10_reason_20
theorem hX10_reason : yX10_reason.cls = RX10 ∧ yX10_reason.cls ≠ "java/lang/invoke/MethodHandle" ∧ yX10_reason.cls ≠ "java/lang/invoke/VarHandle" ∧ (parseMethodDescriptor yX10_reason.desc).map (fun d => d.parameters.length) = some 5 := by decide +kernel
def fX10_reserve_39 (q : SS) (s0 : Int32) : (Nat × SS) ⊕ (Int32 × SS) := (if s0 = (-1) then (.inl (4, q)) else (.inr (s0, q)))
def kX10_reserve_39 (q : SS) (s0 : Int32) : Prop := ((s0 = (-1) → True) ∧ (¬ s0 = (-1) → True))
def fX10_reserve_31 (q : SS) (v1 : Int32) : (Nat × SS) ⊕ (Int32 × SS) := fX10_reserve_39 (fX7_reserveBlock q v1).2 (fX7_reserveBlock q v1).1
def kX10_reserve_31 (q : SS) (v1 : Int32) : Prop := kX7_reserveBlock q v1 ∧ kX10_reserve_39 (fX7_reserveBlock q v1).2 (fX7_reserveBlock q v1).1
def fX10_reserve (q : SS) (v1 : Int32) : (Nat × SS) ⊕ (Int32 × SS) := (if v1 = 1 then fX10_reserve_31 q v1 else (if v1 = 2 then fX10_reserve_31 q v1 else (if v1 = 4 then fX10_reserve_31 q v1 else (if v1 = 8 then fX10_reserve_31 q v1 else (.inl (1, q))))))
def kX10_reserve (q : SS) (v1 : Int32) : Prop := ((v1 = 1 → kX10_reserve_31 q v1) ∧ (¬ v1 = 1 → ((v1 = 2 → kX10_reserve_31 q v1) ∧ (¬ v1 = 2 → ((v1 = 4 → kX10_reserve_31 q v1) ∧ (¬ v1 = 4 → ((v1 = 8 → kX10_reserve_31 q v1) ∧ (¬ v1 = 8 → True))))))))
set_option maxHeartbeats 4000000 in
set_option maxRecDepth 100000 in
theorem ctX10_reserve (l : Launch) (hl : l.stackTraces = false) (D : va_G) (kc : Nat → ClassId) (ad : Nat → Nat) (q : SS) (v1 : Int32) (hok : kX10_reserve q v1) : Xi l yX10_reserve (Cond.code yX10_reserve cX10_reserve 3 (some .int) :: lw_G) (zr 6 20 200) 20 200 (PX D kc) (GXe D kc ad) (GXe D kc ad) [.ref (ad 0), .int v1] q (fX10_reserve q v1) := by
  refine Xi.of (cc := cX10_reserve) (maxL := 3) (ret := (some .int)) (by decide) rfl (Nat.le_of_ble_eq_true rfl) ?_
  intro p e s m args below meth c A S hr hlocks htab hA hK
  have hx := S.1
  have hb := S.2.1
  have hE : EV A s s.heap := hK.2
  have hK : va_K D vwCl (tysK kc) s := hK.1
  refine z_exw (fun wad => ?_)
  generalize hFe : fX10_reserve q v1 = F
  have hF : F = fX10_reserve q v1 := hFe.symm
  have b39 : ∀ (q : SS) (s0 : Int32), kX10_reserve_39 q s0 → F = fX10_reserve_39 q s0 → Z p l e (zr 6 20 200) s m args below meth c 0 0 (vx_MQ below (va_Qi (fun (x : Int32) (u : SS) => F = .inr (x, u)) (fun u t => (GXe D kc ad) A u t.heap) A) (vx_X (fun (u : Nat × SS) => F = .inl u) (fun E u t => E = exn u.1 ∧ (GXe D kc ad) A u.2 t.heap) A) args s 20 200 A) 3 A (ZG D vwCl (wX kc ad wad) (PLX wad) A) q 39 [] [.int s0] := by
    intro q s0 hok hF
    refine z_istore_n (lv' := [(2, .int s0)]) hx hb dX10_reserve_39 rfl (by decide) rfl ?_
    refine z_iload_n (j := 0) hx hb dX10_reserve_40 rfl rfl ?_
    refine z_iconst (v := (-1)) hx hb dX10_reserve_41 (by decide) ?_
    refine z_icmp_ne (tgt := 55) hx hb dX10_reserve_42 (by decide) (fun g42 => ?_) (fun g42 => ?_)
    · have hF := hF.trans (if_neg g42)
      have hok := And.right hok g42
      refine z_iload_n (j := 0) hx hb dX10_reserve_55 rfl rfl ?_
      refine z_weak (G2 := GXe D kc ad A) (fun _ _ h => ⟨wad, h⟩) ?_
      refine z_widen (ce := 20) (sl := 200) (Nat.le_of_ble_eq_true rfl) (Nat.le_of_ble_eq_true rfl) ?_
      exact x_iret hx hb hlocks hr rfl hF dX10_reserve_56
    · have hF := hF.trans (if_pos g42)
      have hok := And.left hok g42
      exact x_throw (k := 4) (ic := 141) (names := ["java/lang/RuntimeException", "java/lang/Exception"]) (text := "there are no such addresses") S hl htab hlocks hE (KG.x D kc ad wad) (fun _ h => ⟨wad, h⟩) hF (by decide +kernel) (by decide +kernel) q4_141 q1_28 (List.mem_of_getElem? (i := 5) rfl) xt_4 (List.forall_mem_cons.mpr ⟨rfl, List.forall_mem_cons.mpr ⟨rfl, xo_4⟩⟩) dX10_reserve_45 dX10_reserve_48 dX10_reserve_49 dX10_reserve_51 dX10_reserve_54 (Nat.le_of_ble_eq_true rfl) (Nat.le_of_ble_eq_true rfl) (Nat.le_of_ble_eq_true rfl) (Nat.le_of_ble_eq_true rfl) (Nat.le_of_ble_eq_true rfl) (Nat.le_of_ble_eq_true rfl)
  have b31 : ∀ (q : SS) (v1 : Int32), kX10_reserve_31 q v1 → F = fX10_reserve_31 q v1 → Z p l e (zr 6 20 200) s m args below meth c 0 0 (vx_MQ below (va_Qi (fun (x : Int32) (u : SS) => F = .inr (x, u)) (fun u t => (GXe D kc ad) A u t.heap) A) (vx_X (fun (u : Nat × SS) => F = .inl u) (fun E u t => E = exn u.1 ∧ (GXe D kc ad) A u.2 t.heap) A) args s 20 200 A) 3 A (ZG D vwCl (wX kc ad wad) (PLX wad) A) q 31 [(0, .ref (ad 0)), (1, .int v1)] [] := by
    intro q v1 hok hF
    refine z_aload_n (j := 0) hx hb dX10_reserve_31 rfl rfl ?_
    refine z_get (v := .ref (ad 1)) S hK inX10 0 (fun _ => rfl) rfl 0 (by decide) q2_135 rfl rfl dX10_reserve_32 ?_
    refine z_iload_n (j := 1) hx hb dX10_reserve_35 rfl rfl ?_
    have h36 := And.left hok
    have hok := And.right hok
    refine z_callVi (As := [.int v1]) S (ctX7_reserveBlock l hl D kc ad wad q v1 h36) (cwV 1 S.2.2.2.2 (gV q4_133 q4_134 q4_135 q1_2 q4_136) rfl rfl rfl hX7_reserveBlock ⟨Nat.le_of_ble_eq_true rfl, Nat.le_of_ble_eq_true rfl⟩) hA (pbX D kc) (psX hK hE) (z_recv hK 1 (fun _ => rfl) rfl) rfl rfl (Nat.le_of_ble_eq_true rfl) dX10_reserve_36 ⟨Nat.le_of_ble_eq_true rfl, Nat.le_of_ble_eq_true rfl⟩ ?_
    refine z_sub [] rfl ?_
    exact b39 (fX7_reserveBlock q v1).2 (fX7_reserveBlock q v1).1 hok hF
  refine z_iload_n (j := 1) hx hb dX10_reserve_0 rfl rfl ?_
  refine z_iconst (v := 1) hx hb dX10_reserve_1 (by decide) ?_
  refine z_icmp_eq (tgt := 31) hx hb dX10_reserve_2 (by decide) (fun g2 => ?_) (fun g2 => ?_)
  · have hF := hF.trans (if_pos g2)
    have hok := And.left hok g2
    exact b31 q v1 hok hF
  · have hF := hF.trans (if_neg g2)
    have hok := And.right hok g2
    refine z_iload_n (j := 1) hx hb dX10_reserve_5 rfl rfl ?_
    refine z_iconst (v := 2) hx hb dX10_reserve_6 (by decide) ?_
    refine z_icmp_eq (tgt := 31) hx hb dX10_reserve_7 (by decide) (fun g7 => ?_) (fun g7 => ?_)
    · have hF := hF.trans (if_pos g7)
      have hok := And.left hok g7
      exact b31 q v1 hok hF
    · have hF := hF.trans (if_neg g7)
      have hok := And.right hok g7
      refine z_iload_n (j := 1) hx hb dX10_reserve_10 rfl rfl ?_
      refine z_iconst (v := 4) hx hb dX10_reserve_11 (by decide) ?_
      refine z_icmp_eq (tgt := 31) hx hb dX10_reserve_12 (by decide) (fun g12 => ?_) (fun g12 => ?_)
      · have hF := hF.trans (if_pos g12)
        have hok := And.left hok g12
        exact b31 q v1 hok hF
      · have hF := hF.trans (if_neg g12)
        have hok := And.right hok g12
        refine z_iload_n (j := 1) hx hb dX10_reserve_15 rfl rfl ?_
        refine z_bipush (v := 8) hx hb dX10_reserve_16 (by decide) ?_
        refine z_icmp_eq (tgt := 31) hx hb dX10_reserve_18 (by decide) (fun g18 => ?_) (fun g18 => ?_)
        · have hF := hF.trans (if_pos g18)
          have hok := And.left hok g18
          exact b31 q v1 hok hF
        · have hF := hF.trans (if_neg g18)
          have hok := And.right hok g18
          exact x_throw (k := 1) (ic := 132) (names := ["java/lang/RuntimeException", "java/lang/Exception"]) (text := "there is no such number of words") S hl htab hlocks hE (KG.x D kc ad wad) (fun _ h => ⟨wad, h⟩) hF (by decide +kernel) (by decide +kernel) q3_131 q1_19 (List.mem_of_getElem? (i := 4) rfl) xt_1 (List.forall_mem_cons.mpr ⟨rfl, List.forall_mem_cons.mpr ⟨rfl, xo_1⟩⟩) dX10_reserve_21 dX10_reserve_24 dX10_reserve_25 dX10_reserve_27 dX10_reserve_30 (Nat.le_of_ble_eq_true rfl) (Nat.le_of_ble_eq_true rfl) (Nat.le_of_ble_eq_true rfl) (Nat.le_of_ble_eq_true rfl) (Nat.le_of_ble_eq_true rfl) (Nat.le_of_ble_eq_true rfl)
theorem hX10_reserve : yX10_reserve.cls = RX10 ∧ yX10_reserve.cls ≠ "java/lang/invoke/MethodHandle" ∧ yX10_reserve.cls ≠ "java/lang/invoke/VarHandle" ∧ (parseMethodDescriptor yX10_reserve.desc).map (fun d => d.parameters.length) = some 1 := by decide +kernel
def fX10_setEntry (q : SS) (v1 : Int32) (v2 : Int32) (v3 : Int32) : (Nat × SS) ⊕ (Int32 × SS) := (xb (fX10_requireIndex q v1 2) (fun u2 => (xb (fX10_requireIndex u2 v2 16) (fun u8 => (xb (fX10_requireNumber u8 v3 (-1) 79) (fun u15 => (.inr ((fX7_replaceEntry u15 v1 v2 v3).1, (fX7_replaceEntry u15 v1 v2 v3).2))))))))
def kX10_setEntry (q : SS) (v1 : Int32) (v2 : Int32) (v3 : Int32) : Prop := kX10_requireIndex q v1 2 ∧ (∀ u2, (fX10_requireIndex q v1 2) = .inr u2 → kX10_requireIndex u2 v2 16 ∧ (∀ u8, (fX10_requireIndex u2 v2 16) = .inr u8 → kX10_requireNumber u8 v3 (-1) 79 ∧ (∀ u15, (fX10_requireNumber u8 v3 (-1) 79) = .inr u15 → kX7_replaceEntry u15 v1 v2 v3 ∧ True)))
set_option maxHeartbeats 4000000 in
set_option maxRecDepth 100000 in
theorem ctX10_setEntry (l : Launch) (hl : l.stackTraces = false) (D : va_G) (kc : Nat → ClassId) (ad : Nat → Nat) (q : SS) (v1 : Int32) (v2 : Int32) (v3 : Int32) (hok : kX10_setEntry q v1 v2 v3) : Xi l yX10_setEntry (Cond.code yX10_setEntry cX10_setEntry 4 (some .int) :: lw_G) (zr 7 20 200) 20 200 (PX D kc) (GXe D kc ad) (GXe D kc ad) [.ref (ad 0), .int v1, .int v2, .int v3] q (fX10_setEntry q v1 v2 v3) := by
  refine Xi.of (cc := cX10_setEntry) (maxL := 4) (ret := (some .int)) (by decide) rfl (Nat.le_of_ble_eq_true rfl) ?_
  intro p e s m args below meth c A S hr hlocks htab hA hK
  have hx := S.1
  have hb := S.2.1
  have hE : EV A s s.heap := hK.2
  have hK : va_K D vwCl (tysK kc) s := hK.1
  refine z_exw (fun wad => ?_)
  generalize hFe : fX10_setEntry q v1 v2 v3 = F
  have hF : F = fX10_setEntry q v1 v2 v3 := hFe.symm
  refine z_iload_n (j := 1) hx hb dX10_setEntry_0 rfl rfl ?_
  refine z_iconst (v := 2) hx hb dX10_setEntry_1 (by decide) ?_
  have h2 := And.left hok
  have hok := And.right hok
  refine x_callSv (As := [.int v1, .int 2]) S (ctX10_requireIndex l hl D kc ad wad q v1 2 h2) (va_cwS 2 S.2.2.2.2 (gS q3_111 q3_112 q1_1 q3_113) rfl rfl rfl hX10_requireIndex ⟨Nat.le_of_ble_eq_true rfl, Nat.le_of_ble_eq_true rfl⟩) hA (pbX D kc) (psX hK hE) rfl rfl (Nat.le_of_ble_eq_true rfl) dX10_setEntry_2 ⟨Nat.le_of_ble_eq_true rfl, Nat.le_of_ble_eq_true rfl⟩ (fun u2 g2 => ?_) (fun u g2 => x_out htab hlocks (hF.trans (xb_l g2)) (fun _ h => ⟨wad, h⟩) (Nat.le_of_ble_eq_true rfl) (Nat.le_of_ble_eq_true rfl))
  have hF := hF.trans (xb_r g2)
  have hok := hok u2 g2
  refine z_iload_n (j := 2) hx hb dX10_setEntry_5 rfl rfl ?_
  refine z_bipush (v := 16) hx hb dX10_setEntry_6 (by decide) ?_
  have h8 := And.left hok
  have hok := And.right hok
  refine x_callSv (As := [.int v2, .int 16]) S (ctX10_requireIndex l hl D kc ad wad u2 v2 16 h8) (va_cwS 2 S.2.2.2.2 (gS q3_111 q3_112 q1_1 q3_113) rfl rfl rfl hX10_requireIndex ⟨Nat.le_of_ble_eq_true rfl, Nat.le_of_ble_eq_true rfl⟩) hA (pbX D kc) (psX hK hE) rfl rfl (Nat.le_of_ble_eq_true rfl) dX10_setEntry_8 ⟨Nat.le_of_ble_eq_true rfl, Nat.le_of_ble_eq_true rfl⟩ (fun u8 g8 => ?_) (fun u g8 => x_out htab hlocks (hF.trans (xb_l g8)) (fun _ h => ⟨wad, h⟩) (Nat.le_of_ble_eq_true rfl) (Nat.le_of_ble_eq_true rfl))
  have hF := hF.trans (xb_r g8)
  have hok := hok u8 g8
  refine z_iload_n (j := 3) hx hb dX10_setEntry_11 rfl rfl ?_
  refine z_iconst (v := (-1)) hx hb dX10_setEntry_12 (by decide) ?_
  refine z_bipush (v := 79) hx hb dX10_setEntry_13 (by decide) ?_
  have h15 := And.left hok
  have hok := And.right hok
  refine x_callSv (As := [.int v3, .int (-1), .int 79]) S (ctX10_requireNumber l hl D kc ad wad u8 v3 (-1) 79 h15) (va_cwS 3 S.2.2.2.2 (gS q3_128 q3_129 q1_1 q3_130) rfl rfl rfl hX10_requireNumber ⟨Nat.le_of_ble_eq_true rfl, Nat.le_of_ble_eq_true rfl⟩) hA (pbX D kc) (psX hK hE) rfl rfl (Nat.le_of_ble_eq_true rfl) dX10_setEntry_15 ⟨Nat.le_of_ble_eq_true rfl, Nat.le_of_ble_eq_true rfl⟩ (fun u15 g15 => ?_) (fun u g15 => x_out htab hlocks (hF.trans (xb_l g15)) (fun _ h => ⟨wad, h⟩) (Nat.le_of_ble_eq_true rfl) (Nat.le_of_ble_eq_true rfl))
  have hF := hF.trans (xb_r g15)
  have hok := hok u15 g15
  refine z_aload_n (j := 0) hx hb dX10_setEntry_18 rfl rfl ?_
  refine z_get (v := .ref (ad 1)) S hK inX10 0 (fun _ => rfl) rfl 0 (by decide) q2_135 rfl rfl dX10_setEntry_19 ?_
  refine z_iload_n (j := 1) hx hb dX10_setEntry_22 rfl rfl ?_
  refine z_iload_n (j := 2) hx hb dX10_setEntry_23 rfl rfl ?_
  refine z_iload_n (j := 3) hx hb dX10_setEntry_24 rfl rfl ?_
  have h25 := And.left hok
  have hok := And.right hok
  refine z_callVi (As := [.int v1, .int v2, .int v3]) S (ctX7_replaceEntry l hl D kc ad wad u15 v1 v2 v3 h25) (cwV 3 S.2.2.2.2 (gV q4_164 q4_165 q4_166 q1_2 q4_167) rfl rfl rfl hX7_replaceEntry ⟨Nat.le_of_ble_eq_true rfl, Nat.le_of_ble_eq_true rfl⟩) hA (pbX D kc) (psX hK hE) (z_recv hK 1 (fun _ => rfl) rfl) rfl rfl (Nat.le_of_ble_eq_true rfl) dX10_setEntry_25 ⟨Nat.le_of_ble_eq_true rfl, Nat.le_of_ble_eq_true rfl⟩ ?_
  refine z_weak (G2 := GXe D kc ad A) (fun _ _ h => ⟨wad, h⟩) ?_
  refine z_widen (ce := 20) (sl := 200) (Nat.le_of_ble_eq_true rfl) (Nat.le_of_ble_eq_true rfl) ?_
  exact x_iret hx hb hlocks hr rfl hF dX10_setEntry_28
theorem hX10_setEntry : yX10_setEntry.cls = RX10 ∧ yX10_setEntry.cls ≠ "java/lang/invoke/MethodHandle" ∧ yX10_setEntry.cls ≠ "java/lang/invoke/VarHandle" ∧ (parseMethodDescriptor yX10_setEntry.desc).map (fun d => d.parameters.length) = some 3 := by decide +kernel
def fX10_setCatch_86 (q : SS) : (Nat × SS) ⊕ (Int32 × SS) := (.inr ((gI q 205), q))
def kX10_setCatch_86 (q : SS) : Prop := True
def fX10_setCatch_77 (q : SS) (v1 : Int32) (v2 : Int32) : (Nat × SS) ⊕ (Int32 × SS) := fX10_setCatch_86 (fX7_replaceCatch q v1 v2)
def kX10_setCatch_77 (q : SS) (v1 : Int32) (v2 : Int32) : Prop := kX7_replaceCatch q v1 v2 ∧ kX10_setCatch_86 (fX7_replaceCatch q v1 v2)
def fX10_setCatch_47 (q : SS) (v1 : Int32) (v2 : Int32) (v3 : Int32) : (Nat × SS) ⊕ (Int32 × SS) := (if v2 = (-1) then fX10_setCatch_77 q v1 v2 else (if v3 = 0 then (if (gI q 205) < 4 then fX10_setCatch_77 q v1 v2 else (.inl (4, q))) else fX10_setCatch_77 q v1 v2))
def kX10_setCatch_47 (q : SS) (v1 : Int32) (v2 : Int32) (v3 : Int32) : Prop := ((v2 = (-1) → kX10_setCatch_77 q v1 v2) ∧ (¬ v2 = (-1) → ((v3 = 0 → (((gI q 205) < 4 → kX10_setCatch_77 q v1 v2) ∧ (¬ (gI q 205) < 4 → True))) ∧ (¬ v3 = 0 → kX10_setCatch_77 q v1 v2))))
def fX10_setCatch_27 (q : SS) (v1 : Int32) (v2 : Int32) (s0 : Int32) : (Nat × SS) ⊕ (Int32 × SS) := (if v2 = (-1) then (if s0 = 0 then (.inl (3, q)) else fX10_setCatch_47 q v1 v2 s0) else fX10_setCatch_47 q v1 v2 s0)
def kX10_setCatch_27 (q : SS) (v1 : Int32) (v2 : Int32) (s0 : Int32) : Prop := ((v2 = (-1) → ((s0 = 0 → True) ∧ (¬ s0 = 0 → kX10_setCatch_47 q v1 v2 s0))) ∧ (¬ v2 = (-1) → kX10_setCatch_47 q v1 v2 s0))
def fX10_setCatch_19 (q : SS) (v1 : Int32) (v2 : Int32) : (Nat × SS) ⊕ (Int32 × SS) := fX10_setCatch_27 (fX7_isCaught q v1).2 v1 v2 (fX7_isCaught q v1).1
def kX10_setCatch_19 (q : SS) (v1 : Int32) (v2 : Int32) : Prop := kX7_isCaught q v1 ∧ kX10_setCatch_27 (fX7_isCaught q v1).2 v1 v2 (fX7_isCaught q v1).1
def fX10_setCatch (q : SS) (v1 : Int32) (v2 : Int32) : (Nat × SS) ⊕ (Int32 × SS) := (xb (fX10_requireIndex q v1 80) (fun u3 => (if v2 = (-1) then fX10_setCatch_19 u3 v1 v2 else (xb (fX10_requireNumber u3 v2 64 79) (fun u16 => fX10_setCatch_19 u16 v1 v2)))))
def kX10_setCatch (q : SS) (v1 : Int32) (v2 : Int32) : Prop := kX10_requireIndex q v1 80 ∧ (∀ u3, (fX10_requireIndex q v1 80) = .inr u3 → ((v2 = (-1) → kX10_setCatch_19 u3 v1 v2) ∧ (¬ v2 = (-1) → kX10_requireNumber u3 v2 64 79 ∧ (∀ u16, (fX10_requireNumber u3 v2 64 79) = .inr u16 → kX10_setCatch_19 u16 v1 v2))))
set_option maxHeartbeats 4000000 in
set_option maxRecDepth 100000 in
theorem ctX10_setCatch (l : Launch) (hl : l.stackTraces = false) (D : va_G) (kc : Nat → ClassId) (ad : Nat → Nat) (q : SS) (v1 : Int32) (v2 : Int32) (hok : kX10_setCatch q v1 v2) : Xi l yX10_setCatch (Cond.code yX10_setCatch cX10_setCatch 4 (some .int) :: lw_G) (zr 7 20 200) 20 200 (PX D kc) (GXe D kc ad) (GXe D kc ad) [.ref (ad 0), .int v1, .int v2] q (fX10_setCatch q v1 v2) := by
  refine Xi.of (cc := cX10_setCatch) (maxL := 4) (ret := (some .int)) (by decide) rfl (Nat.le_of_ble_eq_true rfl) ?_
  intro p e s m args below meth c A S hr hlocks htab hA hK
  have hx := S.1
  have hb := S.2.1
  have hE : EV A s s.heap := hK.2
  have hK : va_K D vwCl (tysK kc) s := hK.1
  refine z_exw (fun wad => ?_)
  generalize hFe : fX10_setCatch q v1 v2 = F
  have hF : F = fX10_setCatch q v1 v2 := hFe.symm
  have b86 : ∀ (q : SS), kX10_setCatch_86 q → F = fX10_setCatch_86 q → Z p l e (zr 7 20 200) s m args below meth c 2 12 (vx_MQ below (va_Qi (fun (x : Int32) (u : SS) => F = .inr (x, u)) (fun u t => (GXe D kc ad) A u t.heap) A) (vx_X (fun (u : Nat × SS) => F = .inl u) (fun E u t => E = exn u.1 ∧ (GXe D kc ad) A u.2 t.heap) A) args s 20 200 A) 4 A (ZG D vwCl (wX kc ad wad) (PLX wad) A) q 86 [(0, .ref (ad 0))] [] := by
    intro q hok hF
    refine z_aload_n (j := 0) hx hb dX10_setCatch_86 rfl rfl ?_
    refine z_get (v := .ref (ad 1)) S hK inX10 0 (fun _ => rfl) rfl 0 (by decide) q2_135 rfl rfl dX10_setCatch_87 ?_
    refine z_get (v := .int (gI q 205)) S hK inX7 1 (fun _ => rfl) rfl 5 (by decide) q1_56 rfl rfl dX10_setCatch_90 ?_
    refine z_weak (G2 := GXe D kc ad A) (fun _ _ h => ⟨wad, h⟩) ?_
    refine z_widen (ce := 20) (sl := 200) (Nat.le_of_ble_eq_true rfl) (Nat.le_of_ble_eq_true rfl) ?_
    exact x_iret hx hb hlocks hr rfl hF dX10_setCatch_93
  have b77 : ∀ (q : SS) (v1 : Int32) (v2 : Int32), kX10_setCatch_77 q v1 v2 → F = fX10_setCatch_77 q v1 v2 → Z p l e (zr 7 20 200) s m args below meth c 2 12 (vx_MQ below (va_Qi (fun (x : Int32) (u : SS) => F = .inr (x, u)) (fun u t => (GXe D kc ad) A u t.heap) A) (vx_X (fun (u : Nat × SS) => F = .inl u) (fun E u t => E = exn u.1 ∧ (GXe D kc ad) A u.2 t.heap) A) args s 20 200 A) 4 A (ZG D vwCl (wX kc ad wad) (PLX wad) A) q 77 [(0, .ref (ad 0)), (1, .int v1), (2, .int v2)] [] := by
    intro q v1 v2 hok hF
    refine z_aload_n (j := 0) hx hb dX10_setCatch_77 rfl rfl ?_
    refine z_get (v := .ref (ad 1)) S hK inX10 0 (fun _ => rfl) rfl 0 (by decide) q2_135 rfl rfl dX10_setCatch_78 ?_
    refine z_iload_n (j := 1) hx hb dX10_setCatch_81 rfl rfl ?_
    refine z_iload_n (j := 2) hx hb dX10_setCatch_82 rfl rfl ?_
    have h83 := And.left hok
    have hok := And.right hok
    refine z_callVv (As := [.int v1, .int v2]) S (ctX7_replaceCatch l hl D kc ad wad q v1 v2 h83) (cwV 2 S.2.2.2.2 (gV q4_185 q4_186 q4_187 q1_2 q4_188) rfl rfl rfl hX7_replaceCatch ⟨Nat.le_of_ble_eq_true rfl, Nat.le_of_ble_eq_true rfl⟩) hA (pbX D kc) (psX hK hE) (z_recv hK 1 (fun _ => rfl) rfl) rfl rfl (Nat.le_of_ble_eq_true rfl) dX10_setCatch_83 ⟨Nat.le_of_ble_eq_true rfl, Nat.le_of_ble_eq_true rfl⟩ ?_
    refine z_sub [0] rfl ?_
    exact b86 (fX7_replaceCatch q v1 v2) hok hF
  have b47 : ∀ (q : SS) (v1 : Int32) (v2 : Int32) (v3 : Int32), kX10_setCatch_47 q v1 v2 v3 → F = fX10_setCatch_47 q v1 v2 v3 → Z p l e (zr 7 20 200) s m args below meth c 2 12 (vx_MQ below (va_Qi (fun (x : Int32) (u : SS) => F = .inr (x, u)) (fun u t => (GXe D kc ad) A u t.heap) A) (vx_X (fun (u : Nat × SS) => F = .inl u) (fun E u t => E = exn u.1 ∧ (GXe D kc ad) A u.2 t.heap) A) args s 20 200 A) 4 A (ZG D vwCl (wX kc ad wad) (PLX wad) A) q 47 [(0, .ref (ad 0)), (1, .int v1), (2, .int v2), (3, .int v3)] [] := by
    intro q v1 v2 v3 hok hF
    refine z_iload_n (j := 2) hx hb dX10_setCatch_47 rfl rfl ?_
    refine z_iconst (v := (-1)) hx hb dX10_setCatch_48 (by decide) ?_
    refine z_icmp_eq (tgt := 77) hx hb dX10_setCatch_49 (by decide) (fun g49 => ?_) (fun g49 => ?_)
    · have hF := hF.trans (if_pos g49)
      have hok := And.left hok g49
      refine z_sub [0, 1, 2] rfl ?_
      exact b77 q v1 v2 hok hF
    · have hF := hF.trans (if_neg g49)
      have hok := And.right hok g49
      refine z_iload_n (j := 3) hx hb dX10_setCatch_52 rfl rfl ?_
      refine z_if_ne (tgt := 77) hx hb dX10_setCatch_53 (by decide) (fun g53 => ?_) (fun g53 => ?_)
      · have hF := hF.trans (if_neg g53)
        have hok := And.right hok g53
        refine z_sub [0, 1, 2] rfl ?_
        exact b77 q v1 v2 hok hF
      · have hF := hF.trans (if_pos g53)
        have hok := And.left hok g53
        refine z_aload_n (j := 0) hx hb dX10_setCatch_56 rfl rfl ?_
        refine z_get (v := .ref (ad 1)) S hK inX10 0 (fun _ => rfl) rfl 0 (by decide) q2_135 rfl rfl dX10_setCatch_57 ?_
        refine z_get (v := .int (gI q 205)) S hK inX7 1 (fun _ => rfl) rfl 5 (by decide) q1_56 rfl rfl dX10_setCatch_60 ?_
        refine z_iconst (v := 4) hx hb dX10_setCatch_63 (by decide) ?_
        refine z_icmp_lt (tgt := 77) hx hb dX10_setCatch_64 (by decide) (fun g64 => ?_) (fun g64 => ?_)
        · have hF := hF.trans (if_pos g64)
          have hok := And.left hok g64
          refine z_sub [0, 1, 2] rfl ?_
          exact b77 q v1 v2 hok hF
        · have hF := hF.trans (if_neg g64)
          have hok := And.right hok g64
          exact x_throw (k := 4) (ic := 141) (names := ["java/lang/RuntimeException", "java/lang/Exception"]) (text := "there are catches enough") S hl htab hlocks hE (KG.x D kc ad wad) (fun _ h => ⟨wad, h⟩) hF (by decide +kernel) (by decide +kernel) q4_141 q1_28 (List.mem_of_getElem? (i := 7) rfl) xt_4 (List.forall_mem_cons.mpr ⟨rfl, List.forall_mem_cons.mpr ⟨rfl, xo_4⟩⟩) dX10_setCatch_67 dX10_setCatch_70 dX10_setCatch_71 dX10_setCatch_73 dX10_setCatch_76 (Nat.le_of_ble_eq_true rfl) (Nat.le_of_ble_eq_true rfl) (Nat.le_of_ble_eq_true rfl) (Nat.le_of_ble_eq_true rfl) (Nat.le_of_ble_eq_true rfl) (Nat.le_of_ble_eq_true rfl)
  have b27 : ∀ (q : SS) (v1 : Int32) (v2 : Int32) (s0 : Int32), kX10_setCatch_27 q v1 v2 s0 → F = fX10_setCatch_27 q v1 v2 s0 → Z p l e (zr 7 20 200) s m args below meth c 2 12 (vx_MQ below (va_Qi (fun (x : Int32) (u : SS) => F = .inr (x, u)) (fun u t => (GXe D kc ad) A u t.heap) A) (vx_X (fun (u : Nat × SS) => F = .inl u) (fun E u t => E = exn u.1 ∧ (GXe D kc ad) A u.2 t.heap) A) args s 20 200 A) 4 A (ZG D vwCl (wX kc ad wad) (PLX wad) A) q 27 [(0, .ref (ad 0)), (1, .int v1), (2, .int v2)] [.int s0] := by
    intro q v1 v2 s0 hok hF
    refine z_istore_n (lv' := [(3, .int s0), (0, .ref (ad 0)), (1, .int v1), (2, .int v2)]) hx hb dX10_setCatch_27 rfl (by decide) rfl ?_
    refine z_iload_n (j := 3) hx hb dX10_setCatch_28 rfl rfl ?_
    refine z_iconst (v := (-1)) hx hb dX10_setCatch_29 (by decide) ?_
    refine z_icmp_ne (tgt := 47) hx hb dX10_setCatch_30 (by decide) (fun g30 => ?_) (fun g30 => ?_)
    · have hF := hF.trans (if_neg g30)
      have hok := And.right hok g30
      refine z_sub [1, 2, 3, 0] rfl ?_
      exact b47 q v1 v2 s0 hok hF
    · have hF := hF.trans (if_pos g30)
      have hok := And.left hok g30
      refine z_iload_n (j := 0) hx hb dX10_setCatch_33 rfl rfl ?_
      refine z_if_ne (tgt := 47) hx hb dX10_setCatch_34 (by decide) (fun g34 => ?_) (fun g34 => ?_)
      · have hF := hF.trans (if_neg g34)
        have hok := And.right hok g34
        refine z_sub [1, 2, 3, 0] rfl ?_
        exact b47 q v1 v2 s0 hok hF
      · have hF := hF.trans (if_pos g34)
        have hok := And.left hok g34
        exact x_throwN (k := 3) (ic := 121) (text := "there is no such catch") S hl htab hlocks hE (KG.x D kc ad wad) (fun _ h => ⟨wad, h⟩) hF rfl rfl q4_89 q1_27 (List.mem_of_getElem? (i := 6) rfl) xt_3 dX10_setCatch_37 dX10_setCatch_40 dX10_setCatch_41 dX10_setCatch_43 dX10_setCatch_46 (Nat.le_of_ble_eq_true rfl) (Nat.le_of_ble_eq_true rfl) (Nat.le_of_ble_eq_true rfl) (Nat.le_of_ble_eq_true rfl) (Nat.le_of_ble_eq_true rfl) (Nat.le_of_ble_eq_true rfl)
  have b19 : ∀ (q : SS) (v1 : Int32) (v2 : Int32), kX10_setCatch_19 q v1 v2 → F = fX10_setCatch_19 q v1 v2 → Z p l e (zr 7 20 200) s m args below meth c 2 12 (vx_MQ below (va_Qi (fun (x : Int32) (u : SS) => F = .inr (x, u)) (fun u t => (GXe D kc ad) A u t.heap) A) (vx_X (fun (u : Nat × SS) => F = .inl u) (fun E u t => E = exn u.1 ∧ (GXe D kc ad) A u.2 t.heap) A) args s 20 200 A) 4 A (ZG D vwCl (wX kc ad wad) (PLX wad) A) q 19 [(0, .ref (ad 0)), (1, .int v1), (2, .int v2)] [] := by
    intro q v1 v2 hok hF
    refine z_aload_n (j := 0) hx hb dX10_setCatch_19 rfl rfl ?_
    refine z_get (v := .ref (ad 1)) S hK inX10 0 (fun _ => rfl) rfl 0 (by decide) q2_135 rfl rfl dX10_setCatch_20 ?_
    refine z_iload_n (j := 1) hx hb dX10_setCatch_23 rfl rfl ?_
    have h24 := And.left hok
    have hok := And.right hok
    refine z_callVi (As := [.int v1]) S (ctX7_isCaught l hl D kc ad wad q v1 h24) (cwV 1 S.2.2.2.2 (gV q4_179 q4_180 q4_181 q1_2 q4_182) rfl rfl rfl hX7_isCaught ⟨Nat.le_of_ble_eq_true rfl, Nat.le_of_ble_eq_true rfl⟩) hA (pbX D kc) (psX hK hE) (z_recv hK 1 (fun _ => rfl) rfl) rfl rfl (Nat.le_of_ble_eq_true rfl) dX10_setCatch_24 ⟨Nat.le_of_ble_eq_true rfl, Nat.le_of_ble_eq_true rfl⟩ ?_
    exact b27 (fX7_isCaught q v1).2 v1 v2 (fX7_isCaught q v1).1 hok hF
  refine z_iload_n (j := 1) hx hb dX10_setCatch_0 rfl rfl ?_
  refine z_bipush (v := 80) hx hb dX10_setCatch_1 (by decide) ?_
  have h3 := And.left hok
  have hok := And.right hok
  refine x_callSv (As := [.int v1, .int 80]) S (ctX10_requireIndex l hl D kc ad wad q v1 80 h3) (va_cwS 2 S.2.2.2.2 (gS q3_111 q3_112 q1_1 q3_113) rfl rfl rfl hX10_requireIndex ⟨Nat.le_of_ble_eq_true rfl, Nat.le_of_ble_eq_true rfl⟩) hA (pbX D kc) (psX hK hE) rfl rfl (Nat.le_of_ble_eq_true rfl) dX10_setCatch_3 ⟨Nat.le_of_ble_eq_true rfl, Nat.le_of_ble_eq_true rfl⟩ (fun u3 g3 => ?_) (fun u g3 => x_out htab hlocks (hF.trans (xb_l g3)) (fun _ h => ⟨wad, h⟩) (Nat.le_of_ble_eq_true rfl) (Nat.le_of_ble_eq_true rfl))
  have hF := hF.trans (xb_r g3)
  have hok := hok u3 g3
  refine z_iload_n (j := 2) hx hb dX10_setCatch_6 rfl rfl ?_
  refine z_iconst (v := (-1)) hx hb dX10_setCatch_7 (by decide) ?_
  refine z_icmp_eq (tgt := 19) hx hb dX10_setCatch_8 (by decide) (fun g8 => ?_) (fun g8 => ?_)
  · have hF := hF.trans (if_pos g8)
    have hok := And.left hok g8
    refine z_widen (ce := 2) (sl := 12) (Nat.le_of_ble_eq_true rfl) (Nat.le_of_ble_eq_true rfl) ?_
    exact b19 u3 v1 v2 hok hF
  · have hF := hF.trans (if_neg g8)
    have hok := And.right hok g8
    refine z_iload_n (j := 2) hx hb dX10_setCatch_11 rfl rfl ?_
    refine z_bipush (v := 64) hx hb dX10_setCatch_12 (by decide) ?_
    refine z_bipush (v := 79) hx hb dX10_setCatch_14 (by decide) ?_
    have h16 := And.left hok
    have hok := And.right hok
    refine x_callSv (As := [.int v2, .int 64, .int 79]) S (ctX10_requireNumber l hl D kc ad wad u3 v2 64 79 h16) (va_cwS 3 S.2.2.2.2 (gS q3_128 q3_129 q1_1 q3_130) rfl rfl rfl hX10_requireNumber ⟨Nat.le_of_ble_eq_true rfl, Nat.le_of_ble_eq_true rfl⟩) hA (pbX D kc) (psX hK hE) rfl rfl (Nat.le_of_ble_eq_true rfl) dX10_setCatch_16 ⟨Nat.le_of_ble_eq_true rfl, Nat.le_of_ble_eq_true rfl⟩ (fun u16 g16 => ?_) (fun u g16 => x_out htab hlocks (hF.trans (xb_l g16)) (fun _ h => ⟨wad, h⟩) (Nat.le_of_ble_eq_true rfl) (Nat.le_of_ble_eq_true rfl))
    have hF := hF.trans (xb_r g16)
    have hok := hok u16 g16
    exact b19 u16 v1 v2 hok hF
theorem hX10_setCatch : yX10_setCatch.cls = RX10 ∧ yX10_setCatch.cls ≠ "java/lang/invoke/MethodHandle" ∧ yX10_setCatch.cls ≠ "java/lang/invoke/VarHandle" ∧ (parseMethodDescriptor yX10_setCatch.desc).map (fun d => d.parameters.length) = some 2 := by decide +kernel
def fX10_setCell (q : SS) (v1 : Int32) (v2 : Int32) : (Nat × SS) ⊕ (Int32 × SS) := (xb (fX10_requireIndex q v1 64) (fun u3 => (xb (fX10_requireNumber u3 v2 0 255) (fun u11 => (xb (fX10_requireNotBegun u11) (fun u15 => (.inr ((fX5_replace u15 v1 v2).1, (fX5_replace u15 v1 v2).2))))))))
def kX10_setCell (q : SS) (v1 : Int32) (v2 : Int32) : Prop := kX10_requireIndex q v1 64 ∧ (∀ u3, (fX10_requireIndex q v1 64) = .inr u3 → kX10_requireNumber u3 v2 0 255 ∧ (∀ u11, (fX10_requireNumber u3 v2 0 255) = .inr u11 → kX10_requireNotBegun u11 ∧ (∀ u15, (fX10_requireNotBegun u11) = .inr u15 → kX5_replace u15 v1 v2 ∧ True)))
set_option maxHeartbeats 4000000 in
set_option maxRecDepth 100000 in
theorem ctX10_setCell (l : Launch) (hl : l.stackTraces = false) (D : va_G) (kc : Nat → ClassId) (ad : Nat → Nat) (q : SS) (v1 : Int32) (v2 : Int32) (hok : kX10_setCell q v1 v2) : Xi l yX10_setCell (Cond.code yX10_setCell cX10_setCell 3 (some .int) :: lw_G) (zr 7 20 200) 20 200 (PX D kc) (GXe D kc ad) (GXe D kc ad) [.ref (ad 0), .int v1, .int v2] q (fX10_setCell q v1 v2) := by
  refine Xi.of (cc := cX10_setCell) (maxL := 3) (ret := (some .int)) (by decide) rfl (Nat.le_of_ble_eq_true rfl) ?_
  intro p e s m args below meth c A S hr hlocks htab hA hK
  have hx := S.1
  have hb := S.2.1
  have hE : EV A s s.heap := hK.2
  have hK : va_K D vwCl (tysK kc) s := hK.1
  refine z_exw (fun wad => ?_)
  generalize hFe : fX10_setCell q v1 v2 = F
  have hF : F = fX10_setCell q v1 v2 := hFe.symm
  refine z_iload_n (j := 1) hx hb dX10_setCell_0 rfl rfl ?_
  refine z_bipush (v := 64) hx hb dX10_setCell_1 (by decide) ?_
  have h3 := And.left hok
  have hok := And.right hok
  refine x_callSv (As := [.int v1, .int 64]) S (ctX10_requireIndex l hl D kc ad wad q v1 64 h3) (va_cwS 2 S.2.2.2.2 (gS q3_111 q3_112 q1_1 q3_113) rfl rfl rfl hX10_requireIndex ⟨Nat.le_of_ble_eq_true rfl, Nat.le_of_ble_eq_true rfl⟩) hA (pbX D kc) (psX hK hE) rfl rfl (Nat.le_of_ble_eq_true rfl) dX10_setCell_3 ⟨Nat.le_of_ble_eq_true rfl, Nat.le_of_ble_eq_true rfl⟩ (fun u3 g3 => ?_) (fun u g3 => x_out htab hlocks (hF.trans (xb_l g3)) (fun _ h => ⟨wad, h⟩) (Nat.le_of_ble_eq_true rfl) (Nat.le_of_ble_eq_true rfl))
  have hF := hF.trans (xb_r g3)
  have hok := hok u3 g3
  refine z_iload_n (j := 2) hx hb dX10_setCell_6 rfl rfl ?_
  refine z_iconst (v := 0) hx hb dX10_setCell_7 (by decide) ?_
  refine z_sipush (v := 255) hx hb dX10_setCell_8 (by decide) ?_
  have h11 := And.left hok
  have hok := And.right hok
  refine x_callSv (As := [.int v2, .int 0, .int 255]) S (ctX10_requireNumber l hl D kc ad wad u3 v2 0 255 h11) (va_cwS 3 S.2.2.2.2 (gS q3_128 q3_129 q1_1 q3_130) rfl rfl rfl hX10_requireNumber ⟨Nat.le_of_ble_eq_true rfl, Nat.le_of_ble_eq_true rfl⟩) hA (pbX D kc) (psX hK hE) rfl rfl (Nat.le_of_ble_eq_true rfl) dX10_setCell_11 ⟨Nat.le_of_ble_eq_true rfl, Nat.le_of_ble_eq_true rfl⟩ (fun u11 g11 => ?_) (fun u g11 => x_out htab hlocks (hF.trans (xb_l g11)) (fun _ h => ⟨wad, h⟩) (Nat.le_of_ble_eq_true rfl) (Nat.le_of_ble_eq_true rfl))
  have hF := hF.trans (xb_r g11)
  have hok := hok u11 g11
  refine z_aload_n (j := 0) hx hb dX10_setCell_14 rfl rfl ?_
  have h15 := And.left hok
  have hok := And.right hok
  refine x_callVv (As := []) S (ctX10_requireNotBegun l hl D kc ad wad u11 h15) (cwV 0 S.2.2.2.2 (gV q4_197 q4_199 qp1_2 q1_1 q4_200) rfl rfl rfl hX10_requireNotBegun ⟨Nat.le_of_ble_eq_true rfl, Nat.le_of_ble_eq_true rfl⟩) hA (pbX D kc) (psX hK hE) (z_recv hK 0 (fun _ => rfl) rfl) rfl rfl (Nat.le_of_ble_eq_true rfl) dX10_setCell_15 ⟨Nat.le_of_ble_eq_true rfl, Nat.le_of_ble_eq_true rfl⟩ (fun u15 g15 => ?_) (fun u g15 => x_out htab hlocks (hF.trans (xb_l g15)) (fun _ h => ⟨wad, h⟩) (Nat.le_of_ble_eq_true rfl) (Nat.le_of_ble_eq_true rfl))
  have hF := hF.trans (xb_r g15)
  have hok := hok u15 g15
  refine z_aload_n (j := 0) hx hb dX10_setCell_18 rfl rfl ?_
  refine z_get (v := .ref (ad 2)) S hK inX10 0 (fun _ => rfl) rfl 1 (by decide) q2_136 rfl rfl dX10_setCell_19 ?_
  refine z_iload_n (j := 1) hx hb dX10_setCell_22 rfl rfl ?_
  refine z_iload_n (j := 2) hx hb dX10_setCell_23 rfl rfl ?_
  have h24 := And.left hok
  have hok := And.right hok
  refine z_callVi (As := [.int v1, .int v2]) S (ctX5_replace l hl D kc ad wad u15 v1 v2 h24) (cwV 2 S.2.2.2.2 (gV q4_202 q4_203 q4_204 q1_4 q4_205) rfl rfl rfl hX5_replace ⟨Nat.le_of_ble_eq_true rfl, Nat.le_of_ble_eq_true rfl⟩) hA (pbX D kc) (psX hK hE) (z_recv hK 2 (fun _ => rfl) rfl) rfl rfl (Nat.le_of_ble_eq_true rfl) dX10_setCell_24 ⟨Nat.le_of_ble_eq_true rfl, Nat.le_of_ble_eq_true rfl⟩ ?_
  refine z_weak (G2 := GXe D kc ad A) (fun _ _ h => ⟨wad, h⟩) ?_
  refine z_widen (ce := 20) (sl := 200) (Nat.le_of_ble_eq_true rfl) (Nat.le_of_ble_eq_true rfl) ?_
  exact x_iret hx hb hlocks hr rfl hF dX10_setCell_27
theorem hX10_setCell : yX10_setCell.cls = RX10 ∧ yX10_setCell.cls ≠ "java/lang/invoke/MethodHandle" ∧ yX10_setCell.cls ≠ "java/lang/invoke/VarHandle" ∧ (parseMethodDescriptor yX10_setCell.desc).map (fun d => d.parameters.length) = some 2 := by decide +kernel
def fX10_setRegister (q : SS) (v1 : Int32) (v2 : Int32) : (Nat × SS) ⊕ (Int32 × SS) := (xb (fX10_requireIndex q v1 4) (fun u2 => (xb (fX10_requireNumber u2 v2 0 255) (fun u10 => (xb (fX10_requireNotBegun u10) (fun u14 => (.inr ((fX6_replaceRegister u14 v1 v2).1, (fX6_replaceRegister u14 v1 v2).2))))))))
def kX10_setRegister (q : SS) (v1 : Int32) (v2 : Int32) : Prop := kX10_requireIndex q v1 4 ∧ (∀ u2, (fX10_requireIndex q v1 4) = .inr u2 → kX10_requireNumber u2 v2 0 255 ∧ (∀ u10, (fX10_requireNumber u2 v2 0 255) = .inr u10 → kX10_requireNotBegun u10 ∧ (∀ u14, (fX10_requireNotBegun u10) = .inr u14 → kX6_replaceRegister u14 v1 v2 ∧ True)))
set_option maxHeartbeats 4000000 in
set_option maxRecDepth 100000 in
theorem ctX10_setRegister (l : Launch) (hl : l.stackTraces = false) (D : va_G) (kc : Nat → ClassId) (ad : Nat → Nat) (q : SS) (v1 : Int32) (v2 : Int32) (hok : kX10_setRegister q v1 v2) : Xi l yX10_setRegister (Cond.code yX10_setRegister cX10_setRegister 3 (some .int) :: lw_G) (zr 7 20 200) 20 200 (PX D kc) (GXe D kc ad) (GXe D kc ad) [.ref (ad 0), .int v1, .int v2] q (fX10_setRegister q v1 v2) := by
  refine Xi.of (cc := cX10_setRegister) (maxL := 3) (ret := (some .int)) (by decide) rfl (Nat.le_of_ble_eq_true rfl) ?_
  intro p e s m args below meth c A S hr hlocks htab hA hK
  have hx := S.1
  have hb := S.2.1
  have hE : EV A s s.heap := hK.2
  have hK : va_K D vwCl (tysK kc) s := hK.1
  refine z_exw (fun wad => ?_)
  generalize hFe : fX10_setRegister q v1 v2 = F
  have hF : F = fX10_setRegister q v1 v2 := hFe.symm
  refine z_iload_n (j := 1) hx hb dX10_setRegister_0 rfl rfl ?_
  refine z_iconst (v := 4) hx hb dX10_setRegister_1 (by decide) ?_
  have h2 := And.left hok
  have hok := And.right hok
  refine x_callSv (As := [.int v1, .int 4]) S (ctX10_requireIndex l hl D kc ad wad q v1 4 h2) (va_cwS 2 S.2.2.2.2 (gS q3_111 q3_112 q1_1 q3_113) rfl rfl rfl hX10_requireIndex ⟨Nat.le_of_ble_eq_true rfl, Nat.le_of_ble_eq_true rfl⟩) hA (pbX D kc) (psX hK hE) rfl rfl (Nat.le_of_ble_eq_true rfl) dX10_setRegister_2 ⟨Nat.le_of_ble_eq_true rfl, Nat.le_of_ble_eq_true rfl⟩ (fun u2 g2 => ?_) (fun u g2 => x_out htab hlocks (hF.trans (xb_l g2)) (fun _ h => ⟨wad, h⟩) (Nat.le_of_ble_eq_true rfl) (Nat.le_of_ble_eq_true rfl))
  have hF := hF.trans (xb_r g2)
  have hok := hok u2 g2
  refine z_iload_n (j := 2) hx hb dX10_setRegister_5 rfl rfl ?_
  refine z_iconst (v := 0) hx hb dX10_setRegister_6 (by decide) ?_
  refine z_sipush (v := 255) hx hb dX10_setRegister_7 (by decide) ?_
  have h10 := And.left hok
  have hok := And.right hok
  refine x_callSv (As := [.int v2, .int 0, .int 255]) S (ctX10_requireNumber l hl D kc ad wad u2 v2 0 255 h10) (va_cwS 3 S.2.2.2.2 (gS q3_128 q3_129 q1_1 q3_130) rfl rfl rfl hX10_requireNumber ⟨Nat.le_of_ble_eq_true rfl, Nat.le_of_ble_eq_true rfl⟩) hA (pbX D kc) (psX hK hE) rfl rfl (Nat.le_of_ble_eq_true rfl) dX10_setRegister_10 ⟨Nat.le_of_ble_eq_true rfl, Nat.le_of_ble_eq_true rfl⟩ (fun u10 g10 => ?_) (fun u g10 => x_out htab hlocks (hF.trans (xb_l g10)) (fun _ h => ⟨wad, h⟩) (Nat.le_of_ble_eq_true rfl) (Nat.le_of_ble_eq_true rfl))
  have hF := hF.trans (xb_r g10)
  have hok := hok u10 g10
  refine z_aload_n (j := 0) hx hb dX10_setRegister_13 rfl rfl ?_
  have h14 := And.left hok
  have hok := And.right hok
  refine x_callVv (As := []) S (ctX10_requireNotBegun l hl D kc ad wad u10 h14) (cwV 0 S.2.2.2.2 (gV q4_197 q4_199 qp1_2 q1_1 q4_200) rfl rfl rfl hX10_requireNotBegun ⟨Nat.le_of_ble_eq_true rfl, Nat.le_of_ble_eq_true rfl⟩) hA (pbX D kc) (psX hK hE) (z_recv hK 0 (fun _ => rfl) rfl) rfl rfl (Nat.le_of_ble_eq_true rfl) dX10_setRegister_14 ⟨Nat.le_of_ble_eq_true rfl, Nat.le_of_ble_eq_true rfl⟩ (fun u14 g14 => ?_) (fun u g14 => x_out htab hlocks (hF.trans (xb_l g14)) (fun _ h => ⟨wad, h⟩) (Nat.le_of_ble_eq_true rfl) (Nat.le_of_ble_eq_true rfl))
  have hF := hF.trans (xb_r g14)
  have hok := hok u14 g14
  refine z_aload_n (j := 0) hx hb dX10_setRegister_17 rfl rfl ?_
  refine z_get (v := .ref (ad 4)) S hK inX10 0 (fun _ => rfl) rfl 3 (by decide) q2_138 rfl rfl dX10_setRegister_18 ?_
  refine z_iload_n (j := 1) hx hb dX10_setRegister_21 rfl rfl ?_
  refine z_iload_n (j := 2) hx hb dX10_setRegister_22 rfl rfl ?_
  have h23 := And.left hok
  have hok := And.right hok
  refine z_callVi (As := [.int v1, .int v2]) S (ctX6_replaceRegister l hl D kc ad wad u14 v1 v2 h23) (cwV 2 S.2.2.2.2 (gV q4_213 q4_214 q4_215 q1_6 q4_216) rfl rfl rfl hX6_replaceRegister ⟨Nat.le_of_ble_eq_true rfl, Nat.le_of_ble_eq_true rfl⟩) hA (pbX D kc) (psX hK hE) (z_recv hK 4 (fun _ => rfl) rfl) rfl rfl (Nat.le_of_ble_eq_true rfl) dX10_setRegister_23 ⟨Nat.le_of_ble_eq_true rfl, Nat.le_of_ble_eq_true rfl⟩ ?_
  refine z_weak (G2 := GXe D kc ad A) (fun _ _ h => ⟨wad, h⟩) ?_
  refine z_widen (ce := 20) (sl := 200) (Nat.le_of_ble_eq_true rfl) (Nat.le_of_ble_eq_true rfl) ?_
  exact x_iret hx hb hlocks hr rfl hF dX10_setRegister_26
theorem hX10_setRegister : yX10_setRegister.cls = RX10 ∧ yX10_setRegister.cls ≠ "java/lang/invoke/MethodHandle" ∧ yX10_setRegister.cls ≠ "java/lang/invoke/VarHandle" ∧ (parseMethodDescriptor yX10_setRegister.desc).map (fun d => d.parameters.length) = some 2 := by decide +kernel
def fX10_start_32 (q : SS) (s0 : Int32) (s1 : Int32) (s2 : Int32) : (Nat × SS) ⊕ (Int32 × SS) := (.inr ((fX6_startAt q s2 s1 s0).1, (fX6_startAt q s2 s1 s0).2))
def kX10_start_32 (q : SS) (s0 : Int32) (s1 : Int32) (s2 : Int32) : Prop := kX6_startAt q s2 s1 s0 ∧ True
def fX10_start (q : SS) (v1 : Int32) (v2 : Int32) (v3 : Int32) : (Nat × SS) ⊕ (Int32 × SS) := (xb (fX10_requireNumber q v1 0 63) (fun u4 => (xb (fX10_requireNumber u4 v2 0 1) (fun u10 => (xb (fX10_requireNotBegun u10) (fun u14 => (if v3 = 0 then fX10_start_32 u14 0 v2 v1 else fX10_start_32 u14 1 v2 v1)))))))
def kX10_start (q : SS) (v1 : Int32) (v2 : Int32) (v3 : Int32) : Prop := kX10_requireNumber q v1 0 63 ∧ (∀ u4, (fX10_requireNumber q v1 0 63) = .inr u4 → kX10_requireNumber u4 v2 0 1 ∧ (∀ u10, (fX10_requireNumber u4 v2 0 1) = .inr u10 → kX10_requireNotBegun u10 ∧ (∀ u14, (fX10_requireNotBegun u10) = .inr u14 → ((v3 = 0 → kX10_start_32 u14 0 v2 v1) ∧ (¬ v3 = 0 → kX10_start_32 u14 1 v2 v1)))))
set_option maxHeartbeats 4000000 in
set_option maxRecDepth 100000 in
theorem ctX10_start (l : Launch) (hl : l.stackTraces = false) (D : va_G) (kc : Nat → ClassId) (ad : Nat → Nat) (q : SS) (v1 : Int32) (v2 : Int32) (v3 : Int32) (hok : kX10_start q v1 v2 v3) : Xi l yX10_start (Cond.code yX10_start cX10_start 4 (some .int) :: lw_G) (zr 7 20 200) 20 200 (PX D kc) (GXe D kc ad) (GXe D kc ad) [.ref (ad 0), .int v1, .int v2, .int v3] q (fX10_start q v1 v2 v3) := by
  refine Xi.of (cc := cX10_start) (maxL := 4) (ret := (some .int)) (by decide) rfl (Nat.le_of_ble_eq_true rfl) ?_
  intro p e s m args below meth c A S hr hlocks htab hA hK
  have hx := S.1
  have hb := S.2.1
  have hE : EV A s s.heap := hK.2
  have hK : va_K D vwCl (tysK kc) s := hK.1
  refine z_exw (fun wad => ?_)
  generalize hFe : fX10_start q v1 v2 v3 = F
  have hF : F = fX10_start q v1 v2 v3 := hFe.symm
  have b32 : ∀ (q : SS) (s0 : Int32) (s1 : Int32) (s2 : Int32), kX10_start_32 q s0 s1 s2 → F = fX10_start_32 q s0 s1 s2 → Z p l e (zr 7 20 200) s m args below meth c 3 18 (vx_MQ below (va_Qi (fun (x : Int32) (u : SS) => F = .inr (x, u)) (fun u t => (GXe D kc ad) A u t.heap) A) (vx_X (fun (u : Nat × SS) => F = .inl u) (fun E u t => E = exn u.1 ∧ (GXe D kc ad) A u.2 t.heap) A) args s 20 200 A) 4 A (ZG D vwCl (wX kc ad wad) (PLX wad) A) q 32 [] [.int s0, .int s1, .int s2, .ref (ad 4)] := by
    intro q s0 s1 s2 hok hF
    have h32 := And.left hok
    have hok := And.right hok
    refine z_callVi (As := [.int s2, .int s1, .int s0]) S (ctX6_startAt l hl D kc ad wad q s2 s1 s0 h32) (cwV 3 S.2.2.2.2 (gV q4_224 q4_225 q4_226 q1_6 q4_227) rfl rfl rfl hX6_startAt ⟨Nat.le_of_ble_eq_true rfl, Nat.le_of_ble_eq_true rfl⟩) hA (pbX D kc) (psX hK hE) (z_recv hK 4 (fun _ => rfl) rfl) rfl rfl (Nat.le_of_ble_eq_true rfl) dX10_start_32 ⟨Nat.le_of_ble_eq_true rfl, Nat.le_of_ble_eq_true rfl⟩ ?_
    refine z_weak (G2 := GXe D kc ad A) (fun _ _ h => ⟨wad, h⟩) ?_
    refine z_widen (ce := 20) (sl := 200) (Nat.le_of_ble_eq_true rfl) (Nat.le_of_ble_eq_true rfl) ?_
    exact x_iret hx hb hlocks hr rfl hF dX10_start_35
  refine z_iload_n (j := 1) hx hb dX10_start_0 rfl rfl ?_
  refine z_iconst (v := 0) hx hb dX10_start_1 (by decide) ?_
  refine z_bipush (v := 63) hx hb dX10_start_2 (by decide) ?_
  have h4 := And.left hok
  have hok := And.right hok
  refine x_callSv (As := [.int v1, .int 0, .int 63]) S (ctX10_requireNumber l hl D kc ad wad q v1 0 63 h4) (va_cwS 3 S.2.2.2.2 (gS q3_128 q3_129 q1_1 q3_130) rfl rfl rfl hX10_requireNumber ⟨Nat.le_of_ble_eq_true rfl, Nat.le_of_ble_eq_true rfl⟩) hA (pbX D kc) (psX hK hE) rfl rfl (Nat.le_of_ble_eq_true rfl) dX10_start_4 ⟨Nat.le_of_ble_eq_true rfl, Nat.le_of_ble_eq_true rfl⟩ (fun u4 g4 => ?_) (fun u g4 => x_out htab hlocks (hF.trans (xb_l g4)) (fun _ h => ⟨wad, h⟩) (Nat.le_of_ble_eq_true rfl) (Nat.le_of_ble_eq_true rfl))
  have hF := hF.trans (xb_r g4)
  have hok := hok u4 g4
  refine z_iload_n (j := 2) hx hb dX10_start_7 rfl rfl ?_
  refine z_iconst (v := 0) hx hb dX10_start_8 (by decide) ?_
  refine z_iconst (v := 1) hx hb dX10_start_9 (by decide) ?_
  have h10 := And.left hok
  have hok := And.right hok
  refine x_callSv (As := [.int v2, .int 0, .int 1]) S (ctX10_requireNumber l hl D kc ad wad u4 v2 0 1 h10) (va_cwS 3 S.2.2.2.2 (gS q3_128 q3_129 q1_1 q3_130) rfl rfl rfl hX10_requireNumber ⟨Nat.le_of_ble_eq_true rfl, Nat.le_of_ble_eq_true rfl⟩) hA (pbX D kc) (psX hK hE) rfl rfl (Nat.le_of_ble_eq_true rfl) dX10_start_10 ⟨Nat.le_of_ble_eq_true rfl, Nat.le_of_ble_eq_true rfl⟩ (fun u10 g10 => ?_) (fun u g10 => x_out htab hlocks (hF.trans (xb_l g10)) (fun _ h => ⟨wad, h⟩) (Nat.le_of_ble_eq_true rfl) (Nat.le_of_ble_eq_true rfl))
  have hF := hF.trans (xb_r g10)
  have hok := hok u10 g10
  refine z_aload_n (j := 0) hx hb dX10_start_13 rfl rfl ?_
  have h14 := And.left hok
  have hok := And.right hok
  refine x_callVv (As := []) S (ctX10_requireNotBegun l hl D kc ad wad u10 h14) (cwV 0 S.2.2.2.2 (gV q4_197 q4_199 qp1_2 q1_1 q4_200) rfl rfl rfl hX10_requireNotBegun ⟨Nat.le_of_ble_eq_true rfl, Nat.le_of_ble_eq_true rfl⟩) hA (pbX D kc) (psX hK hE) (z_recv hK 0 (fun _ => rfl) rfl) rfl rfl (Nat.le_of_ble_eq_true rfl) dX10_start_14 ⟨Nat.le_of_ble_eq_true rfl, Nat.le_of_ble_eq_true rfl⟩ (fun u14 g14 => ?_) (fun u g14 => x_out htab hlocks (hF.trans (xb_l g14)) (fun _ h => ⟨wad, h⟩) (Nat.le_of_ble_eq_true rfl) (Nat.le_of_ble_eq_true rfl))
  have hF := hF.trans (xb_r g14)
  have hok := hok u14 g14
  refine z_aload_n (j := 0) hx hb dX10_start_17 rfl rfl ?_
  refine z_get (v := .ref (ad 4)) S hK inX10 0 (fun _ => rfl) rfl 3 (by decide) q2_138 rfl rfl dX10_start_18 ?_
  refine z_iload_n (j := 1) hx hb dX10_start_21 rfl rfl ?_
  refine z_iload_n (j := 2) hx hb dX10_start_22 rfl rfl ?_
  refine z_iload_n (j := 3) hx hb dX10_start_23 rfl rfl ?_
  refine z_if_eq (tgt := 31) hx hb dX10_start_24 (by decide) (fun g24 => ?_) (fun g24 => ?_)
  · have hF := hF.trans (if_pos g24)
    have hok := And.left hok g24
    refine z_iconst (v := 0) hx hb dX10_start_31 (by decide) ?_
    refine z_sub [] rfl ?_
    exact b32 u14 0 v2 v1 hok hF
  · have hF := hF.trans (if_neg g24)
    have hok := And.right hok g24
    refine z_iconst (v := 1) hx hb dX10_start_27 (by decide) ?_
    refine z_goto (tgt := 32) hx hb dX10_start_28 (by decide) ?_
    refine z_sub [] rfl ?_
    exact b32 u14 1 v2 v1 hok hF
theorem hX10_start : yX10_start.cls = RX10 ∧ yX10_start.cls ≠ "java/lang/invoke/MethodHandle" ∧ yX10_start.cls ≠ "java/lang/invoke/VarHandle" ∧ (parseMethodDescriptor yX10_start.desc).map (fun d => d.parameters.length) = some 3 := by decide +kernel
def fX10_setPage_27 (q : SS) (v3 : Int32) : (Nat × SS) ⊕ (Int32 × SS) := (.inr (v3, q))
def kX10_setPage_27 (q : SS) (v3 : Int32) : Prop := narrow .boolean (.int v3) = .int v3 ∧ True
def fX10_setPage_14 (q : SS) (v1 : Int32) (v2 : Int32) (s0 : Int32) : (Nat × SS) ⊕ (Int32 × SS) := (if v2 = 0 then fX10_setPage_27 q s0 else fX10_setPage_27 (fX6_pageCame q v1) s0)
def kX10_setPage_14 (q : SS) (v1 : Int32) (v2 : Int32) (s0 : Int32) : Prop := ((v2 = 0 → kX10_setPage_27 q s0) ∧ (¬ v2 = 0 → kX6_pageCame q v1 ∧ kX10_setPage_27 (fX6_pageCame q v1) s0))
def fX10_setPage (q : SS) (v1 : Int32) (v2 : Int32) : (Nat × SS) ⊕ (Int32 × SS) := (xb (fX10_requireIndex q v1 4) (fun u2 => fX10_setPage_14 (fX5_replacePage u2 v1 v2).2 v1 v2 (fX5_replacePage u2 v1 v2).1))
def kX10_setPage (q : SS) (v1 : Int32) (v2 : Int32) : Prop := kX10_requireIndex q v1 4 ∧ (∀ u2, (fX10_requireIndex q v1 4) = .inr u2 → kX5_replacePage u2 v1 v2 ∧ kX10_setPage_14 (fX5_replacePage u2 v1 v2).2 v1 v2 (fX5_replacePage u2 v1 v2).1)
set_option maxHeartbeats 4000000 in
set_option maxRecDepth 100000 in
theorem ctX10_setPage (l : Launch) (hl : l.stackTraces = false) (D : va_G) (kc : Nat → ClassId) (ad : Nat → Nat) (q : SS) (v1 : Int32) (v2 : Int32) (hok : kX10_setPage q v1 v2) : Xi l yX10_setPage (Cond.code yX10_setPage cX10_setPage 4 (some .boolean) :: lw_G) (zr 7 20 200) 20 200 (PX D kc) (GXe D kc ad) (GXe D kc ad) [.ref (ad 0), .int v1, .int v2] q (fX10_setPage q v1 v2) := by
  refine Xi.of (cc := cX10_setPage) (maxL := 4) (ret := (some .boolean)) (by decide) rfl (Nat.le_of_ble_eq_true rfl) ?_
  intro p e s m args below meth c A S hr hlocks htab hA hK
  have hx := S.1
  have hb := S.2.1
  have hE : EV A s s.heap := hK.2
  have hK : va_K D vwCl (tysK kc) s := hK.1
  refine z_exw (fun wad => ?_)
  generalize hFe : fX10_setPage q v1 v2 = F
  have hF : F = fX10_setPage q v1 v2 := hFe.symm
  have b27 : ∀ (q : SS) (v3 : Int32), kX10_setPage_27 q v3 → F = fX10_setPage_27 q v3 → Z p l e (zr 7 20 200) s m args below meth c 1 6 (vx_MQ below (va_Qi (fun (x : Int32) (u : SS) => F = .inr (x, u)) (fun u t => (GXe D kc ad) A u t.heap) A) (vx_X (fun (u : Nat × SS) => F = .inl u) (fun E u t => E = exn u.1 ∧ (GXe D kc ad) A u.2 t.heap) A) args s 20 200 A) 4 A (ZG D vwCl (wX kc ad wad) (PLX wad) A) q 27 [(3, .int v3)] [] := by
    intro q v3 hok hF
    refine z_iload_n (j := 0) hx hb dX10_setPage_27 rfl rfl ?_
    have h28 := And.left hok
    have hok := And.right hok
    refine z_weak (G2 := GXe D kc ad A) (fun _ _ h => ⟨wad, h⟩) ?_
    refine z_widen (ce := 20) (sl := 200) (Nat.le_of_ble_eq_true rfl) (Nat.le_of_ble_eq_true rfl) ?_
    exact x_iret hx hb hlocks hr h28 hF dX10_setPage_28
  have b14 : ∀ (q : SS) (v1 : Int32) (v2 : Int32) (s0 : Int32), kX10_setPage_14 q v1 v2 s0 → F = fX10_setPage_14 q v1 v2 s0 → Z p l e (zr 7 20 200) s m args below meth c 1 6 (vx_MQ below (va_Qi (fun (x : Int32) (u : SS) => F = .inr (x, u)) (fun u t => (GXe D kc ad) A u t.heap) A) (vx_X (fun (u : Nat × SS) => F = .inl u) (fun E u t => E = exn u.1 ∧ (GXe D kc ad) A u.2 t.heap) A) args s 20 200 A) 4 A (ZG D vwCl (wX kc ad wad) (PLX wad) A) q 14 [(0, .ref (ad 0)), (1, .int v1), (2, .int v2)] [.int s0] := by
    intro q v1 v2 s0 hok hF
    refine z_istore_n (lv' := [(3, .int s0), (0, .ref (ad 0)), (1, .int v1), (2, .int v2)]) hx hb dX10_setPage_14 rfl (by decide) rfl ?_
    refine z_iload_n (j := 3) hx hb dX10_setPage_15 rfl rfl ?_
    refine z_if_eq (tgt := 27) hx hb dX10_setPage_16 (by decide) (fun g16 => ?_) (fun g16 => ?_)
    · have hF := hF.trans (if_pos g16)
      have hok := And.left hok g16
      refine z_sub [0] rfl ?_
      exact b27 q s0 hok hF
    · have hF := hF.trans (if_neg g16)
      have hok := And.right hok g16
      refine z_aload_n (j := 1) hx hb dX10_setPage_19 rfl rfl ?_
      refine z_get (v := .ref (ad 4)) S hK inX10 0 (fun _ => rfl) rfl 3 (by decide) q2_138 rfl rfl dX10_setPage_20 ?_
      refine z_iload_n (j := 2) hx hb dX10_setPage_23 rfl rfl ?_
      have h24 := And.left hok
      have hok := And.right hok
      refine z_callVv (As := [.int v1]) S (ctX6_pageCame l hl D kc ad wad q v1 h24) (cwV 1 S.2.2.2.2 (gV q4_239 q5_0 q5_1 q1_6 q5_2) rfl rfl rfl hX6_pageCame ⟨Nat.le_of_ble_eq_true rfl, Nat.le_of_ble_eq_true rfl⟩) hA (pbX D kc) (psX hK hE) (z_recv hK 4 (fun _ => rfl) rfl) rfl rfl (Nat.le_of_ble_eq_true rfl) dX10_setPage_24 ⟨Nat.le_of_ble_eq_true rfl, Nat.le_of_ble_eq_true rfl⟩ ?_
      refine z_sub [0] rfl ?_
      exact b27 (fX6_pageCame q v1) s0 hok hF
  refine z_iload_n (j := 1) hx hb dX10_setPage_0 rfl rfl ?_
  refine z_iconst (v := 4) hx hb dX10_setPage_1 (by decide) ?_
  have h2 := And.left hok
  have hok := And.right hok
  refine x_callSv (As := [.int v1, .int 4]) S (ctX10_requireIndex l hl D kc ad wad q v1 4 h2) (va_cwS 2 S.2.2.2.2 (gS q3_111 q3_112 q1_1 q3_113) rfl rfl rfl hX10_requireIndex ⟨Nat.le_of_ble_eq_true rfl, Nat.le_of_ble_eq_true rfl⟩) hA (pbX D kc) (psX hK hE) rfl rfl (Nat.le_of_ble_eq_true rfl) dX10_setPage_2 ⟨Nat.le_of_ble_eq_true rfl, Nat.le_of_ble_eq_true rfl⟩ (fun u2 g2 => ?_) (fun u g2 => x_out htab hlocks (hF.trans (xb_l g2)) (fun _ h => ⟨wad, h⟩) (Nat.le_of_ble_eq_true rfl) (Nat.le_of_ble_eq_true rfl))
  have hF := hF.trans (xb_r g2)
  have hok := hok u2 g2
  refine z_aload_n (j := 0) hx hb dX10_setPage_5 rfl rfl ?_
  refine z_get (v := .ref (ad 2)) S hK inX10 0 (fun _ => rfl) rfl 1 (by decide) q2_136 rfl rfl dX10_setPage_6 ?_
  refine z_iload_n (j := 1) hx hb dX10_setPage_9 rfl rfl ?_
  refine z_iload_n (j := 2) hx hb dX10_setPage_10 rfl rfl ?_
  have h11 := And.left hok
  have hok := And.right hok
  refine z_callVi (As := [.int v1, .int v2]) S (ctX5_replacePage l hl D kc ad wad u2 v1 v2 h11) (cwV 2 S.2.2.2.2 (gV q4_235 q4_236 q4_237 q1_4 q4_238) rfl rfl rfl hX5_replacePage ⟨Nat.le_of_ble_eq_true rfl, Nat.le_of_ble_eq_true rfl⟩) hA (pbX D kc) (psX hK hE) (z_recv hK 2 (fun _ => rfl) rfl) rfl rfl (Nat.le_of_ble_eq_true rfl) dX10_setPage_11 ⟨Nat.le_of_ble_eq_true rfl, Nat.le_of_ble_eq_true rfl⟩ ?_
  exact b14 (fX5_replacePage u2 v1 v2).2 v1 v2 (fX5_replacePage u2 v1 v2).1 hok hF
theorem hX10_setPage : yX10_setPage.cls = RX10 ∧ yX10_setPage.cls ≠ "java/lang/invoke/MethodHandle" ∧ yX10_setPage.cls ≠ "java/lang/invoke/VarHandle" ∧ (parseMethodDescriptor yX10_setPage.desc).map (fun d => d.parameters.length) = some 2 := by decide +kernel
def fX10_setWait (q : SS) (v1 : Int32) : (Nat × SS) ⊕ (Int32 × SS) := (xb (fX10_requireNumber q v1 0 9) (fun u4 => (.inr ((gI u4 516), (sI u4 516 v1)))))
def kX10_setWait (q : SS) (v1 : Int32) : Prop := kX10_requireNumber q v1 0 9 ∧ (∀ u4, (fX10_requireNumber q v1 0 9) = .inr u4 → True)
set_option maxHeartbeats 4000000 in
set_option maxRecDepth 100000 in
theorem ctX10_setWait (l : Launch) (hl : l.stackTraces = false) (D : va_G) (kc : Nat → ClassId) (ad : Nat → Nat) (q : SS) (v1 : Int32) (hok : kX10_setWait q v1) : Xi l yX10_setWait (Cond.code yX10_setWait cX10_setWait 3 (some .int) :: lw_G) (zr 7 20 200) 20 200 (PX D kc) (GXe D kc ad) (GXe D kc ad) [.ref (ad 0), .int v1] q (fX10_setWait q v1) := by
  refine Xi.of (cc := cX10_setWait) (maxL := 3) (ret := (some .int)) (by decide) rfl (Nat.le_of_ble_eq_true rfl) ?_
  intro p e s m args below meth c A S hr hlocks htab hA hK
  have hx := S.1
  have hb := S.2.1
  have hE : EV A s s.heap := hK.2
  have hK : va_K D vwCl (tysK kc) s := hK.1
  refine z_exw (fun wad => ?_)
  generalize hFe : fX10_setWait q v1 = F
  have hF : F = fX10_setWait q v1 := hFe.symm
  refine z_iload_n (j := 1) hx hb dX10_setWait_0 rfl rfl ?_
  refine z_iconst (v := 0) hx hb dX10_setWait_1 (by decide) ?_
  refine z_bipush (v := 9) hx hb dX10_setWait_2 (by decide) ?_
  have h4 := And.left hok
  have hok := And.right hok
  refine x_callSv (As := [.int v1, .int 0, .int 9]) S (ctX10_requireNumber l hl D kc ad wad q v1 0 9 h4) (va_cwS 3 S.2.2.2.2 (gS q3_128 q3_129 q1_1 q3_130) rfl rfl rfl hX10_requireNumber ⟨Nat.le_of_ble_eq_true rfl, Nat.le_of_ble_eq_true rfl⟩) hA (pbX D kc) (psX hK hE) rfl rfl (Nat.le_of_ble_eq_true rfl) dX10_setWait_4 ⟨Nat.le_of_ble_eq_true rfl, Nat.le_of_ble_eq_true rfl⟩ (fun u4 g4 => ?_) (fun u g4 => x_out htab hlocks (hF.trans (xb_l g4)) (fun _ h => ⟨wad, h⟩) (Nat.le_of_ble_eq_true rfl) (Nat.le_of_ble_eq_true rfl))
  have hF := hF.trans (xb_r g4)
  have hok := hok u4 g4
  refine z_aload_n (j := 0) hx hb dX10_setWait_7 rfl rfl ?_
  refine z_get (v := .ref (ad 4)) S hK inX10 0 (fun _ => rfl) rfl 3 (by decide) q2_138 rfl rfl dX10_setWait_8 ?_
  refine z_get (v := .int (gI u4 516)) S hK inX6 4 (fun _ => rfl) rfl 16 (by decide) q2_64 rfl rfl dX10_setWait_11 ?_
  refine z_istore_n (lv' := [(2, .int (gI u4 516)), (0, .ref (ad 0)), (1, .int v1)]) hx hb dX10_setWait_14 rfl (by decide) rfl ?_
  refine z_aload_n (j := 1) hx hb dX10_setWait_15 rfl rfl ?_
  refine z_get (v := .ref (ad 4)) S hK inX10 0 (fun _ => rfl) rfl 3 (by decide) q2_138 rfl rfl dX10_setWait_16 ?_
  refine z_iload_n (j := 2) hx hb dX10_setWait_19 rfl rfl ?_
  refine z_put (v := .int v1) (q' := (sI u4 516 v1)) S hK inX6 tyX6 tyX6_ok nmX6 4 (fun _ => rfl) rfl 16 (by decide) q2_64 rfl rfl rfl rfl (Nat.le_of_ble_eq_true rfl) dX10_setWait_20 (wXp516 kc ad wad _ _) (fun _ h => h) ?_
  refine z_iload_n (j := 0) hx hb dX10_setWait_23 rfl rfl ?_
  refine z_weak (G2 := GXe D kc ad A) (fun _ _ h => ⟨wad, h⟩) ?_
  refine z_widen (ce := 20) (sl := 200) (Nat.le_of_ble_eq_true rfl) (Nat.le_of_ble_eq_true rfl) ?_
  exact x_iret hx hb hlocks hr rfl hF dX10_setWait_24
theorem hX10_setWait : yX10_setWait.cls = RX10 ∧ yX10_setWait.cls ≠ "java/lang/invoke/MethodHandle" ∧ yX10_setWait.cls ≠ "java/lang/invoke/VarHandle" ∧ (parseMethodDescriptor yX10_setWait.desc).map (fun d => d.parameters.length) = some 1 := by decide +kernel
def fX10_setVector (q : SS) (v1 : Int32) : (Nat × SS) ⊕ (Int32 × SS) := (xb (fX10_requireNumber q v1 0 63) (fun u4 => (.inr ((gI u4 515), (sI u4 515 v1)))))
def kX10_setVector (q : SS) (v1 : Int32) : Prop := kX10_requireNumber q v1 0 63 ∧ (∀ u4, (fX10_requireNumber q v1 0 63) = .inr u4 → True)
set_option maxHeartbeats 4000000 in
set_option maxRecDepth 100000 in
theorem ctX10_setVector (l : Launch) (hl : l.stackTraces = false) (D : va_G) (kc : Nat → ClassId) (ad : Nat → Nat) (q : SS) (v1 : Int32) (hok : kX10_setVector q v1) : Xi l yX10_setVector (Cond.code yX10_setVector cX10_setVector 3 (some .int) :: lw_G) (zr 7 20 200) 20 200 (PX D kc) (GXe D kc ad) (GXe D kc ad) [.ref (ad 0), .int v1] q (fX10_setVector q v1) := by
  refine Xi.of (cc := cX10_setVector) (maxL := 3) (ret := (some .int)) (by decide) rfl (Nat.le_of_ble_eq_true rfl) ?_
  intro p e s m args below meth c A S hr hlocks htab hA hK
  have hx := S.1
  have hb := S.2.1
  have hE : EV A s s.heap := hK.2
  have hK : va_K D vwCl (tysK kc) s := hK.1
  refine z_exw (fun wad => ?_)
  generalize hFe : fX10_setVector q v1 = F
  have hF : F = fX10_setVector q v1 := hFe.symm
  refine z_iload_n (j := 1) hx hb dX10_setVector_0 rfl rfl ?_
  refine z_iconst (v := 0) hx hb dX10_setVector_1 (by decide) ?_
  refine z_bipush (v := 63) hx hb dX10_setVector_2 (by decide) ?_
  have h4 := And.left hok
  have hok := And.right hok
  refine x_callSv (As := [.int v1, .int 0, .int 63]) S (ctX10_requireNumber l hl D kc ad wad q v1 0 63 h4) (va_cwS 3 S.2.2.2.2 (gS q3_128 q3_129 q1_1 q3_130) rfl rfl rfl hX10_requireNumber ⟨Nat.le_of_ble_eq_true rfl, Nat.le_of_ble_eq_true rfl⟩) hA (pbX D kc) (psX hK hE) rfl rfl (Nat.le_of_ble_eq_true rfl) dX10_setVector_4 ⟨Nat.le_of_ble_eq_true rfl, Nat.le_of_ble_eq_true rfl⟩ (fun u4 g4 => ?_) (fun u g4 => x_out htab hlocks (hF.trans (xb_l g4)) (fun _ h => ⟨wad, h⟩) (Nat.le_of_ble_eq_true rfl) (Nat.le_of_ble_eq_true rfl))
  have hF := hF.trans (xb_r g4)
  have hok := hok u4 g4
  refine z_aload_n (j := 0) hx hb dX10_setVector_7 rfl rfl ?_
  refine z_get (v := .ref (ad 4)) S hK inX10 0 (fun _ => rfl) rfl 3 (by decide) q2_138 rfl rfl dX10_setVector_8 ?_
  refine z_get (v := .int (gI u4 515)) S hK inX6 4 (fun _ => rfl) rfl 15 (by decide) q2_62 rfl rfl dX10_setVector_11 ?_
  refine z_istore_n (lv' := [(2, .int (gI u4 515)), (0, .ref (ad 0)), (1, .int v1)]) hx hb dX10_setVector_14 rfl (by decide) rfl ?_
  refine z_aload_n (j := 1) hx hb dX10_setVector_15 rfl rfl ?_
  refine z_get (v := .ref (ad 4)) S hK inX10 0 (fun _ => rfl) rfl 3 (by decide) q2_138 rfl rfl dX10_setVector_16 ?_
  refine z_iload_n (j := 2) hx hb dX10_setVector_19 rfl rfl ?_
  refine z_put (v := .int v1) (q' := (sI u4 515 v1)) S hK inX6 tyX6 tyX6_ok nmX6 4 (fun _ => rfl) rfl 15 (by decide) q2_62 rfl rfl rfl rfl (Nat.le_of_ble_eq_true rfl) dX10_setVector_20 (wXp515 kc ad wad _ _) (fun _ h => h) ?_
  refine z_iload_n (j := 0) hx hb dX10_setVector_23 rfl rfl ?_
  refine z_weak (G2 := GXe D kc ad A) (fun _ _ h => ⟨wad, h⟩) ?_
  refine z_widen (ce := 20) (sl := 200) (Nat.le_of_ble_eq_true rfl) (Nat.le_of_ble_eq_true rfl) ?_
  exact x_iret hx hb hlocks hr rfl hF dX10_setVector_24
theorem hX10_setVector : yX10_setVector.cls = RX10 ∧ yX10_setVector.cls ≠ "java/lang/invoke/MethodHandle" ∧ yX10_setVector.cls ≠ "java/lang/invoke/VarHandle" ∧ (parseMethodDescriptor yX10_setVector.desc).map (fun d => d.parameters.length) = some 1 := by decide +kernel
def fX10_cell (q : SS) (v1 : Int32) : (Nat × SS) ⊕ (Int32 × SS) := (xb (fX10_requireIndex q v1 64) (fun u3 => (.inr ((fX5_at u3 v1).1, (fX5_at u3 v1).2))))
def kX10_cell (q : SS) (v1 : Int32) : Prop := kX10_requireIndex q v1 64 ∧ (∀ u3, (fX10_requireIndex q v1 64) = .inr u3 → kX5_at u3 v1 ∧ True)
set_option maxHeartbeats 4000000 in
set_option maxRecDepth 100000 in
theorem ctX10_cell (l : Launch) (hl : l.stackTraces = false) (D : va_G) (kc : Nat → ClassId) (ad : Nat → Nat) (q : SS) (v1 : Int32) (hok : kX10_cell q v1) : Xi l yX10_cell (Cond.code yX10_cell cX10_cell 2 (some .int) :: lw_G) (zr 7 20 200) 20 200 (PX D kc) (GXe D kc ad) (GXe D kc ad) [.ref (ad 0), .int v1] q (fX10_cell q v1) := by
  refine Xi.of (cc := cX10_cell) (maxL := 2) (ret := (some .int)) (by decide) rfl (Nat.le_of_ble_eq_true rfl) ?_
  intro p e s m args below meth c A S hr hlocks htab hA hK
  have hx := S.1
  have hb := S.2.1
  have hE : EV A s s.heap := hK.2
  have hK : va_K D vwCl (tysK kc) s := hK.1
  refine z_exw (fun wad => ?_)
  generalize hFe : fX10_cell q v1 = F
  have hF : F = fX10_cell q v1 := hFe.symm
  refine z_iload_n (j := 1) hx hb dX10_cell_0 rfl rfl ?_
  refine z_bipush (v := 64) hx hb dX10_cell_1 (by decide) ?_
  have h3 := And.left hok
  have hok := And.right hok
  refine x_callSv (As := [.int v1, .int 64]) S (ctX10_requireIndex l hl D kc ad wad q v1 64 h3) (va_cwS 2 S.2.2.2.2 (gS q3_111 q3_112 q1_1 q3_113) rfl rfl rfl hX10_requireIndex ⟨Nat.le_of_ble_eq_true rfl, Nat.le_of_ble_eq_true rfl⟩) hA (pbX D kc) (psX hK hE) rfl rfl (Nat.le_of_ble_eq_true rfl) dX10_cell_3 ⟨Nat.le_of_ble_eq_true rfl, Nat.le_of_ble_eq_true rfl⟩ (fun u3 g3 => ?_) (fun u g3 => x_out htab hlocks (hF.trans (xb_l g3)) (fun _ h => ⟨wad, h⟩) (Nat.le_of_ble_eq_true rfl) (Nat.le_of_ble_eq_true rfl))
  have hF := hF.trans (xb_r g3)
  have hok := hok u3 g3
  refine z_aload_n (j := 0) hx hb dX10_cell_6 rfl rfl ?_
  refine z_get (v := .ref (ad 2)) S hK inX10 0 (fun _ => rfl) rfl 1 (by decide) q2_136 rfl rfl dX10_cell_7 ?_
  refine z_iload_n (j := 1) hx hb dX10_cell_10 rfl rfl ?_
  have h11 := And.left hok
  have hok := And.right hok
  refine z_callVi (As := [.int v1]) S (ctX5_at l hl D kc ad wad u3 v1 h11) (cwV 1 S.2.2.2.2 (gV q5_206 q5_85 q5_86 q1_4 q5_87) rfl rfl rfl hX5_at ⟨Nat.le_of_ble_eq_true rfl, Nat.le_of_ble_eq_true rfl⟩) hA (pbX D kc) (psX hK hE) (z_recv hK 2 (fun _ => rfl) rfl) rfl rfl (Nat.le_of_ble_eq_true rfl) dX10_cell_11 ⟨Nat.le_of_ble_eq_true rfl, Nat.le_of_ble_eq_true rfl⟩ ?_
  refine z_weak (G2 := GXe D kc ad A) (fun _ _ h => ⟨wad, h⟩) ?_
  refine z_widen (ce := 20) (sl := 200) (Nat.le_of_ble_eq_true rfl) (Nat.le_of_ble_eq_true rfl) ?_
  exact x_iret hx hb hlocks hr rfl hF dX10_cell_14
theorem hX10_cell : yX10_cell.cls = RX10 ∧ yX10_cell.cls ≠ "java/lang/invoke/MethodHandle" ∧ yX10_cell.cls ≠ "java/lang/invoke/VarHandle" ∧ (parseMethodDescriptor yX10_cell.desc).map (fun d => d.parameters.length) = some 1 := by decide +kernel
def fX10_register (q : SS) (v1 : Int32) : (Nat × SS) ⊕ (Int32 × SS) := (xb (fX10_requireIndex q v1 4) (fun u2 => (.inr (((gA u2 25) (v1 : Int32).toNatClampNeg), u2))))
def kX10_register (q : SS) (v1 : Int32) : Prop := kX10_requireIndex q v1 4 ∧ (∀ u2, (fX10_requireIndex q v1 4) = .inr u2 → vp_in v1 4 ∧ True)
set_option maxHeartbeats 4000000 in
set_option maxRecDepth 100000 in
theorem ctX10_register (l : Launch) (hl : l.stackTraces = false) (D : va_G) (kc : Nat → ClassId) (ad : Nat → Nat) (q : SS) (v1 : Int32) (hok : kX10_register q v1) : Xi l yX10_register (Cond.code yX10_register cX10_register 2 (some .int) :: lw_G) (zr 7 20 200) 20 200 (PX D kc) (GXe D kc ad) (GXe D kc ad) [.ref (ad 0), .int v1] q (fX10_register q v1) := by
  refine Xi.of (cc := cX10_register) (maxL := 2) (ret := (some .int)) (by decide) rfl (Nat.le_of_ble_eq_true rfl) ?_
  intro p e s m args below meth c A S hr hlocks htab hA hK
  have hx := S.1
  have hb := S.2.1
  have hE : EV A s s.heap := hK.2
  have hK : va_K D vwCl (tysK kc) s := hK.1
  refine z_exw (fun wad => ?_)
  generalize hFe : fX10_register q v1 = F
  have hF : F = fX10_register q v1 := hFe.symm
  refine z_iload_n (j := 1) hx hb dX10_register_0 rfl rfl ?_
  refine z_iconst (v := 4) hx hb dX10_register_1 (by decide) ?_
  have h2 := And.left hok
  have hok := And.right hok
  refine x_callSv (As := [.int v1, .int 4]) S (ctX10_requireIndex l hl D kc ad wad q v1 4 h2) (va_cwS 2 S.2.2.2.2 (gS q3_111 q3_112 q1_1 q3_113) rfl rfl rfl hX10_requireIndex ⟨Nat.le_of_ble_eq_true rfl, Nat.le_of_ble_eq_true rfl⟩) hA (pbX D kc) (psX hK hE) rfl rfl (Nat.le_of_ble_eq_true rfl) dX10_register_2 ⟨Nat.le_of_ble_eq_true rfl, Nat.le_of_ble_eq_true rfl⟩ (fun u2 g2 => ?_) (fun u g2 => x_out htab hlocks (hF.trans (xb_l g2)) (fun _ h => ⟨wad, h⟩) (Nat.le_of_ble_eq_true rfl) (Nat.le_of_ble_eq_true rfl))
  have hF := hF.trans (xb_r g2)
  have hok := hok u2 g2
  refine z_aload_n (j := 0) hx hb dX10_register_5 rfl rfl ?_
  refine z_get (v := .ref (ad 4)) S hK inX10 0 (fun _ => rfl) rfl 3 (by decide) q2_138 rfl rfl dX10_register_6 ?_
  refine z_get (v := .ref (ad 6)) S hK inX6 4 (fun _ => rfl) rfl 3 (by decide) q2_44 rfl rfl dX10_register_9 ?_
  refine z_get (v := .ref (ad 25)) S hK inX8 6 (fun _ => rfl) rfl 0 (by decide) q1_163 rfl rfl dX10_register_12 ?_
  refine z_iload_n (j := 1) hx hb dX10_register_15 rfl rfl ?_
  have h16 := And.left hok
  have hok := And.right hok
  refine z_iald (f := (gA u2 25)) S hK 25 0 (fun _ => rfl) rfl h16 dX10_register_16 ?_
  refine z_weak (G2 := GXe D kc ad A) (fun _ _ h => ⟨wad, h⟩) ?_
  refine z_widen (ce := 20) (sl := 200) (Nat.le_of_ble_eq_true rfl) (Nat.le_of_ble_eq_true rfl) ?_
  exact x_iret hx hb hlocks hr rfl hF dX10_register_17
theorem hX10_register : yX10_register.cls = RX10 ∧ yX10_register.cls ≠ "java/lang/invoke/MethodHandle" ∧ yX10_register.cls ≠ "java/lang/invoke/VarHandle" ∧ (parseMethodDescriptor yX10_register.desc).map (fun d => d.parameters.length) = some 1 := by decide +kernel
def fX10_part_6 (q : SS) (v1 : Int32) (s0 : Int32) : (Nat × SS) ⊕ (Int32 × SS) := (if 0 ≤ s0 then (.inr ((fX6_valueOf q v1).1, (fX6_valueOf q v1).2)) else (.inl (1, q)))
def kX10_part_6 (q : SS) (v1 : Int32) (s0 : Int32) : Prop := ((0 ≤ s0 → kX6_valueOf q v1 ∧ True) ∧ (¬ 0 ≤ s0 → True))
def fX10_part (q : SS) (v1 : Int32) : (Nat × SS) ⊕ (Int32 × SS) := fX10_part_6 (fJ0_indexOf_0f7a4_t2 q v1).2 v1 (fJ0_indexOf_0f7a4_t2 q v1).1
def kX10_part (q : SS) (v1 : Int32) : Prop := kJ0_indexOf_0f7a4_t2 q v1 ∧ kX10_part_6 (fJ0_indexOf_0f7a4_t2 q v1).2 v1 (fJ0_indexOf_0f7a4_t2 q v1).1
set_option maxHeartbeats 4000000 in
set_option maxRecDepth 100000 in
theorem ctX10_part (l : Launch) (hl : l.stackTraces = false) (D : va_G) (kc : Nat → ClassId) (ad : Nat → Nat) (q : SS) (v1 : Int32) (hok : kX10_part q v1) : Xi l yX10_part (Cond.code yX10_part cX10_part 2 (some .int) :: lw_G) (zr 6 20 200) 20 200 (PX D kc) (GXe D kc ad) (GXe D kc ad) [.ref (ad 0), .int v1] q (fX10_part q v1) := by
  refine Xi.of (cc := cX10_part) (maxL := 2) (ret := (some .int)) (by decide) rfl (Nat.le_of_ble_eq_true rfl) ?_
  intro p e s m args below meth c A S hr hlocks htab hA hK
  have hx := S.1
  have hb := S.2.1
  have hE : EV A s s.heap := hK.2
  have hK : va_K D vwCl (tysK kc) s := hK.1
  obtain ⟨⟨adK, adV, hS4, hr0, hr1, hr2, hr3⟩, -⟩ := id hE
  refine z_exw (fun wad => ?_)
  generalize hFe : fX10_part q v1 = F
  have hF : F = fX10_part q v1 := hFe.symm
  have b6 : ∀ (q : SS) (v1 : Int32) (s0 : Int32), kX10_part_6 q v1 s0 → F = fX10_part_6 q v1 s0 → Z p l e (zr 6 20 200) s m args below meth c 0 0 (vx_MQ below (va_Qi (fun (x : Int32) (u : SS) => F = .inr (x, u)) (fun u t => (GXe D kc ad) A u t.heap) A) (vx_X (fun (u : Nat × SS) => F = .inl u) (fun E u t => E = exn u.1 ∧ (GXe D kc ad) A u.2 t.heap) A) args s 20 200 A) 2 A (ZG D vwCl (wX kc ad wad) (PLX wad) A) q 6 [(0, .ref (ad 0)), (1, .int v1)] [.int s0] := by
    intro q v1 s0 hok hF
    refine z_if_ge (tgt := 19) hx hb dX10_part_6 (by decide) (fun g6 => ?_) (fun g6 => ?_)
    · have hF := hF.trans (if_pos g6)
      have hok := And.left hok g6
      refine z_aload_n (j := 0) hx hb dX10_part_19 rfl rfl ?_
      refine z_get (v := .ref (ad 4)) S hK inX10 0 (fun _ => rfl) rfl 3 (by decide) q2_138 rfl rfl dX10_part_20 ?_
      refine z_iload_n (j := 1) hx hb dX10_part_23 rfl rfl ?_
      have h24 := And.left hok
      have hok := And.right hok
      refine z_callVi (As := [.int v1]) S (ctX6_valueOf l hl D kc ad wad q v1 h24) (cwV 1 S.2.2.2.2 (gV q5_223 q5_224 q5_225 q1_6 q5_226) rfl rfl rfl hX6_valueOf ⟨Nat.le_of_ble_eq_true rfl, Nat.le_of_ble_eq_true rfl⟩) hA (pbX D kc) (psX hK hE) (z_recv hK 4 (fun _ => rfl) rfl) rfl rfl (Nat.le_of_ble_eq_true rfl) dX10_part_24 ⟨Nat.le_of_ble_eq_true rfl, Nat.le_of_ble_eq_true rfl⟩ ?_
      refine z_weak (G2 := GXe D kc ad A) (fun _ _ h => ⟨wad, h⟩) ?_
      refine z_widen (ce := 20) (sl := 200) (Nat.le_of_ble_eq_true rfl) (Nat.le_of_ble_eq_true rfl) ?_
      exact x_iret hx hb hlocks hr rfl hF dX10_part_27
    · have hF := hF.trans (if_neg g6)
      have hok := And.right hok g6
      exact x_throw (k := 1) (ic := 132) (names := ["java/lang/RuntimeException", "java/lang/Exception"]) (text := "there is no such part") S hl htab hlocks hE (KG.x D kc ad wad) (fun _ h => ⟨wad, h⟩) hF (by decide +kernel) (by decide +kernel) q3_131 q1_19 (List.mem_of_getElem? (i := 8) rfl) xt_1 (List.forall_mem_cons.mpr ⟨rfl, List.forall_mem_cons.mpr ⟨rfl, xo_1⟩⟩) dX10_part_9 dX10_part_12 dX10_part_13 dX10_part_15 dX10_part_18 (Nat.le_of_ble_eq_true rfl) (Nat.le_of_ble_eq_true rfl) (Nat.le_of_ble_eq_true rfl) (Nat.le_of_ble_eq_true rfl) (Nat.le_of_ble_eq_true rfl) (Nat.le_of_ble_eq_true rfl)
  refine z_ldcS hx hb S.2.2.2.1 hr2 dX10_part_0 ?_
  refine z_iload_n (j := 1) hx hb dX10_part_2 rfl rfl ?_
  have h3 := And.left hok
  have hok := And.right hok
  refine z_callVi_ (As := [.int v1]) S (ctJ0_indexOf_0f7a4_t2 l (GX D kc ad wad) (adK 2) (adV 2) q v1 h3) (cwV 1 S.2.2.2.2 (gV q3_151 q3_152 q3_153 q1_18 q3_154) rfl rfl rfl hJ0_indexOf_0f7a4 ⟨Nat.le_of_ble_eq_true rfl, Nat.le_of_ble_eq_true rfl⟩) hA (pbJ (adK 2) (adV 2) 2) (psJ (PJ.of hS4 (by decide) hE.2.2.1)) (rvJ (hS4.1 2 (by decide)).1) rfl rfl (Nat.le_of_ble_eq_true rfl) dX10_part_3 ⟨Nat.le_of_ble_eq_true rfl, Nat.le_of_ble_eq_true rfl⟩ ?_
  exact b6 (fJ0_indexOf_0f7a4_t2 q v1).2 v1 (fJ0_indexOf_0f7a4_t2 q v1).1 hok hF
theorem hX10_part : yX10_part.cls = RX10 ∧ yX10_part.cls ≠ "java/lang/invoke/MethodHandle" ∧ yX10_part.cls ≠ "java/lang/invoke/VarHandle" ∧ (parseMethodDescriptor yX10_part.desc).map (fun d => d.parameters.length) = some 1 := by decide +kernel
def fX10_unset_14 (q : SS) : (Nat × SS) ⊕ (Int32 × SS) := (.inr ((gI q 604), q))
def kX10_unset_14 (q : SS) : Prop := True
def fX10_unset (q : SS) (v1 : Int32) : (Nat × SS) ⊕ (Int32 × SS) := (xb (fX10_requireIndex q v1 80) (fun u3 => fX10_unset_14 (fX0_goAllWays u3 v1)))
def kX10_unset (q : SS) (v1 : Int32) : Prop := kX10_requireIndex q v1 80 ∧ (∀ u3, (fX10_requireIndex q v1 80) = .inr u3 → kX0_goAllWays u3 v1 ∧ kX10_unset_14 (fX0_goAllWays u3 v1))
set_option maxHeartbeats 4000000 in
set_option maxRecDepth 100000 in
theorem ctX10_unset (l : Launch) (hl : l.stackTraces = false) (D : va_G) (kc : Nat → ClassId) (ad : Nat → Nat) (q : SS) (v1 : Int32) (hok : kX10_unset q v1) : Xi l yX10_unset (Cond.code yX10_unset cX10_unset 2 (some .int) :: lw_G) (zr 7 20 200) 20 200 (PX D kc) (GXe D kc ad) (GXe D kc ad) [.ref (ad 0), .int v1] q (fX10_unset q v1) := by
  refine Xi.of (cc := cX10_unset) (maxL := 2) (ret := (some .int)) (by decide) rfl (Nat.le_of_ble_eq_true rfl) ?_
  intro p e s m args below meth c A S hr hlocks htab hA hK
  have hx := S.1
  have hb := S.2.1
  have hE : EV A s s.heap := hK.2
  have hK : va_K D vwCl (tysK kc) s := hK.1
  refine z_exw (fun wad => ?_)
  generalize hFe : fX10_unset q v1 = F
  have hF : F = fX10_unset q v1 := hFe.symm
  have b14 : ∀ (q : SS), kX10_unset_14 q → F = fX10_unset_14 q → Z p l e (zr 7 20 200) s m args below meth c 1 6 (vx_MQ below (va_Qi (fun (x : Int32) (u : SS) => F = .inr (x, u)) (fun u t => (GXe D kc ad) A u t.heap) A) (vx_X (fun (u : Nat × SS) => F = .inl u) (fun E u t => E = exn u.1 ∧ (GXe D kc ad) A u.2 t.heap) A) args s 20 200 A) 2 A (ZG D vwCl (wX kc ad wad) (PLX wad) A) q 14 [(0, .ref (ad 0))] [] := by
    intro q hok hF
    refine z_aload_n (j := 0) hx hb dX10_unset_14 rfl rfl ?_
    refine z_get (v := .ref (ad 5)) S hK inX10 0 (fun _ => rfl) rfl 4 (by decide) q2_139 rfl rfl dX10_unset_15 ?_
    refine z_get (v := .int (gI q 604)) S hK inX0 5 (fun _ => rfl) rfl 4 (by decide) q2_119 rfl rfl dX10_unset_18 ?_
    refine z_weak (G2 := GXe D kc ad A) (fun _ _ h => ⟨wad, h⟩) ?_
    refine z_widen (ce := 20) (sl := 200) (Nat.le_of_ble_eq_true rfl) (Nat.le_of_ble_eq_true rfl) ?_
    exact x_iret hx hb hlocks hr rfl hF dX10_unset_21
  refine z_iload_n (j := 1) hx hb dX10_unset_0 rfl rfl ?_
  refine z_bipush (v := 80) hx hb dX10_unset_1 (by decide) ?_
  have h3 := And.left hok
  have hok := And.right hok
  refine x_callSv (As := [.int v1, .int 80]) S (ctX10_requireIndex l hl D kc ad wad q v1 80 h3) (va_cwS 2 S.2.2.2.2 (gS q3_111 q3_112 q1_1 q3_113) rfl rfl rfl hX10_requireIndex ⟨Nat.le_of_ble_eq_true rfl, Nat.le_of_ble_eq_true rfl⟩) hA (pbX D kc) (psX hK hE) rfl rfl (Nat.le_of_ble_eq_true rfl) dX10_unset_3 ⟨Nat.le_of_ble_eq_true rfl, Nat.le_of_ble_eq_true rfl⟩ (fun u3 g3 => ?_) (fun u g3 => x_out htab hlocks (hF.trans (xb_l g3)) (fun _ h => ⟨wad, h⟩) (Nat.le_of_ble_eq_true rfl) (Nat.le_of_ble_eq_true rfl))
  have hF := hF.trans (xb_r g3)
  have hok := hok u3 g3
  refine z_aload_n (j := 0) hx hb dX10_unset_6 rfl rfl ?_
  refine z_get (v := .ref (ad 5)) S hK inX10 0 (fun _ => rfl) rfl 4 (by decide) q2_139 rfl rfl dX10_unset_7 ?_
  refine z_iload_n (j := 1) hx hb dX10_unset_10 rfl rfl ?_
  have h11 := And.left hok
  have hok := And.right hok
  refine z_callVv (As := [.int v1]) S (ctX0_goAllWays l hl D kc ad wad u3 v1 h11) (cwV 1 S.2.2.2.2 (gV q5_238 q5_239 q6_0 q1_11 q6_1) rfl rfl rfl hX0_goAllWays ⟨Nat.le_of_ble_eq_true rfl, Nat.le_of_ble_eq_true rfl⟩) hA (pbX D kc) (psX hK hE) (z_recv hK 5 (fun _ => rfl) rfl) rfl rfl (Nat.le_of_ble_eq_true rfl) dX10_unset_11 ⟨Nat.le_of_ble_eq_true rfl, Nat.le_of_ble_eq_true rfl⟩ ?_
  refine z_sub [0] rfl ?_
  exact b14 (fX0_goAllWays u3 v1) hok hF
theorem hX10_unset : yX10_unset.cls = RX10 ∧ yX10_unset.cls ≠ "java/lang/invoke/MethodHandle" ∧ yX10_unset.cls ≠ "java/lang/invoke/VarHandle" ∧ (parseMethodDescriptor yX10_unset.desc).map (fun d => d.parameters.length) = some 1 := by decide +kernel
def fX10_reached_14 (q : SS) : (Nat × SS) ⊕ (Int32 × SS) := (.inr ((gI q 605), q))
def kX10_reached_14 (q : SS) : Prop := True
def fX10_reached (q : SS) (v1 : Int32) : (Nat × SS) ⊕ (Int32 × SS) := (xb (fX10_requireIndex q v1 80) (fun u3 => fX10_reached_14 (fX0_goAllWays u3 v1)))
def kX10_reached (q : SS) (v1 : Int32) : Prop := kX10_requireIndex q v1 80 ∧ (∀ u3, (fX10_requireIndex q v1 80) = .inr u3 → kX0_goAllWays u3 v1 ∧ kX10_reached_14 (fX0_goAllWays u3 v1))
set_option maxHeartbeats 4000000 in
set_option maxRecDepth 100000 in
theorem ctX10_reached (l : Launch) (hl : l.stackTraces = false) (D : va_G) (kc : Nat → ClassId) (ad : Nat → Nat) (q : SS) (v1 : Int32) (hok : kX10_reached q v1) : Xi l yX10_reached (Cond.code yX10_reached cX10_reached 2 (some .int) :: lw_G) (zr 7 20 200) 20 200 (PX D kc) (GXe D kc ad) (GXe D kc ad) [.ref (ad 0), .int v1] q (fX10_reached q v1) := by
  refine Xi.of (cc := cX10_reached) (maxL := 2) (ret := (some .int)) (by decide) rfl (Nat.le_of_ble_eq_true rfl) ?_
  intro p e s m args below meth c A S hr hlocks htab hA hK
  have hx := S.1
  have hb := S.2.1
  have hE : EV A s s.heap := hK.2
  have hK : va_K D vwCl (tysK kc) s := hK.1
  refine z_exw (fun wad => ?_)
  generalize hFe : fX10_reached q v1 = F
  have hF : F = fX10_reached q v1 := hFe.symm
  have b14 : ∀ (q : SS), kX10_reached_14 q → F = fX10_reached_14 q → Z p l e (zr 7 20 200) s m args below meth c 1 6 (vx_MQ below (va_Qi (fun (x : Int32) (u : SS) => F = .inr (x, u)) (fun u t => (GXe D kc ad) A u t.heap) A) (vx_X (fun (u : Nat × SS) => F = .inl u) (fun E u t => E = exn u.1 ∧ (GXe D kc ad) A u.2 t.heap) A) args s 20 200 A) 2 A (ZG D vwCl (wX kc ad wad) (PLX wad) A) q 14 [(0, .ref (ad 0))] [] := by
    intro q hok hF
    refine z_aload_n (j := 0) hx hb dX10_reached_14 rfl rfl ?_
    refine z_get (v := .ref (ad 5)) S hK inX10 0 (fun _ => rfl) rfl 4 (by decide) q2_139 rfl rfl dX10_reached_15 ?_
    refine z_get (v := .int (gI q 605)) S hK inX0 5 (fun _ => rfl) rfl 5 (by decide) q2_121 rfl rfl dX10_reached_18 ?_
    refine z_weak (G2 := GXe D kc ad A) (fun _ _ h => ⟨wad, h⟩) ?_
    refine z_widen (ce := 20) (sl := 200) (Nat.le_of_ble_eq_true rfl) (Nat.le_of_ble_eq_true rfl) ?_
    exact x_iret hx hb hlocks hr rfl hF dX10_reached_21
  refine z_iload_n (j := 1) hx hb dX10_reached_0 rfl rfl ?_
  refine z_bipush (v := 80) hx hb dX10_reached_1 (by decide) ?_
  have h3 := And.left hok
  have hok := And.right hok
  refine x_callSv (As := [.int v1, .int 80]) S (ctX10_requireIndex l hl D kc ad wad q v1 80 h3) (va_cwS 2 S.2.2.2.2 (gS q3_111 q3_112 q1_1 q3_113) rfl rfl rfl hX10_requireIndex ⟨Nat.le_of_ble_eq_true rfl, Nat.le_of_ble_eq_true rfl⟩) hA (pbX D kc) (psX hK hE) rfl rfl (Nat.le_of_ble_eq_true rfl) dX10_reached_3 ⟨Nat.le_of_ble_eq_true rfl, Nat.le_of_ble_eq_true rfl⟩ (fun u3 g3 => ?_) (fun u g3 => x_out htab hlocks (hF.trans (xb_l g3)) (fun _ h => ⟨wad, h⟩) (Nat.le_of_ble_eq_true rfl) (Nat.le_of_ble_eq_true rfl))
  have hF := hF.trans (xb_r g3)
  have hok := hok u3 g3
  refine z_aload_n (j := 0) hx hb dX10_reached_6 rfl rfl ?_
  refine z_get (v := .ref (ad 5)) S hK inX10 0 (fun _ => rfl) rfl 4 (by decide) q2_139 rfl rfl dX10_reached_7 ?_
  refine z_iload_n (j := 1) hx hb dX10_reached_10 rfl rfl ?_
  have h11 := And.left hok
  have hok := And.right hok
  refine z_callVv (As := [.int v1]) S (ctX0_goAllWays l hl D kc ad wad u3 v1 h11) (cwV 1 S.2.2.2.2 (gV q5_238 q5_239 q6_0 q1_11 q6_1) rfl rfl rfl hX0_goAllWays ⟨Nat.le_of_ble_eq_true rfl, Nat.le_of_ble_eq_true rfl⟩) hA (pbX D kc) (psX hK hE) (z_recv hK 5 (fun _ => rfl) rfl) rfl rfl (Nat.le_of_ble_eq_true rfl) dX10_reached_11 ⟨Nat.le_of_ble_eq_true rfl, Nat.le_of_ble_eq_true rfl⟩ ?_
  refine z_sub [0] rfl ?_
  exact b14 (fX0_goAllWays u3 v1) hok hF
theorem hX10_reached : yX10_reached.cls = RX10 ∧ yX10_reached.cls ≠ "java/lang/invoke/MethodHandle" ∧ yX10_reached.cls ≠ "java/lang/invoke/VarHandle" ∧ (parseMethodDescriptor yX10_reached.desc).map (fun d => d.parameters.length) = some 1 := by decide +kernel
def fX10_defined_27 (q : SS) (v1 : Int32) : (Nat × SS) ⊕ (Int32 × SS) := (if (gI q 1101) = 0 then (.inl (2, q)) else (.inr ((fX8_valueOf_after q v1).1, (fX8_valueOf_after q v1).2)))
def kX10_defined_27 (q : SS) (v1 : Int32) : Prop := (((gI q 1101) = 0 → True) ∧ (¬ (gI q 1101) = 0 → kX8_valueOf_after q v1 ∧ True))
def fX10_defined_7 (q : SS) (v1 : Int32) (s0 : Int32) : (Nat × SS) ⊕ (Int32 × SS) := (if 0 ≤ s0 then fX10_defined_27 (fX6_define q) v1 else (.inl (1, q)))
def kX10_defined_7 (q : SS) (v1 : Int32) (s0 : Int32) : Prop := ((0 ≤ s0 → kX6_define q ∧ kX10_defined_27 (fX6_define q) v1) ∧ (¬ 0 ≤ s0 → True))
def fX10_defined (q : SS) (v1 : Int32) : (Nat × SS) ⊕ (Int32 × SS) := fX10_defined_7 (fJ0_indexOf_0f7a4_t3 q v1).2 v1 (fJ0_indexOf_0f7a4_t3 q v1).1
def kX10_defined (q : SS) (v1 : Int32) : Prop := kJ0_indexOf_0f7a4_t3 q v1 ∧ kX10_defined_7 (fJ0_indexOf_0f7a4_t3 q v1).2 v1 (fJ0_indexOf_0f7a4_t3 q v1).1
set_option maxHeartbeats 4000000 in
set_option maxRecDepth 100000 in
theorem ctX10_defined (l : Launch) (hl : l.stackTraces = false) (D : va_G) (kc : Nat → ClassId) (ad : Nat → Nat) (q : SS) (v1 : Int32) (hok : kX10_defined q v1) : Xi l yX10_defined (Cond.code yX10_defined cX10_defined 3 (some .int) :: lw_G) (zr 6 20 200) 20 200 (PX D kc) (GXe D kc ad) (GXe D kc ad) [.ref (ad 0), .int v1] q (fX10_defined q v1) := by
  refine Xi.of (cc := cX10_defined) (maxL := 3) (ret := (some .int)) (by decide) rfl (Nat.le_of_ble_eq_true rfl) ?_
  intro p e s m args below meth c A S hr hlocks htab hA hK
  have hx := S.1
  have hb := S.2.1
  have hE : EV A s s.heap := hK.2
  have hK : va_K D vwCl (tysK kc) s := hK.1
  obtain ⟨⟨adK, adV, hS4, hr0, hr1, hr2, hr3⟩, -⟩ := id hE
  refine z_exw (fun wad => ?_)
  generalize hFe : fX10_defined q v1 = F
  have hF : F = fX10_defined q v1 := hFe.symm
  have b27 : ∀ (q : SS) (v1 : Int32), kX10_defined_27 q v1 → F = fX10_defined_27 q v1 → Z p l e (zr 6 20 200) s m args below meth c 0 0 (vx_MQ below (va_Qi (fun (x : Int32) (u : SS) => F = .inr (x, u)) (fun u t => (GXe D kc ad) A u t.heap) A) (vx_X (fun (u : Nat × SS) => F = .inl u) (fun E u t => E = exn u.1 ∧ (GXe D kc ad) A u.2 t.heap) A) args s 20 200 A) 3 A (ZG D vwCl (wX kc ad wad) (PLX wad) A) q 27 [(1, .int v1)] [.ref (ad 10)] := by
    intro q v1 hok hF
    refine z_astore_n (lv' := [(2, .ref (ad 10)), (1, .int v1)]) hx hb dX10_defined_27 rfl (by decide) rfl ?_
    refine z_aload_n (j := 0) hx hb dX10_defined_28 rfl rfl ?_
    refine z_get (v := .int (gI q 1101)) S hK inX2 10 (fun _ => rfl) rfl 1 (by decide) q2_17 rfl rfl dX10_defined_29 ?_
    refine z_if_ne (tgt := 46) hx hb dX10_defined_32 (by decide) (fun g32 => ?_) (fun g32 => ?_)
    · have hF := hF.trans (if_neg g32)
      have hok := And.right hok g32
      refine z_aload_n (j := 0) hx hb dX10_defined_46 rfl rfl ?_
      refine z_get (v := .ref (ad 11)) S hK inX2 10 (fun _ => rfl) rfl 0 (by decide) q2_14 rfl rfl dX10_defined_47 ?_
      refine z_iload_n (j := 1) hx hb dX10_defined_50 rfl rfl ?_
      have h51 := And.left hok
      have hok := And.right hok
      refine z_callVi (As := [.int v1]) S (ctX8_valueOf_after l hl D kc ad wad q v1 h51) (cwV 1 S.2.2.2.2 (gV q6_43 q5_228 q5_229 q1_7 q5_230) rfl rfl rfl hX8_valueOf ⟨Nat.le_of_ble_eq_true rfl, Nat.le_of_ble_eq_true rfl⟩) hA (pbX D kc) (psX hK hE) (z_recv hK 11 (fun _ => rfl) rfl) rfl rfl (Nat.le_of_ble_eq_true rfl) dX10_defined_51 ⟨Nat.le_of_ble_eq_true rfl, Nat.le_of_ble_eq_true rfl⟩ ?_
      refine z_weak (G2 := GXe D kc ad A) (fun _ _ h => ⟨wad, h⟩) ?_
      refine z_widen (ce := 20) (sl := 200) (Nat.le_of_ble_eq_true rfl) (Nat.le_of_ble_eq_true rfl) ?_
      exact x_iret hx hb hlocks hr rfl hF dX10_defined_54
    · have hF := hF.trans (if_pos g32)
      have hok := And.left hok g32
      exact x_throwW (k := 2) (ic := 68) (names := ["java/lang/RuntimeException", "java/lang/Exception"]) (text := "the instruction is undefined") S hl htab hlocks hE (KG.x D kc ad wad) (fun _ h => ⟨wad, h⟩) hF (by decide +kernel) (by decide +kernel) q4_1 q1_25 (List.mem_of_getElem? (i := 9) rfl) xt_2 (List.forall_mem_cons.mpr ⟨rfl, List.forall_mem_cons.mpr ⟨rfl, xo_2⟩⟩) dX10_defined_35 dX10_defined_38 dX10_defined_39 dX10_defined_42 dX10_defined_45 (Nat.le_of_ble_eq_true rfl) (Nat.le_of_ble_eq_true rfl) (Nat.le_of_ble_eq_true rfl) (Nat.le_of_ble_eq_true rfl) (Nat.le_of_ble_eq_true rfl) (Nat.le_of_ble_eq_true rfl)
  have b7 : ∀ (q : SS) (v1 : Int32) (s0 : Int32), kX10_defined_7 q v1 s0 → F = fX10_defined_7 q v1 s0 → Z p l e (zr 6 20 200) s m args below meth c 0 0 (vx_MQ below (va_Qi (fun (x : Int32) (u : SS) => F = .inr (x, u)) (fun u t => (GXe D kc ad) A u t.heap) A) (vx_X (fun (u : Nat × SS) => F = .inl u) (fun E u t => E = exn u.1 ∧ (GXe D kc ad) A u.2 t.heap) A) args s 20 200 A) 3 A (ZG D vwCl (wX kc ad wad) (PLX wad) A) q 7 [(0, .ref (ad 0)), (1, .int v1)] [.int s0] := by
    intro q v1 s0 hok hF
    refine z_if_ge (tgt := 20) hx hb dX10_defined_7 (by decide) (fun g7 => ?_) (fun g7 => ?_)
    · have hF := hF.trans (if_pos g7)
      have hok := And.left hok g7
      refine z_aload_n (j := 0) hx hb dX10_defined_20 rfl rfl ?_
      refine z_get (v := .ref (ad 4)) S hK inX10 0 (fun _ => rfl) rfl 3 (by decide) q2_138 rfl rfl dX10_defined_21 ?_
      have h24 := And.left hok
      have hok := And.right hok
      refine z_callVq (As := []) S (ctX6_define l hl D kc ad wad q h24) (cwV 0 S.2.2.2.2 (gV q6_41 q5_123 q5_124 q1_6 q5_125) rfl rfl rfl hX6_define ⟨Nat.le_of_ble_eq_true rfl, Nat.le_of_ble_eq_true rfl⟩) hA (pbX D kc) (psX hK hE) (z_recv hK 4 (fun _ => rfl) rfl) rfl rfl (Nat.le_of_ble_eq_true rfl) dX10_defined_24 ⟨Nat.le_of_ble_eq_true rfl, Nat.le_of_ble_eq_true rfl⟩ ?_
      refine z_sub [1] rfl ?_
      exact b27 (fX6_define q) v1 hok hF
    · have hF := hF.trans (if_neg g7)
      have hok := And.right hok g7
      exact x_throw (k := 1) (ic := 132) (names := ["java/lang/RuntimeException", "java/lang/Exception"]) (text := "there is no such part") S hl htab hlocks hE (KG.x D kc ad wad) (fun _ h => ⟨wad, h⟩) hF (by decide +kernel) (by decide +kernel) q3_131 q1_19 (List.mem_of_getElem? (i := 8) rfl) xt_1 (List.forall_mem_cons.mpr ⟨rfl, List.forall_mem_cons.mpr ⟨rfl, xo_1⟩⟩) dX10_defined_10 dX10_defined_13 dX10_defined_14 dX10_defined_16 dX10_defined_19 (Nat.le_of_ble_eq_true rfl) (Nat.le_of_ble_eq_true rfl) (Nat.le_of_ble_eq_true rfl) (Nat.le_of_ble_eq_true rfl) (Nat.le_of_ble_eq_true rfl) (Nat.le_of_ble_eq_true rfl)
  refine z_ldcSW hx hb S.2.2.2.1 hr3 dX10_defined_0 ?_
  refine z_iload_n (j := 1) hx hb dX10_defined_3 rfl rfl ?_
  have h4 := And.left hok
  have hok := And.right hok
  refine z_callVi_ (As := [.int v1]) S (ctJ0_indexOf_0f7a4_t3 l (GX D kc ad wad) (adK 3) (adV 3) q v1 h4) (cwV 1 S.2.2.2.2 (gV q3_151 q3_152 q3_153 q1_18 q3_154) rfl rfl rfl hJ0_indexOf_0f7a4 ⟨Nat.le_of_ble_eq_true rfl, Nat.le_of_ble_eq_true rfl⟩) hA (pbJ (adK 3) (adV 3) 3) (psJ (PJ.of hS4 (by decide) hE.2.2.1)) (rvJ (hS4.1 3 (by decide)).1) rfl rfl (Nat.le_of_ble_eq_true rfl) dX10_defined_4 ⟨Nat.le_of_ble_eq_true rfl, Nat.le_of_ble_eq_true rfl⟩ ?_
  exact b7 (fJ0_indexOf_0f7a4_t3 q v1).2 v1 (fJ0_indexOf_0f7a4_t3 q v1).1 hok hF
theorem hX10_defined : yX10_defined.cls = RX10 ∧ yX10_defined.cls ≠ "java/lang/invoke/MethodHandle" ∧ yX10_defined.cls ≠ "java/lang/invoke/VarHandle" ∧ (parseMethodDescriptor yX10_defined.desc).map (fun d => d.parameters.length) = some 1 := by decide +kernel
def fX10_firstWrong (q : SS) : (Nat × SS) ⊕ (Int32 × SS) := (if (gI q 402) = 0 then (.inl (3, q)) else (.inr ((gI q 403), q)))
def kX10_firstWrong (q : SS) : Prop := (((gI q 402) = 0 → True) ∧ (¬ (gI q 402) = 0 → True))
set_option maxHeartbeats 4000000 in
set_option maxRecDepth 100000 in
theorem ctX10_firstWrong (l : Launch) (hl : l.stackTraces = false) (D : va_G) (kc : Nat → ClassId) (ad : Nat → Nat) (q : SS) (hok : kX10_firstWrong q) : Xi l yX10_firstWrong (Cond.code yX10_firstWrong cX10_firstWrong 1 (some .int) :: lw_G) (zr 6 20 200) 20 200 (PX D kc) (GXe D kc ad) (GXe D kc ad) [.ref (ad 0)] q (fX10_firstWrong q) := by
  refine Xi.of (cc := cX10_firstWrong) (maxL := 1) (ret := (some .int)) (by decide) rfl (Nat.le_of_ble_eq_true rfl) ?_
  intro p e s m args below meth c A S hr hlocks htab hA hK
  have hx := S.1
  have hb := S.2.1
  have hE : EV A s s.heap := hK.2
  have hK : va_K D vwCl (tysK kc) s := hK.1
  refine z_exw (fun wad => ?_)
  generalize hFe : fX10_firstWrong q = F
  have hF : F = fX10_firstWrong q := hFe.symm
  refine z_aload_n (j := 0) hx hb dX10_firstWrong_0 rfl rfl ?_
  refine z_get (v := .ref (ad 3)) S hK inX10 0 (fun _ => rfl) rfl 2 (by decide) q2_137 rfl rfl dX10_firstWrong_1 ?_
  refine z_get (v := .int (gI q 402)) S hK inX1 3 (fun _ => rfl) rfl 2 (by decide) q1_110 rfl rfl dX10_firstWrong_4 ?_
  refine z_if_ne (tgt := 21) hx hb dX10_firstWrong_7 (by decide) (fun g7 => ?_) (fun g7 => ?_)
  · have hF := hF.trans (if_neg g7)
    have hok := And.right hok g7
    refine z_aload_n (j := 0) hx hb dX10_firstWrong_21 rfl rfl ?_
    refine z_get (v := .ref (ad 3)) S hK inX10 0 (fun _ => rfl) rfl 2 (by decide) q2_137 rfl rfl dX10_firstWrong_22 ?_
    refine z_get (v := .int (gI q 403)) S hK inX1 3 (fun _ => rfl) rfl 3 (by decide) q1_112 rfl rfl dX10_firstWrong_25 ?_
    refine z_weak (G2 := GXe D kc ad A) (fun _ _ h => ⟨wad, h⟩) ?_
    refine z_widen (ce := 20) (sl := 200) (Nat.le_of_ble_eq_true rfl) (Nat.le_of_ble_eq_true rfl) ?_
    exact x_iret hx hb hlocks hr rfl hF dX10_firstWrong_28
  · have hF := hF.trans (if_pos g7)
    have hok := And.left hok g7
    exact x_throwNW (k := 3) (ic := 121) (text := "no instruction was wrong") S hl htab hlocks hE (KG.x D kc ad wad) (fun _ h => ⟨wad, h⟩) hF rfl rfl q4_89 q1_27 (List.mem_of_getElem? (i := 10) rfl) xt_3 dX10_firstWrong_10 dX10_firstWrong_13 dX10_firstWrong_14 dX10_firstWrong_17 dX10_firstWrong_20 (Nat.le_of_ble_eq_true rfl) (Nat.le_of_ble_eq_true rfl) (Nat.le_of_ble_eq_true rfl) (Nat.le_of_ble_eq_true rfl) (Nat.le_of_ble_eq_true rfl) (Nat.le_of_ble_eq_true rfl)
theorem hX10_firstWrong : yX10_firstWrong.cls = RX10 ∧ yX10_firstWrong.cls ≠ "java/lang/invoke/MethodHandle" ∧ yX10_firstWrong.cls ≠ "java/lang/invoke/VarHandle" ∧ (parseMethodDescriptor yX10_firstWrong.desc).map (fun d => d.parameters.length) = some 0 := by decide +kernel
def fX10_cyclesOf (q : SS) (v1 : Int32) (v2 : Int32) : (Nat × SS) ⊕ (Int64 × SS) := (xb (fX10_requireIndex q v1 2) (fun u2 => (xb (fX10_requireIndex u2 v2 16) (fun u8 => (.inr (((gB u8 21) (((v1 * 16) + v2) : Int32).toNatClampNeg), u8))))))
def kX10_cyclesOf (q : SS) (v1 : Int32) (v2 : Int32) : Prop := kX10_requireIndex q v1 2 ∧ (∀ u2, (fX10_requireIndex q v1 2) = .inr u2 → kX10_requireIndex u2 v2 16 ∧ (∀ u8, (fX10_requireIndex u2 v2 16) = .inr u8 → vp_in ((v1 * 16) + v2) 32 ∧ True))
set_option maxHeartbeats 4000000 in
set_option maxRecDepth 100000 in
theorem ctX10_cyclesOf (l : Launch) (hl : l.stackTraces = false) (D : va_G) (kc : Nat → ClassId) (ad : Nat → Nat) (q : SS) (v1 : Int32) (v2 : Int32) (hok : kX10_cyclesOf q v1 v2) : Xl l yX10_cyclesOf (Cond.code yX10_cyclesOf cX10_cyclesOf 3 (some .long) :: lw_G) (zr 7 20 200) 20 200 (PX D kc) (GXe D kc ad) (GXe D kc ad) [.ref (ad 0), .int v1, .int v2] q (fX10_cyclesOf q v1 v2) := by
  refine Xl.of (cc := cX10_cyclesOf) (maxL := 3) (ret := (some .long)) (by decide) rfl (Nat.le_of_ble_eq_true rfl) ?_
  intro p e s m args below meth c A S hr hlocks htab hA hK
  have hx := S.1
  have hb := S.2.1
  have hE : EV A s s.heap := hK.2
  have hK : va_K D vwCl (tysK kc) s := hK.1
  refine z_exw (fun wad => ?_)
  generalize hFe : fX10_cyclesOf q v1 v2 = F
  have hF : F = fX10_cyclesOf q v1 v2 := hFe.symm
  refine z_iload_n (j := 1) hx hb dX10_cyclesOf_0 rfl rfl ?_
  refine z_iconst (v := 2) hx hb dX10_cyclesOf_1 (by decide) ?_
  have h2 := And.left hok
  have hok := And.right hok
  refine x_callSv (As := [.int v1, .int 2]) S (ctX10_requireIndex l hl D kc ad wad q v1 2 h2) (va_cwS 2 S.2.2.2.2 (gS q3_111 q3_112 q1_1 q3_113) rfl rfl rfl hX10_requireIndex ⟨Nat.le_of_ble_eq_true rfl, Nat.le_of_ble_eq_true rfl⟩) hA (pbX D kc) (psX hK hE) rfl rfl (Nat.le_of_ble_eq_true rfl) dX10_cyclesOf_2 ⟨Nat.le_of_ble_eq_true rfl, Nat.le_of_ble_eq_true rfl⟩ (fun u2 g2 => ?_) (fun u g2 => x_out htab hlocks (hF.trans (xb_l g2)) (fun _ h => ⟨wad, h⟩) (Nat.le_of_ble_eq_true rfl) (Nat.le_of_ble_eq_true rfl))
  have hF := hF.trans (xb_r g2)
  have hok := hok u2 g2
  refine z_iload_n (j := 2) hx hb dX10_cyclesOf_5 rfl rfl ?_
  refine z_bipush (v := 16) hx hb dX10_cyclesOf_6 (by decide) ?_
  have h8 := And.left hok
  have hok := And.right hok
  refine x_callSv (As := [.int v2, .int 16]) S (ctX10_requireIndex l hl D kc ad wad u2 v2 16 h8) (va_cwS 2 S.2.2.2.2 (gS q3_111 q3_112 q1_1 q3_113) rfl rfl rfl hX10_requireIndex ⟨Nat.le_of_ble_eq_true rfl, Nat.le_of_ble_eq_true rfl⟩) hA (pbX D kc) (psX hK hE) rfl rfl (Nat.le_of_ble_eq_true rfl) dX10_cyclesOf_8 ⟨Nat.le_of_ble_eq_true rfl, Nat.le_of_ble_eq_true rfl⟩ (fun u8 g8 => ?_) (fun u g8 => x_out htab hlocks (hF.trans (xb_l g8)) (fun _ h => ⟨wad, h⟩) (Nat.le_of_ble_eq_true rfl) (Nat.le_of_ble_eq_true rfl))
  have hF := hF.trans (xb_r g8)
  have hok := hok u8 g8
  refine z_aload_n (j := 0) hx hb dX10_cyclesOf_11 rfl rfl ?_
  refine z_get (v := .ref (ad 3)) S hK inX10 0 (fun _ => rfl) rfl 2 (by decide) q2_137 rfl rfl dX10_cyclesOf_12 ?_
  refine z_get (v := .ref (ad 21)) S hK inX1 3 (fun _ => rfl) rfl 0 (by decide) q1_106 rfl rfl dX10_cyclesOf_15 ?_
  refine z_iload_n (j := 1) hx hb dX10_cyclesOf_18 rfl rfl ?_
  refine z_bipush (v := 16) hx hb dX10_cyclesOf_19 (by decide) ?_
  refine z_imul hx hb dX10_cyclesOf_21 ?_
  refine z_iload_n (j := 2) hx hb dX10_cyclesOf_22 rfl rfl ?_
  refine z_iadd hx hb dX10_cyclesOf_23 ?_
  have h24 := And.left hok
  have hok := And.right hok
  refine z_lald (f := (gB u8 21)) S hK 21 2 (fun _ => rfl) rfl h24 dX10_cyclesOf_24 ?_
  refine z_weak (G2 := GXe D kc ad A) (fun _ _ h => ⟨wad, h⟩) ?_
  refine z_widen (ce := 20) (sl := 200) (Nat.le_of_ble_eq_true rfl) (Nat.le_of_ble_eq_true rfl) ?_
  exact x_lret hx hb hlocks hr hF dX10_cyclesOf_25
theorem hX10_cyclesOf : yX10_cyclesOf.cls = RX10 ∧ yX10_cyclesOf.cls ≠ "java/lang/invoke/MethodHandle" ∧ yX10_cyclesOf.cls ≠ "java/lang/invoke/VarHandle" ∧ (parseMethodDescriptor yX10_cyclesOf.desc).map (fun d => d.parameters.length) = some 2 := by decide +kernel
def fX10_usedShare (q : SS) : (Nat × SS) ⊕ (UInt32 × SS) := (if (lg_cmp (gL q 408) 0) = 0 then (.inl (5, q)) else (.inr ((FP.fdiv (FP.l2f (gL q 409)) (FP.l2f (gL q 408))), q)))
def kX10_usedShare (q : SS) : Prop := (((lg_cmp (gL q 408) 0) = 0 → True) ∧ (¬ (lg_cmp (gL q 408) 0) = 0 → vf_n32 (FP.fdiv (FP.l2f (gL q 409)) (FP.l2f (gL q 408))) ∧ True))
set_option maxHeartbeats 4000000 in
set_option maxRecDepth 100000 in
theorem ctX10_usedShare (l : Launch) (hl : l.stackTraces = false) (D : va_G) (kc : Nat → ClassId) (ad : Nat → Nat) (q : SS) (hok : kX10_usedShare q) : Xf l yX10_usedShare (Cond.code yX10_usedShare cX10_usedShare 1 (some .float) :: lw_G) (zr 6 20 200) 20 200 (PX D kc) (GXe D kc ad) (GXe D kc ad) [.ref (ad 0)] q (fX10_usedShare q) := by
  refine Xf.of (cc := cX10_usedShare) (maxL := 1) (ret := (some .float)) (by decide) rfl (Nat.le_of_ble_eq_true rfl) ?_
  intro p e s m args below meth c A S hr hlocks htab hA hK
  have hx := S.1
  have hb := S.2.1
  have hE : EV A s s.heap := hK.2
  have hK : va_K D vwCl (tysK kc) s := hK.1
  refine z_exw (fun wad => ?_)
  generalize hFe : fX10_usedShare q = F
  have hF : F = fX10_usedShare q := hFe.symm
  refine z_aload_n (j := 0) hx hb dX10_usedShare_0 rfl rfl ?_
  refine z_get (v := .ref (ad 3)) S hK inX10 0 (fun _ => rfl) rfl 2 (by decide) q2_137 rfl rfl dX10_usedShare_1 ?_
  refine z_get (v := .long (gL q 408)) S hK inX1 3 (fun _ => rfl) rfl 8 (by decide) q1_123 rfl rfl dX10_usedShare_4 ?_
  refine z_lconst (v := 0) hx hb dX10_usedShare_7 (by decide) ?_
  refine z_lcmp hx hb dX10_usedShare_8 ?_
  refine z_if_ne (tgt := 23) hx hb dX10_usedShare_9 (by decide) (fun g9 => ?_) (fun g9 => ?_)
  · have hF := hF.trans (if_neg g9)
    have hok := And.right hok g9
    refine z_aload_n (j := 0) hx hb dX10_usedShare_23 rfl rfl ?_
    refine z_get (v := .ref (ad 3)) S hK inX10 0 (fun _ => rfl) rfl 2 (by decide) q2_137 rfl rfl dX10_usedShare_24 ?_
    refine z_get (v := .long (gL q 409)) S hK inX1 3 (fun _ => rfl) rfl 9 (by decide) q1_125 rfl rfl dX10_usedShare_27 ?_
    refine z_l2f hx hb dX10_usedShare_30 ?_
    refine z_aload_n (j := 0) hx hb dX10_usedShare_31 rfl rfl ?_
    refine z_get (v := .ref (ad 3)) S hK inX10 0 (fun _ => rfl) rfl 2 (by decide) q2_137 rfl rfl dX10_usedShare_32 ?_
    refine z_get (v := .long (gL q 408)) S hK inX1 3 (fun _ => rfl) rfl 8 (by decide) q1_123 rfl rfl dX10_usedShare_35 ?_
    refine z_l2f hx hb dX10_usedShare_38 ?_
    have h39 := And.left hok
    have hok := And.right hok
    refine z_fdiv hx hb dX10_usedShare_39 h39 ?_
    refine z_weak (G2 := GXe D kc ad A) (fun _ _ h => ⟨wad, h⟩) ?_
    refine z_widen (ce := 20) (sl := 200) (Nat.le_of_ble_eq_true rfl) (Nat.le_of_ble_eq_true rfl) ?_
    exact x_fret hx hb hlocks hr hF dX10_usedShare_40
  · have hF := hF.trans (if_pos g9)
    have hok := And.left hok g9
    exact x_throwW (k := 5) (ic := 306) (names := ["java/lang/RuntimeException", "java/lang/Exception"]) (text := "there were no cycles") S hl htab hlocks hE (KG.x D kc ad wad) (fun _ h => ⟨wad, h⟩) hF (by decide +kernel) (by decide +kernel) q6_80 q1_30 (List.mem_of_getElem? (i := 11) rfl) xt_5 (List.forall_mem_cons.mpr ⟨rfl, List.forall_mem_cons.mpr ⟨rfl, xo_5⟩⟩) dX10_usedShare_12 dX10_usedShare_15 dX10_usedShare_16 dX10_usedShare_19 dX10_usedShare_22 (Nat.le_of_ble_eq_true rfl) (Nat.le_of_ble_eq_true rfl) (Nat.le_of_ble_eq_true rfl) (Nat.le_of_ble_eq_true rfl) (Nat.le_of_ble_eq_true rfl) (Nat.le_of_ble_eq_true rfl)
theorem hX10_usedShare : yX10_usedShare.cls = RX10 ∧ yX10_usedShare.cls ≠ "java/lang/invoke/MethodHandle" ∧ yX10_usedShare.cls ≠ "java/lang/invoke/VarHandle" ∧ (parseMethodDescriptor yX10_usedShare.desc).map (fun d => d.parameters.length) = some 0 := by decide +kernel
def fX10_meanCycles (q : SS) : (Nat × SS) ⊕ (UInt64 × SS) := (if (gI q 401) = 0 then (.inl (5, q)) else (.inr ((FP.ddiv (FP.l2d (gL q 409)) (FP.i2d (gI q 401))), q)))
def kX10_meanCycles (q : SS) : Prop := (((gI q 401) = 0 → True) ∧ (¬ (gI q 401) = 0 → vf_n64 (FP.ddiv (FP.l2d (gL q 409)) (FP.i2d (gI q 401))) ∧ True))
set_option maxHeartbeats 4000000 in
set_option maxRecDepth 100000 in
theorem ctX10_meanCycles (l : Launch) (hl : l.stackTraces = false) (D : va_G) (kc : Nat → ClassId) (ad : Nat → Nat) (q : SS) (hok : kX10_meanCycles q) : Xd l yX10_meanCycles (Cond.code yX10_meanCycles cX10_meanCycles 1 (some .double) :: lw_G) (zr 6 20 200) 20 200 (PX D kc) (GXe D kc ad) (GXe D kc ad) [.ref (ad 0)] q (fX10_meanCycles q) := by
  refine Xd.of (cc := cX10_meanCycles) (maxL := 1) (ret := (some .double)) (by decide) rfl (Nat.le_of_ble_eq_true rfl) ?_
  intro p e s m args below meth c A S hr hlocks htab hA hK
  have hx := S.1
  have hb := S.2.1
  have hE : EV A s s.heap := hK.2
  have hK : va_K D vwCl (tysK kc) s := hK.1
  refine z_exw (fun wad => ?_)
  generalize hFe : fX10_meanCycles q = F
  have hF : F = fX10_meanCycles q := hFe.symm
  refine z_aload_n (j := 0) hx hb dX10_meanCycles_0 rfl rfl ?_
  refine z_get (v := .ref (ad 3)) S hK inX10 0 (fun _ => rfl) rfl 2 (by decide) q2_137 rfl rfl dX10_meanCycles_1 ?_
  refine z_get (v := .int (gI q 401)) S hK inX1 3 (fun _ => rfl) rfl 1 (by decide) q1_108 rfl rfl dX10_meanCycles_4 ?_
  refine z_if_ne (tgt := 21) hx hb dX10_meanCycles_7 (by decide) (fun g7 => ?_) (fun g7 => ?_)
  · have hF := hF.trans (if_neg g7)
    have hok := And.right hok g7
    refine z_aload_n (j := 0) hx hb dX10_meanCycles_21 rfl rfl ?_
    refine z_get (v := .ref (ad 3)) S hK inX10 0 (fun _ => rfl) rfl 2 (by decide) q2_137 rfl rfl dX10_meanCycles_22 ?_
    refine z_get (v := .long (gL q 409)) S hK inX1 3 (fun _ => rfl) rfl 9 (by decide) q1_125 rfl rfl dX10_meanCycles_25 ?_
    refine z_l2d hx hb dX10_meanCycles_28 ?_
    refine z_aload_n (j := 0) hx hb dX10_meanCycles_29 rfl rfl ?_
    refine z_get (v := .ref (ad 3)) S hK inX10 0 (fun _ => rfl) rfl 2 (by decide) q2_137 rfl rfl dX10_meanCycles_30 ?_
    refine z_get (v := .int (gI q 401)) S hK inX1 3 (fun _ => rfl) rfl 1 (by decide) q1_108 rfl rfl dX10_meanCycles_33 ?_
    refine z_i2d hx hb dX10_meanCycles_36 ?_
    have h37 := And.left hok
    have hok := And.right hok
    refine z_ddiv hx hb dX10_meanCycles_37 h37 ?_
    refine z_weak (G2 := GXe D kc ad A) (fun _ _ h => ⟨wad, h⟩) ?_
    refine z_widen (ce := 20) (sl := 200) (Nat.le_of_ble_eq_true rfl) (Nat.le_of_ble_eq_true rfl) ?_
    exact x_dret hx hb hlocks hr hF dX10_meanCycles_38
  · have hF := hF.trans (if_pos g7)
    have hok := And.left hok g7
    exact x_throwW (k := 5) (ic := 306) (names := ["java/lang/RuntimeException", "java/lang/Exception"]) (text := "no instruction ended") S hl htab hlocks hE (KG.x D kc ad wad) (fun _ h => ⟨wad, h⟩) hF (by decide +kernel) (by decide +kernel) q6_80 q1_30 (List.mem_of_getElem? (i := 12) rfl) xt_5 (List.forall_mem_cons.mpr ⟨rfl, List.forall_mem_cons.mpr ⟨rfl, xo_5⟩⟩) dX10_meanCycles_10 dX10_meanCycles_13 dX10_meanCycles_14 dX10_meanCycles_17 dX10_meanCycles_20 (Nat.le_of_ble_eq_true rfl) (Nat.le_of_ble_eq_true rfl) (Nat.le_of_ble_eq_true rfl) (Nat.le_of_ble_eq_true rfl) (Nat.le_of_ble_eq_true rfl) (Nat.le_of_ble_eq_true rfl)
theorem hX10_meanCycles : yX10_meanCycles.cls = RX10 ∧ yX10_meanCycles.cls ≠ "java/lang/invoke/MethodHandle" ∧ yX10_meanCycles.cls ≠ "java/lang/invoke/VarHandle" ∧ (parseMethodDescriptor yX10_meanCycles.desc).map (fun d => d.parameters.length) = some 0 := by decide +kernel
def fX10_step_21 (k9 : SS → Int32 → Int32 → (Nat × SS) ⊕ (Int32 × SS)) (q : SS) (v1 : Int32) (v2 : Int32) (s0 : Int32) : (Nat × SS) ⊕ (Int32 × SS) := (if s0 = 0 then (.inr (v2, q)) else k9 q v1 (v2 + 1))
def kX10_step_21 (kk9 : SS → Int32 → Int32 → Prop) (q : SS) (v1 : Int32) (v2 : Int32) (s0 : Int32) : Prop := ((s0 = 0 → True) ∧ (¬ s0 = 0 → kk9 q v1 (v2 + 1)))
def fX10_step_9 : Nat → SS → Int32 → Int32 → (Nat × SS) ⊕ (Int32 × SS)
  | 0, q, _, _ => .inl (0, q)
  | n + 1, q, v1, v2 => (if v1 ≤ v2 then (.inr (v1, q)) else fX10_step_21 (fX10_step_9 n) (fX6_advance q).2 v1 v2 (fX6_advance q).1)
def kX10_step_9 : Nat → SS → Int32 → Int32 → Prop
  | 0, _, _, _ => False
  | n + 1, q, v1, v2 => ((v1 ≤ v2 → True) ∧ (¬ v1 ≤ v2 → kX6_advance q ∧ kX10_step_21 (kX10_step_9 n) (fX6_advance q).2 v1 v2 (fX6_advance q).1))
def fX10_step (q : SS) (v1 : Int32) : (Nat × SS) ⊕ (Int32 × SS) := (xb (fX10_requireNumber q v1 1 100) (fun u4 => fX10_step_9 110 u4 v1 0))
def kX10_step (q : SS) (v1 : Int32) : Prop := kX10_requireNumber q v1 1 100 ∧ (∀ u4, (fX10_requireNumber q v1 1 100) = .inr u4 → kX10_step_9 110 u4 v1 0)
set_option maxHeartbeats 4000000 in
set_option maxRecDepth 100000 in
theorem ctX10_step (l : Launch) (hl : l.stackTraces = false) (D : va_G) (kc : Nat → ClassId) (ad : Nat → Nat) (q : SS) (v1 : Int32) (hok : kX10_step q v1) : Xi l yX10_step (Cond.code yX10_step cX10_step 3 (some .int) :: lw_G) (zr 7 20 200) 20 200 (PX D kc) (GXe D kc ad) (GXe D kc ad) [.ref (ad 0), .int v1] q (fX10_step q v1) := by
  refine Xi.of (cc := cX10_step) (maxL := 3) (ret := (some .int)) (by decide) rfl (Nat.le_of_ble_eq_true rfl) ?_
  intro p e s m args below meth c A S hr hlocks htab hA hK
  have hx := S.1
  have hb := S.2.1
  have hE : EV A s s.heap := hK.2
  have hK : va_K D vwCl (tysK kc) s := hK.1
  refine z_exw (fun wad => ?_)
  generalize hFe : fX10_step q v1 = F
  have hF : F = fX10_step q v1 := hFe.symm
  have b21 : ∀ (k9 : SS → Int32 → Int32 → (Nat × SS) ⊕ (Int32 × SS)) (kk9 : SS → Int32 → Int32 → Prop) (_ : ∀ (q : SS) (v1 : Int32) (v2 : Int32), kk9 q v1 v2 → F = k9 q v1 v2 → Z p l e (zr 7 20 200) s m args below meth c 1 6 (vx_MQ below (va_Qi (fun (x : Int32) (u : SS) => F = .inr (x, u)) (fun u t => (GXe D kc ad) A u t.heap) A) (vx_X (fun (u : Nat × SS) => F = .inl u) (fun E u t => E = exn u.1 ∧ (GXe D kc ad) A u.2 t.heap) A) args s 20 200 A) 3 A (ZG D vwCl (wX kc ad wad) (PLX wad) A) q 9 [(0, .ref (ad 0)), (1, .int v1), (2, .int v2)] []) (q : SS) (v1 : Int32) (v2 : Int32) (s0 : Int32), kX10_step_21 kk9 q v1 v2 s0 → F = fX10_step_21 k9 q v1 v2 s0 → Z p l e (zr 7 20 200) s m args below meth c 1 6 (vx_MQ below (va_Qi (fun (x : Int32) (u : SS) => F = .inr (x, u)) (fun u t => (GXe D kc ad) A u t.heap) A) (vx_X (fun (u : Nat × SS) => F = .inl u) (fun E u t => E = exn u.1 ∧ (GXe D kc ad) A u.2 t.heap) A) args s 20 200 A) 3 A (ZG D vwCl (wX kc ad wad) (PLX wad) A) q 21 [(0, .ref (ad 0)), (1, .int v1), (2, .int v2)] [.int s0] := by
    intro k9 kk9 hk9 q v1 v2 s0 hok hF
    refine z_if_ne (tgt := 26) hx hb dX10_step_21 (by decide) (fun g21 => ?_) (fun g21 => ?_)
    · have hF := hF.trans (if_neg g21)
      have hok := And.right hok g21
      refine z_iinc (k := 2) (v := (v2 + 1)) (lv' := [(2, .int (v2 + 1)), (0, .ref (ad 0)), (1, .int v1)]) hx hb dX10_step_26 rfl rfl (by decide) rfl ?_
      refine z_goto (tgt := 9) hx hb dX10_step_29 (by decide) ?_
      refine z_sub [1, 2, 0] rfl ?_
      exact hk9 q v1 (v2 + 1) hok hF
    · have hF := hF.trans (if_pos g21)
      have hok := And.left hok g21
      refine z_iload_n (j := 2) hx hb dX10_step_24 rfl rfl ?_
      refine z_weak (G2 := GXe D kc ad A) (fun _ _ h => ⟨wad, h⟩) ?_
      refine z_widen (ce := 20) (sl := 200) (Nat.le_of_ble_eq_true rfl) (Nat.le_of_ble_eq_true rfl) ?_
      exact x_iret hx hb hlocks hr rfl hF dX10_step_25
  have b9 : ∀ (n : Nat) (q : SS) (v1 : Int32) (v2 : Int32), kX10_step_9 n q v1 v2 → F = fX10_step_9 n q v1 v2 → Z p l e (zr 7 20 200) s m args below meth c 1 6 (vx_MQ below (va_Qi (fun (x : Int32) (u : SS) => F = .inr (x, u)) (fun u t => (GXe D kc ad) A u t.heap) A) (vx_X (fun (u : Nat × SS) => F = .inl u) (fun E u t => E = exn u.1 ∧ (GXe D kc ad) A u.2 t.heap) A) args s 20 200 A) 3 A (ZG D vwCl (wX kc ad wad) (PLX wad) A) q 9 [(0, .ref (ad 0)), (1, .int v1), (2, .int v2)] [] := by
    intro n
    induction n with
    | zero => intro q v1 v2 hok hF; exact False.elim hok
    | succ n ih =>
      intro q v1 v2 hok hF
      refine z_iload_n (j := 2) hx hb dX10_step_9 rfl rfl ?_
      refine z_iload_n (j := 1) hx hb dX10_step_10 rfl rfl ?_
      refine z_icmp_ge (tgt := 32) hx hb dX10_step_11 (by decide) (fun g11 => ?_) (fun g11 => ?_)
      · have hF := hF.trans (if_pos g11)
        have hok := And.left hok g11
        refine z_iload_n (j := 1) hx hb dX10_step_32 rfl rfl ?_
        refine z_weak (G2 := GXe D kc ad A) (fun _ _ h => ⟨wad, h⟩) ?_
        refine z_widen (ce := 20) (sl := 200) (Nat.le_of_ble_eq_true rfl) (Nat.le_of_ble_eq_true rfl) ?_
        exact x_iret hx hb hlocks hr rfl hF dX10_step_33
      · have hF := hF.trans (if_neg g11)
        have hok := And.right hok g11
        refine z_aload_n (j := 0) hx hb dX10_step_14 rfl rfl ?_
        refine z_get (v := .ref (ad 4)) S hK inX10 0 (fun _ => rfl) rfl 3 (by decide) q2_138 rfl rfl dX10_step_15 ?_
        have h18 := And.left hok
        have hok := And.right hok
        refine z_callVi (As := []) S (ctX6_advance l hl D kc ad wad q h18) (cwV 0 S.2.2.2.2 (gV q5_24 q5_25 q5_26 q1_6 q5_27) rfl rfl rfl hX6_advance ⟨Nat.le_of_ble_eq_true rfl, Nat.le_of_ble_eq_true rfl⟩) hA (pbX D kc) (psX hK hE) (z_recv hK 4 (fun _ => rfl) rfl) rfl rfl (Nat.le_of_ble_eq_true rfl) dX10_step_18 ⟨Nat.le_of_ble_eq_true rfl, Nat.le_of_ble_eq_true rfl⟩ ?_
        exact b21 (fX10_step_9 n) (kX10_step_9 n) ih (fX6_advance q).2 v1 v2 (fX6_advance q).1 hok hF
  refine z_iload_n (j := 1) hx hb dX10_step_0 rfl rfl ?_
  refine z_iconst (v := 1) hx hb dX10_step_1 (by decide) ?_
  refine z_bipush (v := 100) hx hb dX10_step_2 (by decide) ?_
  have h4 := And.left hok
  have hok := And.right hok
  refine x_callSv (As := [.int v1, .int 1, .int 100]) S (ctX10_requireNumber l hl D kc ad wad q v1 1 100 h4) (va_cwS 3 S.2.2.2.2 (gS q3_128 q3_129 q1_1 q3_130) rfl rfl rfl hX10_requireNumber ⟨Nat.le_of_ble_eq_true rfl, Nat.le_of_ble_eq_true rfl⟩) hA (pbX D kc) (psX hK hE) rfl rfl (Nat.le_of_ble_eq_true rfl) dX10_step_4 ⟨Nat.le_of_ble_eq_true rfl, Nat.le_of_ble_eq_true rfl⟩ (fun u4 g4 => ?_) (fun u g4 => x_out htab hlocks (hF.trans (xb_l g4)) (fun _ h => ⟨wad, h⟩) (Nat.le_of_ble_eq_true rfl) (Nat.le_of_ble_eq_true rfl))
  have hF := hF.trans (xb_r g4)
  have hok := hok u4 g4
  refine z_iconst (v := 0) hx hb dX10_step_7 (by decide) ?_
  refine z_istore_n (lv' := [(2, .int 0), (0, .ref (ad 0)), (1, .int v1)]) hx hb dX10_step_8 rfl (by decide) rfl ?_
  refine z_sub [1, 2, 0] rfl ?_
  exact b9 110 u4 v1 0 hok hF
theorem hX10_step : yX10_step.cls = RX10 ∧ yX10_step.cls ≠ "java/lang/invoke/MethodHandle" ∧ yX10_step.cls ≠ "java/lang/invoke/VarHandle" ∧ (parseMethodDescriptor yX10_step.desc).map (fun d => d.parameters.length) = some 1 := by decide +kernel
def fX10_run_56 (q : SS) (v2 : Int32) : (Nat × SS) ⊕ (Int32 × SS) := (.inr (((gI q 401) - v2), q))
def kX10_run_56 (q : SS) (v2 : Int32) : Prop := True
def fX10_run_44 (k17 : SS → Int32 → Int32 → Int32 → (Nat × SS) ⊕ (Int32 × SS)) (q : SS) (v1 : Int32) (v2 : Int32) (v3 : Int32) (s0 : Int32) : (Nat × SS) ⊕ (Int32 × SS) := (if s0 = 0 then fX10_run_56 q v2 else k17 q v1 v2 (v3 + 1))
def kX10_run_44 (kk17 : SS → Int32 → Int32 → Int32 → Prop) (q : SS) (v1 : Int32) (v2 : Int32) (v3 : Int32) (s0 : Int32) : Prop := ((s0 = 0 → kX10_run_56 q v2) ∧ (¬ s0 = 0 → kk17 q v1 v2 (v3 + 1)))
def fX10_run_17 : Nat → SS → Int32 → Int32 → Int32 → (Nat × SS) ⊕ (Int32 × SS)
  | 0, q, _, _, _ => .inl (0, q)
  | n + 1, q, v1, v2, v3 => (if 200 ≤ v3 then fX10_run_56 q v2 else (if v1 ≤ ((gI q 401) - v2) then fX10_run_56 q v2 else fX10_run_44 (fX10_run_17 n) (fX6_advance q).2 v1 v2 v3 (fX6_advance q).1))
def kX10_run_17 : Nat → SS → Int32 → Int32 → Int32 → Prop
  | 0, _, _, _, _ => False
  | n + 1, q, v1, v2, v3 => ((200 ≤ v3 → kX10_run_56 q v2) ∧ (¬ 200 ≤ v3 → ((v1 ≤ ((gI q 401) - v2) → kX10_run_56 q v2) ∧ (¬ v1 ≤ ((gI q 401) - v2) → kX6_advance q ∧ kX10_run_44 (kX10_run_17 n) (fX6_advance q).2 v1 v2 v3 (fX6_advance q).1))))
def fX10_run (q : SS) (v1 : Int32) : (Nat × SS) ⊕ (Int32 × SS) := (xb (fX10_requireNumber q v1 1 20) (fun u4 => fX10_run_17 210 u4 v1 (gI u4 401) 0))
def kX10_run (q : SS) (v1 : Int32) : Prop := kX10_requireNumber q v1 1 20 ∧ (∀ u4, (fX10_requireNumber q v1 1 20) = .inr u4 → kX10_run_17 210 u4 v1 (gI u4 401) 0)
set_option maxHeartbeats 4000000 in
set_option maxRecDepth 100000 in
theorem ctX10_run (l : Launch) (hl : l.stackTraces = false) (D : va_G) (kc : Nat → ClassId) (ad : Nat → Nat) (q : SS) (v1 : Int32) (hok : kX10_run q v1) : Xi l yX10_run (Cond.code yX10_run cX10_run 4 (some .int) :: lw_G) (zr 7 20 200) 20 200 (PX D kc) (GXe D kc ad) (GXe D kc ad) [.ref (ad 0), .int v1] q (fX10_run q v1) := by
  refine Xi.of (cc := cX10_run) (maxL := 4) (ret := (some .int)) (by decide) rfl (Nat.le_of_ble_eq_true rfl) ?_
  intro p e s m args below meth c A S hr hlocks htab hA hK
  have hx := S.1
  have hb := S.2.1
  have hE : EV A s s.heap := hK.2
  have hK : va_K D vwCl (tysK kc) s := hK.1
  refine z_exw (fun wad => ?_)
  generalize hFe : fX10_run q v1 = F
  have hF : F = fX10_run q v1 := hFe.symm
  have b56 : ∀ (q : SS) (v2 : Int32), kX10_run_56 q v2 → F = fX10_run_56 q v2 → Z p l e (zr 7 20 200) s m args below meth c 1 6 (vx_MQ below (va_Qi (fun (x : Int32) (u : SS) => F = .inr (x, u)) (fun u t => (GXe D kc ad) A u t.heap) A) (vx_X (fun (u : Nat × SS) => F = .inl u) (fun E u t => E = exn u.1 ∧ (GXe D kc ad) A u.2 t.heap) A) args s 20 200 A) 4 A (ZG D vwCl (wX kc ad wad) (PLX wad) A) q 56 [(0, .ref (ad 0)), (2, .int v2)] [] := by
    intro q v2 hok hF
    refine z_aload_n (j := 0) hx hb dX10_run_56 rfl rfl ?_
    refine z_get (v := .ref (ad 3)) S hK inX10 0 (fun _ => rfl) rfl 2 (by decide) q2_137 rfl rfl dX10_run_57 ?_
    refine z_get (v := .int (gI q 401)) S hK inX1 3 (fun _ => rfl) rfl 1 (by decide) q1_108 rfl rfl dX10_run_60 ?_
    refine z_iload_n (j := 1) hx hb dX10_run_63 rfl rfl ?_
    refine z_isub hx hb dX10_run_64 ?_
    refine z_weak (G2 := GXe D kc ad A) (fun _ _ h => ⟨wad, h⟩) ?_
    refine z_widen (ce := 20) (sl := 200) (Nat.le_of_ble_eq_true rfl) (Nat.le_of_ble_eq_true rfl) ?_
    exact x_iret hx hb hlocks hr rfl hF dX10_run_65
  have b44 : ∀ (k17 : SS → Int32 → Int32 → Int32 → (Nat × SS) ⊕ (Int32 × SS)) (kk17 : SS → Int32 → Int32 → Int32 → Prop) (_ : ∀ (q : SS) (v1 : Int32) (v2 : Int32) (v3 : Int32), kk17 q v1 v2 v3 → F = k17 q v1 v2 v3 → Z p l e (zr 7 20 200) s m args below meth c 1 6 (vx_MQ below (va_Qi (fun (x : Int32) (u : SS) => F = .inr (x, u)) (fun u t => (GXe D kc ad) A u t.heap) A) (vx_X (fun (u : Nat × SS) => F = .inl u) (fun E u t => E = exn u.1 ∧ (GXe D kc ad) A u.2 t.heap) A) args s 20 200 A) 4 A (ZG D vwCl (wX kc ad wad) (PLX wad) A) q 17 [(0, .ref (ad 0)), (1, .int v1), (2, .int v2), (3, .int v3)] []) (q : SS) (v1 : Int32) (v2 : Int32) (v3 : Int32) (s0 : Int32), kX10_run_44 kk17 q v1 v2 v3 s0 → F = fX10_run_44 k17 q v1 v2 v3 s0 → Z p l e (zr 7 20 200) s m args below meth c 1 6 (vx_MQ below (va_Qi (fun (x : Int32) (u : SS) => F = .inr (x, u)) (fun u t => (GXe D kc ad) A u t.heap) A) (vx_X (fun (u : Nat × SS) => F = .inl u) (fun E u t => E = exn u.1 ∧ (GXe D kc ad) A u.2 t.heap) A) args s 20 200 A) 4 A (ZG D vwCl (wX kc ad wad) (PLX wad) A) q 44 [(0, .ref (ad 0)), (1, .int v1), (2, .int v2), (3, .int v3)] [.int s0] := by
    intro k17 kk17 hk17 q v1 v2 v3 s0 hok hF
    refine z_if_ne (tgt := 50) hx hb dX10_run_44 (by decide) (fun g44 => ?_) (fun g44 => ?_)
    · have hF := hF.trans (if_neg g44)
      have hok := And.right hok g44
      refine z_iinc (k := 3) (v := (v3 + 1)) (lv' := [(3, .int (v3 + 1)), (0, .ref (ad 0)), (1, .int v1), (2, .int v2)]) hx hb dX10_run_50 rfl rfl (by decide) rfl ?_
      refine z_goto (tgt := 17) hx hb dX10_run_53 (by decide) ?_
      refine z_sub [1, 2, 3, 0] rfl ?_
      exact hk17 q v1 v2 (v3 + 1) hok hF
    · have hF := hF.trans (if_pos g44)
      have hok := And.left hok g44
      refine z_goto (tgt := 56) hx hb dX10_run_47 (by decide) ?_
      refine z_sub [0, 2] rfl ?_
      exact b56 q v2 hok hF
  have b17 : ∀ (n : Nat) (q : SS) (v1 : Int32) (v2 : Int32) (v3 : Int32), kX10_run_17 n q v1 v2 v3 → F = fX10_run_17 n q v1 v2 v3 → Z p l e (zr 7 20 200) s m args below meth c 1 6 (vx_MQ below (va_Qi (fun (x : Int32) (u : SS) => F = .inr (x, u)) (fun u t => (GXe D kc ad) A u t.heap) A) (vx_X (fun (u : Nat × SS) => F = .inl u) (fun E u t => E = exn u.1 ∧ (GXe D kc ad) A u.2 t.heap) A) args s 20 200 A) 4 A (ZG D vwCl (wX kc ad wad) (PLX wad) A) q 17 [(0, .ref (ad 0)), (1, .int v1), (2, .int v2), (3, .int v3)] [] := by
    intro n
    induction n with
    | zero => intro q v1 v2 v3 hok hF; exact False.elim hok
    | succ n ih =>
      intro q v1 v2 v3 hok hF
      refine z_iload_n (j := 3) hx hb dX10_run_17 rfl rfl ?_
      refine z_sipush (v := 200) hx hb dX10_run_18 (by decide) ?_
      refine z_icmp_ge (tgt := 56) hx hb dX10_run_21 (by decide) (fun g21 => ?_) (fun g21 => ?_)
      · have hF := hF.trans (if_pos g21)
        have hok := And.left hok g21
        refine z_sub [0, 2] rfl ?_
        exact b56 q v2 hok hF
      · have hF := hF.trans (if_neg g21)
        have hok := And.right hok g21
        refine z_aload_n (j := 0) hx hb dX10_run_24 rfl rfl ?_
        refine z_get (v := .ref (ad 3)) S hK inX10 0 (fun _ => rfl) rfl 2 (by decide) q2_137 rfl rfl dX10_run_25 ?_
        refine z_get (v := .int (gI q 401)) S hK inX1 3 (fun _ => rfl) rfl 1 (by decide) q1_108 rfl rfl dX10_run_28 ?_
        refine z_iload_n (j := 2) hx hb dX10_run_31 rfl rfl ?_
        refine z_isub hx hb dX10_run_32 ?_
        refine z_iload_n (j := 1) hx hb dX10_run_33 rfl rfl ?_
        refine z_icmp_ge (tgt := 56) hx hb dX10_run_34 (by decide) (fun g34 => ?_) (fun g34 => ?_)
        · have hF := hF.trans (if_pos g34)
          have hok := And.left hok g34
          refine z_sub [0, 2] rfl ?_
          exact b56 q v2 hok hF
        · have hF := hF.trans (if_neg g34)
          have hok := And.right hok g34
          refine z_aload_n (j := 0) hx hb dX10_run_37 rfl rfl ?_
          refine z_get (v := .ref (ad 4)) S hK inX10 0 (fun _ => rfl) rfl 3 (by decide) q2_138 rfl rfl dX10_run_38 ?_
          have h41 := And.left hok
          have hok := And.right hok
          refine z_callVi (As := []) S (ctX6_advance l hl D kc ad wad q h41) (cwV 0 S.2.2.2.2 (gV q5_24 q5_25 q5_26 q1_6 q5_27) rfl rfl rfl hX6_advance ⟨Nat.le_of_ble_eq_true rfl, Nat.le_of_ble_eq_true rfl⟩) hA (pbX D kc) (psX hK hE) (z_recv hK 4 (fun _ => rfl) rfl) rfl rfl (Nat.le_of_ble_eq_true rfl) dX10_run_41 ⟨Nat.le_of_ble_eq_true rfl, Nat.le_of_ble_eq_true rfl⟩ ?_
          exact b44 (fX10_run_17 n) (kX10_run_17 n) ih (fX6_advance q).2 v1 v2 v3 (fX6_advance q).1 hok hF
  refine z_iload_n (j := 1) hx hb dX10_run_0 rfl rfl ?_
  refine z_iconst (v := 1) hx hb dX10_run_1 (by decide) ?_
  refine z_bipush (v := 20) hx hb dX10_run_2 (by decide) ?_
  have h4 := And.left hok
  have hok := And.right hok
  refine x_callSv (As := [.int v1, .int 1, .int 20]) S (ctX10_requireNumber l hl D kc ad wad q v1 1 20 h4) (va_cwS 3 S.2.2.2.2 (gS q3_128 q3_129 q1_1 q3_130) rfl rfl rfl hX10_requireNumber ⟨Nat.le_of_ble_eq_true rfl, Nat.le_of_ble_eq_true rfl⟩) hA (pbX D kc) (psX hK hE) rfl rfl (Nat.le_of_ble_eq_true rfl) dX10_run_4 ⟨Nat.le_of_ble_eq_true rfl, Nat.le_of_ble_eq_true rfl⟩ (fun u4 g4 => ?_) (fun u g4 => x_out htab hlocks (hF.trans (xb_l g4)) (fun _ h => ⟨wad, h⟩) (Nat.le_of_ble_eq_true rfl) (Nat.le_of_ble_eq_true rfl))
  have hF := hF.trans (xb_r g4)
  have hok := hok u4 g4
  refine z_aload_n (j := 0) hx hb dX10_run_7 rfl rfl ?_
  refine z_get (v := .ref (ad 3)) S hK inX10 0 (fun _ => rfl) rfl 2 (by decide) q2_137 rfl rfl dX10_run_8 ?_
  refine z_get (v := .int (gI u4 401)) S hK inX1 3 (fun _ => rfl) rfl 1 (by decide) q1_108 rfl rfl dX10_run_11 ?_
  refine z_istore_n (lv' := [(2, .int (gI u4 401)), (0, .ref (ad 0)), (1, .int v1)]) hx hb dX10_run_14 rfl (by decide) rfl ?_
  refine z_iconst (v := 0) hx hb dX10_run_15 (by decide) ?_
  refine z_istore_n (lv' := [(3, .int 0), (2, .int (gI u4 401)), (0, .ref (ad 0)), (1, .int v1)]) hx hb dX10_run_16 rfl (by decide) rfl ?_
  refine z_sub [2, 3, 1, 0] rfl ?_
  exact b17 210 u4 v1 (gI u4 401) 0 hok hF
theorem hX10_run : yX10_run.cls = RX10 ∧ yX10_run.cls ≠ "java/lang/invoke/MethodHandle" ∧ yX10_run.cls ≠ "java/lang/invoke/VarHandle" ∧ (parseMethodDescriptor yX10_run.desc).map (fun d => d.parameters.length) = some 1 := by decide +kernel
def fX10_free (q : SS) : Int32 × SS := ((fX7_freeCount q).1, (fX7_freeCount q).2)
def kX10_free (q : SS) : Prop := kX7_freeCount q ∧ True
set_option maxHeartbeats 4000000 in
set_option maxRecDepth 100000 in
theorem ctX10_free (l : Launch) (hl : l.stackTraces = false) (D : va_G) (kc : Nat → ClassId) (ad : Nat → Nat) (q : SS) (hok : kX10_free q) : Ci l yX10_free (Cond.code yX10_free cX10_free 1 (some .int) :: lw_G) (zr 2 20 200) 20 200 (PX D kc) (GXe D kc ad) (GXe D kc ad) [.ref (ad 0)] q (fX10_free q) := by
  refine Ci.of (cc := cX10_free) (maxL := 1) (ret := (some .int)) (by decide) rfl (Nat.le_of_ble_eq_true rfl) ?_
  intro p e s m args below meth c A S hr hlocks hin hA hK
  have hx := S.1
  have hb := S.2.1
  have hE : EV A s s.heap := hK.2
  have hK : va_K D vwCl (tysK kc) s := hK.1
  refine z_exw (fun wad => ?_)
  generalize hFe : fX10_free q = F
  have hF : F = fX10_free q := hFe.symm
  refine z_aload_n (j := 0) hx hb dX10_free_0 rfl rfl ?_
  refine z_get (v := .ref (ad 1)) S hK inX10 0 (fun _ => rfl) rfl 0 (by decide) q2_135 rfl rfl dX10_free_1 ?_
  have h4 := And.left hok
  have hok := And.right hok
  refine z_callVi (As := []) S (ctX7_freeCount l hl D kc ad wad q h4) (cwV 0 S.2.2.2.2 (gV q2_155 q2_156 q2_157 q1_2 q2_158) rfl rfl rfl hX7_freeCount ⟨Nat.le_of_ble_eq_true rfl, Nat.le_of_ble_eq_true rfl⟩) hA (pbX D kc) (psX hK hE) (z_recv hK 1 (fun _ => rfl) rfl) rfl rfl (Nat.le_of_ble_eq_true rfl) dX10_free_4 ⟨Nat.le_of_ble_eq_true rfl, Nat.le_of_ble_eq_true rfl⟩ ?_
  refine z_weak (G2 := GXe D kc ad A) (fun _ _ h => ⟨wad, h⟩) ?_
  refine z_widen (ce := 20) (sl := 200) (Nat.le_of_ble_eq_true rfl) (Nat.le_of_ble_eq_true rfl) ?_
  exact z_iret hx hb hlocks hr rfl hF dX10_free_7
theorem hX10_free : yX10_free.cls = RX10 ∧ yX10_free.cls ≠ "java/lang/invoke/MethodHandle" ∧ yX10_free.cls ≠ "java/lang/invoke/VarHandle" ∧ (parseMethodDescriptor yX10_free.desc).map (fun d => d.parameters.length) = some 0 := by decide +kernel
def fX10_interrupt (q : SS) : Int32 × SS := ((gI q 514), (sI q 514 1))
def kX10_interrupt (q : SS) : Prop := narrow .boolean (.int (gI q 514)) = .int (gI q 514) ∧ True
set_option maxHeartbeats 4000000 in
set_option maxRecDepth 100000 in
theorem ctX10_interrupt (l : Launch) (hl : l.stackTraces = false) (D : va_G) (kc : Nat → ClassId) (ad : Nat → Nat) (q : SS) (hok : kX10_interrupt q) : Ci l yX10_interrupt (Cond.code yX10_interrupt cX10_interrupt 2 (some .boolean) :: lw_G) (zr 0 20 200) 20 200 (PX D kc) (GXe D kc ad) (GXe D kc ad) [.ref (ad 0)] q (fX10_interrupt q) := by
  refine Ci.of (cc := cX10_interrupt) (maxL := 2) (ret := (some .boolean)) (by decide) rfl (Nat.le_of_ble_eq_true rfl) ?_
  intro p e s m args below meth c A S hr hlocks hin hA hK
  have hx := S.1
  have hb := S.2.1
  have hE : EV A s s.heap := hK.2
  have hK : va_K D vwCl (tysK kc) s := hK.1
  refine z_exw (fun wad => ?_)
  generalize hFe : fX10_interrupt q = F
  have hF : F = fX10_interrupt q := hFe.symm
  refine z_aload_n (j := 0) hx hb dX10_interrupt_0 rfl rfl ?_
  refine z_get (v := .ref (ad 4)) S hK inX10 0 (fun _ => rfl) rfl 3 (by decide) q2_138 rfl rfl dX10_interrupt_1 ?_
  refine z_get (v := .int (gI q 514)) S hK inX6 4 (fun _ => rfl) rfl 14 (by decide) q2_60 rfl rfl dX10_interrupt_4 ?_
  refine z_istore_n (lv' := [(1, .int (gI q 514)), (0, .ref (ad 0))]) hx hb dX10_interrupt_7 rfl (by decide) rfl ?_
  refine z_aload_n (j := 1) hx hb dX10_interrupt_8 rfl rfl ?_
  refine z_get (v := .ref (ad 4)) S hK inX10 0 (fun _ => rfl) rfl 3 (by decide) q2_138 rfl rfl dX10_interrupt_9 ?_
  refine z_iconst (v := 1) hx hb dX10_interrupt_12 (by decide) ?_
  refine z_put (v := .int 1) (q' := (sI q 514 1)) S hK inX6 tyX6 tyX6_ok nmX6 4 (fun _ => rfl) rfl 14 (by decide) q2_60 rfl rfl rfl rfl (Nat.le_of_ble_eq_true rfl) dX10_interrupt_13 (wXp514 kc ad wad _ _) (fun _ h => h) ?_
  refine z_iload_n (j := 0) hx hb dX10_interrupt_16 rfl rfl ?_
  have h17 := And.left hok
  have hok := And.right hok
  refine z_weak (G2 := GXe D kc ad A) (fun _ _ h => ⟨wad, h⟩) ?_
  refine z_widen (ce := 20) (sl := 200) (Nat.le_of_ble_eq_true rfl) (Nat.le_of_ble_eq_true rfl) ?_
  exact z_iret hx hb hlocks hr h17 hF dX10_interrupt_17
theorem hX10_interrupt : yX10_interrupt.cls = RX10 ∧ yX10_interrupt.cls ≠ "java/lang/invoke/MethodHandle" ∧ yX10_interrupt.cls ≠ "java/lang/invoke/VarHandle" ∧ (parseMethodDescriptor yX10_interrupt.desc).map (fun d => d.parameters.length) = some 0 := by decide +kernel
def fX10_reset_22 (q : SS) (v1 : Int32) : Int32 × SS := (v1, q)
def kX10_reset_22 (q : SS) (v1 : Int32) : Prop := True
def fX10_reset_15 (q : SS) (v1 : Int32) : Int32 × SS := fX10_reset_22 (fX6_comeBack q) v1
def kX10_reset_15 (q : SS) (v1 : Int32) : Prop := kX6_comeBack q ∧ kX10_reset_22 (fX6_comeBack q) v1
def fX10_reset (q : SS) : Int32 × SS := fX10_reset_15 (fX6_takeBack q) (gI q 510)
def kX10_reset (q : SS) : Prop := kX6_takeBack q ∧ kX10_reset_15 (fX6_takeBack q) (gI q 510)
set_option maxHeartbeats 4000000 in
set_option maxRecDepth 100000 in
theorem ctX10_reset (l : Launch) (hl : l.stackTraces = false) (D : va_G) (kc : Nat → ClassId) (ad : Nat → Nat) (q : SS) (hok : kX10_reset q) : Ci l yX10_reset (Cond.code yX10_reset cX10_reset 2 (some .int) :: lw_G) (zr 3 20 200) 20 200 (PX D kc) (GXe D kc ad) (GXe D kc ad) [.ref (ad 0)] q (fX10_reset q) := by
  refine Ci.of (cc := cX10_reset) (maxL := 2) (ret := (some .int)) (by decide) rfl (Nat.le_of_ble_eq_true rfl) ?_
  intro p e s m args below meth c A S hr hlocks hin hA hK
  have hx := S.1
  have hb := S.2.1
  have hE : EV A s s.heap := hK.2
  have hK : va_K D vwCl (tysK kc) s := hK.1
  refine z_exw (fun wad => ?_)
  generalize hFe : fX10_reset q = F
  have hF : F = fX10_reset q := hFe.symm
  have b22 : ∀ (q : SS) (v1 : Int32), kX10_reset_22 q v1 → F = fX10_reset_22 q v1 → Z p l e (zr 3 20 200) s m args below meth c 0 0 (MQ below (va_Qi (fun (x : Int32) (_ : Unit) => x = F.1) (fun _ t => (GXe D kc ad) A F.2 t.heap) A) args s 20 200 A) 2 A (ZG D vwCl (wX kc ad wad) (PLX wad) A) q 22 [(1, .int v1)] [] := by
    intro q v1 hok hF
    refine z_iload_n (j := 0) hx hb dX10_reset_22 rfl rfl ?_
    refine z_weak (G2 := GXe D kc ad A) (fun _ _ h => ⟨wad, h⟩) ?_
    refine z_widen (ce := 20) (sl := 200) (Nat.le_of_ble_eq_true rfl) (Nat.le_of_ble_eq_true rfl) ?_
    exact z_iret hx hb hlocks hr rfl hF dX10_reset_23
  have b15 : ∀ (q : SS) (v1 : Int32), kX10_reset_15 q v1 → F = fX10_reset_15 q v1 → Z p l e (zr 3 20 200) s m args below meth c 0 0 (MQ below (va_Qi (fun (x : Int32) (_ : Unit) => x = F.1) (fun _ t => (GXe D kc ad) A F.2 t.heap) A) args s 20 200 A) 2 A (ZG D vwCl (wX kc ad wad) (PLX wad) A) q 15 [(0, .ref (ad 0)), (1, .int v1)] [] := by
    intro q v1 hok hF
    refine z_aload_n (j := 0) hx hb dX10_reset_15 rfl rfl ?_
    refine z_get (v := .ref (ad 4)) S hK inX10 0 (fun _ => rfl) rfl 3 (by decide) q2_138 rfl rfl dX10_reset_16 ?_
    have h19 := And.left hok
    have hok := And.right hok
    refine z_callVv (As := []) S (ctX6_comeBack l hl D kc ad wad q h19) (cwV 0 S.2.2.2.2 (gV q2_191 q2_192 q2_193 q1_6 q2_194) rfl rfl rfl hX6_comeBack ⟨Nat.le_of_ble_eq_true rfl, Nat.le_of_ble_eq_true rfl⟩) hA (pbX D kc) (psX hK hE) (z_recv hK 4 (fun _ => rfl) rfl) rfl rfl (Nat.le_of_ble_eq_true rfl) dX10_reset_19 ⟨Nat.le_of_ble_eq_true rfl, Nat.le_of_ble_eq_true rfl⟩ ?_
    refine z_sub [1] rfl ?_
    exact b22 (fX6_comeBack q) v1 hok hF
  refine z_aload_n (j := 0) hx hb dX10_reset_0 rfl rfl ?_
  refine z_get (v := .ref (ad 4)) S hK inX10 0 (fun _ => rfl) rfl 3 (by decide) q2_138 rfl rfl dX10_reset_1 ?_
  refine z_get (v := .int (gI q 510)) S hK inX6 4 (fun _ => rfl) rfl 10 (by decide) q2_53 rfl rfl dX10_reset_4 ?_
  refine z_istore_n (lv' := [(1, .int (gI q 510)), (0, .ref (ad 0))]) hx hb dX10_reset_7 rfl (by decide) rfl ?_
  refine z_aload_n (j := 1) hx hb dX10_reset_8 rfl rfl ?_
  refine z_get (v := .ref (ad 4)) S hK inX10 0 (fun _ => rfl) rfl 3 (by decide) q2_138 rfl rfl dX10_reset_9 ?_
  have h12 := And.left hok
  have hok := And.right hok
  refine z_callVv (As := []) S (ctX6_takeBack l hl D kc ad wad q h12) (cwV 0 S.2.2.2.2 (gV q2_171 q2_172 q2_173 q1_6 q2_174) rfl rfl rfl hX6_takeBack ⟨Nat.le_of_ble_eq_true rfl, Nat.le_of_ble_eq_true rfl⟩) hA (pbX D kc) (psX hK hE) (z_recv hK 4 (fun _ => rfl) rfl) rfl rfl (Nat.le_of_ble_eq_true rfl) dX10_reset_12 ⟨Nat.le_of_ble_eq_true rfl, Nat.le_of_ble_eq_true rfl⟩ ?_
  refine z_sub [1, 0] rfl ?_
  exact b15 (fX6_takeBack q) (gI q 510) hok hF
theorem hX10_reset : yX10_reset.cls = RX10 ∧ yX10_reset.cls ≠ "java/lang/invoke/MethodHandle" ∧ yX10_reset.cls ≠ "java/lang/invoke/VarHandle" ∧ (parseMethodDescriptor yX10_reset.desc).map (fun d => d.parameters.length) = some 0 := by decide +kernel
def fX10_state (q : SS) : Int32 × SS := ((gI q 512), q)
def kX10_state (q : SS) : Prop := narrow .char (.int (gI q 512)) = .int (gI q 512) ∧ True
set_option maxHeartbeats 4000000 in
set_option maxRecDepth 100000 in
theorem ctX10_state (l : Launch) (hl : l.stackTraces = false) (D : va_G) (kc : Nat → ClassId) (ad : Nat → Nat) (q : SS) (hok : kX10_state q) : Ci l yX10_state (Cond.code yX10_state cX10_state 1 (some .char) :: lw_G) (zr 0 20 200) 20 200 (PX D kc) (GXe D kc ad) (GXe D kc ad) [.ref (ad 0)] q (fX10_state q) := by
  refine Ci.of (cc := cX10_state) (maxL := 1) (ret := (some .char)) (by decide) rfl (Nat.le_of_ble_eq_true rfl) ?_
  intro p e s m args below meth c A S hr hlocks hin hA hK
  have hx := S.1
  have hb := S.2.1
  have hE : EV A s s.heap := hK.2
  have hK : va_K D vwCl (tysK kc) s := hK.1
  refine z_exw (fun wad => ?_)
  generalize hFe : fX10_state q = F
  have hF : F = fX10_state q := hFe.symm
  refine z_aload_n (j := 0) hx hb dX10_state_0 rfl rfl ?_
  refine z_get (v := .ref (ad 4)) S hK inX10 0 (fun _ => rfl) rfl 3 (by decide) q2_138 rfl rfl dX10_state_1 ?_
  refine z_get (v := .int (gI q 512)) S hK inX6 4 (fun _ => rfl) rfl 12 (by decide) q2_57 rfl rfl dX10_state_4 ?_
  have h7 := And.left hok
  have hok := And.right hok
  refine z_weak (G2 := GXe D kc ad A) (fun _ _ h => ⟨wad, h⟩) ?_
  refine z_widen (ce := 20) (sl := 200) (Nat.le_of_ble_eq_true rfl) (Nat.le_of_ble_eq_true rfl) ?_
  exact z_iret hx hb hlocks hr h7 hF dX10_state_7
theorem hX10_state : yX10_state.cls = RX10 ∧ yX10_state.cls ≠ "java/lang/invoke/MethodHandle" ∧ yX10_state.cls ≠ "java/lang/invoke/VarHandle" ∧ (parseMethodDescriptor yX10_state.desc).map (fun d => d.parameters.length) = some 0 := by decide +kernel
def fX10_next (q : SS) : Int32 × SS := ((gI q 510), q)
def kX10_next (q : SS) : Prop := True
set_option maxHeartbeats 4000000 in
set_option maxRecDepth 100000 in
theorem ctX10_next (l : Launch) (hl : l.stackTraces = false) (D : va_G) (kc : Nat → ClassId) (ad : Nat → Nat) (q : SS) (hok : kX10_next q) : Ci l yX10_next (Cond.code yX10_next cX10_next 1 (some .int) :: lw_G) (zr 0 20 200) 20 200 (PX D kc) (GXe D kc ad) (GXe D kc ad) [.ref (ad 0)] q (fX10_next q) := by
  refine Ci.of (cc := cX10_next) (maxL := 1) (ret := (some .int)) (by decide) rfl (Nat.le_of_ble_eq_true rfl) ?_
  intro p e s m args below meth c A S hr hlocks hin hA hK
  have hx := S.1
  have hb := S.2.1
  have hE : EV A s s.heap := hK.2
  have hK : va_K D vwCl (tysK kc) s := hK.1
  refine z_exw (fun wad => ?_)
  generalize hFe : fX10_next q = F
  have hF : F = fX10_next q := hFe.symm
  refine z_aload_n (j := 0) hx hb dX10_next_0 rfl rfl ?_
  refine z_get (v := .ref (ad 4)) S hK inX10 0 (fun _ => rfl) rfl 3 (by decide) q2_138 rfl rfl dX10_next_1 ?_
  refine z_get (v := .int (gI q 510)) S hK inX6 4 (fun _ => rfl) rfl 10 (by decide) q2_53 rfl rfl dX10_next_4 ?_
  refine z_weak (G2 := GXe D kc ad A) (fun _ _ h => ⟨wad, h⟩) ?_
  refine z_widen (ce := 20) (sl := 200) (Nat.le_of_ble_eq_true rfl) (Nat.le_of_ble_eq_true rfl) ?_
  exact z_iret hx hb hlocks hr rfl hF dX10_next_7
theorem hX10_next : yX10_next.cls = RX10 ∧ yX10_next.cls ≠ "java/lang/invoke/MethodHandle" ∧ yX10_next.cls ≠ "java/lang/invoke/VarHandle" ∧ (parseMethodDescriptor yX10_next.desc).map (fun d => d.parameters.length) = some 0 := by decide +kernel
def fX10_returns (q : SS) : Int32 × SS := ((gI q 509), q)
def kX10_returns (q : SS) : Prop := True
set_option maxHeartbeats 4000000 in
set_option maxRecDepth 100000 in
theorem ctX10_returns (l : Launch) (hl : l.stackTraces = false) (D : va_G) (kc : Nat → ClassId) (ad : Nat → Nat) (q : SS) (hok : kX10_returns q) : Ci l yX10_returns (Cond.code yX10_returns cX10_returns 1 (some .int) :: lw_G) (zr 0 20 200) 20 200 (PX D kc) (GXe D kc ad) (GXe D kc ad) [.ref (ad 0)] q (fX10_returns q) := by
  refine Ci.of (cc := cX10_returns) (maxL := 1) (ret := (some .int)) (by decide) rfl (Nat.le_of_ble_eq_true rfl) ?_
  intro p e s m args below meth c A S hr hlocks hin hA hK
  have hx := S.1
  have hb := S.2.1
  have hE : EV A s s.heap := hK.2
  have hK : va_K D vwCl (tysK kc) s := hK.1
  refine z_exw (fun wad => ?_)
  generalize hFe : fX10_returns q = F
  have hF : F = fX10_returns q := hFe.symm
  refine z_aload_n (j := 0) hx hb dX10_returns_0 rfl rfl ?_
  refine z_get (v := .ref (ad 4)) S hK inX10 0 (fun _ => rfl) rfl 3 (by decide) q2_138 rfl rfl dX10_returns_1 ?_
  refine z_get (v := .int (gI q 509)) S hK inX6 4 (fun _ => rfl) rfl 9 (by decide) q2_51 rfl rfl dX10_returns_4 ?_
  refine z_weak (G2 := GXe D kc ad A) (fun _ _ h => ⟨wad, h⟩) ?_
  refine z_widen (ce := 20) (sl := 200) (Nat.le_of_ble_eq_true rfl) (Nat.le_of_ble_eq_true rfl) ?_
  exact z_iret hx hb hlocks hr rfl hF dX10_returns_7
theorem hX10_returns : yX10_returns.cls = RX10 ∧ yX10_returns.cls ≠ "java/lang/invoke/MethodHandle" ∧ yX10_returns.cls ≠ "java/lang/invoke/VarHandle" ∧ (parseMethodDescriptor yX10_returns.desc).map (fun d => d.parameters.length) = some 0 := by decide +kernel
def fX10_bus (q : SS) : Int32 × SS := ((gI q 517), q)
def kX10_bus (q : SS) : Prop := True
set_option maxHeartbeats 4000000 in
set_option maxRecDepth 100000 in
theorem ctX10_bus (l : Launch) (hl : l.stackTraces = false) (D : va_G) (kc : Nat → ClassId) (ad : Nat → Nat) (q : SS) (hok : kX10_bus q) : Ci l yX10_bus (Cond.code yX10_bus cX10_bus 1 (some .int) :: lw_G) (zr 0 20 200) 20 200 (PX D kc) (GXe D kc ad) (GXe D kc ad) [.ref (ad 0)] q (fX10_bus q) := by
  refine Ci.of (cc := cX10_bus) (maxL := 1) (ret := (some .int)) (by decide) rfl (Nat.le_of_ble_eq_true rfl) ?_
  intro p e s m args below meth c A S hr hlocks hin hA hK
  have hx := S.1
  have hb := S.2.1
  have hE : EV A s s.heap := hK.2
  have hK : va_K D vwCl (tysK kc) s := hK.1
  refine z_exw (fun wad => ?_)
  generalize hFe : fX10_bus q = F
  have hF : F = fX10_bus q := hFe.symm
  refine z_aload_n (j := 0) hx hb dX10_bus_0 rfl rfl ?_
  refine z_get (v := .ref (ad 4)) S hK inX10 0 (fun _ => rfl) rfl 3 (by decide) q2_138 rfl rfl dX10_bus_1 ?_
  refine z_get (v := .int (gI q 517)) S hK inX6 4 (fun _ => rfl) rfl 17 (by decide) q2_66 rfl rfl dX10_bus_4 ?_
  refine z_weak (G2 := GXe D kc ad A) (fun _ _ h => ⟨wad, h⟩) ?_
  refine z_widen (ce := 20) (sl := 200) (Nat.le_of_ble_eq_true rfl) (Nat.le_of_ble_eq_true rfl) ?_
  exact z_iret hx hb hlocks hr rfl hF dX10_bus_7
theorem hX10_bus : yX10_bus.cls = RX10 ∧ yX10_bus.cls ≠ "java/lang/invoke/MethodHandle" ∧ yX10_bus.cls ≠ "java/lang/invoke/VarHandle" ∧ (parseMethodDescriptor yX10_bus.desc).map (fun d => d.parameters.length) = some 0 := by decide +kernel
def fX10_drivers (q : SS) : Int32 × SS := ((gI q 518), q)
def kX10_drivers (q : SS) : Prop := True
set_option maxHeartbeats 4000000 in
set_option maxRecDepth 100000 in
theorem ctX10_drivers (l : Launch) (hl : l.stackTraces = false) (D : va_G) (kc : Nat → ClassId) (ad : Nat → Nat) (q : SS) (hok : kX10_drivers q) : Ci l yX10_drivers (Cond.code yX10_drivers cX10_drivers 1 (some .int) :: lw_G) (zr 0 20 200) 20 200 (PX D kc) (GXe D kc ad) (GXe D kc ad) [.ref (ad 0)] q (fX10_drivers q) := by
  refine Ci.of (cc := cX10_drivers) (maxL := 1) (ret := (some .int)) (by decide) rfl (Nat.le_of_ble_eq_true rfl) ?_
  intro p e s m args below meth c A S hr hlocks hin hA hK
  have hx := S.1
  have hb := S.2.1
  have hE : EV A s s.heap := hK.2
  have hK : va_K D vwCl (tysK kc) s := hK.1
  refine z_exw (fun wad => ?_)
  generalize hFe : fX10_drivers q = F
  have hF : F = fX10_drivers q := hFe.symm
  refine z_aload_n (j := 0) hx hb dX10_drivers_0 rfl rfl ?_
  refine z_get (v := .ref (ad 4)) S hK inX10 0 (fun _ => rfl) rfl 3 (by decide) q2_138 rfl rfl dX10_drivers_1 ?_
  refine z_get (v := .int (gI q 518)) S hK inX6 4 (fun _ => rfl) rfl 18 (by decide) q2_68 rfl rfl dX10_drivers_4 ?_
  refine z_weak (G2 := GXe D kc ad A) (fun _ _ h => ⟨wad, h⟩) ?_
  refine z_widen (ce := 20) (sl := 200) (Nat.le_of_ble_eq_true rfl) (Nat.le_of_ble_eq_true rfl) ?_
  exact z_iret hx hb hlocks hr rfl hF dX10_drivers_7
theorem hX10_drivers : yX10_drivers.cls = RX10 ∧ yX10_drivers.cls ≠ "java/lang/invoke/MethodHandle" ∧ yX10_drivers.cls ≠ "java/lang/invoke/VarHandle" ∧ (parseMethodDescriptor yX10_drivers.desc).map (fun d => d.parameters.length) = some 0 := by decide +kernel
def fX10_ended (q : SS) : Int32 × SS := ((gI q 401), q)
def kX10_ended (q : SS) : Prop := True
set_option maxHeartbeats 4000000 in
set_option maxRecDepth 100000 in
theorem ctX10_ended (l : Launch) (hl : l.stackTraces = false) (D : va_G) (kc : Nat → ClassId) (ad : Nat → Nat) (q : SS) (hok : kX10_ended q) : Ci l yX10_ended (Cond.code yX10_ended cX10_ended 1 (some .int) :: lw_G) (zr 0 20 200) 20 200 (PX D kc) (GXe D kc ad) (GXe D kc ad) [.ref (ad 0)] q (fX10_ended q) := by
  refine Ci.of (cc := cX10_ended) (maxL := 1) (ret := (some .int)) (by decide) rfl (Nat.le_of_ble_eq_true rfl) ?_
  intro p e s m args below meth c A S hr hlocks hin hA hK
  have hx := S.1
  have hb := S.2.1
  have hE : EV A s s.heap := hK.2
  have hK : va_K D vwCl (tysK kc) s := hK.1
  refine z_exw (fun wad => ?_)
  generalize hFe : fX10_ended q = F
  have hF : F = fX10_ended q := hFe.symm
  refine z_aload_n (j := 0) hx hb dX10_ended_0 rfl rfl ?_
  refine z_get (v := .ref (ad 3)) S hK inX10 0 (fun _ => rfl) rfl 2 (by decide) q2_137 rfl rfl dX10_ended_1 ?_
  refine z_get (v := .int (gI q 401)) S hK inX1 3 (fun _ => rfl) rfl 1 (by decide) q1_108 rfl rfl dX10_ended_4 ?_
  refine z_weak (G2 := GXe D kc ad A) (fun _ _ h => ⟨wad, h⟩) ?_
  refine z_widen (ce := 20) (sl := 200) (Nat.le_of_ble_eq_true rfl) (Nat.le_of_ble_eq_true rfl) ?_
  exact z_iret hx hb hlocks hr rfl hF dX10_ended_7
theorem hX10_ended : yX10_ended.cls = RX10 ∧ yX10_ended.cls ≠ "java/lang/invoke/MethodHandle" ∧ yX10_ended.cls ≠ "java/lang/invoke/VarHandle" ∧ (parseMethodDescriptor yX10_ended.desc).map (fun d => d.parameters.length) = some 0 := by decide +kernel
def fX10_wrong (q : SS) : Int32 × SS := ((gI q 402), q)
def kX10_wrong (q : SS) : Prop := True
set_option maxHeartbeats 4000000 in
set_option maxRecDepth 100000 in
theorem ctX10_wrong (l : Launch) (hl : l.stackTraces = false) (D : va_G) (kc : Nat → ClassId) (ad : Nat → Nat) (q : SS) (hok : kX10_wrong q) : Ci l yX10_wrong (Cond.code yX10_wrong cX10_wrong 1 (some .int) :: lw_G) (zr 0 20 200) 20 200 (PX D kc) (GXe D kc ad) (GXe D kc ad) [.ref (ad 0)] q (fX10_wrong q) := by
  refine Ci.of (cc := cX10_wrong) (maxL := 1) (ret := (some .int)) (by decide) rfl (Nat.le_of_ble_eq_true rfl) ?_
  intro p e s m args below meth c A S hr hlocks hin hA hK
  have hx := S.1
  have hb := S.2.1
  have hE : EV A s s.heap := hK.2
  have hK : va_K D vwCl (tysK kc) s := hK.1
  refine z_exw (fun wad => ?_)
  generalize hFe : fX10_wrong q = F
  have hF : F = fX10_wrong q := hFe.symm
  refine z_aload_n (j := 0) hx hb dX10_wrong_0 rfl rfl ?_
  refine z_get (v := .ref (ad 3)) S hK inX10 0 (fun _ => rfl) rfl 2 (by decide) q2_137 rfl rfl dX10_wrong_1 ?_
  refine z_get (v := .int (gI q 402)) S hK inX1 3 (fun _ => rfl) rfl 2 (by decide) q1_110 rfl rfl dX10_wrong_4 ?_
  refine z_weak (G2 := GXe D kc ad A) (fun _ _ h => ⟨wad, h⟩) ?_
  refine z_widen (ce := 20) (sl := 200) (Nat.le_of_ble_eq_true rfl) (Nat.le_of_ble_eq_true rfl) ?_
  exact z_iret hx hb hlocks hr rfl hF dX10_wrong_7
theorem hX10_wrong : yX10_wrong.cls = RX10 ∧ yX10_wrong.cls ≠ "java/lang/invoke/MethodHandle" ∧ yX10_wrong.cls ≠ "java/lang/invoke/VarHandle" ∧ (parseMethodDescriptor yX10_wrong.desc).map (fun d => d.parameters.length) = some 0 := by decide +kernel
def fX10_fights (q : SS) : Int32 × SS := ((gI q 404), q)
def kX10_fights (q : SS) : Prop := True
set_option maxHeartbeats 4000000 in
set_option maxRecDepth 100000 in
theorem ctX10_fights (l : Launch) (hl : l.stackTraces = false) (D : va_G) (kc : Nat → ClassId) (ad : Nat → Nat) (q : SS) (hok : kX10_fights q) : Ci l yX10_fights (Cond.code yX10_fights cX10_fights 1 (some .int) :: lw_G) (zr 0 20 200) 20 200 (PX D kc) (GXe D kc ad) (GXe D kc ad) [.ref (ad 0)] q (fX10_fights q) := by
  refine Ci.of (cc := cX10_fights) (maxL := 1) (ret := (some .int)) (by decide) rfl (Nat.le_of_ble_eq_true rfl) ?_
  intro p e s m args below meth c A S hr hlocks hin hA hK
  have hx := S.1
  have hb := S.2.1
  have hE : EV A s s.heap := hK.2
  have hK : va_K D vwCl (tysK kc) s := hK.1
  refine z_exw (fun wad => ?_)
  generalize hFe : fX10_fights q = F
  have hF : F = fX10_fights q := hFe.symm
  refine z_aload_n (j := 0) hx hb dX10_fights_0 rfl rfl ?_
  refine z_get (v := .ref (ad 3)) S hK inX10 0 (fun _ => rfl) rfl 2 (by decide) q2_137 rfl rfl dX10_fights_1 ?_
  refine z_get (v := .int (gI q 404)) S hK inX1 3 (fun _ => rfl) rfl 4 (by decide) q1_114 rfl rfl dX10_fights_4 ?_
  refine z_weak (G2 := GXe D kc ad A) (fun _ _ h => ⟨wad, h⟩) ?_
  refine z_widen (ce := 20) (sl := 200) (Nat.le_of_ble_eq_true rfl) (Nat.le_of_ble_eq_true rfl) ?_
  exact z_iret hx hb hlocks hr rfl hF dX10_fights_7
theorem hX10_fights : yX10_fights.cls = RX10 ∧ yX10_fights.cls ≠ "java/lang/invoke/MethodHandle" ∧ yX10_fights.cls ≠ "java/lang/invoke/VarHandle" ∧ (parseMethodDescriptor yX10_fights.desc).map (fun d => d.parameters.length) = some 0 := by decide +kernel
def fX10_faults (q : SS) : Int32 × SS := ((gI q 405), q)
def kX10_faults (q : SS) : Prop := True
set_option maxHeartbeats 4000000 in
set_option maxRecDepth 100000 in
theorem ctX10_faults (l : Launch) (hl : l.stackTraces = false) (D : va_G) (kc : Nat → ClassId) (ad : Nat → Nat) (q : SS) (hok : kX10_faults q) : Ci l yX10_faults (Cond.code yX10_faults cX10_faults 1 (some .int) :: lw_G) (zr 0 20 200) 20 200 (PX D kc) (GXe D kc ad) (GXe D kc ad) [.ref (ad 0)] q (fX10_faults q) := by
  refine Ci.of (cc := cX10_faults) (maxL := 1) (ret := (some .int)) (by decide) rfl (Nat.le_of_ble_eq_true rfl) ?_
  intro p e s m args below meth c A S hr hlocks hin hA hK
  have hx := S.1
  have hb := S.2.1
  have hE : EV A s s.heap := hK.2
  have hK : va_K D vwCl (tysK kc) s := hK.1
  refine z_exw (fun wad => ?_)
  generalize hFe : fX10_faults q = F
  have hF : F = fX10_faults q := hFe.symm
  refine z_aload_n (j := 0) hx hb dX10_faults_0 rfl rfl ?_
  refine z_get (v := .ref (ad 3)) S hK inX10 0 (fun _ => rfl) rfl 2 (by decide) q2_137 rfl rfl dX10_faults_1 ?_
  refine z_get (v := .int (gI q 405)) S hK inX1 3 (fun _ => rfl) rfl 5 (by decide) q1_116 rfl rfl dX10_faults_4 ?_
  refine z_weak (G2 := GXe D kc ad A) (fun _ _ h => ⟨wad, h⟩) ?_
  refine z_widen (ce := 20) (sl := 200) (Nat.le_of_ble_eq_true rfl) (Nat.le_of_ble_eq_true rfl) ?_
  exact z_iret hx hb hlocks hr rfl hF dX10_faults_7
theorem hX10_faults : yX10_faults.cls = RX10 ∧ yX10_faults.cls ≠ "java/lang/invoke/MethodHandle" ∧ yX10_faults.cls ≠ "java/lang/invoke/VarHandle" ∧ (parseMethodDescriptor yX10_faults.desc).map (fun d => d.parameters.length) = some 0 := by decide +kernel
def fX10_taken (q : SS) : Int32 × SS := ((gI q 406), q)
def kX10_taken (q : SS) : Prop := True
set_option maxHeartbeats 4000000 in
set_option maxRecDepth 100000 in
theorem ctX10_taken (l : Launch) (hl : l.stackTraces = false) (D : va_G) (kc : Nat → ClassId) (ad : Nat → Nat) (q : SS) (hok : kX10_taken q) : Ci l yX10_taken (Cond.code yX10_taken cX10_taken 1 (some .int) :: lw_G) (zr 0 20 200) 20 200 (PX D kc) (GXe D kc ad) (GXe D kc ad) [.ref (ad 0)] q (fX10_taken q) := by
  refine Ci.of (cc := cX10_taken) (maxL := 1) (ret := (some .int)) (by decide) rfl (Nat.le_of_ble_eq_true rfl) ?_
  intro p e s m args below meth c A S hr hlocks hin hA hK
  have hx := S.1
  have hb := S.2.1
  have hE : EV A s s.heap := hK.2
  have hK : va_K D vwCl (tysK kc) s := hK.1
  refine z_exw (fun wad => ?_)
  generalize hFe : fX10_taken q = F
  have hF : F = fX10_taken q := hFe.symm
  refine z_aload_n (j := 0) hx hb dX10_taken_0 rfl rfl ?_
  refine z_get (v := .ref (ad 3)) S hK inX10 0 (fun _ => rfl) rfl 2 (by decide) q2_137 rfl rfl dX10_taken_1 ?_
  refine z_get (v := .int (gI q 406)) S hK inX1 3 (fun _ => rfl) rfl 6 (by decide) q1_118 rfl rfl dX10_taken_4 ?_
  refine z_weak (G2 := GXe D kc ad A) (fun _ _ h => ⟨wad, h⟩) ?_
  refine z_widen (ce := 20) (sl := 200) (Nat.le_of_ble_eq_true rfl) (Nat.le_of_ble_eq_true rfl) ?_
  exact z_iret hx hb hlocks hr rfl hF dX10_taken_7
theorem hX10_taken : yX10_taken.cls = RX10 ∧ yX10_taken.cls ≠ "java/lang/invoke/MethodHandle" ∧ yX10_taken.cls ≠ "java/lang/invoke/VarHandle" ∧ (parseMethodDescriptor yX10_taken.desc).map (fun d => d.parameters.length) = some 0 := by decide +kernel
def fX10_found (q : SS) : Int32 × SS := ((gI q 407), q)
def kX10_found (q : SS) : Prop := True
set_option maxHeartbeats 4000000 in
set_option maxRecDepth 100000 in
theorem ctX10_found (l : Launch) (hl : l.stackTraces = false) (D : va_G) (kc : Nat → ClassId) (ad : Nat → Nat) (q : SS) (hok : kX10_found q) : Ci l yX10_found (Cond.code yX10_found cX10_found 1 (some .int) :: lw_G) (zr 0 20 200) 20 200 (PX D kc) (GXe D kc ad) (GXe D kc ad) [.ref (ad 0)] q (fX10_found q) := by
  refine Ci.of (cc := cX10_found) (maxL := 1) (ret := (some .int)) (by decide) rfl (Nat.le_of_ble_eq_true rfl) ?_
  intro p e s m args below meth c A S hr hlocks hin hA hK
  have hx := S.1
  have hb := S.2.1
  have hE : EV A s s.heap := hK.2
  have hK : va_K D vwCl (tysK kc) s := hK.1
  refine z_exw (fun wad => ?_)
  generalize hFe : fX10_found q = F
  have hF : F = fX10_found q := hFe.symm
  refine z_aload_n (j := 0) hx hb dX10_found_0 rfl rfl ?_
  refine z_get (v := .ref (ad 3)) S hK inX10 0 (fun _ => rfl) rfl 2 (by decide) q2_137 rfl rfl dX10_found_1 ?_
  refine z_get (v := .int (gI q 407)) S hK inX1 3 (fun _ => rfl) rfl 7 (by decide) q1_120 rfl rfl dX10_found_4 ?_
  refine z_weak (G2 := GXe D kc ad A) (fun _ _ h => ⟨wad, h⟩) ?_
  refine z_widen (ce := 20) (sl := 200) (Nat.le_of_ble_eq_true rfl) (Nat.le_of_ble_eq_true rfl) ?_
  exact z_iret hx hb hlocks hr rfl hF dX10_found_7
theorem hX10_found : yX10_found.cls = RX10 ∧ yX10_found.cls ≠ "java/lang/invoke/MethodHandle" ∧ yX10_found.cls ≠ "java/lang/invoke/VarHandle" ∧ (parseMethodDescriptor yX10_found.desc).map (fun d => d.parameters.length) = some 0 := by decide +kernel
def fX10_cycles (q : SS) : Int64 × SS := ((gL q 408), q)
def kX10_cycles (q : SS) : Prop := True
set_option maxHeartbeats 4000000 in
set_option maxRecDepth 100000 in
theorem ctX10_cycles (l : Launch) (hl : l.stackTraces = false) (D : va_G) (kc : Nat → ClassId) (ad : Nat → Nat) (q : SS) (hok : kX10_cycles q) : Cl l yX10_cycles (Cond.code yX10_cycles cX10_cycles 1 (some .long) :: lw_G) (zr 0 20 200) 20 200 (PX D kc) (GXe D kc ad) (GXe D kc ad) [.ref (ad 0)] q (fX10_cycles q) := by
  refine Cl.of (cc := cX10_cycles) (maxL := 1) (ret := (some .long)) (by decide) rfl (Nat.le_of_ble_eq_true rfl) ?_
  intro p e s m args below meth c A S hr hlocks hin hA hK
  have hx := S.1
  have hb := S.2.1
  have hE : EV A s s.heap := hK.2
  have hK : va_K D vwCl (tysK kc) s := hK.1
  refine z_exw (fun wad => ?_)
  generalize hFe : fX10_cycles q = F
  have hF : F = fX10_cycles q := hFe.symm
  refine z_aload_n (j := 0) hx hb dX10_cycles_0 rfl rfl ?_
  refine z_get (v := .ref (ad 3)) S hK inX10 0 (fun _ => rfl) rfl 2 (by decide) q2_137 rfl rfl dX10_cycles_1 ?_
  refine z_get (v := .long (gL q 408)) S hK inX1 3 (fun _ => rfl) rfl 8 (by decide) q1_123 rfl rfl dX10_cycles_4 ?_
  refine z_weak (G2 := GXe D kc ad A) (fun _ _ h => ⟨wad, h⟩) ?_
  refine z_widen (ce := 20) (sl := 200) (Nat.le_of_ble_eq_true rfl) (Nat.le_of_ble_eq_true rfl) ?_
  exact z_lret hx hb hlocks hr hF dX10_cycles_7
theorem hX10_cycles : yX10_cycles.cls = RX10 ∧ yX10_cycles.cls ≠ "java/lang/invoke/MethodHandle" ∧ yX10_cycles.cls ≠ "java/lang/invoke/VarHandle" ∧ (parseMethodDescriptor yX10_cycles.desc).map (fun d => d.parameters.length) = some 0 := by decide +kernel
def fX10_isSound_54 (q : SS) (s0 : Int32) : Int32 × SS := (s0, q)
def kX10_isSound_54 (q : SS) (s0 : Int32) : Prop := narrow .boolean (.int s0) = .int s0 ∧ True
def fX10_isSound_53 (q : SS) : Int32 × SS := fX10_isSound_54 q 0
def kX10_isSound_53 (q : SS) : Prop := kX10_isSound_54 q 0
def fX10_isSound_46 (q : SS) (s0 : Int32) : Int32 × SS := (if s0 = 0 then fX10_isSound_53 q else fX10_isSound_54 q 1)
def kX10_isSound_46 (q : SS) (s0 : Int32) : Prop := ((s0 = 0 → kX10_isSound_53 q) ∧ (¬ s0 = 0 → kX10_isSound_54 q 1))
def fX10_isSound_7 (q : SS) (s0 : Int32) : Int32 × SS := (if s0 = 0 then fX10_isSound_53 q else (if 4 < (gI q 509) then fX10_isSound_53 q else (if 0 < (lg_cmp (gL q 409) (gL q 408)) then fX10_isSound_53 q else fX10_isSound_46 (fX6_isKeptIfNotBegun q).2 (fX6_isKeptIfNotBegun q).1)))
def kX10_isSound_7 (q : SS) (s0 : Int32) : Prop := ((s0 = 0 → kX10_isSound_53 q) ∧ (¬ s0 = 0 → ((4 < (gI q 509) → kX10_isSound_53 q) ∧ (¬ 4 < (gI q 509) → ((0 < (lg_cmp (gL q 409) (gL q 408)) → kX10_isSound_53 q) ∧ (¬ 0 < (lg_cmp (gL q 409) (gL q 408)) → kX6_isKeptIfNotBegun q ∧ kX10_isSound_46 (fX6_isKeptIfNotBegun q).2 (fX6_isKeptIfNotBegun q).1))))))
def fX10_isSound (q : SS) : Int32 × SS := fX10_isSound_7 (fX6_hasSoundParts q).2 (fX6_hasSoundParts q).1
def kX10_isSound (q : SS) : Prop := kX6_hasSoundParts q ∧ kX10_isSound_7 (fX6_hasSoundParts q).2 (fX6_hasSoundParts q).1
set_option maxHeartbeats 4000000 in
set_option maxRecDepth 100000 in
theorem ctX10_isSound (l : Launch) (hl : l.stackTraces = false) (D : va_G) (kc : Nat → ClassId) (ad : Nat → Nat) (q : SS) (hok : kX10_isSound q) : Ci l yX10_isSound (Cond.code yX10_isSound cX10_isSound 1 (some .boolean) :: lw_G) (zr 2 20 200) 20 200 (PX D kc) (GXe D kc ad) (GXe D kc ad) [.ref (ad 0)] q (fX10_isSound q) := by
  refine Ci.of (cc := cX10_isSound) (maxL := 1) (ret := (some .boolean)) (by decide) rfl (Nat.le_of_ble_eq_true rfl) ?_
  intro p e s m args below meth c A S hr hlocks hin hA hK
  have hx := S.1
  have hb := S.2.1
  have hE : EV A s s.heap := hK.2
  have hK : va_K D vwCl (tysK kc) s := hK.1
  refine z_exw (fun wad => ?_)
  generalize hFe : fX10_isSound q = F
  have hF : F = fX10_isSound q := hFe.symm
  have b54 : ∀ (q : SS) (s0 : Int32), kX10_isSound_54 q s0 → F = fX10_isSound_54 q s0 → Z p l e (zr 2 20 200) s m args below meth c 0 0 (MQ below (va_Qi (fun (x : Int32) (_ : Unit) => x = F.1) (fun _ t => (GXe D kc ad) A F.2 t.heap) A) args s 20 200 A) 1 A (ZG D vwCl (wX kc ad wad) (PLX wad) A) q 54 [] [.int s0] := by
    intro q s0 hok hF
    have h54 := And.left hok
    have hok := And.right hok
    refine z_weak (G2 := GXe D kc ad A) (fun _ _ h => ⟨wad, h⟩) ?_
    refine z_widen (ce := 20) (sl := 200) (Nat.le_of_ble_eq_true rfl) (Nat.le_of_ble_eq_true rfl) ?_
    exact z_iret hx hb hlocks hr h54 hF dX10_isSound_54
  have b53 : ∀ (q : SS), kX10_isSound_53 q → F = fX10_isSound_53 q → Z p l e (zr 2 20 200) s m args below meth c 0 0 (MQ below (va_Qi (fun (x : Int32) (_ : Unit) => x = F.1) (fun _ t => (GXe D kc ad) A F.2 t.heap) A) args s 20 200 A) 1 A (ZG D vwCl (wX kc ad wad) (PLX wad) A) q 53 [] [] := by
    intro q hok hF
    refine z_iconst (v := 0) hx hb dX10_isSound_53 (by decide) ?_
    exact b54 q 0 hok hF
  have b46 : ∀ (q : SS) (s0 : Int32), kX10_isSound_46 q s0 → F = fX10_isSound_46 q s0 → Z p l e (zr 2 20 200) s m args below meth c 0 0 (MQ below (va_Qi (fun (x : Int32) (_ : Unit) => x = F.1) (fun _ t => (GXe D kc ad) A F.2 t.heap) A) args s 20 200 A) 1 A (ZG D vwCl (wX kc ad wad) (PLX wad) A) q 46 [] [.int s0] := by
    intro q s0 hok hF
    refine z_if_eq (tgt := 53) hx hb dX10_isSound_46 (by decide) (fun g46 => ?_) (fun g46 => ?_)
    · have hF := hF.trans (if_pos g46)
      have hok := And.left hok g46
      exact b53 q hok hF
    · have hF := hF.trans (if_neg g46)
      have hok := And.right hok g46
      refine z_iconst (v := 1) hx hb dX10_isSound_49 (by decide) ?_
      refine z_goto (tgt := 54) hx hb dX10_isSound_50 (by decide) ?_
      exact b54 q 1 hok hF
  have b7 : ∀ (q : SS) (s0 : Int32), kX10_isSound_7 q s0 → F = fX10_isSound_7 q s0 → Z p l e (zr 2 20 200) s m args below meth c 0 0 (MQ below (va_Qi (fun (x : Int32) (_ : Unit) => x = F.1) (fun _ t => (GXe D kc ad) A F.2 t.heap) A) args s 20 200 A) 1 A (ZG D vwCl (wX kc ad wad) (PLX wad) A) q 7 [(0, .ref (ad 0))] [.int s0] := by
    intro q s0 hok hF
    refine z_if_eq (tgt := 53) hx hb dX10_isSound_7 (by decide) (fun g7 => ?_) (fun g7 => ?_)
    · have hF := hF.trans (if_pos g7)
      have hok := And.left hok g7
      refine z_sub [] rfl ?_
      exact b53 q hok hF
    · have hF := hF.trans (if_neg g7)
      have hok := And.right hok g7
      refine z_aload_n (j := 0) hx hb dX10_isSound_10 rfl rfl ?_
      refine z_get (v := .ref (ad 4)) S hK inX10 0 (fun _ => rfl) rfl 3 (by decide) q2_138 rfl rfl dX10_isSound_11 ?_
      refine z_get (v := .int (gI q 509)) S hK inX6 4 (fun _ => rfl) rfl 9 (by decide) q2_51 rfl rfl dX10_isSound_14 ?_
      refine z_iconst (v := 4) hx hb dX10_isSound_17 (by decide) ?_
      refine z_icmp_gt (tgt := 53) hx hb dX10_isSound_18 (by decide) (fun g18 => ?_) (fun g18 => ?_)
      · have hF := hF.trans (if_pos g18)
        have hok := And.left hok g18
        refine z_sub [] rfl ?_
        exact b53 q hok hF
      · have hF := hF.trans (if_neg g18)
        have hok := And.right hok g18
        refine z_aload_n (j := 0) hx hb dX10_isSound_21 rfl rfl ?_
        refine z_get (v := .ref (ad 3)) S hK inX10 0 (fun _ => rfl) rfl 2 (by decide) q2_137 rfl rfl dX10_isSound_22 ?_
        refine z_get (v := .long (gL q 409)) S hK inX1 3 (fun _ => rfl) rfl 9 (by decide) q1_125 rfl rfl dX10_isSound_25 ?_
        refine z_aload_n (j := 0) hx hb dX10_isSound_28 rfl rfl ?_
        refine z_get (v := .ref (ad 3)) S hK inX10 0 (fun _ => rfl) rfl 2 (by decide) q2_137 rfl rfl dX10_isSound_29 ?_
        refine z_get (v := .long (gL q 408)) S hK inX1 3 (fun _ => rfl) rfl 8 (by decide) q1_123 rfl rfl dX10_isSound_32 ?_
        refine z_lcmp hx hb dX10_isSound_35 ?_
        refine z_if_gt (tgt := 53) hx hb dX10_isSound_36 (by decide) (fun g36 => ?_) (fun g36 => ?_)
        · have hF := hF.trans (if_pos g36)
          have hok := And.left hok g36
          refine z_sub [] rfl ?_
          exact b53 q hok hF
        · have hF := hF.trans (if_neg g36)
          have hok := And.right hok g36
          refine z_aload_n (j := 0) hx hb dX10_isSound_39 rfl rfl ?_
          refine z_get (v := .ref (ad 4)) S hK inX10 0 (fun _ => rfl) rfl 3 (by decide) q2_138 rfl rfl dX10_isSound_40 ?_
          have h43 := And.left hok
          have hok := And.right hok
          refine z_callVi (As := []) S (ctX6_isKeptIfNotBegun l hl D kc ad wad q h43) (cwV 0 S.2.2.2.2 (gV q3_14 q3_15 q3_16 q1_6 q3_17) rfl rfl rfl hX6_isKeptIfNotBegun ⟨Nat.le_of_ble_eq_true rfl, Nat.le_of_ble_eq_true rfl⟩) hA (pbX D kc) (psX hK hE) (z_recv hK 4 (fun _ => rfl) rfl) rfl rfl (Nat.le_of_ble_eq_true rfl) dX10_isSound_43 ⟨Nat.le_of_ble_eq_true rfl, Nat.le_of_ble_eq_true rfl⟩ ?_
          refine z_sub [] rfl ?_
          exact b46 (fX6_isKeptIfNotBegun q).2 (fX6_isKeptIfNotBegun q).1 hok hF
  refine z_aload_n (j := 0) hx hb dX10_isSound_0 rfl rfl ?_
  refine z_get (v := .ref (ad 4)) S hK inX10 0 (fun _ => rfl) rfl 3 (by decide) q2_138 rfl rfl dX10_isSound_1 ?_
  have h4 := And.left hok
  have hok := And.right hok
  refine z_callVi (As := []) S (ctX6_hasSoundParts l hl D kc ad wad q h4) (cwV 0 S.2.2.2.2 (gV q3_7 q3_8 q3_9 q1_6 q3_10) rfl rfl rfl hX6_hasSoundParts ⟨Nat.le_of_ble_eq_true rfl, Nat.le_of_ble_eq_true rfl⟩) hA (pbX D kc) (psX hK hE) (z_recv hK 4 (fun _ => rfl) rfl) rfl rfl (Nat.le_of_ble_eq_true rfl) dX10_isSound_4 ⟨Nat.le_of_ble_eq_true rfl, Nat.le_of_ble_eq_true rfl⟩ ?_
  exact b7 (fX6_hasSoundParts q).2 (fX6_hasSoundParts q).1 hok hF
theorem hX10_isSound : yX10_isSound.cls = RX10 ∧ yX10_isSound.cls ≠ "java/lang/invoke/MethodHandle" ∧ yX10_isSound.cls ≠ "java/lang/invoke/VarHandle" ∧ (parseMethodDescriptor yX10_isSound.desc).map (fun d => d.parameters.length) = some 0 := by decide +kernel
