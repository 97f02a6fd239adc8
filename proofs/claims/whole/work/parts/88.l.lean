/-! the law's wrappers (printed by genw.py) -/
theorem hL_write : yL_write.cls ≠ "java/lang/invoke/MethodHandle" ∧ yL_write.cls ≠ "java/lang/invoke/VarHandle" ∧ (parseMethodDescriptor yL_write.desc).map (fun d => d.parameters.length) = some 10 := by decide +kernel
theorem ctL_write (l : Launch) (hl : l.stackTraces = false) (D : va_G) (kc : Nat → ClassId) (kd : ClassId) (ad : Nat → Nat) (o : Nat) (x : SS) (f : Nat → Int64) (v1 : Int32) (v2 : Int32) (v3 : Int32) (v4 : Int32) (v5 : Int32) (v6 : Int32) (v7 : Int32) (v8 : Int32) (r0 : Int32) (hok : kX10_write x v1 v2 v3 v4 v5 v6 v7 v8) (ht : ∀ k, fX10_write x v1 v2 v3 v4 v5 v6 v7 v8 = .inl k → ∃ i : Nat, ([0, 1, 2] : List Nat)[i]? = some k.1 ∧ r0 = nI (i + 1)) : CWr D kc kd ad o l yL_write (Cond.codeWith yL_write cL_write 11 (some .int) [(0, 22, 25, 13), (0, 22, 29, 15), (0, 22, 33, 17)] :: lw_G) (zr 9 20 200) 20 200 [.ref (ad 0), .int v1, .int v2, .int v3, .int v4, .int v5, .int v6, .int v7, .int v8, .ref o] x (.inl (kc 2, 1, .inr (.inl f))) (wpost (fun a : Int32 => .inl (kc 2, 1, .inr (.inl (vp_updL f 0 a.toInt64)))) (.inl (kc 2, 1, .inr (.inl f))) r0 (fX10_write x v1 v2 v3 v4 v5 v6 v7 v8)) := by
  refine CWr.of (cc := cL_write) (maxL := 11) (ret := some .int) (by decide) rfl (Nat.le_of_ble_eq_true rfl) ?_
  intro p e s m args below meth c A S hr hlocks htab hA hP
  obtain ⟨⟨hK, hE⟩, hKd⟩ := hP
  have hx := S.1
  have hb := S.2.1
  refine z_aload (j := 9) hx hb dL_write_0 rfl ?_
  refine z_iconst (v := 0) hx hb dL_write_2 (by decide) ?_
  refine z_aload_n (j := 0) hx hb dL_write_3 rfl rfl ?_
  refine z_iload_n (j := 1) hx hb dL_write_4 rfl rfl ?_
  refine z_iload_n (j := 2) hx hb dL_write_5 rfl rfl ?_
  refine z_iload_n (j := 3) hx hb dL_write_6 rfl rfl ?_
  refine z_iload (j := 4) hx hb dL_write_7 rfl ?_
  refine z_iload (j := 5) hx hb dL_write_9 rfl ?_
  refine z_iload (j := 6) hx hb dL_write_11 rfl ?_
  refine z_iload (j := 7) hx hb dL_write_13 rfl ?_
  refine z_iload (j := 8) hx hb dL_write_15 rfl ?_
  refine zw_callXi (As := [.int v1, .int v2, .int v3, .int v4, .int v5, .int v6, .int v7, .int v8]) S hK hE (ctX10_write l hl D kc ad x v1 v2 v3 v4 v5 v6 v7 v8 hok) (cwV 8 S.2.2.2.2 (gV q3_107 q3_108 q3_109 q1_1 q3_110) rfl rfl rfl hX10_write ⟨Nat.le_of_ble_eq_true rfl, Nat.le_of_ble_eq_true rfl⟩) hA rfl rfl (Nat.le_of_ble_eq_true rfl) dL_write_17 ⟨Nat.le_of_ble_eq_true rfl, Nat.le_of_ble_eq_true rfl⟩ (fun r u hF => ?_) (fun u hF => ?_)
  · refine z_i2l hx hb dL_write_20 ?_
    refine zw_last S hK dL_write_21 ?_
    refine z_goto (tgt := 37) hx hb dL_write_22 (by decide) ?_
    refine z_iconst (v := 0) hx hb dL_write_37 (by decide) ?_
    exact zw_ret hx hb hlocks hr rfl ⟨fun k hk => (by rw [hF] at hk; cases hk), fun v hv => (by rw [hF] at hv; cases hv; exact ⟨rfl, rfl, rfl⟩)⟩ dL_write_38
  · obtain ⟨i, hi, hr0⟩ := ht u hF
    obtain ⟨k, xk⟩ := u
    match i, hi, hr0 with
    | 0, hi, hr0 =>
      cases (Option.some.inj hi : 0 = k)
      refine zw_catch S hE (k := 0) (by decide) [] ⟨0, 22, 25, 13⟩ [⟨0, 22, 29, 15⟩, ⟨0, 22, 33, 17⟩] htab (fun _ h => nomatch h) (by decide) (by show (13 : Nat) ≠ 0; decide) q3_25 (fun q9 => ?_)
      refine z_astore (lv' := [(10, .ref q9), (0, .ref (ad 0)), (1, .int v1), (2, .int v2), (3, .int v3), (4, .int v4), (5, .int v5), (6, .int v6), (7, .int v7), (8, .int v8), (9, .ref o)]) hx hb dL_write_25 (by decide) rfl ?_
      refine z_iconst (v := 1) hx hb dL_write_27 (by decide) ?_
      exact zw_ret hx hb hlocks hr rfl ⟨fun k hk => (by rw [hF] at hk; cases hk; exact ⟨hr0.symm, rfl, rfl⟩), fun v hv => (by rw [hF] at hv; cases hv)⟩ dL_write_28
    | 1, hi, hr0 =>
      cases (Option.some.inj hi : 1 = k)
      refine zw_catch S hE (k := 1) (by decide) [⟨0, 22, 25, 13⟩] ⟨0, 22, 29, 15⟩ [⟨0, 22, 33, 17⟩] htab (List.forall_mem_cons.mpr ⟨⟨(by show (13 : Nat) ≠ 0; decide), 0, by decide, by decide, q3_25⟩, fun _ h => nomatch h⟩) (by decide) (by show (15 : Nat) ≠ 0; decide) q3_105 (fun q9 => ?_)
      refine z_astore (lv' := [(10, .ref q9), (0, .ref (ad 0)), (1, .int v1), (2, .int v2), (3, .int v3), (4, .int v4), (5, .int v5), (6, .int v6), (7, .int v7), (8, .int v8), (9, .ref o)]) hx hb dL_write_29 (by decide) rfl ?_
      refine z_iconst (v := 2) hx hb dL_write_31 (by decide) ?_
      exact zw_ret hx hb hlocks hr rfl ⟨fun k hk => (by rw [hF] at hk; cases hk; exact ⟨hr0.symm, rfl, rfl⟩), fun v hv => (by rw [hF] at hv; cases hv)⟩ dL_write_32
    | 2, hi, hr0 =>
      cases (Option.some.inj hi : 2 = k)
      refine zw_catch S hE (k := 2) (by decide) [⟨0, 22, 25, 13⟩, ⟨0, 22, 29, 15⟩] ⟨0, 22, 33, 17⟩ [] htab (List.forall_mem_cons.mpr ⟨⟨(by show (13 : Nat) ≠ 0; decide), 0, by decide, by decide, q3_25⟩, List.forall_mem_cons.mpr ⟨⟨(by show (15 : Nat) ≠ 0; decide), 1, by decide, by decide, q3_105⟩, fun _ h => nomatch h⟩⟩) (by decide) (by show (17 : Nat) ≠ 0; decide) q3_106 (fun q9 => ?_)
      refine z_astore (lv' := [(10, .ref q9), (0, .ref (ad 0)), (1, .int v1), (2, .int v2), (3, .int v3), (4, .int v4), (5, .int v5), (6, .int v6), (7, .int v7), (8, .int v8), (9, .ref o)]) hx hb dL_write_33 (by decide) rfl ?_
      refine z_iconst (v := 3) hx hb dL_write_35 (by decide) ?_
      exact zw_ret hx hb hlocks hr rfl ⟨fun k hk => (by rw [hF] at hk; cases hk; exact ⟨hr0.symm, rfl, rfl⟩), fun v hv => (by rw [hF] at hv; cases hv)⟩ dL_write_36
    | i + 3, hi, hr0 => exact absurd hi (by simp)
theorem hL_patch : yL_patch.cls ≠ "java/lang/invoke/MethodHandle" ∧ yL_patch.cls ≠ "java/lang/invoke/VarHandle" ∧ (parseMethodDescriptor yL_patch.desc).map (fun d => d.parameters.length) = some 5 := by decide +kernel
theorem ctL_patch (l : Launch) (hl : l.stackTraces = false) (D : va_G) (kc : Nat → ClassId) (kd : ClassId) (ad : Nat → Nat) (o : Nat) (x : SS) (f : Nat → Int64) (v1 : Int32) (v2 : Int32) (v3 : Int32) (r0 : Int32) (hok : kX10_patch x v1 v2 v3) (ht : ∀ k, fX10_patch x v1 v2 v3 = .inl k → ∃ i : Nat, ([0, 1, 3] : List Nat)[i]? = some k.1 ∧ r0 = nI (i + 1)) : CWr D kc kd ad o l yL_patch (Cond.codeWith yL_patch cL_patch 6 (some .int) [(0, 12, 15, 13), (0, 12, 19, 15), (0, 12, 23, 23)] :: lw_G) (zr 8 20 200) 20 200 [.ref (ad 0), .int v1, .int v2, .int v3, .ref o] x (.inl (kc 2, 1, .inr (.inl f))) (wpost (fun a : Int32 => .inl (kc 2, 1, .inr (.inl (vp_updL f 0 a.toInt64)))) (.inl (kc 2, 1, .inr (.inl f))) r0 (fX10_patch x v1 v2 v3)) := by
  refine CWr.of (cc := cL_patch) (maxL := 6) (ret := some .int) (by decide) rfl (Nat.le_of_ble_eq_true rfl) ?_
  intro p e s m args below meth c A S hr hlocks htab hA hP
  obtain ⟨⟨hK, hE⟩, hKd⟩ := hP
  have hx := S.1
  have hb := S.2.1
  refine z_aload (j := 4) hx hb dL_patch_0 rfl ?_
  refine z_iconst (v := 0) hx hb dL_patch_2 (by decide) ?_
  refine z_aload_n (j := 0) hx hb dL_patch_3 rfl rfl ?_
  refine z_iload_n (j := 1) hx hb dL_patch_4 rfl rfl ?_
  refine z_iload_n (j := 2) hx hb dL_patch_5 rfl rfl ?_
  refine z_iload_n (j := 3) hx hb dL_patch_6 rfl rfl ?_
  refine zw_callXi (As := [.int v1, .int v2, .int v3]) S hK hE (ctX10_patch l hl D kc ad x v1 v2 v3 hok) (cwV 3 S.2.2.2.2 (gV q4_79 q4_80 q4_81 q1_1 q4_82) rfl rfl rfl hX10_patch ⟨Nat.le_of_ble_eq_true rfl, Nat.le_of_ble_eq_true rfl⟩) hA rfl rfl (Nat.le_of_ble_eq_true rfl) dL_patch_7 ⟨Nat.le_of_ble_eq_true rfl, Nat.le_of_ble_eq_true rfl⟩ (fun r u hF => ?_) (fun u hF => ?_)
  · refine z_i2l hx hb dL_patch_10 ?_
    refine zw_last S hK dL_patch_11 ?_
    refine z_goto (tgt := 27) hx hb dL_patch_12 (by decide) ?_
    refine z_iconst (v := 0) hx hb dL_patch_27 (by decide) ?_
    exact zw_ret hx hb hlocks hr rfl ⟨fun k hk => (by rw [hF] at hk; cases hk), fun v hv => (by rw [hF] at hv; cases hv; exact ⟨rfl, rfl, rfl⟩)⟩ dL_patch_28
  · obtain ⟨i, hi, hr0⟩ := ht u hF
    obtain ⟨k, xk⟩ := u
    match i, hi, hr0 with
    | 0, hi, hr0 =>
      cases (Option.some.inj hi : 0 = k)
      refine zw_catch S hE (k := 0) (by decide) [] ⟨0, 12, 15, 13⟩ [⟨0, 12, 19, 15⟩, ⟨0, 12, 23, 23⟩] htab (fun _ h => nomatch h) (by decide) (by show (13 : Nat) ≠ 0; decide) q3_25 (fun q9 => ?_)
      refine z_astore (lv' := [(5, .ref q9), (0, .ref (ad 0)), (1, .int v1), (2, .int v2), (3, .int v3), (4, .ref o)]) hx hb dL_patch_15 (by decide) rfl ?_
      refine z_iconst (v := 1) hx hb dL_patch_17 (by decide) ?_
      exact zw_ret hx hb hlocks hr rfl ⟨fun k hk => (by rw [hF] at hk; cases hk; exact ⟨hr0.symm, rfl, rfl⟩), fun v hv => (by rw [hF] at hv; cases hv)⟩ dL_patch_18
    | 1, hi, hr0 =>
      cases (Option.some.inj hi : 1 = k)
      refine zw_catch S hE (k := 1) (by decide) [⟨0, 12, 15, 13⟩] ⟨0, 12, 19, 15⟩ [⟨0, 12, 23, 23⟩] htab (List.forall_mem_cons.mpr ⟨⟨(by show (13 : Nat) ≠ 0; decide), 0, by decide, by decide, q3_25⟩, fun _ h => nomatch h⟩) (by decide) (by show (15 : Nat) ≠ 0; decide) q3_105 (fun q9 => ?_)
      refine z_astore (lv' := [(5, .ref q9), (0, .ref (ad 0)), (1, .int v1), (2, .int v2), (3, .int v3), (4, .ref o)]) hx hb dL_patch_19 (by decide) rfl ?_
      refine z_iconst (v := 2) hx hb dL_patch_21 (by decide) ?_
      exact zw_ret hx hb hlocks hr rfl ⟨fun k hk => (by rw [hF] at hk; cases hk; exact ⟨hr0.symm, rfl, rfl⟩), fun v hv => (by rw [hF] at hv; cases hv)⟩ dL_patch_22
    | 2, hi, hr0 =>
      cases (Option.some.inj hi : 3 = k)
      refine zw_catch S hE (k := 3) (by decide) [⟨0, 12, 15, 13⟩, ⟨0, 12, 19, 15⟩] ⟨0, 12, 23, 23⟩ [] htab (List.forall_mem_cons.mpr ⟨⟨(by show (13 : Nat) ≠ 0; decide), 0, by decide, by decide, q3_25⟩, List.forall_mem_cons.mpr ⟨⟨(by show (15 : Nat) ≠ 0; decide), 1, by decide, by decide, q3_105⟩, fun _ h => nomatch h⟩⟩) (by decide) (by show (23 : Nat) ≠ 0; decide) q4_78 (fun q9 => ?_)
      refine z_astore (lv' := [(5, .ref q9), (0, .ref (ad 0)), (1, .int v1), (2, .int v2), (3, .int v3), (4, .ref o)]) hx hb dL_patch_23 (by decide) rfl ?_
      refine z_iconst (v := 3) hx hb dL_patch_25 (by decide) ?_
      exact zw_ret hx hb hlocks hr rfl ⟨fun k hk => (by rw [hF] at hk; cases hk; exact ⟨hr0.symm, rfl, rfl⟩), fun v hv => (by rw [hF] at hv; cases hv)⟩ dL_patch_26
    | i + 3, hi, hr0 => exact absurd hi (by simp)
theorem hL_setConstant : yL_setConstant.cls ≠ "java/lang/invoke/MethodHandle" ∧ yL_setConstant.cls ≠ "java/lang/invoke/VarHandle" ∧ (parseMethodDescriptor yL_setConstant.desc).map (fun d => d.parameters.length) = some 4 := by decide +kernel
theorem ctL_setConstant (l : Launch) (hl : l.stackTraces = false) (D : va_G) (kc : Nat → ClassId) (kd : ClassId) (ad : Nat → Nat) (o : Nat) (x : SS) (f : Nat → Int64) (v1 : Int32) (v2 : Int32) (r0 : Int32) (hok : kX10_setConstant x v1 v2) (ht : ∀ k, fX10_setConstant x v1 v2 = .inl k → ∃ i : Nat, ([0, 1, 3] : List Nat)[i]? = some k.1 ∧ r0 = nI (i + 1)) : CWr D kc kd ad o l yL_setConstant (Cond.codeWith yL_setConstant cL_setConstant 5 (some .int) [(0, 10, 13, 13), (0, 10, 17, 15), (0, 10, 21, 23)] :: lw_G) (zr 8 20 200) 20 200 [.ref (ad 0), .int v1, .int v2, .ref o] x (.inl (kc 2, 1, .inr (.inl f))) (wpost (fun a : Int32 => .inl (kc 2, 1, .inr (.inl (vp_updL f 0 a.toInt64)))) (.inl (kc 2, 1, .inr (.inl f))) r0 (fX10_setConstant x v1 v2)) := by
  refine CWr.of (cc := cL_setConstant) (maxL := 5) (ret := some .int) (by decide) rfl (Nat.le_of_ble_eq_true rfl) ?_
  intro p e s m args below meth c A S hr hlocks htab hA hP
  obtain ⟨⟨hK, hE⟩, hKd⟩ := hP
  have hx := S.1
  have hb := S.2.1
  refine z_aload_n (j := 3) hx hb dL_setConstant_0 rfl rfl ?_
  refine z_iconst (v := 0) hx hb dL_setConstant_1 (by decide) ?_
  refine z_aload_n (j := 0) hx hb dL_setConstant_2 rfl rfl ?_
  refine z_iload_n (j := 1) hx hb dL_setConstant_3 rfl rfl ?_
  refine z_iload_n (j := 2) hx hb dL_setConstant_4 rfl rfl ?_
  refine zw_callXi (As := [.int v1, .int v2]) S hK hE (ctX10_setConstant l hl D kc ad x v1 v2 hok) (cwV 2 S.2.2.2.2 (gV q4_112 q4_113 q4_114 q1_1 q4_115) rfl rfl rfl hX10_setConstant ⟨Nat.le_of_ble_eq_true rfl, Nat.le_of_ble_eq_true rfl⟩) hA rfl rfl (Nat.le_of_ble_eq_true rfl) dL_setConstant_5 ⟨Nat.le_of_ble_eq_true rfl, Nat.le_of_ble_eq_true rfl⟩ (fun r u hF => ?_) (fun u hF => ?_)
  · refine z_i2l hx hb dL_setConstant_8 ?_
    refine zw_last S hK dL_setConstant_9 ?_
    refine z_goto (tgt := 25) hx hb dL_setConstant_10 (by decide) ?_
    refine z_iconst (v := 0) hx hb dL_setConstant_25 (by decide) ?_
    exact zw_ret hx hb hlocks hr rfl ⟨fun k hk => (by rw [hF] at hk; cases hk), fun v hv => (by rw [hF] at hv; cases hv; exact ⟨rfl, rfl, rfl⟩)⟩ dL_setConstant_26
  · obtain ⟨i, hi, hr0⟩ := ht u hF
    obtain ⟨k, xk⟩ := u
    match i, hi, hr0 with
    | 0, hi, hr0 =>
      cases (Option.some.inj hi : 0 = k)
      refine zw_catch S hE (k := 0) (by decide) [] ⟨0, 10, 13, 13⟩ [⟨0, 10, 17, 15⟩, ⟨0, 10, 21, 23⟩] htab (fun _ h => nomatch h) (by decide) (by show (13 : Nat) ≠ 0; decide) q3_25 (fun q9 => ?_)
      refine z_astore (lv' := [(4, .ref q9), (0, .ref (ad 0)), (1, .int v1), (2, .int v2), (3, .ref o)]) hx hb dL_setConstant_13 (by decide) rfl ?_
      refine z_iconst (v := 1) hx hb dL_setConstant_15 (by decide) ?_
      exact zw_ret hx hb hlocks hr rfl ⟨fun k hk => (by rw [hF] at hk; cases hk; exact ⟨hr0.symm, rfl, rfl⟩), fun v hv => (by rw [hF] at hv; cases hv)⟩ dL_setConstant_16
    | 1, hi, hr0 =>
      cases (Option.some.inj hi : 1 = k)
      refine zw_catch S hE (k := 1) (by decide) [⟨0, 10, 13, 13⟩] ⟨0, 10, 17, 15⟩ [⟨0, 10, 21, 23⟩] htab (List.forall_mem_cons.mpr ⟨⟨(by show (13 : Nat) ≠ 0; decide), 0, by decide, by decide, q3_25⟩, fun _ h => nomatch h⟩) (by decide) (by show (15 : Nat) ≠ 0; decide) q3_105 (fun q9 => ?_)
      refine z_astore (lv' := [(4, .ref q9), (0, .ref (ad 0)), (1, .int v1), (2, .int v2), (3, .ref o)]) hx hb dL_setConstant_17 (by decide) rfl ?_
      refine z_iconst (v := 2) hx hb dL_setConstant_19 (by decide) ?_
      exact zw_ret hx hb hlocks hr rfl ⟨fun k hk => (by rw [hF] at hk; cases hk; exact ⟨hr0.symm, rfl, rfl⟩), fun v hv => (by rw [hF] at hv; cases hv)⟩ dL_setConstant_20
    | 2, hi, hr0 =>
      cases (Option.some.inj hi : 3 = k)
      refine zw_catch S hE (k := 3) (by decide) [⟨0, 10, 13, 13⟩, ⟨0, 10, 17, 15⟩] ⟨0, 10, 21, 23⟩ [] htab (List.forall_mem_cons.mpr ⟨⟨(by show (13 : Nat) ≠ 0; decide), 0, by decide, by decide, q3_25⟩, List.forall_mem_cons.mpr ⟨⟨(by show (15 : Nat) ≠ 0; decide), 1, by decide, by decide, q3_105⟩, fun _ h => nomatch h⟩⟩) (by decide) (by show (23 : Nat) ≠ 0; decide) q4_78 (fun q9 => ?_)
      refine z_astore (lv' := [(4, .ref q9), (0, .ref (ad 0)), (1, .int v1), (2, .int v2), (3, .ref o)]) hx hb dL_setConstant_21 (by decide) rfl ?_
      refine z_iconst (v := 3) hx hb dL_setConstant_23 (by decide) ?_
      exact zw_ret hx hb hlocks hr rfl ⟨fun k hk => (by rw [hF] at hk; cases hk; exact ⟨hr0.symm, rfl, rfl⟩), fun v hv => (by rw [hF] at hv; cases hv)⟩ dL_setConstant_24
    | i + 3, hi, hr0 => exact absurd hi (by simp)
theorem hL_reason : yL_reason.cls ≠ "java/lang/invoke/MethodHandle" ∧ yL_reason.cls ≠ "java/lang/invoke/VarHandle" ∧ (parseMethodDescriptor yL_reason.desc).map (fun d => d.parameters.length) = some 7 := by decide +kernel
theorem ctL_reason (l : Launch) (hl : l.stackTraces = false) (D : va_G) (kc : Nat → ClassId) (kd : ClassId) (ad : Nat → Nat) (o : Nat) (x : SS) (f : Nat → Int64) (v1 : Int32) (v2 : Int32) (v3 : Int32) (v4 : Int32) (v5 : Int32) (r0 : Int32) (hok : kX10_reason x v1 v2 v3 v4 v5) (ht : ∀ k, fX10_reason x v1 v2 v3 v4 v5 = .inl k → ∃ i : Nat, ([1] : List Nat)[i]? = some k.1 ∧ r0 = nI (i + 1)) : CWr D kc kd ad o l yL_reason (Cond.codeWith yL_reason cL_reason 8 (some .int) [(0, 16, 19, 15)] :: lw_G) (zr 9 20 200) 20 200 [.ref (ad 0), .int v1, .int v2, .int v3, .int v4, .int v5, .ref o] x (.inl (kc 2, 1, .inr (.inl f))) (wpost (fun a : Int32 => .inl (kc 2, 1, .inr (.inl (vp_updL f 0 a.toInt64)))) (.inl (kc 2, 1, .inr (.inl f))) r0 (fX10_reason x v1 v2 v3 v4 v5)) := by
  refine CWr.of (cc := cL_reason) (maxL := 8) (ret := some .int) (by decide) rfl (Nat.le_of_ble_eq_true rfl) ?_
  intro p e s m args below meth c A S hr hlocks htab hA hP
  obtain ⟨⟨hK, hE⟩, hKd⟩ := hP
  have hx := S.1
  have hb := S.2.1
  refine z_aload (j := 6) hx hb dL_reason_0 rfl ?_
  refine z_iconst (v := 0) hx hb dL_reason_2 (by decide) ?_
  refine z_aload_n (j := 0) hx hb dL_reason_3 rfl rfl ?_
  refine z_iload_n (j := 1) hx hb dL_reason_4 rfl rfl ?_
  refine z_iload_n (j := 2) hx hb dL_reason_5 rfl rfl ?_
  refine z_iload_n (j := 3) hx hb dL_reason_6 rfl rfl ?_
  refine z_iload (j := 4) hx hb dL_reason_7 rfl ?_
  refine z_iload (j := 5) hx hb dL_reason_9 rfl ?_
  refine zw_callXi (As := [.int v1, .int v2, .int v3, .int v4, .int v5]) S hK hE (ctX10_reason l hl D kc ad x v1 v2 v3 v4 v5 hok) (cwV 5 S.2.2.2.2 (gV q4_120 q4_121 q4_122 q1_1 q4_123) rfl rfl rfl hX10_reason ⟨Nat.le_of_ble_eq_true rfl, Nat.le_of_ble_eq_true rfl⟩) hA rfl rfl (Nat.le_of_ble_eq_true rfl) dL_reason_11 ⟨Nat.le_of_ble_eq_true rfl, Nat.le_of_ble_eq_true rfl⟩ (fun r u hF => ?_) (fun u hF => ?_)
  · refine z_i2l hx hb dL_reason_14 ?_
    refine zw_last S hK dL_reason_15 ?_
    refine z_goto (tgt := 23) hx hb dL_reason_16 (by decide) ?_
    refine z_iconst (v := 0) hx hb dL_reason_23 (by decide) ?_
    exact zw_ret hx hb hlocks hr rfl ⟨fun k hk => (by rw [hF] at hk; cases hk), fun v hv => (by rw [hF] at hv; cases hv; exact ⟨rfl, rfl, rfl⟩)⟩ dL_reason_24
  · obtain ⟨i, hi, hr0⟩ := ht u hF
    obtain ⟨k, xk⟩ := u
    match i, hi, hr0 with
    | 0, hi, hr0 =>
      cases (Option.some.inj hi : 1 = k)
      refine zw_catch S hE (k := 1) (by decide) [] ⟨0, 16, 19, 15⟩ [] htab (fun _ h => nomatch h) (by decide) (by show (15 : Nat) ≠ 0; decide) q3_105 (fun q9 => ?_)
      refine z_astore (lv' := [(7, .ref q9), (0, .ref (ad 0)), (1, .int v1), (2, .int v2), (3, .int v3), (4, .int v4), (5, .int v5), (6, .ref o)]) hx hb dL_reason_19 (by decide) rfl ?_
      refine z_iconst (v := 1) hx hb dL_reason_21 (by decide) ?_
      exact zw_ret hx hb hlocks hr rfl ⟨fun k hk => (by rw [hF] at hk; cases hk; exact ⟨hr0.symm, rfl, rfl⟩), fun v hv => (by rw [hF] at hv; cases hv)⟩ dL_reason_22
    | i + 1, hi, hr0 => exact absurd hi (by simp)
theorem hL_reserve : yL_reserve.cls ≠ "java/lang/invoke/MethodHandle" ∧ yL_reserve.cls ≠ "java/lang/invoke/VarHandle" ∧ (parseMethodDescriptor yL_reserve.desc).map (fun d => d.parameters.length) = some 3 := by decide +kernel
theorem ctL_reserve (l : Launch) (hl : l.stackTraces = false) (D : va_G) (kc : Nat → ClassId) (kd : ClassId) (ad : Nat → Nat) (o : Nat) (x : SS) (f : Nat → Int64) (v1 : Int32) (r0 : Int32) (hok : kX10_reserve x v1) (ht : ∀ k, fX10_reserve x v1 = .inl k → ∃ i : Nat, ([1, 4] : List Nat)[i]? = some k.1 ∧ r0 = nI (i + 1)) : CWr D kc kd ad o l yL_reserve (Cond.codeWith yL_reserve cL_reserve 4 (some .int) [(0, 9, 12, 15), (0, 9, 15, 37)] :: lw_G) (zr 7 20 200) 20 200 [.ref (ad 0), .int v1, .ref o] x (.inl (kc 2, 1, .inr (.inl f))) (wpost (fun a : Int32 => .inl (kc 2, 1, .inr (.inl (vp_updL f 0 a.toInt64)))) (.inl (kc 2, 1, .inr (.inl f))) r0 (fX10_reserve x v1)) := by
  refine CWr.of (cc := cL_reserve) (maxL := 4) (ret := some .int) (by decide) rfl (Nat.le_of_ble_eq_true rfl) ?_
  intro p e s m args below meth c A S hr hlocks htab hA hP
  obtain ⟨⟨hK, hE⟩, hKd⟩ := hP
  have hx := S.1
  have hb := S.2.1
  refine z_aload_n (j := 2) hx hb dL_reserve_0 rfl rfl ?_
  refine z_iconst (v := 0) hx hb dL_reserve_1 (by decide) ?_
  refine z_aload_n (j := 0) hx hb dL_reserve_2 rfl rfl ?_
  refine z_iload_n (j := 1) hx hb dL_reserve_3 rfl rfl ?_
  refine zw_callXi (As := [.int v1]) S hK hE (ctX10_reserve l hl D kc ad x v1 hok) (cwV 1 S.2.2.2.2 (gV q4_128 q4_129 q4_130 q1_1 q4_131) rfl rfl rfl hX10_reserve ⟨Nat.le_of_ble_eq_true rfl, Nat.le_of_ble_eq_true rfl⟩) hA rfl rfl (Nat.le_of_ble_eq_true rfl) dL_reserve_4 ⟨Nat.le_of_ble_eq_true rfl, Nat.le_of_ble_eq_true rfl⟩ (fun r u hF => ?_) (fun u hF => ?_)
  · refine z_i2l hx hb dL_reserve_7 ?_
    refine zw_last S hK dL_reserve_8 ?_
    refine z_goto (tgt := 18) hx hb dL_reserve_9 (by decide) ?_
    refine z_iconst (v := 0) hx hb dL_reserve_18 (by decide) ?_
    exact zw_ret hx hb hlocks hr rfl ⟨fun k hk => (by rw [hF] at hk; cases hk), fun v hv => (by rw [hF] at hv; cases hv; exact ⟨rfl, rfl, rfl⟩)⟩ dL_reserve_19
  · obtain ⟨i, hi, hr0⟩ := ht u hF
    obtain ⟨k, xk⟩ := u
    match i, hi, hr0 with
    | 0, hi, hr0 =>
      cases (Option.some.inj hi : 1 = k)
      refine zw_catch S hE (k := 1) (by decide) [] ⟨0, 9, 12, 15⟩ [⟨0, 9, 15, 37⟩] htab (fun _ h => nomatch h) (by decide) (by show (15 : Nat) ≠ 0; decide) q3_105 (fun q9 => ?_)
      refine z_astore_n (lv' := [(3, .ref q9), (0, .ref (ad 0)), (1, .int v1), (2, .ref o)]) hx hb dL_reserve_12 rfl (by decide) rfl ?_
      refine z_iconst (v := 1) hx hb dL_reserve_13 (by decide) ?_
      exact zw_ret hx hb hlocks hr rfl ⟨fun k hk => (by rw [hF] at hk; cases hk; exact ⟨hr0.symm, rfl, rfl⟩), fun v hv => (by rw [hF] at hv; cases hv)⟩ dL_reserve_14
    | 1, hi, hr0 =>
      cases (Option.some.inj hi : 4 = k)
      refine zw_catch S hE (k := 4) (by decide) [⟨0, 9, 12, 15⟩] ⟨0, 9, 15, 37⟩ [] htab (List.forall_mem_cons.mpr ⟨⟨(by show (15 : Nat) ≠ 0; decide), 1, by decide, by decide, q3_105⟩, fun _ h => nomatch h⟩) (by decide) (by show (37 : Nat) ≠ 0; decide) q4_127 (fun q9 => ?_)
      refine z_astore_n (lv' := [(3, .ref q9), (0, .ref (ad 0)), (1, .int v1), (2, .ref o)]) hx hb dL_reserve_15 rfl (by decide) rfl ?_
      refine z_iconst (v := 2) hx hb dL_reserve_16 (by decide) ?_
      exact zw_ret hx hb hlocks hr rfl ⟨fun k hk => (by rw [hF] at hk; cases hk; exact ⟨hr0.symm, rfl, rfl⟩), fun v hv => (by rw [hF] at hv; cases hv)⟩ dL_reserve_17
    | i + 2, hi, hr0 => exact absurd hi (by simp)
theorem hL_setEntry : yL_setEntry.cls ≠ "java/lang/invoke/MethodHandle" ∧ yL_setEntry.cls ≠ "java/lang/invoke/VarHandle" ∧ (parseMethodDescriptor yL_setEntry.desc).map (fun d => d.parameters.length) = some 5 := by decide +kernel
theorem ctL_setEntry (l : Launch) (hl : l.stackTraces = false) (D : va_G) (kc : Nat → ClassId) (kd : ClassId) (ad : Nat → Nat) (o : Nat) (x : SS) (f : Nat → Int64) (v1 : Int32) (v2 : Int32) (v3 : Int32) (r0 : Int32) (hok : kX10_setEntry x v1 v2 v3) (ht : ∀ k, fX10_setEntry x v1 v2 v3 = .inl k → ∃ i : Nat, ([0, 1] : List Nat)[i]? = some k.1 ∧ r0 = nI (i + 1)) : CWr D kc kd ad o l yL_setEntry (Cond.codeWith yL_setEntry cL_setEntry 6 (some .int) [(0, 12, 15, 13), (0, 12, 19, 15)] :: lw_G) (zr 8 20 200) 20 200 [.ref (ad 0), .int v1, .int v2, .int v3, .ref o] x (.inl (kc 2, 1, .inr (.inl f))) (wpost (fun a : Int32 => .inl (kc 2, 1, .inr (.inl (vp_updL f 0 a.toInt64)))) (.inl (kc 2, 1, .inr (.inl f))) r0 (fX10_setEntry x v1 v2 v3)) := by
  refine CWr.of (cc := cL_setEntry) (maxL := 6) (ret := some .int) (by decide) rfl (Nat.le_of_ble_eq_true rfl) ?_
  intro p e s m args below meth c A S hr hlocks htab hA hP
  obtain ⟨⟨hK, hE⟩, hKd⟩ := hP
  have hx := S.1
  have hb := S.2.1
  refine z_aload (j := 4) hx hb dL_setEntry_0 rfl ?_
  refine z_iconst (v := 0) hx hb dL_setEntry_2 (by decide) ?_
  refine z_aload_n (j := 0) hx hb dL_setEntry_3 rfl rfl ?_
  refine z_iload_n (j := 1) hx hb dL_setEntry_4 rfl rfl ?_
  refine z_iload_n (j := 2) hx hb dL_setEntry_5 rfl rfl ?_
  refine z_iload_n (j := 3) hx hb dL_setEntry_6 rfl rfl ?_
  refine zw_callXi (As := [.int v1, .int v2, .int v3]) S hK hE (ctX10_setEntry l hl D kc ad x v1 v2 v3 hok) (cwV 3 S.2.2.2.2 (gV q4_160 q4_161 q4_162 q1_1 q4_163) rfl rfl rfl hX10_setEntry ⟨Nat.le_of_ble_eq_true rfl, Nat.le_of_ble_eq_true rfl⟩) hA rfl rfl (Nat.le_of_ble_eq_true rfl) dL_setEntry_7 ⟨Nat.le_of_ble_eq_true rfl, Nat.le_of_ble_eq_true rfl⟩ (fun r u hF => ?_) (fun u hF => ?_)
  · refine z_i2l hx hb dL_setEntry_10 ?_
    refine zw_last S hK dL_setEntry_11 ?_
    refine z_goto (tgt := 23) hx hb dL_setEntry_12 (by decide) ?_
    refine z_iconst (v := 0) hx hb dL_setEntry_23 (by decide) ?_
    exact zw_ret hx hb hlocks hr rfl ⟨fun k hk => (by rw [hF] at hk; cases hk), fun v hv => (by rw [hF] at hv; cases hv; exact ⟨rfl, rfl, rfl⟩)⟩ dL_setEntry_24
  · obtain ⟨i, hi, hr0⟩ := ht u hF
    obtain ⟨k, xk⟩ := u
    match i, hi, hr0 with
    | 0, hi, hr0 =>
      cases (Option.some.inj hi : 0 = k)
      refine zw_catch S hE (k := 0) (by decide) [] ⟨0, 12, 15, 13⟩ [⟨0, 12, 19, 15⟩] htab (fun _ h => nomatch h) (by decide) (by show (13 : Nat) ≠ 0; decide) q3_25 (fun q9 => ?_)
      refine z_astore (lv' := [(5, .ref q9), (0, .ref (ad 0)), (1, .int v1), (2, .int v2), (3, .int v3), (4, .ref o)]) hx hb dL_setEntry_15 (by decide) rfl ?_
      refine z_iconst (v := 1) hx hb dL_setEntry_17 (by decide) ?_
      exact zw_ret hx hb hlocks hr rfl ⟨fun k hk => (by rw [hF] at hk; cases hk; exact ⟨hr0.symm, rfl, rfl⟩), fun v hv => (by rw [hF] at hv; cases hv)⟩ dL_setEntry_18
    | 1, hi, hr0 =>
      cases (Option.some.inj hi : 1 = k)
      refine zw_catch S hE (k := 1) (by decide) [⟨0, 12, 15, 13⟩] ⟨0, 12, 19, 15⟩ [] htab (List.forall_mem_cons.mpr ⟨⟨(by show (13 : Nat) ≠ 0; decide), 0, by decide, by decide, q3_25⟩, fun _ h => nomatch h⟩) (by decide) (by show (15 : Nat) ≠ 0; decide) q3_105 (fun q9 => ?_)
      refine z_astore (lv' := [(5, .ref q9), (0, .ref (ad 0)), (1, .int v1), (2, .int v2), (3, .int v3), (4, .ref o)]) hx hb dL_setEntry_19 (by decide) rfl ?_
      refine z_iconst (v := 2) hx hb dL_setEntry_21 (by decide) ?_
      exact zw_ret hx hb hlocks hr rfl ⟨fun k hk => (by rw [hF] at hk; cases hk; exact ⟨hr0.symm, rfl, rfl⟩), fun v hv => (by rw [hF] at hv; cases hv)⟩ dL_setEntry_22
    | i + 2, hi, hr0 => exact absurd hi (by simp)
theorem hL_setCatch : yL_setCatch.cls ≠ "java/lang/invoke/MethodHandle" ∧ yL_setCatch.cls ≠ "java/lang/invoke/VarHandle" ∧ (parseMethodDescriptor yL_setCatch.desc).map (fun d => d.parameters.length) = some 4 := by decide +kernel
theorem ctL_setCatch (l : Launch) (hl : l.stackTraces = false) (D : va_G) (kc : Nat → ClassId) (kd : ClassId) (ad : Nat → Nat) (o : Nat) (x : SS) (f : Nat → Int64) (v1 : Int32) (v2 : Int32) (r0 : Int32) (hok : kX10_setCatch x v1 v2) (ht : ∀ k, fX10_setCatch x v1 v2 = .inl k → ∃ i : Nat, ([0, 1, 3, 4] : List Nat)[i]? = some k.1 ∧ r0 = nI (i + 1)) : CWr D kc kd ad o l yL_setCatch (Cond.codeWith yL_setCatch cL_setCatch 5 (some .int) [(0, 10, 13, 13), (0, 10, 17, 15), (0, 10, 21, 23), (0, 10, 25, 37)] :: lw_G) (zr 8 20 200) 20 200 [.ref (ad 0), .int v1, .int v2, .ref o] x (.inl (kc 2, 1, .inr (.inl f))) (wpost (fun a : Int32 => .inl (kc 2, 1, .inr (.inl (vp_updL f 0 a.toInt64)))) (.inl (kc 2, 1, .inr (.inl f))) r0 (fX10_setCatch x v1 v2)) := by
  refine CWr.of (cc := cL_setCatch) (maxL := 5) (ret := some .int) (by decide) rfl (Nat.le_of_ble_eq_true rfl) ?_
  intro p e s m args below meth c A S hr hlocks htab hA hP
  obtain ⟨⟨hK, hE⟩, hKd⟩ := hP
  have hx := S.1
  have hb := S.2.1
  refine z_aload_n (j := 3) hx hb dL_setCatch_0 rfl rfl ?_
  refine z_iconst (v := 0) hx hb dL_setCatch_1 (by decide) ?_
  refine z_aload_n (j := 0) hx hb dL_setCatch_2 rfl rfl ?_
  refine z_iload_n (j := 1) hx hb dL_setCatch_3 rfl rfl ?_
  refine z_iload_n (j := 2) hx hb dL_setCatch_4 rfl rfl ?_
  refine zw_callXi (As := [.int v1, .int v2]) S hK hE (ctX10_setCatch l hl D kc ad x v1 v2 hok) (cwV 2 S.2.2.2.2 (gV q4_175 q4_176 q4_177 q1_1 q4_178) rfl rfl rfl hX10_setCatch ⟨Nat.le_of_ble_eq_true rfl, Nat.le_of_ble_eq_true rfl⟩) hA rfl rfl (Nat.le_of_ble_eq_true rfl) dL_setCatch_5 ⟨Nat.le_of_ble_eq_true rfl, Nat.le_of_ble_eq_true rfl⟩ (fun r u hF => ?_) (fun u hF => ?_)
  · refine z_i2l hx hb dL_setCatch_8 ?_
    refine zw_last S hK dL_setCatch_9 ?_
    refine z_goto (tgt := 29) hx hb dL_setCatch_10 (by decide) ?_
    refine z_iconst (v := 0) hx hb dL_setCatch_29 (by decide) ?_
    exact zw_ret hx hb hlocks hr rfl ⟨fun k hk => (by rw [hF] at hk; cases hk), fun v hv => (by rw [hF] at hv; cases hv; exact ⟨rfl, rfl, rfl⟩)⟩ dL_setCatch_30
  · obtain ⟨i, hi, hr0⟩ := ht u hF
    obtain ⟨k, xk⟩ := u
    match i, hi, hr0 with
    | 0, hi, hr0 =>
      cases (Option.some.inj hi : 0 = k)
      refine zw_catch S hE (k := 0) (by decide) [] ⟨0, 10, 13, 13⟩ [⟨0, 10, 17, 15⟩, ⟨0, 10, 21, 23⟩, ⟨0, 10, 25, 37⟩] htab (fun _ h => nomatch h) (by decide) (by show (13 : Nat) ≠ 0; decide) q3_25 (fun q9 => ?_)
      refine z_astore (lv' := [(4, .ref q9), (0, .ref (ad 0)), (1, .int v1), (2, .int v2), (3, .ref o)]) hx hb dL_setCatch_13 (by decide) rfl ?_
      refine z_iconst (v := 1) hx hb dL_setCatch_15 (by decide) ?_
      exact zw_ret hx hb hlocks hr rfl ⟨fun k hk => (by rw [hF] at hk; cases hk; exact ⟨hr0.symm, rfl, rfl⟩), fun v hv => (by rw [hF] at hv; cases hv)⟩ dL_setCatch_16
    | 1, hi, hr0 =>
      cases (Option.some.inj hi : 1 = k)
      refine zw_catch S hE (k := 1) (by decide) [⟨0, 10, 13, 13⟩] ⟨0, 10, 17, 15⟩ [⟨0, 10, 21, 23⟩, ⟨0, 10, 25, 37⟩] htab (List.forall_mem_cons.mpr ⟨⟨(by show (13 : Nat) ≠ 0; decide), 0, by decide, by decide, q3_25⟩, fun _ h => nomatch h⟩) (by decide) (by show (15 : Nat) ≠ 0; decide) q3_105 (fun q9 => ?_)
      refine z_astore (lv' := [(4, .ref q9), (0, .ref (ad 0)), (1, .int v1), (2, .int v2), (3, .ref o)]) hx hb dL_setCatch_17 (by decide) rfl ?_
      refine z_iconst (v := 2) hx hb dL_setCatch_19 (by decide) ?_
      exact zw_ret hx hb hlocks hr rfl ⟨fun k hk => (by rw [hF] at hk; cases hk; exact ⟨hr0.symm, rfl, rfl⟩), fun v hv => (by rw [hF] at hv; cases hv)⟩ dL_setCatch_20
    | 2, hi, hr0 =>
      cases (Option.some.inj hi : 3 = k)
      refine zw_catch S hE (k := 3) (by decide) [⟨0, 10, 13, 13⟩, ⟨0, 10, 17, 15⟩] ⟨0, 10, 21, 23⟩ [⟨0, 10, 25, 37⟩] htab (List.forall_mem_cons.mpr ⟨⟨(by show (13 : Nat) ≠ 0; decide), 0, by decide, by decide, q3_25⟩, List.forall_mem_cons.mpr ⟨⟨(by show (15 : Nat) ≠ 0; decide), 1, by decide, by decide, q3_105⟩, fun _ h => nomatch h⟩⟩) (by decide) (by show (23 : Nat) ≠ 0; decide) q4_78 (fun q9 => ?_)
      refine z_astore (lv' := [(4, .ref q9), (0, .ref (ad 0)), (1, .int v1), (2, .int v2), (3, .ref o)]) hx hb dL_setCatch_21 (by decide) rfl ?_
      refine z_iconst (v := 3) hx hb dL_setCatch_23 (by decide) ?_
      exact zw_ret hx hb hlocks hr rfl ⟨fun k hk => (by rw [hF] at hk; cases hk; exact ⟨hr0.symm, rfl, rfl⟩), fun v hv => (by rw [hF] at hv; cases hv)⟩ dL_setCatch_24
    | 3, hi, hr0 =>
      cases (Option.some.inj hi : 4 = k)
      refine zw_catch S hE (k := 4) (by decide) [⟨0, 10, 13, 13⟩, ⟨0, 10, 17, 15⟩, ⟨0, 10, 21, 23⟩] ⟨0, 10, 25, 37⟩ [] htab (List.forall_mem_cons.mpr ⟨⟨(by show (13 : Nat) ≠ 0; decide), 0, by decide, by decide, q3_25⟩, List.forall_mem_cons.mpr ⟨⟨(by show (15 : Nat) ≠ 0; decide), 1, by decide, by decide, q3_105⟩, List.forall_mem_cons.mpr ⟨⟨(by show (23 : Nat) ≠ 0; decide), 3, by decide, by decide, q4_78⟩, fun _ h => nomatch h⟩⟩⟩) (by decide) (by show (37 : Nat) ≠ 0; decide) q4_127 (fun q9 => ?_)
      refine z_astore (lv' := [(4, .ref q9), (0, .ref (ad 0)), (1, .int v1), (2, .int v2), (3, .ref o)]) hx hb dL_setCatch_25 (by decide) rfl ?_
      refine z_iconst (v := 4) hx hb dL_setCatch_27 (by decide) ?_
      exact zw_ret hx hb hlocks hr rfl ⟨fun k hk => (by rw [hF] at hk; cases hk; exact ⟨hr0.symm, rfl, rfl⟩), fun v hv => (by rw [hF] at hv; cases hv)⟩ dL_setCatch_28
    | i + 4, hi, hr0 => exact absurd hi (by simp)
theorem hL_setCell : yL_setCell.cls ≠ "java/lang/invoke/MethodHandle" ∧ yL_setCell.cls ≠ "java/lang/invoke/VarHandle" ∧ (parseMethodDescriptor yL_setCell.desc).map (fun d => d.parameters.length) = some 4 := by decide +kernel
theorem ctL_setCell (l : Launch) (hl : l.stackTraces = false) (D : va_G) (kc : Nat → ClassId) (kd : ClassId) (ad : Nat → Nat) (o : Nat) (x : SS) (f : Nat → Int64) (v1 : Int32) (v2 : Int32) (r0 : Int32) (hok : kX10_setCell x v1 v2) (ht : ∀ k, fX10_setCell x v1 v2 = .inl k → ∃ i : Nat, ([0, 1, 4] : List Nat)[i]? = some k.1 ∧ r0 = nI (i + 1)) : CWr D kc kd ad o l yL_setCell (Cond.codeWith yL_setCell cL_setCell 5 (some .int) [(0, 10, 13, 13), (0, 10, 17, 15), (0, 10, 21, 37)] :: lw_G) (zr 8 20 200) 20 200 [.ref (ad 0), .int v1, .int v2, .ref o] x (.inl (kc 2, 1, .inr (.inl f))) (wpost (fun a : Int32 => .inl (kc 2, 1, .inr (.inl (vp_updL f 0 a.toInt64)))) (.inl (kc 2, 1, .inr (.inl f))) r0 (fX10_setCell x v1 v2)) := by
  refine CWr.of (cc := cL_setCell) (maxL := 5) (ret := some .int) (by decide) rfl (Nat.le_of_ble_eq_true rfl) ?_
  intro p e s m args below meth c A S hr hlocks htab hA hP
  obtain ⟨⟨hK, hE⟩, hKd⟩ := hP
  have hx := S.1
  have hb := S.2.1
  refine z_aload_n (j := 3) hx hb dL_setCell_0 rfl rfl ?_
  refine z_iconst (v := 0) hx hb dL_setCell_1 (by decide) ?_
  refine z_aload_n (j := 0) hx hb dL_setCell_2 rfl rfl ?_
  refine z_iload_n (j := 1) hx hb dL_setCell_3 rfl rfl ?_
  refine z_iload_n (j := 2) hx hb dL_setCell_4 rfl rfl ?_
  refine zw_callXi (As := [.int v1, .int v2]) S hK hE (ctX10_setCell l hl D kc ad x v1 v2 hok) (cwV 2 S.2.2.2.2 (gV q4_193 q4_194 q4_195 q1_1 q4_196) rfl rfl rfl hX10_setCell ⟨Nat.le_of_ble_eq_true rfl, Nat.le_of_ble_eq_true rfl⟩) hA rfl rfl (Nat.le_of_ble_eq_true rfl) dL_setCell_5 ⟨Nat.le_of_ble_eq_true rfl, Nat.le_of_ble_eq_true rfl⟩ (fun r u hF => ?_) (fun u hF => ?_)
  · refine z_i2l hx hb dL_setCell_8 ?_
    refine zw_last S hK dL_setCell_9 ?_
    refine z_goto (tgt := 25) hx hb dL_setCell_10 (by decide) ?_
    refine z_iconst (v := 0) hx hb dL_setCell_25 (by decide) ?_
    exact zw_ret hx hb hlocks hr rfl ⟨fun k hk => (by rw [hF] at hk; cases hk), fun v hv => (by rw [hF] at hv; cases hv; exact ⟨rfl, rfl, rfl⟩)⟩ dL_setCell_26
  · obtain ⟨i, hi, hr0⟩ := ht u hF
    obtain ⟨k, xk⟩ := u
    match i, hi, hr0 with
    | 0, hi, hr0 =>
      cases (Option.some.inj hi : 0 = k)
      refine zw_catch S hE (k := 0) (by decide) [] ⟨0, 10, 13, 13⟩ [⟨0, 10, 17, 15⟩, ⟨0, 10, 21, 37⟩] htab (fun _ h => nomatch h) (by decide) (by show (13 : Nat) ≠ 0; decide) q3_25 (fun q9 => ?_)
      refine z_astore (lv' := [(4, .ref q9), (0, .ref (ad 0)), (1, .int v1), (2, .int v2), (3, .ref o)]) hx hb dL_setCell_13 (by decide) rfl ?_
      refine z_iconst (v := 1) hx hb dL_setCell_15 (by decide) ?_
      exact zw_ret hx hb hlocks hr rfl ⟨fun k hk => (by rw [hF] at hk; cases hk; exact ⟨hr0.symm, rfl, rfl⟩), fun v hv => (by rw [hF] at hv; cases hv)⟩ dL_setCell_16
    | 1, hi, hr0 =>
      cases (Option.some.inj hi : 1 = k)
      refine zw_catch S hE (k := 1) (by decide) [⟨0, 10, 13, 13⟩] ⟨0, 10, 17, 15⟩ [⟨0, 10, 21, 37⟩] htab (List.forall_mem_cons.mpr ⟨⟨(by show (13 : Nat) ≠ 0; decide), 0, by decide, by decide, q3_25⟩, fun _ h => nomatch h⟩) (by decide) (by show (15 : Nat) ≠ 0; decide) q3_105 (fun q9 => ?_)
      refine z_astore (lv' := [(4, .ref q9), (0, .ref (ad 0)), (1, .int v1), (2, .int v2), (3, .ref o)]) hx hb dL_setCell_17 (by decide) rfl ?_
      refine z_iconst (v := 2) hx hb dL_setCell_19 (by decide) ?_
      exact zw_ret hx hb hlocks hr rfl ⟨fun k hk => (by rw [hF] at hk; cases hk; exact ⟨hr0.symm, rfl, rfl⟩), fun v hv => (by rw [hF] at hv; cases hv)⟩ dL_setCell_20
    | 2, hi, hr0 =>
      cases (Option.some.inj hi : 4 = k)
      refine zw_catch S hE (k := 4) (by decide) [⟨0, 10, 13, 13⟩, ⟨0, 10, 17, 15⟩] ⟨0, 10, 21, 37⟩ [] htab (List.forall_mem_cons.mpr ⟨⟨(by show (13 : Nat) ≠ 0; decide), 0, by decide, by decide, q3_25⟩, List.forall_mem_cons.mpr ⟨⟨(by show (15 : Nat) ≠ 0; decide), 1, by decide, by decide, q3_105⟩, fun _ h => nomatch h⟩⟩) (by decide) (by show (37 : Nat) ≠ 0; decide) q4_127 (fun q9 => ?_)
      refine z_astore (lv' := [(4, .ref q9), (0, .ref (ad 0)), (1, .int v1), (2, .int v2), (3, .ref o)]) hx hb dL_setCell_21 (by decide) rfl ?_
      refine z_iconst (v := 3) hx hb dL_setCell_23 (by decide) ?_
      exact zw_ret hx hb hlocks hr rfl ⟨fun k hk => (by rw [hF] at hk; cases hk; exact ⟨hr0.symm, rfl, rfl⟩), fun v hv => (by rw [hF] at hv; cases hv)⟩ dL_setCell_24
    | i + 3, hi, hr0 => exact absurd hi (by simp)
theorem hL_setRegister : yL_setRegister.cls ≠ "java/lang/invoke/MethodHandle" ∧ yL_setRegister.cls ≠ "java/lang/invoke/VarHandle" ∧ (parseMethodDescriptor yL_setRegister.desc).map (fun d => d.parameters.length) = some 4 := by decide +kernel
theorem ctL_setRegister (l : Launch) (hl : l.stackTraces = false) (D : va_G) (kc : Nat → ClassId) (kd : ClassId) (ad : Nat → Nat) (o : Nat) (x : SS) (f : Nat → Int64) (v1 : Int32) (v2 : Int32) (r0 : Int32) (hok : kX10_setRegister x v1 v2) (ht : ∀ k, fX10_setRegister x v1 v2 = .inl k → ∃ i : Nat, ([0, 1, 4] : List Nat)[i]? = some k.1 ∧ r0 = nI (i + 1)) : CWr D kc kd ad o l yL_setRegister (Cond.codeWith yL_setRegister cL_setRegister 5 (some .int) [(0, 10, 13, 13), (0, 10, 17, 15), (0, 10, 21, 37)] :: lw_G) (zr 8 20 200) 20 200 [.ref (ad 0), .int v1, .int v2, .ref o] x (.inl (kc 2, 1, .inr (.inl f))) (wpost (fun a : Int32 => .inl (kc 2, 1, .inr (.inl (vp_updL f 0 a.toInt64)))) (.inl (kc 2, 1, .inr (.inl f))) r0 (fX10_setRegister x v1 v2)) := by
  refine CWr.of (cc := cL_setRegister) (maxL := 5) (ret := some .int) (by decide) rfl (Nat.le_of_ble_eq_true rfl) ?_
  intro p e s m args below meth c A S hr hlocks htab hA hP
  obtain ⟨⟨hK, hE⟩, hKd⟩ := hP
  have hx := S.1
  have hb := S.2.1
  refine z_aload_n (j := 3) hx hb dL_setRegister_0 rfl rfl ?_
  refine z_iconst (v := 0) hx hb dL_setRegister_1 (by decide) ?_
  refine z_aload_n (j := 0) hx hb dL_setRegister_2 rfl rfl ?_
  refine z_iload_n (j := 1) hx hb dL_setRegister_3 rfl rfl ?_
  refine z_iload_n (j := 2) hx hb dL_setRegister_4 rfl rfl ?_
  refine zw_callXi (As := [.int v1, .int v2]) S hK hE (ctX10_setRegister l hl D kc ad x v1 v2 hok) (cwV 2 S.2.2.2.2 (gV q4_209 q4_210 q4_211 q1_1 q4_212) rfl rfl rfl hX10_setRegister ⟨Nat.le_of_ble_eq_true rfl, Nat.le_of_ble_eq_true rfl⟩) hA rfl rfl (Nat.le_of_ble_eq_true rfl) dL_setRegister_5 ⟨Nat.le_of_ble_eq_true rfl, Nat.le_of_ble_eq_true rfl⟩ (fun r u hF => ?_) (fun u hF => ?_)
  · refine z_i2l hx hb dL_setRegister_8 ?_
    refine zw_last S hK dL_setRegister_9 ?_
    refine z_goto (tgt := 25) hx hb dL_setRegister_10 (by decide) ?_
    refine z_iconst (v := 0) hx hb dL_setRegister_25 (by decide) ?_
    exact zw_ret hx hb hlocks hr rfl ⟨fun k hk => (by rw [hF] at hk; cases hk), fun v hv => (by rw [hF] at hv; cases hv; exact ⟨rfl, rfl, rfl⟩)⟩ dL_setRegister_26
  · obtain ⟨i, hi, hr0⟩ := ht u hF
    obtain ⟨k, xk⟩ := u
    match i, hi, hr0 with
    | 0, hi, hr0 =>
      cases (Option.some.inj hi : 0 = k)
      refine zw_catch S hE (k := 0) (by decide) [] ⟨0, 10, 13, 13⟩ [⟨0, 10, 17, 15⟩, ⟨0, 10, 21, 37⟩] htab (fun _ h => nomatch h) (by decide) (by show (13 : Nat) ≠ 0; decide) q3_25 (fun q9 => ?_)
      refine z_astore (lv' := [(4, .ref q9), (0, .ref (ad 0)), (1, .int v1), (2, .int v2), (3, .ref o)]) hx hb dL_setRegister_13 (by decide) rfl ?_
      refine z_iconst (v := 1) hx hb dL_setRegister_15 (by decide) ?_
      exact zw_ret hx hb hlocks hr rfl ⟨fun k hk => (by rw [hF] at hk; cases hk; exact ⟨hr0.symm, rfl, rfl⟩), fun v hv => (by rw [hF] at hv; cases hv)⟩ dL_setRegister_16
    | 1, hi, hr0 =>
      cases (Option.some.inj hi : 1 = k)
      refine zw_catch S hE (k := 1) (by decide) [⟨0, 10, 13, 13⟩] ⟨0, 10, 17, 15⟩ [⟨0, 10, 21, 37⟩] htab (List.forall_mem_cons.mpr ⟨⟨(by show (13 : Nat) ≠ 0; decide), 0, by decide, by decide, q3_25⟩, fun _ h => nomatch h⟩) (by decide) (by show (15 : Nat) ≠ 0; decide) q3_105 (fun q9 => ?_)
      refine z_astore (lv' := [(4, .ref q9), (0, .ref (ad 0)), (1, .int v1), (2, .int v2), (3, .ref o)]) hx hb dL_setRegister_17 (by decide) rfl ?_
      refine z_iconst (v := 2) hx hb dL_setRegister_19 (by decide) ?_
      exact zw_ret hx hb hlocks hr rfl ⟨fun k hk => (by rw [hF] at hk; cases hk; exact ⟨hr0.symm, rfl, rfl⟩), fun v hv => (by rw [hF] at hv; cases hv)⟩ dL_setRegister_20
    | 2, hi, hr0 =>
      cases (Option.some.inj hi : 4 = k)
      refine zw_catch S hE (k := 4) (by decide) [⟨0, 10, 13, 13⟩, ⟨0, 10, 17, 15⟩] ⟨0, 10, 21, 37⟩ [] htab (List.forall_mem_cons.mpr ⟨⟨(by show (13 : Nat) ≠ 0; decide), 0, by decide, by decide, q3_25⟩, List.forall_mem_cons.mpr ⟨⟨(by show (15 : Nat) ≠ 0; decide), 1, by decide, by decide, q3_105⟩, fun _ h => nomatch h⟩⟩) (by decide) (by show (37 : Nat) ≠ 0; decide) q4_127 (fun q9 => ?_)
      refine z_astore (lv' := [(4, .ref q9), (0, .ref (ad 0)), (1, .int v1), (2, .int v2), (3, .ref o)]) hx hb dL_setRegister_21 (by decide) rfl ?_
      refine z_iconst (v := 3) hx hb dL_setRegister_23 (by decide) ?_
      exact zw_ret hx hb hlocks hr rfl ⟨fun k hk => (by rw [hF] at hk; cases hk; exact ⟨hr0.symm, rfl, rfl⟩), fun v hv => (by rw [hF] at hv; cases hv)⟩ dL_setRegister_24
    | i + 3, hi, hr0 => exact absurd hi (by simp)
theorem hL_start : yL_start.cls ≠ "java/lang/invoke/MethodHandle" ∧ yL_start.cls ≠ "java/lang/invoke/VarHandle" ∧ (parseMethodDescriptor yL_start.desc).map (fun d => d.parameters.length) = some 5 := by decide +kernel
theorem ctL_start (l : Launch) (hl : l.stackTraces = false) (D : va_G) (kc : Nat → ClassId) (kd : ClassId) (ad : Nat → Nat) (o : Nat) (x : SS) (f : Nat → Int64) (v1 : Int32) (v2 : Int32) (v3 : Int32) (r0 : Int32) (hok : kX10_start x v1 v2 v3) (ht : ∀ k, fX10_start x v1 v2 v3 = .inl k → ∃ i : Nat, ([1, 4] : List Nat)[i]? = some k.1 ∧ r0 = nI (i + 1)) : CWr D kc kd ad o l yL_start (Cond.codeWith yL_start cL_start 6 (some .int) [(0, 12, 15, 15), (0, 12, 19, 37)] :: lw_G) (zr 8 20 200) 20 200 [.ref (ad 0), .int v1, .int v2, .int v3, .ref o] x (.inl (kc 2, 1, .inr (.inl f))) (wpost (fun a : Int32 => .inl (kc 2, 1, .inr (.inl (vp_updL f 0 a.toInt64)))) (.inl (kc 2, 1, .inr (.inl f))) r0 (fX10_start x v1 v2 v3)) := by
  refine CWr.of (cc := cL_start) (maxL := 6) (ret := some .int) (by decide) rfl (Nat.le_of_ble_eq_true rfl) ?_
  intro p e s m args below meth c A S hr hlocks htab hA hP
  obtain ⟨⟨hK, hE⟩, hKd⟩ := hP
  have hx := S.1
  have hb := S.2.1
  refine z_aload (j := 4) hx hb dL_start_0 rfl ?_
  refine z_iconst (v := 0) hx hb dL_start_2 (by decide) ?_
  refine z_aload_n (j := 0) hx hb dL_start_3 rfl rfl ?_
  refine z_iload_n (j := 1) hx hb dL_start_4 rfl rfl ?_
  refine z_iload_n (j := 2) hx hb dL_start_5 rfl rfl ?_
  refine z_iload_n (j := 3) hx hb dL_start_6 rfl rfl ?_
  refine zw_callXi (As := [.int v1, .int v2, .int v3]) S hK hE (ctX10_start l hl D kc ad x v1 v2 v3 hok) (cwV 3 S.2.2.2.2 (gV q4_220 q4_221 q4_222 q1_1 q4_223) rfl rfl rfl hX10_start ⟨Nat.le_of_ble_eq_true rfl, Nat.le_of_ble_eq_true rfl⟩) hA rfl rfl (Nat.le_of_ble_eq_true rfl) dL_start_7 ⟨Nat.le_of_ble_eq_true rfl, Nat.le_of_ble_eq_true rfl⟩ (fun r u hF => ?_) (fun u hF => ?_)
  · refine z_i2l hx hb dL_start_10 ?_
    refine zw_last S hK dL_start_11 ?_
    refine z_goto (tgt := 23) hx hb dL_start_12 (by decide) ?_
    refine z_iconst (v := 0) hx hb dL_start_23 (by decide) ?_
    exact zw_ret hx hb hlocks hr rfl ⟨fun k hk => (by rw [hF] at hk; cases hk), fun v hv => (by rw [hF] at hv; cases hv; exact ⟨rfl, rfl, rfl⟩)⟩ dL_start_24
  · obtain ⟨i, hi, hr0⟩ := ht u hF
    obtain ⟨k, xk⟩ := u
    match i, hi, hr0 with
    | 0, hi, hr0 =>
      cases (Option.some.inj hi : 1 = k)
      refine zw_catch S hE (k := 1) (by decide) [] ⟨0, 12, 15, 15⟩ [⟨0, 12, 19, 37⟩] htab (fun _ h => nomatch h) (by decide) (by show (15 : Nat) ≠ 0; decide) q3_105 (fun q9 => ?_)
      refine z_astore (lv' := [(5, .ref q9), (0, .ref (ad 0)), (1, .int v1), (2, .int v2), (3, .int v3), (4, .ref o)]) hx hb dL_start_15 (by decide) rfl ?_
      refine z_iconst (v := 1) hx hb dL_start_17 (by decide) ?_
      exact zw_ret hx hb hlocks hr rfl ⟨fun k hk => (by rw [hF] at hk; cases hk; exact ⟨hr0.symm, rfl, rfl⟩), fun v hv => (by rw [hF] at hv; cases hv)⟩ dL_start_18
    | 1, hi, hr0 =>
      cases (Option.some.inj hi : 4 = k)
      refine zw_catch S hE (k := 4) (by decide) [⟨0, 12, 15, 15⟩] ⟨0, 12, 19, 37⟩ [] htab (List.forall_mem_cons.mpr ⟨⟨(by show (15 : Nat) ≠ 0; decide), 1, by decide, by decide, q3_105⟩, fun _ h => nomatch h⟩) (by decide) (by show (37 : Nat) ≠ 0; decide) q4_127 (fun q9 => ?_)
      refine z_astore (lv' := [(5, .ref q9), (0, .ref (ad 0)), (1, .int v1), (2, .int v2), (3, .int v3), (4, .ref o)]) hx hb dL_start_19 (by decide) rfl ?_
      refine z_iconst (v := 2) hx hb dL_start_21 (by decide) ?_
      exact zw_ret hx hb hlocks hr rfl ⟨fun k hk => (by rw [hF] at hk; cases hk; exact ⟨hr0.symm, rfl, rfl⟩), fun v hv => (by rw [hF] at hv; cases hv)⟩ dL_start_22
    | i + 2, hi, hr0 => exact absurd hi (by simp)
theorem hL_setPage : yL_setPage.cls ≠ "java/lang/invoke/MethodHandle" ∧ yL_setPage.cls ≠ "java/lang/invoke/VarHandle" ∧ (parseMethodDescriptor yL_setPage.desc).map (fun d => d.parameters.length) = some 4 := by decide +kernel
theorem ctL_setPage (l : Launch) (hl : l.stackTraces = false) (D : va_G) (kc : Nat → ClassId) (kd : ClassId) (ad : Nat → Nat) (o : Nat) (x : SS) (f : Nat → Int64) (v1 : Int32) (v2 : Int32) (r0 : Int32) (hok : kX10_setPage x v1 v2) (ht : ∀ k, fX10_setPage x v1 v2 = .inl k → ∃ i : Nat, ([0] : List Nat)[i]? = some k.1 ∧ r0 = nI (i + 1)) : CWr D kc kd ad o l yL_setPage (Cond.codeWith yL_setPage cL_setPage 5 (some .int) [(0, 17, 20, 13)] :: lw_G) (zr 8 20 200) 20 200 [.ref (ad 0), .int v1, .int v2, .ref o] x (.inl (kc 2, 1, .inr (.inl f))) (wpost (fun a : Int32 => .inl (kc 2, 1, .inr (.inl (vp_updL f 0 (if a = 0 then 0 else 1))))) (.inl (kc 2, 1, .inr (.inl f))) r0 (fX10_setPage x v1 v2)) := by
  refine CWr.of (cc := cL_setPage) (maxL := 5) (ret := some .int) (by decide) rfl (Nat.le_of_ble_eq_true rfl) ?_
  intro p e s m args below meth c A S hr hlocks htab hA hP
  obtain ⟨⟨hK, hE⟩, hKd⟩ := hP
  have hx := S.1
  have hb := S.2.1
  refine z_aload_n (j := 3) hx hb dL_setPage_0 rfl rfl ?_
  refine z_iconst (v := 0) hx hb dL_setPage_1 (by decide) ?_
  refine z_aload_n (j := 0) hx hb dL_setPage_2 rfl rfl ?_
  refine z_iload_n (j := 1) hx hb dL_setPage_3 rfl rfl ?_
  refine z_iload_n (j := 2) hx hb dL_setPage_4 rfl rfl ?_
  refine zw_callXi (As := [.int v1, .int v2]) S hK hE (ctX10_setPage l hl D kc ad x v1 v2 hok) (cwV 2 S.2.2.2.2 (gV q4_231 q4_232 q4_233 q1_1 q4_234) rfl rfl rfl hX10_setPage ⟨Nat.le_of_ble_eq_true rfl, Nat.le_of_ble_eq_true rfl⟩) hA rfl rfl (Nat.le_of_ble_eq_true rfl) dL_setPage_5 ⟨Nat.le_of_ble_eq_true rfl, Nat.le_of_ble_eq_true rfl⟩ (fun r u hF => ?_) (fun u hF => ?_)
  · refine z_if_eq (tgt := 15) hx hb dL_setPage_8 (by decide) (fun g0 => ?_) (fun g0 => ?_)
    · refine z_lconst (v := 0) hx hb dL_setPage_15 (by decide) ?_
      refine zw_last S hK dL_setPage_16 ?_
      refine z_goto (tgt := 24) hx hb dL_setPage_17 (by decide) ?_
      refine z_iconst (v := 0) hx hb dL_setPage_24 (by decide) ?_
      exact zw_ret hx hb hlocks hr rfl ⟨fun k hk => (by rw [hF] at hk; cases hk), fun v hv => (by rw [hF] at hv; cases hv; exact ⟨rfl, rfl, (by dsimp only; rw [if_pos g0])⟩)⟩ dL_setPage_25
    · refine z_lconst (v := 1) hx hb dL_setPage_11 (by decide) ?_
      refine z_goto (tgt := 16) hx hb dL_setPage_12 (by decide) ?_
      refine zw_last S hK dL_setPage_16 ?_
      refine z_goto (tgt := 24) hx hb dL_setPage_17 (by decide) ?_
      refine z_iconst (v := 0) hx hb dL_setPage_24 (by decide) ?_
      exact zw_ret hx hb hlocks hr rfl ⟨fun k hk => (by rw [hF] at hk; cases hk), fun v hv => (by rw [hF] at hv; cases hv; exact ⟨rfl, rfl, (by dsimp only; rw [if_neg g0])⟩)⟩ dL_setPage_25
  · obtain ⟨i, hi, hr0⟩ := ht u hF
    obtain ⟨k, xk⟩ := u
    match i, hi, hr0 with
    | 0, hi, hr0 =>
      cases (Option.some.inj hi : 0 = k)
      refine zw_catch S hE (k := 0) (by decide) [] ⟨0, 17, 20, 13⟩ [] htab (fun _ h => nomatch h) (by decide) (by show (13 : Nat) ≠ 0; decide) q3_25 (fun q9 => ?_)
      refine z_astore (lv' := [(4, .ref q9), (0, .ref (ad 0)), (1, .int v1), (2, .int v2), (3, .ref o)]) hx hb dL_setPage_20 (by decide) rfl ?_
      refine z_iconst (v := 1) hx hb dL_setPage_22 (by decide) ?_
      exact zw_ret hx hb hlocks hr rfl ⟨fun k hk => (by rw [hF] at hk; cases hk; exact ⟨hr0.symm, rfl, rfl⟩), fun v hv => (by rw [hF] at hv; cases hv)⟩ dL_setPage_23
    | i + 1, hi, hr0 => exact absurd hi (by simp)
theorem hL_setWait : yL_setWait.cls ≠ "java/lang/invoke/MethodHandle" ∧ yL_setWait.cls ≠ "java/lang/invoke/VarHandle" ∧ (parseMethodDescriptor yL_setWait.desc).map (fun d => d.parameters.length) = some 3 := by decide +kernel
theorem ctL_setWait (l : Launch) (hl : l.stackTraces = false) (D : va_G) (kc : Nat → ClassId) (kd : ClassId) (ad : Nat → Nat) (o : Nat) (x : SS) (f : Nat → Int64) (v1 : Int32) (r0 : Int32) (hok : kX10_setWait x v1) (ht : ∀ k, fX10_setWait x v1 = .inl k → ∃ i : Nat, ([1] : List Nat)[i]? = some k.1 ∧ r0 = nI (i + 1)) : CWr D kc kd ad o l yL_setWait (Cond.codeWith yL_setWait cL_setWait 4 (some .int) [(0, 9, 12, 15)] :: lw_G) (zr 8 20 200) 20 200 [.ref (ad 0), .int v1, .ref o] x (.inl (kc 2, 1, .inr (.inl f))) (wpost (fun a : Int32 => .inl (kc 2, 1, .inr (.inl (vp_updL f 0 a.toInt64)))) (.inl (kc 2, 1, .inr (.inl f))) r0 (fX10_setWait x v1)) := by
  refine CWr.of (cc := cL_setWait) (maxL := 4) (ret := some .int) (by decide) rfl (Nat.le_of_ble_eq_true rfl) ?_
  intro p e s m args below meth c A S hr hlocks htab hA hP
  obtain ⟨⟨hK, hE⟩, hKd⟩ := hP
  have hx := S.1
  have hb := S.2.1
  refine z_aload_n (j := 2) hx hb dL_setWait_0 rfl rfl ?_
  refine z_iconst (v := 0) hx hb dL_setWait_1 (by decide) ?_
  refine z_aload_n (j := 0) hx hb dL_setWait_2 rfl rfl ?_
  refine z_iload_n (j := 1) hx hb dL_setWait_3 rfl rfl ?_
  refine zw_callXi (As := [.int v1]) S hK hE (ctX10_setWait l hl D kc ad x v1 hok) (cwV 1 S.2.2.2.2 (gV q5_6 q5_7 q5_8 q1_1 q5_9) rfl rfl rfl hX10_setWait ⟨Nat.le_of_ble_eq_true rfl, Nat.le_of_ble_eq_true rfl⟩) hA rfl rfl (Nat.le_of_ble_eq_true rfl) dL_setWait_4 ⟨Nat.le_of_ble_eq_true rfl, Nat.le_of_ble_eq_true rfl⟩ (fun r u hF => ?_) (fun u hF => ?_)
  · refine z_i2l hx hb dL_setWait_7 ?_
    refine zw_last S hK dL_setWait_8 ?_
    refine z_goto (tgt := 15) hx hb dL_setWait_9 (by decide) ?_
    refine z_iconst (v := 0) hx hb dL_setWait_15 (by decide) ?_
    exact zw_ret hx hb hlocks hr rfl ⟨fun k hk => (by rw [hF] at hk; cases hk), fun v hv => (by rw [hF] at hv; cases hv; exact ⟨rfl, rfl, rfl⟩)⟩ dL_setWait_16
  · obtain ⟨i, hi, hr0⟩ := ht u hF
    obtain ⟨k, xk⟩ := u
    match i, hi, hr0 with
    | 0, hi, hr0 =>
      cases (Option.some.inj hi : 1 = k)
      refine zw_catch S hE (k := 1) (by decide) [] ⟨0, 9, 12, 15⟩ [] htab (fun _ h => nomatch h) (by decide) (by show (15 : Nat) ≠ 0; decide) q3_105 (fun q9 => ?_)
      refine z_astore_n (lv' := [(3, .ref q9), (0, .ref (ad 0)), (1, .int v1), (2, .ref o)]) hx hb dL_setWait_12 rfl (by decide) rfl ?_
      refine z_iconst (v := 1) hx hb dL_setWait_13 (by decide) ?_
      exact zw_ret hx hb hlocks hr rfl ⟨fun k hk => (by rw [hF] at hk; cases hk; exact ⟨hr0.symm, rfl, rfl⟩), fun v hv => (by rw [hF] at hv; cases hv)⟩ dL_setWait_14
    | i + 1, hi, hr0 => exact absurd hi (by simp)
theorem hL_setVector : yL_setVector.cls ≠ "java/lang/invoke/MethodHandle" ∧ yL_setVector.cls ≠ "java/lang/invoke/VarHandle" ∧ (parseMethodDescriptor yL_setVector.desc).map (fun d => d.parameters.length) = some 3 := by decide +kernel
theorem ctL_setVector (l : Launch) (hl : l.stackTraces = false) (D : va_G) (kc : Nat → ClassId) (kd : ClassId) (ad : Nat → Nat) (o : Nat) (x : SS) (f : Nat → Int64) (v1 : Int32) (r0 : Int32) (hok : kX10_setVector x v1) (ht : ∀ k, fX10_setVector x v1 = .inl k → ∃ i : Nat, ([1] : List Nat)[i]? = some k.1 ∧ r0 = nI (i + 1)) : CWr D kc kd ad o l yL_setVector (Cond.codeWith yL_setVector cL_setVector 4 (some .int) [(0, 9, 12, 15)] :: lw_G) (zr 8 20 200) 20 200 [.ref (ad 0), .int v1, .ref o] x (.inl (kc 2, 1, .inr (.inl f))) (wpost (fun a : Int32 => .inl (kc 2, 1, .inr (.inl (vp_updL f 0 a.toInt64)))) (.inl (kc 2, 1, .inr (.inl f))) r0 (fX10_setVector x v1)) := by
  refine CWr.of (cc := cL_setVector) (maxL := 4) (ret := some .int) (by decide) rfl (Nat.le_of_ble_eq_true rfl) ?_
  intro p e s m args below meth c A S hr hlocks htab hA hP
  obtain ⟨⟨hK, hE⟩, hKd⟩ := hP
  have hx := S.1
  have hb := S.2.1
  refine z_aload_n (j := 2) hx hb dL_setVector_0 rfl rfl ?_
  refine z_iconst (v := 0) hx hb dL_setVector_1 (by decide) ?_
  refine z_aload_n (j := 0) hx hb dL_setVector_2 rfl rfl ?_
  refine z_iload_n (j := 1) hx hb dL_setVector_3 rfl rfl ?_
  refine zw_callXi (As := [.int v1]) S hK hE (ctX10_setVector l hl D kc ad x v1 hok) (cwV 1 S.2.2.2.2 (gV q5_13 q5_14 q5_15 q1_1 q5_16) rfl rfl rfl hX10_setVector ⟨Nat.le_of_ble_eq_true rfl, Nat.le_of_ble_eq_true rfl⟩) hA rfl rfl (Nat.le_of_ble_eq_true rfl) dL_setVector_4 ⟨Nat.le_of_ble_eq_true rfl, Nat.le_of_ble_eq_true rfl⟩ (fun r u hF => ?_) (fun u hF => ?_)
  · refine z_i2l hx hb dL_setVector_7 ?_
    refine zw_last S hK dL_setVector_8 ?_
    refine z_goto (tgt := 15) hx hb dL_setVector_9 (by decide) ?_
    refine z_iconst (v := 0) hx hb dL_setVector_15 (by decide) ?_
    exact zw_ret hx hb hlocks hr rfl ⟨fun k hk => (by rw [hF] at hk; cases hk), fun v hv => (by rw [hF] at hv; cases hv; exact ⟨rfl, rfl, rfl⟩)⟩ dL_setVector_16
  · obtain ⟨i, hi, hr0⟩ := ht u hF
    obtain ⟨k, xk⟩ := u
    match i, hi, hr0 with
    | 0, hi, hr0 =>
      cases (Option.some.inj hi : 1 = k)
      refine zw_catch S hE (k := 1) (by decide) [] ⟨0, 9, 12, 15⟩ [] htab (fun _ h => nomatch h) (by decide) (by show (15 : Nat) ≠ 0; decide) q3_105 (fun q9 => ?_)
      refine z_astore_n (lv' := [(3, .ref q9), (0, .ref (ad 0)), (1, .int v1), (2, .ref o)]) hx hb dL_setVector_12 rfl (by decide) rfl ?_
      refine z_iconst (v := 1) hx hb dL_setVector_13 (by decide) ?_
      exact zw_ret hx hb hlocks hr rfl ⟨fun k hk => (by rw [hF] at hk; cases hk; exact ⟨hr0.symm, rfl, rfl⟩), fun v hv => (by rw [hF] at hv; cases hv)⟩ dL_setVector_14
    | i + 1, hi, hr0 => exact absurd hi (by simp)
theorem hL_step : yL_step.cls ≠ "java/lang/invoke/MethodHandle" ∧ yL_step.cls ≠ "java/lang/invoke/VarHandle" ∧ (parseMethodDescriptor yL_step.desc).map (fun d => d.parameters.length) = some 3 := by decide +kernel
theorem ctL_step (l : Launch) (hl : l.stackTraces = false) (D : va_G) (kc : Nat → ClassId) (kd : ClassId) (ad : Nat → Nat) (o : Nat) (x : SS) (f : Nat → Int64) (v1 : Int32) (r0 : Int32) (hok : kX10_step x v1) (ht : ∀ k, fX10_step x v1 = .inl k → ∃ i : Nat, ([1] : List Nat)[i]? = some k.1 ∧ r0 = nI (i + 1)) : CWr D kc kd ad o l yL_step (Cond.codeWith yL_step cL_step 4 (some .int) [(0, 9, 12, 15)] :: lw_G) (zr 8 20 200) 20 200 [.ref (ad 0), .int v1, .ref o] x (.inl (kc 2, 1, .inr (.inl f))) (wpost (fun a : Int32 => .inl (kc 2, 1, .inr (.inl (vp_updL f 0 a.toInt64)))) (.inl (kc 2, 1, .inr (.inl f))) r0 (fX10_step x v1)) := by
  refine CWr.of (cc := cL_step) (maxL := 4) (ret := some .int) (by decide) rfl (Nat.le_of_ble_eq_true rfl) ?_
  intro p e s m args below meth c A S hr hlocks htab hA hP
  obtain ⟨⟨hK, hE⟩, hKd⟩ := hP
  have hx := S.1
  have hb := S.2.1
  refine z_aload_n (j := 2) hx hb dL_step_0 rfl rfl ?_
  refine z_iconst (v := 0) hx hb dL_step_1 (by decide) ?_
  refine z_aload_n (j := 0) hx hb dL_step_2 rfl rfl ?_
  refine z_iload_n (j := 1) hx hb dL_step_3 rfl rfl ?_
  refine zw_callXi (As := [.int v1]) S hK hE (ctX10_step l hl D kc ad x v1 hok) (cwV 1 S.2.2.2.2 (gV q5_20 q5_21 q5_22 q1_1 q5_23) rfl rfl rfl hX10_step ⟨Nat.le_of_ble_eq_true rfl, Nat.le_of_ble_eq_true rfl⟩) hA rfl rfl (Nat.le_of_ble_eq_true rfl) dL_step_4 ⟨Nat.le_of_ble_eq_true rfl, Nat.le_of_ble_eq_true rfl⟩ (fun r u hF => ?_) (fun u hF => ?_)
  · refine z_i2l hx hb dL_step_7 ?_
    refine zw_last S hK dL_step_8 ?_
    refine z_goto (tgt := 15) hx hb dL_step_9 (by decide) ?_
    refine z_iconst (v := 0) hx hb dL_step_15 (by decide) ?_
    exact zw_ret hx hb hlocks hr rfl ⟨fun k hk => (by rw [hF] at hk; cases hk), fun v hv => (by rw [hF] at hv; cases hv; exact ⟨rfl, rfl, rfl⟩)⟩ dL_step_16
  · obtain ⟨i, hi, hr0⟩ := ht u hF
    obtain ⟨k, xk⟩ := u
    match i, hi, hr0 with
    | 0, hi, hr0 =>
      cases (Option.some.inj hi : 1 = k)
      refine zw_catch S hE (k := 1) (by decide) [] ⟨0, 9, 12, 15⟩ [] htab (fun _ h => nomatch h) (by decide) (by show (15 : Nat) ≠ 0; decide) q3_105 (fun q9 => ?_)
      refine z_astore_n (lv' := [(3, .ref q9), (0, .ref (ad 0)), (1, .int v1), (2, .ref o)]) hx hb dL_step_12 rfl (by decide) rfl ?_
      refine z_iconst (v := 1) hx hb dL_step_13 (by decide) ?_
      exact zw_ret hx hb hlocks hr rfl ⟨fun k hk => (by rw [hF] at hk; cases hk; exact ⟨hr0.symm, rfl, rfl⟩), fun v hv => (by rw [hF] at hv; cases hv)⟩ dL_step_14
    | i + 1, hi, hr0 => exact absurd hi (by simp)
theorem hL_run : yL_run.cls ≠ "java/lang/invoke/MethodHandle" ∧ yL_run.cls ≠ "java/lang/invoke/VarHandle" ∧ (parseMethodDescriptor yL_run.desc).map (fun d => d.parameters.length) = some 3 := by decide +kernel
theorem ctL_run (l : Launch) (hl : l.stackTraces = false) (D : va_G) (kc : Nat → ClassId) (kd : ClassId) (ad : Nat → Nat) (o : Nat) (x : SS) (f : Nat → Int64) (v1 : Int32) (r0 : Int32) (hok : kX10_run x v1) (ht : ∀ k, fX10_run x v1 = .inl k → ∃ i : Nat, ([1] : List Nat)[i]? = some k.1 ∧ r0 = nI (i + 1)) : CWr D kc kd ad o l yL_run (Cond.codeWith yL_run cL_run 4 (some .int) [(0, 9, 12, 15)] :: lw_G) (zr 8 20 200) 20 200 [.ref (ad 0), .int v1, .ref o] x (.inl (kc 2, 1, .inr (.inl f))) (wpost (fun a : Int32 => .inl (kc 2, 1, .inr (.inl (vp_updL f 0 a.toInt64)))) (.inl (kc 2, 1, .inr (.inl f))) r0 (fX10_run x v1)) := by
  refine CWr.of (cc := cL_run) (maxL := 4) (ret := some .int) (by decide) rfl (Nat.le_of_ble_eq_true rfl) ?_
  intro p e s m args below meth c A S hr hlocks htab hA hP
  obtain ⟨⟨hK, hE⟩, hKd⟩ := hP
  have hx := S.1
  have hb := S.2.1
  refine z_aload_n (j := 2) hx hb dL_run_0 rfl rfl ?_
  refine z_iconst (v := 0) hx hb dL_run_1 (by decide) ?_
  refine z_aload_n (j := 0) hx hb dL_run_2 rfl rfl ?_
  refine z_iload_n (j := 1) hx hb dL_run_3 rfl rfl ?_
  refine zw_callXi (As := [.int v1]) S hK hE (ctX10_run l hl D kc ad x v1 hok) (cwV 1 S.2.2.2.2 (gV q5_195 q5_196 q5_197 q1_1 q5_198) rfl rfl rfl hX10_run ⟨Nat.le_of_ble_eq_true rfl, Nat.le_of_ble_eq_true rfl⟩) hA rfl rfl (Nat.le_of_ble_eq_true rfl) dL_run_4 ⟨Nat.le_of_ble_eq_true rfl, Nat.le_of_ble_eq_true rfl⟩ (fun r u hF => ?_) (fun u hF => ?_)
  · refine z_i2l hx hb dL_run_7 ?_
    refine zw_last S hK dL_run_8 ?_
    refine z_goto (tgt := 15) hx hb dL_run_9 (by decide) ?_
    refine z_iconst (v := 0) hx hb dL_run_15 (by decide) ?_
    exact zw_ret hx hb hlocks hr rfl ⟨fun k hk => (by rw [hF] at hk; cases hk), fun v hv => (by rw [hF] at hv; cases hv; exact ⟨rfl, rfl, rfl⟩)⟩ dL_run_16
  · obtain ⟨i, hi, hr0⟩ := ht u hF
    obtain ⟨k, xk⟩ := u
    match i, hi, hr0 with
    | 0, hi, hr0 =>
      cases (Option.some.inj hi : 1 = k)
      refine zw_catch S hE (k := 1) (by decide) [] ⟨0, 9, 12, 15⟩ [] htab (fun _ h => nomatch h) (by decide) (by show (15 : Nat) ≠ 0; decide) q3_105 (fun q9 => ?_)
      refine z_astore_n (lv' := [(3, .ref q9), (0, .ref (ad 0)), (1, .int v1), (2, .ref o)]) hx hb dL_run_12 rfl (by decide) rfl ?_
      refine z_iconst (v := 1) hx hb dL_run_13 (by decide) ?_
      exact zw_ret hx hb hlocks hr rfl ⟨fun k hk => (by rw [hF] at hk; cases hk; exact ⟨hr0.symm, rfl, rfl⟩), fun v hv => (by rw [hF] at hv; cases hv)⟩ dL_run_14
    | i + 1, hi, hr0 => exact absurd hi (by simp)
theorem hL_cell : yL_cell.cls ≠ "java/lang/invoke/MethodHandle" ∧ yL_cell.cls ≠ "java/lang/invoke/VarHandle" ∧ (parseMethodDescriptor yL_cell.desc).map (fun d => d.parameters.length) = some 3 := by decide +kernel
theorem ctL_cell (l : Launch) (hl : l.stackTraces = false) (D : va_G) (kc : Nat → ClassId) (kd : ClassId) (ad : Nat → Nat) (o : Nat) (x : SS) (f : Nat → Int64) (v1 : Int32) (r0 : Int32) (hok : kX10_cell x v1) (ht : ∀ k, fX10_cell x v1 = .inl k → ∃ i : Nat, ([0] : List Nat)[i]? = some k.1 ∧ r0 = nI (i + 1)) : CWr D kc kd ad o l yL_cell (Cond.codeWith yL_cell cL_cell 4 (some .int) [(0, 9, 12, 13)] :: lw_G) (zr 8 20 200) 20 200 [.ref (ad 0), .int v1, .ref o] x (.inl (kc 2, 1, .inr (.inl f))) (wpost (fun a : Int32 => .inl (kc 2, 1, .inr (.inl (vp_updL f 0 a.toInt64)))) (.inl (kc 2, 1, .inr (.inl f))) r0 (fX10_cell x v1)) := by
  refine CWr.of (cc := cL_cell) (maxL := 4) (ret := some .int) (by decide) rfl (Nat.le_of_ble_eq_true rfl) ?_
  intro p e s m args below meth c A S hr hlocks htab hA hP
  obtain ⟨⟨hK, hE⟩, hKd⟩ := hP
  have hx := S.1
  have hb := S.2.1
  refine z_aload_n (j := 2) hx hb dL_cell_0 rfl rfl ?_
  refine z_iconst (v := 0) hx hb dL_cell_1 (by decide) ?_
  refine z_aload_n (j := 0) hx hb dL_cell_2 rfl rfl ?_
  refine z_iload_n (j := 1) hx hb dL_cell_3 rfl rfl ?_
  refine zw_callXi (As := [.int v1]) S hK hE (ctX10_cell l hl D kc ad x v1 hok) (cwV 1 S.2.2.2.2 (gV q5_202 q5_203 q5_204 q1_1 q5_205) rfl rfl rfl hX10_cell ⟨Nat.le_of_ble_eq_true rfl, Nat.le_of_ble_eq_true rfl⟩) hA rfl rfl (Nat.le_of_ble_eq_true rfl) dL_cell_4 ⟨Nat.le_of_ble_eq_true rfl, Nat.le_of_ble_eq_true rfl⟩ (fun r u hF => ?_) (fun u hF => ?_)
  · refine z_i2l hx hb dL_cell_7 ?_
    refine zw_last S hK dL_cell_8 ?_
    refine z_goto (tgt := 15) hx hb dL_cell_9 (by decide) ?_
    refine z_iconst (v := 0) hx hb dL_cell_15 (by decide) ?_
    exact zw_ret hx hb hlocks hr rfl ⟨fun k hk => (by rw [hF] at hk; cases hk), fun v hv => (by rw [hF] at hv; cases hv; exact ⟨rfl, rfl, rfl⟩)⟩ dL_cell_16
  · obtain ⟨i, hi, hr0⟩ := ht u hF
    obtain ⟨k, xk⟩ := u
    match i, hi, hr0 with
    | 0, hi, hr0 =>
      cases (Option.some.inj hi : 0 = k)
      refine zw_catch S hE (k := 0) (by decide) [] ⟨0, 9, 12, 13⟩ [] htab (fun _ h => nomatch h) (by decide) (by show (13 : Nat) ≠ 0; decide) q3_25 (fun q9 => ?_)
      refine z_astore_n (lv' := [(3, .ref q9), (0, .ref (ad 0)), (1, .int v1), (2, .ref o)]) hx hb dL_cell_12 rfl (by decide) rfl ?_
      refine z_iconst (v := 1) hx hb dL_cell_13 (by decide) ?_
      exact zw_ret hx hb hlocks hr rfl ⟨fun k hk => (by rw [hF] at hk; cases hk; exact ⟨hr0.symm, rfl, rfl⟩), fun v hv => (by rw [hF] at hv; cases hv)⟩ dL_cell_14
    | i + 1, hi, hr0 => exact absurd hi (by simp)
theorem hL_register : yL_register.cls ≠ "java/lang/invoke/MethodHandle" ∧ yL_register.cls ≠ "java/lang/invoke/VarHandle" ∧ (parseMethodDescriptor yL_register.desc).map (fun d => d.parameters.length) = some 3 := by decide +kernel
theorem ctL_register (l : Launch) (hl : l.stackTraces = false) (D : va_G) (kc : Nat → ClassId) (kd : ClassId) (ad : Nat → Nat) (o : Nat) (x : SS) (f : Nat → Int64) (v1 : Int32) (r0 : Int32) (hok : kX10_register x v1) (ht : ∀ k, fX10_register x v1 = .inl k → ∃ i : Nat, ([0] : List Nat)[i]? = some k.1 ∧ r0 = nI (i + 1)) : CWr D kc kd ad o l yL_register (Cond.codeWith yL_register cL_register 4 (some .int) [(0, 9, 12, 13)] :: lw_G) (zr 8 20 200) 20 200 [.ref (ad 0), .int v1, .ref o] x (.inl (kc 2, 1, .inr (.inl f))) (wpost (fun a : Int32 => .inl (kc 2, 1, .inr (.inl (vp_updL f 0 a.toInt64)))) (.inl (kc 2, 1, .inr (.inl f))) r0 (fX10_register x v1)) := by
  refine CWr.of (cc := cL_register) (maxL := 4) (ret := some .int) (by decide) rfl (Nat.le_of_ble_eq_true rfl) ?_
  intro p e s m args below meth c A S hr hlocks htab hA hP
  obtain ⟨⟨hK, hE⟩, hKd⟩ := hP
  have hx := S.1
  have hb := S.2.1
  refine z_aload_n (j := 2) hx hb dL_register_0 rfl rfl ?_
  refine z_iconst (v := 0) hx hb dL_register_1 (by decide) ?_
  refine z_aload_n (j := 0) hx hb dL_register_2 rfl rfl ?_
  refine z_iload_n (j := 1) hx hb dL_register_3 rfl rfl ?_
  refine zw_callXi (As := [.int v1]) S hK hE (ctX10_register l hl D kc ad x v1 hok) (cwV 1 S.2.2.2.2 (gV q5_210 q5_211 q5_212 q1_1 q5_213) rfl rfl rfl hX10_register ⟨Nat.le_of_ble_eq_true rfl, Nat.le_of_ble_eq_true rfl⟩) hA rfl rfl (Nat.le_of_ble_eq_true rfl) dL_register_4 ⟨Nat.le_of_ble_eq_true rfl, Nat.le_of_ble_eq_true rfl⟩ (fun r u hF => ?_) (fun u hF => ?_)
  · refine z_i2l hx hb dL_register_7 ?_
    refine zw_last S hK dL_register_8 ?_
    refine z_goto (tgt := 15) hx hb dL_register_9 (by decide) ?_
    refine z_iconst (v := 0) hx hb dL_register_15 (by decide) ?_
    exact zw_ret hx hb hlocks hr rfl ⟨fun k hk => (by rw [hF] at hk; cases hk), fun v hv => (by rw [hF] at hv; cases hv; exact ⟨rfl, rfl, rfl⟩)⟩ dL_register_16
  · obtain ⟨i, hi, hr0⟩ := ht u hF
    obtain ⟨k, xk⟩ := u
    match i, hi, hr0 with
    | 0, hi, hr0 =>
      cases (Option.some.inj hi : 0 = k)
      refine zw_catch S hE (k := 0) (by decide) [] ⟨0, 9, 12, 13⟩ [] htab (fun _ h => nomatch h) (by decide) (by show (13 : Nat) ≠ 0; decide) q3_25 (fun q9 => ?_)
      refine z_astore_n (lv' := [(3, .ref q9), (0, .ref (ad 0)), (1, .int v1), (2, .ref o)]) hx hb dL_register_12 rfl (by decide) rfl ?_
      refine z_iconst (v := 1) hx hb dL_register_13 (by decide) ?_
      exact zw_ret hx hb hlocks hr rfl ⟨fun k hk => (by rw [hF] at hk; cases hk; exact ⟨hr0.symm, rfl, rfl⟩), fun v hv => (by rw [hF] at hv; cases hv)⟩ dL_register_14
    | i + 1, hi, hr0 => exact absurd hi (by simp)
theorem hL_part : yL_part.cls ≠ "java/lang/invoke/MethodHandle" ∧ yL_part.cls ≠ "java/lang/invoke/VarHandle" ∧ (parseMethodDescriptor yL_part.desc).map (fun d => d.parameters.length) = some 3 := by decide +kernel
theorem ctL_part (l : Launch) (hl : l.stackTraces = false) (D : va_G) (kc : Nat → ClassId) (kd : ClassId) (ad : Nat → Nat) (o : Nat) (x : SS) (f : Nat → Int64) (v1 : Int32) (r0 : Int32) (hok : kX10_part x v1) (ht : ∀ k, fX10_part x v1 = .inl k → ∃ i : Nat, ([1] : List Nat)[i]? = some k.1 ∧ r0 = nI (i + 1)) : CWr D kc kd ad o l yL_part (Cond.codeWith yL_part cL_part 4 (some .int) [(0, 9, 12, 15)] :: lw_G) (zr 7 20 200) 20 200 [.ref (ad 0), .int v1, .ref o] x (.inl (kc 2, 1, .inr (.inl f))) (wpost (fun a : Int32 => .inl (kc 2, 1, .inr (.inl (vp_updL f 0 a.toInt64)))) (.inl (kc 2, 1, .inr (.inl f))) r0 (fX10_part x v1)) := by
  refine CWr.of (cc := cL_part) (maxL := 4) (ret := some .int) (by decide) rfl (Nat.le_of_ble_eq_true rfl) ?_
  intro p e s m args below meth c A S hr hlocks htab hA hP
  obtain ⟨⟨hK, hE⟩, hKd⟩ := hP
  have hx := S.1
  have hb := S.2.1
  refine z_aload_n (j := 2) hx hb dL_part_0 rfl rfl ?_
  refine z_iconst (v := 0) hx hb dL_part_1 (by decide) ?_
  refine z_aload_n (j := 0) hx hb dL_part_2 rfl rfl ?_
  refine z_iload_n (j := 1) hx hb dL_part_3 rfl rfl ?_
  refine zw_callXi (As := [.int v1]) S hK hE (ctX10_part l hl D kc ad x v1 hok) (cwV 1 S.2.2.2.2 (gV q5_217 q5_218 q5_219 q1_1 q5_220) rfl rfl rfl hX10_part ⟨Nat.le_of_ble_eq_true rfl, Nat.le_of_ble_eq_true rfl⟩) hA rfl rfl (Nat.le_of_ble_eq_true rfl) dL_part_4 ⟨Nat.le_of_ble_eq_true rfl, Nat.le_of_ble_eq_true rfl⟩ (fun r u hF => ?_) (fun u hF => ?_)
  · refine z_i2l hx hb dL_part_7 ?_
    refine zw_last S hK dL_part_8 ?_
    refine z_goto (tgt := 15) hx hb dL_part_9 (by decide) ?_
    refine z_iconst (v := 0) hx hb dL_part_15 (by decide) ?_
    exact zw_ret hx hb hlocks hr rfl ⟨fun k hk => (by rw [hF] at hk; cases hk), fun v hv => (by rw [hF] at hv; cases hv; exact ⟨rfl, rfl, rfl⟩)⟩ dL_part_16
  · obtain ⟨i, hi, hr0⟩ := ht u hF
    obtain ⟨k, xk⟩ := u
    match i, hi, hr0 with
    | 0, hi, hr0 =>
      cases (Option.some.inj hi : 1 = k)
      refine zw_catch S hE (k := 1) (by decide) [] ⟨0, 9, 12, 15⟩ [] htab (fun _ h => nomatch h) (by decide) (by show (15 : Nat) ≠ 0; decide) q3_105 (fun q9 => ?_)
      refine z_astore_n (lv' := [(3, .ref q9), (0, .ref (ad 0)), (1, .int v1), (2, .ref o)]) hx hb dL_part_12 rfl (by decide) rfl ?_
      refine z_iconst (v := 1) hx hb dL_part_13 (by decide) ?_
      exact zw_ret hx hb hlocks hr rfl ⟨fun k hk => (by rw [hF] at hk; cases hk; exact ⟨hr0.symm, rfl, rfl⟩), fun v hv => (by rw [hF] at hv; cases hv)⟩ dL_part_14
    | i + 1, hi, hr0 => exact absurd hi (by simp)
theorem hL_unset : yL_unset.cls ≠ "java/lang/invoke/MethodHandle" ∧ yL_unset.cls ≠ "java/lang/invoke/VarHandle" ∧ (parseMethodDescriptor yL_unset.desc).map (fun d => d.parameters.length) = some 3 := by decide +kernel
theorem ctL_unset (l : Launch) (hl : l.stackTraces = false) (D : va_G) (kc : Nat → ClassId) (kd : ClassId) (ad : Nat → Nat) (o : Nat) (x : SS) (f : Nat → Int64) (v1 : Int32) (r0 : Int32) (hok : kX10_unset x v1) (ht : ∀ k, fX10_unset x v1 = .inl k → ∃ i : Nat, ([0] : List Nat)[i]? = some k.1 ∧ r0 = nI (i + 1)) : CWr D kc kd ad o l yL_unset (Cond.codeWith yL_unset cL_unset 4 (some .int) [(0, 9, 12, 13)] :: lw_G) (zr 8 20 200) 20 200 [.ref (ad 0), .int v1, .ref o] x (.inl (kc 2, 1, .inr (.inl f))) (wpost (fun a : Int32 => .inl (kc 2, 1, .inr (.inl (vp_updL f 0 a.toInt64)))) (.inl (kc 2, 1, .inr (.inl f))) r0 (fX10_unset x v1)) := by
  refine CWr.of (cc := cL_unset) (maxL := 4) (ret := some .int) (by decide) rfl (Nat.le_of_ble_eq_true rfl) ?_
  intro p e s m args below meth c A S hr hlocks htab hA hP
  obtain ⟨⟨hK, hE⟩, hKd⟩ := hP
  have hx := S.1
  have hb := S.2.1
  refine z_aload_n (j := 2) hx hb dL_unset_0 rfl rfl ?_
  refine z_iconst (v := 0) hx hb dL_unset_1 (by decide) ?_
  refine z_aload_n (j := 0) hx hb dL_unset_2 rfl rfl ?_
  refine z_iload_n (j := 1) hx hb dL_unset_3 rfl rfl ?_
  refine zw_callXi (As := [.int v1]) S hK hE (ctX10_unset l hl D kc ad x v1 hok) (cwV 1 S.2.2.2.2 (gV q5_234 q5_235 q5_236 q1_1 q5_237) rfl rfl rfl hX10_unset ⟨Nat.le_of_ble_eq_true rfl, Nat.le_of_ble_eq_true rfl⟩) hA rfl rfl (Nat.le_of_ble_eq_true rfl) dL_unset_4 ⟨Nat.le_of_ble_eq_true rfl, Nat.le_of_ble_eq_true rfl⟩ (fun r u hF => ?_) (fun u hF => ?_)
  · refine z_i2l hx hb dL_unset_7 ?_
    refine zw_last S hK dL_unset_8 ?_
    refine z_goto (tgt := 15) hx hb dL_unset_9 (by decide) ?_
    refine z_iconst (v := 0) hx hb dL_unset_15 (by decide) ?_
    exact zw_ret hx hb hlocks hr rfl ⟨fun k hk => (by rw [hF] at hk; cases hk), fun v hv => (by rw [hF] at hv; cases hv; exact ⟨rfl, rfl, rfl⟩)⟩ dL_unset_16
  · obtain ⟨i, hi, hr0⟩ := ht u hF
    obtain ⟨k, xk⟩ := u
    match i, hi, hr0 with
    | 0, hi, hr0 =>
      cases (Option.some.inj hi : 0 = k)
      refine zw_catch S hE (k := 0) (by decide) [] ⟨0, 9, 12, 13⟩ [] htab (fun _ h => nomatch h) (by decide) (by show (13 : Nat) ≠ 0; decide) q3_25 (fun q9 => ?_)
      refine z_astore_n (lv' := [(3, .ref q9), (0, .ref (ad 0)), (1, .int v1), (2, .ref o)]) hx hb dL_unset_12 rfl (by decide) rfl ?_
      refine z_iconst (v := 1) hx hb dL_unset_13 (by decide) ?_
      exact zw_ret hx hb hlocks hr rfl ⟨fun k hk => (by rw [hF] at hk; cases hk; exact ⟨hr0.symm, rfl, rfl⟩), fun v hv => (by rw [hF] at hv; cases hv)⟩ dL_unset_14
    | i + 1, hi, hr0 => exact absurd hi (by simp)
theorem hL_reached : yL_reached.cls ≠ "java/lang/invoke/MethodHandle" ∧ yL_reached.cls ≠ "java/lang/invoke/VarHandle" ∧ (parseMethodDescriptor yL_reached.desc).map (fun d => d.parameters.length) = some 3 := by decide +kernel
theorem ctL_reached (l : Launch) (hl : l.stackTraces = false) (D : va_G) (kc : Nat → ClassId) (kd : ClassId) (ad : Nat → Nat) (o : Nat) (x : SS) (f : Nat → Int64) (v1 : Int32) (r0 : Int32) (hok : kX10_reached x v1) (ht : ∀ k, fX10_reached x v1 = .inl k → ∃ i : Nat, ([0] : List Nat)[i]? = some k.1 ∧ r0 = nI (i + 1)) : CWr D kc kd ad o l yL_reached (Cond.codeWith yL_reached cL_reached 4 (some .int) [(0, 9, 12, 13)] :: lw_G) (zr 8 20 200) 20 200 [.ref (ad 0), .int v1, .ref o] x (.inl (kc 2, 1, .inr (.inl f))) (wpost (fun a : Int32 => .inl (kc 2, 1, .inr (.inl (vp_updL f 0 a.toInt64)))) (.inl (kc 2, 1, .inr (.inl f))) r0 (fX10_reached x v1)) := by
  refine CWr.of (cc := cL_reached) (maxL := 4) (ret := some .int) (by decide) rfl (Nat.le_of_ble_eq_true rfl) ?_
  intro p e s m args below meth c A S hr hlocks htab hA hP
  obtain ⟨⟨hK, hE⟩, hKd⟩ := hP
  have hx := S.1
  have hb := S.2.1
  refine z_aload_n (j := 2) hx hb dL_reached_0 rfl rfl ?_
  refine z_iconst (v := 0) hx hb dL_reached_1 (by decide) ?_
  refine z_aload_n (j := 0) hx hb dL_reached_2 rfl rfl ?_
  refine z_iload_n (j := 1) hx hb dL_reached_3 rfl rfl ?_
  refine zw_callXi (As := [.int v1]) S hK hE (ctX10_reached l hl D kc ad x v1 hok) (cwV 1 S.2.2.2.2 (gV q6_29 q6_30 q6_31 q1_1 q6_32) rfl rfl rfl hX10_reached ⟨Nat.le_of_ble_eq_true rfl, Nat.le_of_ble_eq_true rfl⟩) hA rfl rfl (Nat.le_of_ble_eq_true rfl) dL_reached_4 ⟨Nat.le_of_ble_eq_true rfl, Nat.le_of_ble_eq_true rfl⟩ (fun r u hF => ?_) (fun u hF => ?_)
  · refine z_i2l hx hb dL_reached_7 ?_
    refine zw_last S hK dL_reached_8 ?_
    refine z_goto (tgt := 15) hx hb dL_reached_9 (by decide) ?_
    refine z_iconst (v := 0) hx hb dL_reached_15 (by decide) ?_
    exact zw_ret hx hb hlocks hr rfl ⟨fun k hk => (by rw [hF] at hk; cases hk), fun v hv => (by rw [hF] at hv; cases hv; exact ⟨rfl, rfl, rfl⟩)⟩ dL_reached_16
  · obtain ⟨i, hi, hr0⟩ := ht u hF
    obtain ⟨k, xk⟩ := u
    match i, hi, hr0 with
    | 0, hi, hr0 =>
      cases (Option.some.inj hi : 0 = k)
      refine zw_catch S hE (k := 0) (by decide) [] ⟨0, 9, 12, 13⟩ [] htab (fun _ h => nomatch h) (by decide) (by show (13 : Nat) ≠ 0; decide) q3_25 (fun q9 => ?_)
      refine z_astore_n (lv' := [(3, .ref q9), (0, .ref (ad 0)), (1, .int v1), (2, .ref o)]) hx hb dL_reached_12 rfl (by decide) rfl ?_
      refine z_iconst (v := 1) hx hb dL_reached_13 (by decide) ?_
      exact zw_ret hx hb hlocks hr rfl ⟨fun k hk => (by rw [hF] at hk; cases hk; exact ⟨hr0.symm, rfl, rfl⟩), fun v hv => (by rw [hF] at hv; cases hv)⟩ dL_reached_14
    | i + 1, hi, hr0 => exact absurd hi (by simp)
theorem hL_defined : yL_defined.cls ≠ "java/lang/invoke/MethodHandle" ∧ yL_defined.cls ≠ "java/lang/invoke/VarHandle" ∧ (parseMethodDescriptor yL_defined.desc).map (fun d => d.parameters.length) = some 3 := by decide +kernel
theorem ctL_defined (l : Launch) (hl : l.stackTraces = false) (D : va_G) (kc : Nat → ClassId) (kd : ClassId) (ad : Nat → Nat) (o : Nat) (x : SS) (f : Nat → Int64) (v1 : Int32) (r0 : Int32) (hok : kX10_defined x v1) (ht : ∀ k, fX10_defined x v1 = .inl k → ∃ i : Nat, ([1, 2] : List Nat)[i]? = some k.1 ∧ r0 = nI (i + 1)) : CWr D kc kd ad o l yL_defined (Cond.codeWith yL_defined cL_defined 4 (some .int) [(0, 9, 12, 15), (0, 9, 15, 17)] :: lw_G) (zr 7 20 200) 20 200 [.ref (ad 0), .int v1, .ref o] x (.inl (kc 2, 1, .inr (.inl f))) (wpost (fun a : Int32 => .inl (kc 2, 1, .inr (.inl (vp_updL f 0 a.toInt64)))) (.inl (kc 2, 1, .inr (.inl f))) r0 (fX10_defined x v1)) := by
  refine CWr.of (cc := cL_defined) (maxL := 4) (ret := some .int) (by decide) rfl (Nat.le_of_ble_eq_true rfl) ?_
  intro p e s m args below meth c A S hr hlocks htab hA hP
  obtain ⟨⟨hK, hE⟩, hKd⟩ := hP
  have hx := S.1
  have hb := S.2.1
  refine z_aload_n (j := 2) hx hb dL_defined_0 rfl rfl ?_
  refine z_iconst (v := 0) hx hb dL_defined_1 (by decide) ?_
  refine z_aload_n (j := 0) hx hb dL_defined_2 rfl rfl ?_
  refine z_iload_n (j := 1) hx hb dL_defined_3 rfl rfl ?_
  refine zw_callXi (As := [.int v1]) S hK hE (ctX10_defined l hl D kc ad x v1 hok) (cwV 1 S.2.2.2.2 (gV q6_36 q6_37 q6_38 q1_1 q6_39) rfl rfl rfl hX10_defined ⟨Nat.le_of_ble_eq_true rfl, Nat.le_of_ble_eq_true rfl⟩) hA rfl rfl (Nat.le_of_ble_eq_true rfl) dL_defined_4 ⟨Nat.le_of_ble_eq_true rfl, Nat.le_of_ble_eq_true rfl⟩ (fun r u hF => ?_) (fun u hF => ?_)
  · refine z_i2l hx hb dL_defined_7 ?_
    refine zw_last S hK dL_defined_8 ?_
    refine z_goto (tgt := 18) hx hb dL_defined_9 (by decide) ?_
    refine z_iconst (v := 0) hx hb dL_defined_18 (by decide) ?_
    exact zw_ret hx hb hlocks hr rfl ⟨fun k hk => (by rw [hF] at hk; cases hk), fun v hv => (by rw [hF] at hv; cases hv; exact ⟨rfl, rfl, rfl⟩)⟩ dL_defined_19
  · obtain ⟨i, hi, hr0⟩ := ht u hF
    obtain ⟨k, xk⟩ := u
    match i, hi, hr0 with
    | 0, hi, hr0 =>
      cases (Option.some.inj hi : 1 = k)
      refine zw_catch S hE (k := 1) (by decide) [] ⟨0, 9, 12, 15⟩ [⟨0, 9, 15, 17⟩] htab (fun _ h => nomatch h) (by decide) (by show (15 : Nat) ≠ 0; decide) q3_105 (fun q9 => ?_)
      refine z_astore_n (lv' := [(3, .ref q9), (0, .ref (ad 0)), (1, .int v1), (2, .ref o)]) hx hb dL_defined_12 rfl (by decide) rfl ?_
      refine z_iconst (v := 1) hx hb dL_defined_13 (by decide) ?_
      exact zw_ret hx hb hlocks hr rfl ⟨fun k hk => (by rw [hF] at hk; cases hk; exact ⟨hr0.symm, rfl, rfl⟩), fun v hv => (by rw [hF] at hv; cases hv)⟩ dL_defined_14
    | 1, hi, hr0 =>
      cases (Option.some.inj hi : 2 = k)
      refine zw_catch S hE (k := 2) (by decide) [⟨0, 9, 12, 15⟩] ⟨0, 9, 15, 17⟩ [] htab (List.forall_mem_cons.mpr ⟨⟨(by show (15 : Nat) ≠ 0; decide), 1, by decide, by decide, q3_105⟩, fun _ h => nomatch h⟩) (by decide) (by show (17 : Nat) ≠ 0; decide) q3_106 (fun q9 => ?_)
      refine z_astore_n (lv' := [(3, .ref q9), (0, .ref (ad 0)), (1, .int v1), (2, .ref o)]) hx hb dL_defined_15 rfl (by decide) rfl ?_
      refine z_iconst (v := 2) hx hb dL_defined_16 (by decide) ?_
      exact zw_ret hx hb hlocks hr rfl ⟨fun k hk => (by rw [hF] at hk; cases hk; exact ⟨hr0.symm, rfl, rfl⟩), fun v hv => (by rw [hF] at hv; cases hv)⟩ dL_defined_17
    | i + 2, hi, hr0 => exact absurd hi (by simp)
theorem hL_firstWrong : yL_firstWrong.cls ≠ "java/lang/invoke/MethodHandle" ∧ yL_firstWrong.cls ≠ "java/lang/invoke/VarHandle" ∧ (parseMethodDescriptor yL_firstWrong.desc).map (fun d => d.parameters.length) = some 2 := by decide +kernel
theorem ctL_firstWrong (l : Launch) (hl : l.stackTraces = false) (D : va_G) (kc : Nat → ClassId) (kd : ClassId) (ad : Nat → Nat) (o : Nat) (x : SS) (f : Nat → Int64) (r0 : Int32) (hok : kX10_firstWrong x) (ht : ∀ k, fX10_firstWrong x = .inl k → ∃ i : Nat, ([3] : List Nat)[i]? = some k.1 ∧ r0 = nI (i + 1)) : CWr D kc kd ad o l yL_firstWrong (Cond.codeWith yL_firstWrong cL_firstWrong 3 (some .int) [(0, 8, 11, 23)] :: lw_G) (zr 7 20 200) 20 200 [.ref (ad 0), .ref o] x (.inl (kc 2, 1, .inr (.inl f))) (wpost (fun a : Int32 => .inl (kc 2, 1, .inr (.inl (vp_updL f 0 a.toInt64)))) (.inl (kc 2, 1, .inr (.inl f))) r0 (fX10_firstWrong x)) := by
  refine CWr.of (cc := cL_firstWrong) (maxL := 3) (ret := some .int) (by decide) rfl (Nat.le_of_ble_eq_true rfl) ?_
  intro p e s m args below meth c A S hr hlocks htab hA hP
  obtain ⟨⟨hK, hE⟩, hKd⟩ := hP
  have hx := S.1
  have hb := S.2.1
  refine z_aload_n (j := 1) hx hb dL_firstWrong_0 rfl rfl ?_
  refine z_iconst (v := 0) hx hb dL_firstWrong_1 (by decide) ?_
  refine z_aload_n (j := 0) hx hb dL_firstWrong_2 rfl rfl ?_
  refine zw_callXi (As := []) S hK hE (ctX10_firstWrong l hl D kc ad x hok) (cwV 0 S.2.2.2.2 (gV q6_47 q6_48 q6_49 q1_1 q6_50) rfl rfl rfl hX10_firstWrong ⟨Nat.le_of_ble_eq_true rfl, Nat.le_of_ble_eq_true rfl⟩) hA rfl rfl (Nat.le_of_ble_eq_true rfl) dL_firstWrong_3 ⟨Nat.le_of_ble_eq_true rfl, Nat.le_of_ble_eq_true rfl⟩ (fun r u hF => ?_) (fun u hF => ?_)
  · refine z_i2l hx hb dL_firstWrong_6 ?_
    refine zw_last S hK dL_firstWrong_7 ?_
    refine z_goto (tgt := 14) hx hb dL_firstWrong_8 (by decide) ?_
    refine z_iconst (v := 0) hx hb dL_firstWrong_14 (by decide) ?_
    exact zw_ret hx hb hlocks hr rfl ⟨fun k hk => (by rw [hF] at hk; cases hk), fun v hv => (by rw [hF] at hv; cases hv; exact ⟨rfl, rfl, rfl⟩)⟩ dL_firstWrong_15
  · obtain ⟨i, hi, hr0⟩ := ht u hF
    obtain ⟨k, xk⟩ := u
    match i, hi, hr0 with
    | 0, hi, hr0 =>
      cases (Option.some.inj hi : 3 = k)
      refine zw_catch S hE (k := 3) (by decide) [] ⟨0, 8, 11, 23⟩ [] htab (fun _ h => nomatch h) (by decide) (by show (23 : Nat) ≠ 0; decide) q4_78 (fun q9 => ?_)
      refine z_astore_n (lv' := [(2, .ref q9), (0, .ref (ad 0)), (1, .ref o)]) hx hb dL_firstWrong_11 rfl (by decide) rfl ?_
      refine z_iconst (v := 1) hx hb dL_firstWrong_12 (by decide) ?_
      exact zw_ret hx hb hlocks hr rfl ⟨fun k hk => (by rw [hF] at hk; cases hk; exact ⟨hr0.symm, rfl, rfl⟩), fun v hv => (by rw [hF] at hv; cases hv)⟩ dL_firstWrong_13
    | i + 1, hi, hr0 => exact absurd hi (by simp)
theorem hL_cyclesOf : yL_cyclesOf.cls ≠ "java/lang/invoke/MethodHandle" ∧ yL_cyclesOf.cls ≠ "java/lang/invoke/VarHandle" ∧ (parseMethodDescriptor yL_cyclesOf.desc).map (fun d => d.parameters.length) = some 4 := by decide +kernel
theorem ctL_cyclesOf (l : Launch) (hl : l.stackTraces = false) (D : va_G) (kc : Nat → ClassId) (kd : ClassId) (ad : Nat → Nat) (o : Nat) (x : SS) (f : Nat → Int64) (v1 : Int32) (v2 : Int32) (r0 : Int32) (hok : kX10_cyclesOf x v1 v2) (ht : ∀ k, fX10_cyclesOf x v1 v2 = .inl k → ∃ i : Nat, ([0] : List Nat)[i]? = some k.1 ∧ r0 = nI (i + 1)) : CWr D kc kd ad o l yL_cyclesOf (Cond.codeWith yL_cyclesOf cL_cyclesOf 5 (some .int) [(0, 9, 12, 13)] :: lw_G) (zr 8 20 200) 20 200 [.ref (ad 0), .int v1, .int v2, .ref o] x (.inl (kc 2, 1, .inr (.inl f))) (wpost (fun a : Int64 => .inl (kc 2, 1, .inr (.inl (vp_updL f 0 a)))) (.inl (kc 2, 1, .inr (.inl f))) r0 (fX10_cyclesOf x v1 v2)) := by
  refine CWr.of (cc := cL_cyclesOf) (maxL := 5) (ret := some .int) (by decide) rfl (Nat.le_of_ble_eq_true rfl) ?_
  intro p e s m args below meth c A S hr hlocks htab hA hP
  obtain ⟨⟨hK, hE⟩, hKd⟩ := hP
  have hx := S.1
  have hb := S.2.1
  refine z_aload_n (j := 3) hx hb dL_cyclesOf_0 rfl rfl ?_
  refine z_iconst (v := 0) hx hb dL_cyclesOf_1 (by decide) ?_
  refine z_aload_n (j := 0) hx hb dL_cyclesOf_2 rfl rfl ?_
  refine z_iload_n (j := 1) hx hb dL_cyclesOf_3 rfl rfl ?_
  refine z_iload_n (j := 2) hx hb dL_cyclesOf_4 rfl rfl ?_
  refine zw_callXl (As := [.int v1, .int v2]) S hK hE (ctX10_cyclesOf l hl D kc ad x v1 v2 hok) (cwV 2 S.2.2.2.2 (gV q6_55 q6_56 q6_57 q1_1 q6_58) rfl rfl rfl hX10_cyclesOf ⟨Nat.le_of_ble_eq_true rfl, Nat.le_of_ble_eq_true rfl⟩) hA rfl rfl (Nat.le_of_ble_eq_true rfl) dL_cyclesOf_5 ⟨Nat.le_of_ble_eq_true rfl, Nat.le_of_ble_eq_true rfl⟩ (fun r u hF => ?_) (fun u hF => ?_)
  · refine zw_last S hK dL_cyclesOf_8 ?_
    refine z_goto (tgt := 16) hx hb dL_cyclesOf_9 (by decide) ?_
    refine z_iconst (v := 0) hx hb dL_cyclesOf_16 (by decide) ?_
    exact zw_ret hx hb hlocks hr rfl ⟨fun k hk => (by rw [hF] at hk; cases hk), fun v hv => (by rw [hF] at hv; cases hv; exact ⟨rfl, rfl, rfl⟩)⟩ dL_cyclesOf_17
  · obtain ⟨i, hi, hr0⟩ := ht u hF
    obtain ⟨k, xk⟩ := u
    match i, hi, hr0 with
    | 0, hi, hr0 =>
      cases (Option.some.inj hi : 0 = k)
      refine zw_catch S hE (k := 0) (by decide) [] ⟨0, 9, 12, 13⟩ [] htab (fun _ h => nomatch h) (by decide) (by show (13 : Nat) ≠ 0; decide) q3_25 (fun q9 => ?_)
      refine z_astore (lv' := [(4, .ref q9), (0, .ref (ad 0)), (1, .int v1), (2, .int v2), (3, .ref o)]) hx hb dL_cyclesOf_12 (by decide) rfl ?_
      refine z_iconst (v := 1) hx hb dL_cyclesOf_14 (by decide) ?_
      exact zw_ret hx hb hlocks hr rfl ⟨fun k hk => (by rw [hF] at hk; cases hk; exact ⟨hr0.symm, rfl, rfl⟩), fun v hv => (by rw [hF] at hv; cases hv)⟩ dL_cyclesOf_15
    | i + 1, hi, hr0 => exact absurd hi (by simp)
theorem hL_usedShare : yL_usedShare.cls ≠ "java/lang/invoke/MethodHandle" ∧ yL_usedShare.cls ≠ "java/lang/invoke/VarHandle" ∧ (parseMethodDescriptor yL_usedShare.desc).map (fun d => d.parameters.length) = some 2 := by decide +kernel
theorem ctL_usedShare (l : Launch) (hl : l.stackTraces = false) (D : va_G) (kc : Nat → ClassId) (kd : ClassId) (ad : Nat → Nat) (o : Nat) (x : SS) (f : Nat → UInt64) (r0 : Int32) (hok : kX10_usedShare x) (hne : ∀ (v : UInt32) (u : SS), fX10_usedShare x = .inr (v, u) → vf_n64 (FP.f2d v)) (ht : ∀ k, fX10_usedShare x = .inl k → ∃ i : Nat, ([5] : List Nat)[i]? = some k.1 ∧ r0 = nI (i + 1)) : CWr D kc kd ad o l yL_usedShare (Cond.codeWith yL_usedShare cL_usedShare 3 (some .int) [(0, 8, 11, 102)] :: lw_G) (zr 7 20 200) 20 200 [.ref (ad 0), .ref o] x (.inl (kd, 1, .inr (.inr (.inr (.inl f))))) (wpost (fun a : UInt32 => .inl (kd, 1, .inr (.inr (.inr (.inl (vf_upd f 0 (FP.f2d a))))))) (.inl (kd, 1, .inr (.inr (.inr (.inl f))))) r0 (fX10_usedShare x)) := by
  refine CWr.of (cc := cL_usedShare) (maxL := 3) (ret := some .int) (by decide) rfl (Nat.le_of_ble_eq_true rfl) ?_
  intro p e s m args below meth c A S hr hlocks htab hA hP
  obtain ⟨⟨hK, hE⟩, hKd⟩ := hP
  have hx := S.1
  have hb := S.2.1
  refine z_aload_n (j := 1) hx hb dL_usedShare_0 rfl rfl ?_
  refine z_iconst (v := 0) hx hb dL_usedShare_1 (by decide) ?_
  refine z_aload_n (j := 0) hx hb dL_usedShare_2 rfl rfl ?_
  refine zw_callXf (As := []) S hK hE (ctX10_usedShare l hl D kc ad x hok) (cwV 0 S.2.2.2.2 (gV q6_76 q6_77 q6_78 q1_1 q6_79) rfl rfl rfl hX10_usedShare ⟨Nat.le_of_ble_eq_true rfl, Nat.le_of_ble_eq_true rfl⟩) hA rfl rfl (Nat.le_of_ble_eq_true rfl) dL_usedShare_3 ⟨Nat.le_of_ble_eq_true rfl, Nat.le_of_ble_eq_true rfl⟩ (fun r u hF => ?_) (fun u hF => ?_)
  · refine z_f2d hx hb dL_usedShare_6 (hne r u hF) ?_
    refine zw_dast S hKd dL_usedShare_7 ?_
    refine z_goto (tgt := 14) hx hb dL_usedShare_8 (by decide) ?_
    refine z_iconst (v := 0) hx hb dL_usedShare_14 (by decide) ?_
    exact zw_ret hx hb hlocks hr rfl ⟨fun k hk => (by rw [hF] at hk; cases hk), fun v hv => (by rw [hF] at hv; cases hv; exact ⟨rfl, rfl, rfl⟩)⟩ dL_usedShare_15
  · obtain ⟨i, hi, hr0⟩ := ht u hF
    obtain ⟨k, xk⟩ := u
    match i, hi, hr0 with
    | 0, hi, hr0 =>
      cases (Option.some.inj hi : 5 = k)
      refine zw_catch S hE (k := 5) (by decide) [] ⟨0, 8, 11, 102⟩ [] htab (fun _ h => nomatch h) (by decide) (by show (102 : Nat) ≠ 0; decide) q6_62 (fun q9 => ?_)
      refine z_astore_n (lv' := [(2, .ref q9), (0, .ref (ad 0)), (1, .ref o)]) hx hb dL_usedShare_11 rfl (by decide) rfl ?_
      refine z_iconst (v := 1) hx hb dL_usedShare_12 (by decide) ?_
      exact zw_ret hx hb hlocks hr rfl ⟨fun k hk => (by rw [hF] at hk; cases hk; exact ⟨hr0.symm, rfl, rfl⟩), fun v hv => (by rw [hF] at hv; cases hv)⟩ dL_usedShare_13
    | i + 1, hi, hr0 => exact absurd hi (by simp)
theorem hL_meanCycles : yL_meanCycles.cls ≠ "java/lang/invoke/MethodHandle" ∧ yL_meanCycles.cls ≠ "java/lang/invoke/VarHandle" ∧ (parseMethodDescriptor yL_meanCycles.desc).map (fun d => d.parameters.length) = some 2 := by decide +kernel
theorem ctL_meanCycles (l : Launch) (hl : l.stackTraces = false) (D : va_G) (kc : Nat → ClassId) (kd : ClassId) (ad : Nat → Nat) (o : Nat) (x : SS) (f : Nat → UInt64) (r0 : Int32) (hok : kX10_meanCycles x) (ht : ∀ k, fX10_meanCycles x = .inl k → ∃ i : Nat, ([5] : List Nat)[i]? = some k.1 ∧ r0 = nI (i + 1)) : CWr D kc kd ad o l yL_meanCycles (Cond.codeWith yL_meanCycles cL_meanCycles 3 (some .int) [(0, 7, 10, 102)] :: lw_G) (zr 7 20 200) 20 200 [.ref (ad 0), .ref o] x (.inl (kd, 1, .inr (.inr (.inr (.inl f))))) (wpost (fun a : UInt64 => .inl (kd, 1, .inr (.inr (.inr (.inl (vf_upd f 0 a)))))) (.inl (kd, 1, .inr (.inr (.inr (.inl f))))) r0 (fX10_meanCycles x)) := by
  refine CWr.of (cc := cL_meanCycles) (maxL := 3) (ret := some .int) (by decide) rfl (Nat.le_of_ble_eq_true rfl) ?_
  intro p e s m args below meth c A S hr hlocks htab hA hP
  obtain ⟨⟨hK, hE⟩, hKd⟩ := hP
  have hx := S.1
  have hb := S.2.1
  refine z_aload_n (j := 1) hx hb dL_meanCycles_0 rfl rfl ?_
  refine z_iconst (v := 0) hx hb dL_meanCycles_1 (by decide) ?_
  refine z_aload_n (j := 0) hx hb dL_meanCycles_2 rfl rfl ?_
  refine zw_callXd (As := []) S hK hE (ctX10_meanCycles l hl D kc ad x hok) (cwV 0 S.2.2.2.2 (gV q6_86 q6_87 q6_88 q1_1 q6_89) rfl rfl rfl hX10_meanCycles ⟨Nat.le_of_ble_eq_true rfl, Nat.le_of_ble_eq_true rfl⟩) hA rfl rfl (Nat.le_of_ble_eq_true rfl) dL_meanCycles_3 ⟨Nat.le_of_ble_eq_true rfl, Nat.le_of_ble_eq_true rfl⟩ (fun r u hF => ?_) (fun u hF => ?_)
  · refine zw_dast S hKd dL_meanCycles_6 ?_
    refine z_goto (tgt := 13) hx hb dL_meanCycles_7 (by decide) ?_
    refine z_iconst (v := 0) hx hb dL_meanCycles_13 (by decide) ?_
    exact zw_ret hx hb hlocks hr rfl ⟨fun k hk => (by rw [hF] at hk; cases hk), fun v hv => (by rw [hF] at hv; cases hv; exact ⟨rfl, rfl, rfl⟩)⟩ dL_meanCycles_14
  · obtain ⟨i, hi, hr0⟩ := ht u hF
    obtain ⟨k, xk⟩ := u
    match i, hi, hr0 with
    | 0, hi, hr0 =>
      cases (Option.some.inj hi : 5 = k)
      refine zw_catch S hE (k := 5) (by decide) [] ⟨0, 7, 10, 102⟩ [] htab (fun _ h => nomatch h) (by decide) (by show (102 : Nat) ≠ 0; decide) q6_62 (fun q9 => ?_)
      refine z_astore_n (lv' := [(2, .ref q9), (0, .ref (ad 0)), (1, .ref o)]) hx hb dL_meanCycles_10 rfl (by decide) rfl ?_
      refine z_iconst (v := 1) hx hb dL_meanCycles_11 (by decide) ?_
      exact zw_ret hx hb hlocks hr rfl ⟨fun k hk => (by rw [hF] at hk; cases hk; exact ⟨hr0.symm, rfl, rfl⟩), fun v hv => (by rw [hF] at hv; cases hv)⟩ dL_meanCycles_12
    | i + 1, hi, hr0 => exact absurd hi (by simp)
