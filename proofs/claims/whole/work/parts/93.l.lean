/-! the start: what the tables and the Statement say -/
theorem inJx {x : Cond} : ∀ w ∈ u_ws RJx00060 TJx00060 6, w ∈ x :: lw_G := by
  intro w h
  obtain ⟨k, hk, rfl⟩ := List.mem_map.mp h
  have hk := List.mem_range.mp hk
  match k, hk with
  | 0, _ => exact q3_67
  | 1, _ => exact q3_69
  | 2, _ => exact q3_71
  | 3, _ => exact q3_73
  | 4, _ => exact q3_75
  | 5, _ => exact q3_77
  | k + 6, hk => exact absurd hk (by omega)
theorem st_arr {args : Array Value} {s : State} {ty : FieldType} (hpr : ∀ C, ty ≠ .object C) (h : (Cond.arrayClass ty).before args s = true) : ∃ cA : ClassId, ArrOfT s cA ty ∧ va_RA s cA ty := by
  obtain ⟨c, k, comp, h1, h2, h3⟩ := Cond.arrayClass_spec h
  refine ⟨c, fun n z => ⟨fun k h => (by cases h), k, h2, comp, h3⟩, ?_⟩
  cases ty with
  | object C => exact absurd rfl (hpr C)
  | _ => exact h1
theorem st_over {s : State} {C : String} (h : va_AO C s) : ∃ cA : ClassId, ArrOfT s cA (.object C) ∧ va_RA s cA (.object C) := by
  obtain ⟨comp, c, k, h1, h2, h3, h4, h5⟩ := Cond.arrayOver_spec h
  exact ⟨c, fun n z => ⟨fun k h => (by cases h), k, h3, comp, h4⟩, k, comp, h3, h4, h1, h5⟩
theorem st_K {x : Cond} {args : Array Value} {s : State} (hts : ∀ w ∈ x :: lw_G, w.before args s = true) (hAO : va_AO RX9 s) : ∃ (D : va_G) (kc : Nat → ClassId) (kd : ClassId), va_K D vwCl (tysK kc) s ∧ va_K D vwCl [(kd, .double)] s := by
  obtain ⟨c0, i0, h0⟩ := u_known (C := RJ0) (T := TJ0) (N := 2) hts inJ0 (hts _ q3_99)
  obtain ⟨c1, i1, h1⟩ := u_known (C := RJx00060) (T := TJx00060) (N := 6) hts inJx (hts _ q3_26)
  obtain ⟨c2, i2, h2⟩ := u_known (C := RX0) (T := TX0) (N := 6) hts inX0 (hts _ q2_109)
  obtain ⟨c3, i3, h3⟩ := u_known (C := RX1) (T := TX1) (N := 10) hts inX1 (hts _ q1_100)
  obtain ⟨c4, i4, h4⟩ := u_known (C := RX2) (T := TX2) (N := 7) hts inX2 (hts _ q2_5)
  obtain ⟨c5, i5, h5⟩ := u_known (C := RX3) (T := TX3) (N := 6) hts inX3 (hts _ q1_198)
  obtain ⟨c6, i6, h6⟩ := u_known (C := RX4) (T := TX4) (N := 4) hts inX4 (hts _ q1_225)
  obtain ⟨c7, i7, h7⟩ := u_known (C := RX5) (T := TX5) (N := 6) hts inX5 (hts _ q1_74)
  obtain ⟨c8, i8, h8⟩ := u_known (C := RX6) (T := TX6) (N := 19) hts inX6 (hts _ q1_149)
  obtain ⟨c9, i9, h9⟩ := u_known (C := RX7) (T := TX7) (N := 6) hts inX7 (hts _ q1_40)
  obtain ⟨c10, i10, h10⟩ := u_known (C := RX8) (T := TX8) (N := 7) hts inX8 (hts _ q1_155)
  obtain ⟨c11, i11, h11⟩ := u_known (C := RX9) (T := TX9) (N := 9) hts inX9 (hts _ q4_21)
  obtain ⟨c12, i12, h12⟩ := u_known (C := RX10) (T := TX10) (N := 5) hts inX10 (hts _ q1_32)
  obtain ⟨c13, i13, h13⟩ := u_known (C := RX11) (T := TX11) (N := 50) hts inX11 (hts _ q6_92)
  obtain ⟨a0, g0⟩ := st_arr (fun _ h => by cases h) (hts _ q1_72)
  obtain ⟨a1, g1⟩ := st_arr (fun _ h => by cases h) (hts _ q1_71)
  obtain ⟨a2, g2⟩ := st_arr (fun _ h => by cases h) (hts _ q1_147)
  obtain ⟨a3, g3⟩ := st_arr (fun _ h => by cases h) (hts _ q7_8)
  obtain ⟨a4, g4⟩ := st_over hAO
  obtain ⟨kd, g5⟩ := st_arr (fun _ h => by cases h) (hts _ q8_62)
  have hC : ∀ (k : Nat) (q : vw_C), vwCl[k]? = some q → u_Kn s q.1 q.2.1 q.2.2 ((fun k => match k with | 0 => c0 | 1 => c1 | 2 => c2 | 3 => c3 | 4 => c4 | 5 => c5 | 6 => c6 | 7 => c7 | 8 => c8 | 9 => c9 | 10 => c10 | 11 => c11 | 12 => c12 | _ => c13) k) ((fun k => match k with | 0 => i0 | 1 => i1 | 2 => i2 | 3 => i3 | 4 => i4 | 5 => i5 | 6 => i6 | 7 => i7 | 8 => i8 | 9 => i9 | 10 => i10 | 11 => i11 | 12 => i12 | _ => i13) k) := by
    intro k q hq
    match k, hq with
    | 0, hq => cases hq; exact h0
    | 1, hq => cases hq; exact h1
    | 2, hq => cases hq; exact h2
    | 3, hq => cases hq; exact h3
    | 4, hq => cases hq; exact h4
    | 5, hq => cases hq; exact h5
    | 6, hq => cases hq; exact h6
    | 7, hq => cases hq; exact h7
    | 8, hq => cases hq; exact h8
    | 9, hq => cases hq; exact h9
    | 10, hq => cases hq; exact h10
    | 11, hq => cases hq; exact h11
    | 12, hq => cases hq; exact h12
    | 13, hq => cases hq; exact h13
    | k + 14, hq => simp [vwCl] at hq
  refine ⟨(_, _), fun k => match k with | 0 => a0 | 1 => a1 | 2 => a2 | 3 => a3 | _ => a4, kd, ⟨hC, fun k q hq => ?_⟩, ⟨hC, fun k q hq => ?_⟩⟩
  · match k, hq with
    | 0, hq => cases hq; exact g0
    | 1, hq => cases hq; exact g1
    | 2, hq => cases hq; exact g2
    | 3, hq => cases hq; exact g3
    | 4, hq => cases hq; exact g4
    | k + 5, hq => simp [tysK] at hq
  · match k, hq with
    | 0, hq => cases hq; exact g5
    | k + 1, hq => simp at hq
def st_tm (i : Nat) : Term := match i with
  | 0 => .string RX10 326
  | 1 => .string RX6 158
  | 2 => .string RX10 226
  | _ => .string RX10 257
abbrev st_G : List Cond := flatC (Cond.and given_1 narrow_1)
set_option maxRecDepth 100000 in
theorem st_ex : ∀ i, i < 4 → Cond.exactly (st_tm i) "java/lang/String" ∈ st_G := by decide +kernel
set_option maxRecDepth 100000 in
theorem st_co : ∀ i, i < 4 → Cond.eq (.field (st_tm i) "java/lang/String" "coder" "B") (.int 0) ∈ st_G := by decide +kernel
set_option maxRecDepth 100000 in
theorem st_ar : ∀ i, i < 4 → Cond.arrayOf (.field (st_tm i) "java/lang/String" "value" "[B") .byte ∈ st_G := by decide +kernel
set_option maxRecDepth 100000 in
theorem st_le : ∀ i, i < 4 → Cond.eq (.length (.field (st_tm i) "java/lang/String" "value" "[B")) (.int (Int32.ofNat (xsLen.getD i 0))) ∈ st_G := by decide +kernel
set_option maxRecDepth 100000 in
theorem st_el : ∀ i, i < 4 → ∀ j, j < xsLen.getD i 0 → Cond.eq (.elem (.field (st_tm i) "java/lang/String" "value" "[B") (.int (Int32.ofNat j))) (.int ((xsByt.getD i []).getD j 0)) ∈ st_G := by decide +kernel
set_option maxRecDepth 100000 in
theorem st_ne : ∀ i, i < 4 → ∀ j, j < 4 → i ≠ j → (Cond.not (Cond.eq (st_tm i) (st_tm j)) ∈ st_G ∨ Cond.not (Cond.eq (st_tm j) (st_tm i)) ∈ st_G) := by decide +kernel
set_option maxRecDepth 100000 in
theorem st_tx : ∀ r ∈ xsThrow, Cond.exactly (.string RX10 r.1) "java/lang/String" ∈ st_G := by decide +kernel
set_option maxRecDepth 100000 in
theorem st_tr : ∀ r ∈ xsThrow, Cond.stringRef RX10 r.1 r.2 ∈ lw_tbl := by decide +kernel
set_option maxRecDepth 100000 in
theorem st_s4 : ∀ w ∈ [Cond.stringRef RX10 326 "nocrdpeskgq", Cond.stringRef RX6 158 "eskg", Cond.stringRef RX10 226 "PZCSIKTUADXE", Cond.stringRef RX10 257 "PZCSIK0123", Cond.laysStatic "java/lang/String" "COMPACT_STRINGS" "Z", Cond.laysStatic Bundle.tN "UNASSIGNED_STACK" Bundle.steD, Cond.laysStatic Bundle.tN "SUPPRESSED_SENTINEL" Bundle.listD, Cond.arrayOver (.object RX9)], w ∈ lw_tbl := by decide +kernel
set_option maxRecDepth 100000 in
theorem st_g3 : ∀ w ∈ [Cond.eq (.static "java/lang/String" "COMPACT_STRINGS" "Z") (.int 1), Cond.isRef (.static Bundle.tN "UNASSIGNED_STACK" Bundle.steD), Cond.isRef (.static Bundle.tN "SUPPRESSED_SENTINEL" Bundle.listD)], w ∈ st_G := by decide +kernel
set_option maxRecDepth 100000 in
theorem st_nl : ∀ r ∈ xNlink, Cond.methodLinkNest r.1 r.2.1 r.2.2 RX10 ∈ lw_tbl := by decide +kernel
set_option maxRecDepth 100000 in
theorem st_nd : ∀ y ∈ xNdecl, Cond.declares y ∈ lw_tbl := by decide +kernel
set_option maxRecDepth 100000 in
theorem st_ca : ∀ k, k < 6 → Cond.castable (exn k) (exn k) ∈ lw_tbl := by decide +kernel
set_option maxRecDepth 100000 in
theorem st_nc : ∀ i, i < 6 → ∀ j, j < 6 → i ≠ j → Cond.not (.castable (exn i) (exn j)) ∈ st_G := by decide +kernel
theorem st_EV {b : Nat} {s : State} (hts : ∀ w ∈ lw_tbl, w.before #[Value.ref b] s = true) (hin : (Cond.initialized "java/lang/String").before #[Value.ref b] s = true) (hit : (Cond.initialized Bundle.tN).before #[Value.ref b] s = true) (hgv : (Jvm.Cond.and given_1 narrow_1).before #[Value.ref b] s = true) : EV (fun z => s.heap.size ≤ z) s s.heap := by
  have hs : ∀ w ∈ st_G, w.before #[Value.ref b] s = true := flat_of_before _ hgv
  have hA : ∀ a : Nat, a < s.heap.size → ¬ (fun z => s.heap.size ≤ z) a := fun a h => Nat.not_le.mpr h
  have t4 := fun w hw => hts w (st_s4 w hw)
  have t3 := fun w hw => hs w (st_g3 w hw)
  obtain ⟨adK, adV, v1, v2⟩ := vk_Sof (args := #[Value.ref b]) (s := s) (N := 4) (tm := st_tm) (len := xsLen) (byt := xsByt) (A := fun z => s.heap.size ≤ z) (by decide) (fun i hi => hs _ (st_ex i hi)) (fun i hi => hs _ (st_co i hi)) (fun i hi => hs _ (st_ar i hi)) (fun i hi => hs _ (st_le i hi)) (fun i hi j hj => hs _ (st_el i hi j hj)) (fun i j hi hj hij => (st_ne i hi j hj hij).imp (hs _) (hs _)) hA
  refine ⟨⟨adK, adV, v1, vk_R.of (t4 _ (List.mem_of_getElem? (i := 0) rfl)) (v2 0 (by decide)), vk_R.of (t4 _ (List.mem_of_getElem? (i := 1) rfl)) (v2 1 (by decide)), vk_R.of (t4 _ (List.mem_of_getElem? (i := 2) rfl)) (v2 2 (by decide)), vk_R.of (t4 _ (List.mem_of_getElem? (i := 3) rfl)) (v2 3 (by decide))⟩, fun r hr => ?_, va_Zof (t4 _ (List.mem_of_getElem? (i := 4) rfl)) hin (va_eqt (t3 _ (List.mem_of_getElem? (i := 0) rfl))) hA, vx_Zqof (t4 _ (List.mem_of_getElem? (i := 5) rfl)) hit (t3 _ (List.mem_of_getElem? (i := 1) rfl)) hA, vx_Zqof (t4 _ (List.mem_of_getElem? (i := 6) rfl)) hit (t3 _ (List.mem_of_getElem? (i := 2) rfl)) hA, fun r hr => va_Nw.of rfl (hts _ (st_nl r hr)), fun y hy => va_Nw.of rfl (hts _ (st_nd y hy)), fun k hk => va_Nw.of rfl (hts _ (st_ca k hk)), fun i j hi hj hij => va_Nc.of (hs _ (st_nc i hi j hj hij))⟩
  obtain ⟨a, c, cA, kA, q1, -⟩ := Cond.exactly_spec (args := #[Value.ref b]) (first := s) (o := none) (s := s) (idx := []) (t := .string RX10 r.1) (cls := "java/lang/String") (hs _ (st_tx r hr))
  exact ⟨a, vk_R.of (hts _ (st_tr r hr)) q1⟩
