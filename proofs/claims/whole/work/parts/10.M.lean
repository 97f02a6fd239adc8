abbrev vwCl : List vw_C := [(RJ0, TJ0, 2), (RJx00060, TJx00060, 6), (RX0, TX0, 6), (RX1, TX1, 10), (RX2, TX2, 7), (RX3, TX3, 6), (RX4, TX4, 4), (RX5, TX5, 6), (RX6, TX6, 19), (RX7, TX7, 6), (RX8, TX8, 7), (RX9, TX9, 9), (RX10, TX10, 5), (RX11, TX11, 50)]
def fM (ad : Nat → Nat) (q : SS) : List Value := [.int (gI q 0), .int (gI q 1), .int (gI q 2), .int (gI q 3), .int (gI q 4), .int (gI q 5), .int (gI q 6), .int (gI q 7), .int (gI q 8), .int (gI q 9), .int (gI q 10), .int (gI q 11), .int (gI q 12), .int (gI q 13), .int (gI q 14), .int (gI q 15), .int (gI q 16), .int (gI q 17), .int (gI q 18), .int (gI q 19), .int (gI q 20), .long (gL q 21), .long (gL q 22), .int (gI q 23), .int (gI q 24), .int (gI q 25), .int (gI q 26), .int (gI q 27), .ref (ad 1), .ref (ad 2), .ref (ad 3), .ref (ad 4), .ref (ad 5), .ref (ad 6), .ref (ad 7), .ref (ad 8), .ref (ad 9), .ref (ad 10), .ref (ad 11), .ref (ad 12), .ref (ad 13), .ref (ad 14), .ref (ad 15), .ref (ad 16), .ref (ad 17), .ref (ad 18), .ref (ad 19), .ref (ad 20), .ref (ad 21), .ref (ad 22)]
def wM (kc : Nat → ClassId) (ad : Nat → Nat) (q : SS) : va_W := [(ad 0, .inr (13, fM ad q)),
  (ad 1, .inl (kc 0, 80, .inl (gA q 1))),
  (ad 2, .inl (kc 0, 80, .inl (gA q 2))),
  (ad 3, .inl (kc 0, 80, .inl (gA q 3))),
  (ad 4, .inl (kc 0, 80, .inl (gA q 4))),
  (ad 5, .inl (kc 0, 80, .inl (gA q 5))),
  (ad 6, .inl (kc 0, 80, .inl (gA q 6))),
  (ad 7, .inl (kc 0, 80, .inl (gA q 7))),
  (ad 8, .inl (kc 0, 80, .inl (gA q 8))),
  (ad 9, .inl (kc 3, 80, .inl (gA q 9))),
  (ad 10, .inl (kc 1, 80, .inl (gA q 10))),
  (ad 11, .inl (kc 1, 80, .inl (gA q 11))),
  (ad 12, .inl (kc 1, 80, .inl (gA q 12))),
  (ad 13, .inl (kc 1, 4, .inl (gA q 13))),
  (ad 14, .inl (kc 0, 32, .inl (gA q 14))),
  (ad 15, .inl (kc 0, 16, .inl (gA q 15))),
  (ad 16, .inl (kc 0, 16, .inl (gA q 16))),
  (ad 17, .inl (kc 0, 64, .inl (gA q 17))),
  (ad 18, .inl (kc 0, 64, .inl (gA q 18))),
  (ad 19, .inl (kc 0, 4, .inl (gA q 19))),
  (ad 20, .inl (kc 0, 16, .inl (gA q 20))),
  (ad 21, .inl (kc 0, 64, .inl (gA q 21))),
  (ad 22, .inl (kc 2, 32, .inr (.inl (gB q 22))))]
theorem wMa1 (kc : Nat → ClassId) (ad : Nat → Nat) (q : SS) (v : Nat → Int32) : ∀ tl, (wM kc ad q ++ tl).set 1 (ad 1, .inl (kc 0, 80, .inl v)) = wM kc ad (sA q 1 v) ++ tl := fun _ => rfl
theorem wMa2 (kc : Nat → ClassId) (ad : Nat → Nat) (q : SS) (v : Nat → Int32) : ∀ tl, (wM kc ad q ++ tl).set 2 (ad 2, .inl (kc 0, 80, .inl v)) = wM kc ad (sA q 2 v) ++ tl := fun _ => rfl
theorem wMa3 (kc : Nat → ClassId) (ad : Nat → Nat) (q : SS) (v : Nat → Int32) : ∀ tl, (wM kc ad q ++ tl).set 3 (ad 3, .inl (kc 0, 80, .inl v)) = wM kc ad (sA q 3 v) ++ tl := fun _ => rfl
theorem wMa4 (kc : Nat → ClassId) (ad : Nat → Nat) (q : SS) (v : Nat → Int32) : ∀ tl, (wM kc ad q ++ tl).set 4 (ad 4, .inl (kc 0, 80, .inl v)) = wM kc ad (sA q 4 v) ++ tl := fun _ => rfl
theorem wMa5 (kc : Nat → ClassId) (ad : Nat → Nat) (q : SS) (v : Nat → Int32) : ∀ tl, (wM kc ad q ++ tl).set 5 (ad 5, .inl (kc 0, 80, .inl v)) = wM kc ad (sA q 5 v) ++ tl := fun _ => rfl
theorem wMa6 (kc : Nat → ClassId) (ad : Nat → Nat) (q : SS) (v : Nat → Int32) : ∀ tl, (wM kc ad q ++ tl).set 6 (ad 6, .inl (kc 0, 80, .inl v)) = wM kc ad (sA q 6 v) ++ tl := fun _ => rfl
theorem wMa7 (kc : Nat → ClassId) (ad : Nat → Nat) (q : SS) (v : Nat → Int32) : ∀ tl, (wM kc ad q ++ tl).set 7 (ad 7, .inl (kc 0, 80, .inl v)) = wM kc ad (sA q 7 v) ++ tl := fun _ => rfl
theorem wMa8 (kc : Nat → ClassId) (ad : Nat → Nat) (q : SS) (v : Nat → Int32) : ∀ tl, (wM kc ad q ++ tl).set 8 (ad 8, .inl (kc 0, 80, .inl v)) = wM kc ad (sA q 8 v) ++ tl := fun _ => rfl
theorem wMa9 (kc : Nat → ClassId) (ad : Nat → Nat) (q : SS) (v : Nat → Int32) : ∀ tl, (wM kc ad q ++ tl).set 9 (ad 9, .inl (kc 3, 80, .inl v)) = wM kc ad (sA q 9 v) ++ tl := fun _ => rfl
theorem wMa10 (kc : Nat → ClassId) (ad : Nat → Nat) (q : SS) (v : Nat → Int32) : ∀ tl, (wM kc ad q ++ tl).set 10 (ad 10, .inl (kc 1, 80, .inl v)) = wM kc ad (sA q 10 v) ++ tl := fun _ => rfl
theorem wMa11 (kc : Nat → ClassId) (ad : Nat → Nat) (q : SS) (v : Nat → Int32) : ∀ tl, (wM kc ad q ++ tl).set 11 (ad 11, .inl (kc 1, 80, .inl v)) = wM kc ad (sA q 11 v) ++ tl := fun _ => rfl
theorem wMa12 (kc : Nat → ClassId) (ad : Nat → Nat) (q : SS) (v : Nat → Int32) : ∀ tl, (wM kc ad q ++ tl).set 12 (ad 12, .inl (kc 1, 80, .inl v)) = wM kc ad (sA q 12 v) ++ tl := fun _ => rfl
theorem wMa13 (kc : Nat → ClassId) (ad : Nat → Nat) (q : SS) (v : Nat → Int32) : ∀ tl, (wM kc ad q ++ tl).set 13 (ad 13, .inl (kc 1, 4, .inl v)) = wM kc ad (sA q 13 v) ++ tl := fun _ => rfl
theorem wMa14 (kc : Nat → ClassId) (ad : Nat → Nat) (q : SS) (v : Nat → Int32) : ∀ tl, (wM kc ad q ++ tl).set 14 (ad 14, .inl (kc 0, 32, .inl v)) = wM kc ad (sA q 14 v) ++ tl := fun _ => rfl
theorem wMa15 (kc : Nat → ClassId) (ad : Nat → Nat) (q : SS) (v : Nat → Int32) : ∀ tl, (wM kc ad q ++ tl).set 15 (ad 15, .inl (kc 0, 16, .inl v)) = wM kc ad (sA q 15 v) ++ tl := fun _ => rfl
theorem wMa16 (kc : Nat → ClassId) (ad : Nat → Nat) (q : SS) (v : Nat → Int32) : ∀ tl, (wM kc ad q ++ tl).set 16 (ad 16, .inl (kc 0, 16, .inl v)) = wM kc ad (sA q 16 v) ++ tl := fun _ => rfl
theorem wMa17 (kc : Nat → ClassId) (ad : Nat → Nat) (q : SS) (v : Nat → Int32) : ∀ tl, (wM kc ad q ++ tl).set 17 (ad 17, .inl (kc 0, 64, .inl v)) = wM kc ad (sA q 17 v) ++ tl := fun _ => rfl
theorem wMa18 (kc : Nat → ClassId) (ad : Nat → Nat) (q : SS) (v : Nat → Int32) : ∀ tl, (wM kc ad q ++ tl).set 18 (ad 18, .inl (kc 0, 64, .inl v)) = wM kc ad (sA q 18 v) ++ tl := fun _ => rfl
theorem wMa19 (kc : Nat → ClassId) (ad : Nat → Nat) (q : SS) (v : Nat → Int32) : ∀ tl, (wM kc ad q ++ tl).set 19 (ad 19, .inl (kc 0, 4, .inl v)) = wM kc ad (sA q 19 v) ++ tl := fun _ => rfl
theorem wMa20 (kc : Nat → ClassId) (ad : Nat → Nat) (q : SS) (v : Nat → Int32) : ∀ tl, (wM kc ad q ++ tl).set 20 (ad 20, .inl (kc 0, 16, .inl v)) = wM kc ad (sA q 20 v) ++ tl := fun _ => rfl
theorem wMa21 (kc : Nat → ClassId) (ad : Nat → Nat) (q : SS) (v : Nat → Int32) : ∀ tl, (wM kc ad q ++ tl).set 21 (ad 21, .inl (kc 0, 64, .inl v)) = wM kc ad (sA q 21 v) ++ tl := fun _ => rfl
theorem wMa22 (kc : Nat → ClassId) (ad : Nat → Nat) (q : SS) (v : Nat → Int64) : ∀ tl, (wM kc ad q ++ tl).set 22 (ad 22, .inl (kc 2, 32, .inr (.inl v))) = wM kc ad (sB q 22 v) ++ tl := fun _ => rfl
theorem wMp0 (kc : Nat → ClassId) (ad : Nat → Nat) (q : SS) (v : Int32) : ∀ tl, (wM kc ad q ++ tl).set 0 (ad 0, .inr (13, (fM ad q).set 0 (.int v))) = wM kc ad (sI q 0 v) ++ tl := fun _ => rfl
theorem wMp1 (kc : Nat → ClassId) (ad : Nat → Nat) (q : SS) (v : Int32) : ∀ tl, (wM kc ad q ++ tl).set 0 (ad 0, .inr (13, (fM ad q).set 1 (.int v))) = wM kc ad (sI q 1 v) ++ tl := fun _ => rfl
theorem wMp2 (kc : Nat → ClassId) (ad : Nat → Nat) (q : SS) (v : Int32) : ∀ tl, (wM kc ad q ++ tl).set 0 (ad 0, .inr (13, (fM ad q).set 2 (.int v))) = wM kc ad (sI q 2 v) ++ tl := fun _ => rfl
theorem wMp3 (kc : Nat → ClassId) (ad : Nat → Nat) (q : SS) (v : Int32) : ∀ tl, (wM kc ad q ++ tl).set 0 (ad 0, .inr (13, (fM ad q).set 3 (.int v))) = wM kc ad (sI q 3 v) ++ tl := fun _ => rfl
theorem wMp4 (kc : Nat → ClassId) (ad : Nat → Nat) (q : SS) (v : Int32) : ∀ tl, (wM kc ad q ++ tl).set 0 (ad 0, .inr (13, (fM ad q).set 4 (.int v))) = wM kc ad (sI q 4 v) ++ tl := fun _ => rfl
theorem wMp5 (kc : Nat → ClassId) (ad : Nat → Nat) (q : SS) (v : Int32) : ∀ tl, (wM kc ad q ++ tl).set 0 (ad 0, .inr (13, (fM ad q).set 5 (.int v))) = wM kc ad (sI q 5 v) ++ tl := fun _ => rfl
theorem wMp6 (kc : Nat → ClassId) (ad : Nat → Nat) (q : SS) (v : Int32) : ∀ tl, (wM kc ad q ++ tl).set 0 (ad 0, .inr (13, (fM ad q).set 6 (.int v))) = wM kc ad (sI q 6 v) ++ tl := fun _ => rfl
theorem wMp7 (kc : Nat → ClassId) (ad : Nat → Nat) (q : SS) (v : Int32) : ∀ tl, (wM kc ad q ++ tl).set 0 (ad 0, .inr (13, (fM ad q).set 7 (.int v))) = wM kc ad (sI q 7 v) ++ tl := fun _ => rfl
theorem wMp8 (kc : Nat → ClassId) (ad : Nat → Nat) (q : SS) (v : Int32) : ∀ tl, (wM kc ad q ++ tl).set 0 (ad 0, .inr (13, (fM ad q).set 8 (.int v))) = wM kc ad (sI q 8 v) ++ tl := fun _ => rfl
theorem wMp9 (kc : Nat → ClassId) (ad : Nat → Nat) (q : SS) (v : Int32) : ∀ tl, (wM kc ad q ++ tl).set 0 (ad 0, .inr (13, (fM ad q).set 9 (.int v))) = wM kc ad (sI q 9 v) ++ tl := fun _ => rfl
theorem wMp10 (kc : Nat → ClassId) (ad : Nat → Nat) (q : SS) (v : Int32) : ∀ tl, (wM kc ad q ++ tl).set 0 (ad 0, .inr (13, (fM ad q).set 10 (.int v))) = wM kc ad (sI q 10 v) ++ tl := fun _ => rfl
theorem wMp11 (kc : Nat → ClassId) (ad : Nat → Nat) (q : SS) (v : Int32) : ∀ tl, (wM kc ad q ++ tl).set 0 (ad 0, .inr (13, (fM ad q).set 11 (.int v))) = wM kc ad (sI q 11 v) ++ tl := fun _ => rfl
theorem wMp12 (kc : Nat → ClassId) (ad : Nat → Nat) (q : SS) (v : Int32) : ∀ tl, (wM kc ad q ++ tl).set 0 (ad 0, .inr (13, (fM ad q).set 12 (.int v))) = wM kc ad (sI q 12 v) ++ tl := fun _ => rfl
theorem wMp13 (kc : Nat → ClassId) (ad : Nat → Nat) (q : SS) (v : Int32) : ∀ tl, (wM kc ad q ++ tl).set 0 (ad 0, .inr (13, (fM ad q).set 13 (.int v))) = wM kc ad (sI q 13 v) ++ tl := fun _ => rfl
theorem wMp14 (kc : Nat → ClassId) (ad : Nat → Nat) (q : SS) (v : Int32) : ∀ tl, (wM kc ad q ++ tl).set 0 (ad 0, .inr (13, (fM ad q).set 14 (.int v))) = wM kc ad (sI q 14 v) ++ tl := fun _ => rfl
theorem wMp15 (kc : Nat → ClassId) (ad : Nat → Nat) (q : SS) (v : Int32) : ∀ tl, (wM kc ad q ++ tl).set 0 (ad 0, .inr (13, (fM ad q).set 15 (.int v))) = wM kc ad (sI q 15 v) ++ tl := fun _ => rfl
theorem wMp16 (kc : Nat → ClassId) (ad : Nat → Nat) (q : SS) (v : Int32) : ∀ tl, (wM kc ad q ++ tl).set 0 (ad 0, .inr (13, (fM ad q).set 16 (.int v))) = wM kc ad (sI q 16 v) ++ tl := fun _ => rfl
theorem wMp17 (kc : Nat → ClassId) (ad : Nat → Nat) (q : SS) (v : Int32) : ∀ tl, (wM kc ad q ++ tl).set 0 (ad 0, .inr (13, (fM ad q).set 17 (.int v))) = wM kc ad (sI q 17 v) ++ tl := fun _ => rfl
theorem wMp18 (kc : Nat → ClassId) (ad : Nat → Nat) (q : SS) (v : Int32) : ∀ tl, (wM kc ad q ++ tl).set 0 (ad 0, .inr (13, (fM ad q).set 18 (.int v))) = wM kc ad (sI q 18 v) ++ tl := fun _ => rfl
theorem wMp19 (kc : Nat → ClassId) (ad : Nat → Nat) (q : SS) (v : Int32) : ∀ tl, (wM kc ad q ++ tl).set 0 (ad 0, .inr (13, (fM ad q).set 19 (.int v))) = wM kc ad (sI q 19 v) ++ tl := fun _ => rfl
theorem wMp20 (kc : Nat → ClassId) (ad : Nat → Nat) (q : SS) (v : Int32) : ∀ tl, (wM kc ad q ++ tl).set 0 (ad 0, .inr (13, (fM ad q).set 20 (.int v))) = wM kc ad (sI q 20 v) ++ tl := fun _ => rfl
theorem wMp21 (kc : Nat → ClassId) (ad : Nat → Nat) (q : SS) (v : Int64) : ∀ tl, (wM kc ad q ++ tl).set 0 (ad 0, .inr (13, (fM ad q).set 21 (.long v))) = wM kc ad (sL q 21 v) ++ tl := fun _ => rfl
theorem wMp22 (kc : Nat → ClassId) (ad : Nat → Nat) (q : SS) (v : Int64) : ∀ tl, (wM kc ad q ++ tl).set 0 (ad 0, .inr (13, (fM ad q).set 22 (.long v))) = wM kc ad (sL q 22 v) ++ tl := fun _ => rfl
theorem wMp23 (kc : Nat → ClassId) (ad : Nat → Nat) (q : SS) (v : Int32) : ∀ tl, (wM kc ad q ++ tl).set 0 (ad 0, .inr (13, (fM ad q).set 23 (.int v))) = wM kc ad (sI q 23 v) ++ tl := fun _ => rfl
theorem wMp24 (kc : Nat → ClassId) (ad : Nat → Nat) (q : SS) (v : Int32) : ∀ tl, (wM kc ad q ++ tl).set 0 (ad 0, .inr (13, (fM ad q).set 24 (.int v))) = wM kc ad (sI q 24 v) ++ tl := fun _ => rfl
theorem wMp25 (kc : Nat → ClassId) (ad : Nat → Nat) (q : SS) (v : Int32) : ∀ tl, (wM kc ad q ++ tl).set 0 (ad 0, .inr (13, (fM ad q).set 25 (.int v))) = wM kc ad (sI q 25 v) ++ tl := fun _ => rfl
theorem wMp26 (kc : Nat → ClassId) (ad : Nat → Nat) (q : SS) (v : Int32) : ∀ tl, (wM kc ad q ++ tl).set 0 (ad 0, .inr (13, (fM ad q).set 26 (.int v))) = wM kc ad (sI q 26 v) ++ tl := fun _ => rfl
theorem wMp27 (kc : Nat → ClassId) (ad : Nat → Nat) (q : SS) (v : Int32) : ∀ tl, (wM kc ad q ++ tl).set 0 (ad 0, .inr (13, (fM ad q).set 27 (.int v))) = wM kc ad (sI q 27 v) ++ tl := fun _ => rfl
/-- the array classes of a launch: int, boolean, long, char, Word -/
abbrev tysK (kc : Nat → ClassId) : List (ClassId × FieldType) := [(kc 0, .int), (kc 1, .boolean), (kc 2, .long), (kc 3, .char), (kc 4, .object RX9)]
abbrev GM (D : va_G) (kc : Nat → ClassId) (ad : Nat → Nat) : GH := fun A => ZG D vwCl (wM kc ad) (fun _ tl => tl = []) A
abbrev PM (D : va_G) (kc : Nat → ClassId) : PH := fun _ U => va_K D vwCl (tysK kc) U
theorem pbM (D : va_G) (kc : Nat → ClassId) : PB (PM D kc) := fun _ U g mk a h => va_K.moved (u := U) (U := U.calling g mk a) (Vm.Alike.refl U.vm) h
theorem psM {D : va_G} {kc : Nat → ClassId} {A : Nat → Prop} {s : State} (h : va_K D vwCl (tysK kc) s) : PS (PM D kc) A s := fun _ _ _ _ _ hW => va_K.moved hW.alike h
theorem z_recv {D : va_G} {cl : List vw_C} {tys : List (ClassId × FieldType)} {s : State} {w : SS → va_W} {PL : SS → va_W → Prop} {A : Nat → Prop} {q : SS} {C : String} {T : u_T} {N ci a : Nat} (hK : va_K D cl tys s) (q0 : Nat) {fs : List Value} (he : ∀ tl, (w q ++ tl)[q0]? = some (a, .inr (ci, fs))) (hc : cl[ci]? = some (C, T, N)) : ∀ H, ZG D cl w PL A q H → ∃ cell : Cell, H[a]? = some cell ∧ cell.vm.isStatics = false ∧ s.vm.findClass C = some cell.cls := by
  intro H h
  obtain ⟨tl, hP, hD, hL⟩ := h
  exact va_recv hK hP hc (he tl)
def fX11_thrown (q : SS) : Int32 × SS := ((gI q 0), q)
def kX11_thrown (q : SS) : Prop := True
set_option maxHeartbeats 4000000 in
set_option maxRecDepth 100000 in
theorem ctX11_thrown (l : Launch) (D : va_G) (kc : Nat → ClassId) (ad : Nat → Nat) (q : SS) (hok : kX11_thrown q) : Ci l yX11_thrown (Cond.code yX11_thrown cX11_thrown 1 (some .int) :: lw_G) (zr 0 0 0) 0 0 (PM D kc) (GM D kc ad) (GM D kc ad) [.ref (ad 0)] q (fX11_thrown q) := by
  refine Ci.of (cc := cX11_thrown) (maxL := 1) (ret := (some .int)) (by decide) rfl (Nat.le_of_ble_eq_true rfl) ?_
  intro p e s m args below meth c A S hr hlocks hin hA hK
  have hx := S.1
  have hb := S.2.1
  have hK : va_K D vwCl (tysK kc) s := hK
  generalize hFe : fX11_thrown q = F
  have hF : F = fX11_thrown q := hFe.symm
  refine z_aload_n (j := 0) hx hb dX11_thrown_0 rfl rfl ?_
  refine z_get (v := .int (gI q 0)) S hK inX11 0 (fun _ => rfl) rfl 0 (by decide) q6_97 rfl rfl dX11_thrown_1 ?_
  exact z_iret hx hb hlocks hr rfl hF dX11_thrown_4
theorem hX11_thrown : yX11_thrown.cls = RX11 ∧ yX11_thrown.cls ≠ "java/lang/invoke/MethodHandle" ∧ yX11_thrown.cls ≠ "java/lang/invoke/VarHandle" ∧ (parseMethodDescriptor yX11_thrown.desc).map (fun d => d.parameters.length) = some 0 := by decide +kernel
def fX11_refuse (q : SS) (v1 : Int32) : Int32 × SS := (0, (sI q 0 v1))
def kX11_refuse (q : SS) (v1 : Int32) : Prop := True
set_option maxHeartbeats 4000000 in
set_option maxRecDepth 100000 in
theorem ctX11_refuse (l : Launch) (D : va_G) (kc : Nat → ClassId) (ad : Nat → Nat) (q : SS) (v1 : Int32) (hok : kX11_refuse q v1) : Ci l yX11_refuse (Cond.code yX11_refuse cX11_refuse 2 (some .int) :: lw_G) (zr 0 0 0) 0 0 (PM D kc) (GM D kc ad) (GM D kc ad) [.ref (ad 0), .int v1] q (fX11_refuse q v1) := by
  refine Ci.of (cc := cX11_refuse) (maxL := 2) (ret := (some .int)) (by decide) rfl (Nat.le_of_ble_eq_true rfl) ?_
  intro p e s m args below meth c A S hr hlocks hin hA hK
  have hx := S.1
  have hb := S.2.1
  have hK : va_K D vwCl (tysK kc) s := hK
  generalize hFe : fX11_refuse q v1 = F
  have hF : F = fX11_refuse q v1 := hFe.symm
  refine z_aload_n (j := 0) hx hb dX11_refuse_0 rfl rfl ?_
  refine z_iload_n (j := 1) hx hb dX11_refuse_1 rfl rfl ?_
  refine z_put (v := .int v1) (q' := (sI q 0 v1)) S hK inX11 tyX11 tyX11_ok nmX11 0 (fun _ => rfl) rfl 0 (by decide) q6_97 rfl rfl rfl rfl (Nat.le_of_ble_eq_true rfl) dX11_refuse_2 (wMp0 kc ad _ _) (fun _ h => h) ?_
  refine z_iconst (v := 0) hx hb dX11_refuse_5 (by decide) ?_
  exact z_iret hx hb hlocks hr rfl hF dX11_refuse_6
theorem hX11_refuse : yX11_refuse.cls = RX11 ∧ yX11_refuse.cls ≠ "java/lang/invoke/MethodHandle" ∧ yX11_refuse.cls ≠ "java/lang/invoke/VarHandle" ∧ (parseMethodDescriptor yX11_refuse.desc).map (fun d => d.parameters.length) = some 1 := by decide +kernel
def fX11_isIn_15 (q : SS) (s0 : Int32) : Int32 × SS := (s0, q)
def kX11_isIn_15 (q : SS) (s0 : Int32) : Prop := narrow .boolean (.int s0) = .int s0 ∧ True
def fX11_isIn_14 (q : SS) : Int32 × SS := fX11_isIn_15 q 0
def kX11_isIn_14 (q : SS) : Prop := kX11_isIn_15 q 0
def fX11_isIn (q : SS) (v0 : Int32) (v1 : Int32) (v2 : Int32) : Int32 × SS := (if v0 < v1 then fX11_isIn_14 q else (if v2 < v0 then fX11_isIn_14 q else fX11_isIn_15 q 1))
def kX11_isIn (q : SS) (v0 : Int32) (v1 : Int32) (v2 : Int32) : Prop := ((v0 < v1 → kX11_isIn_14 q) ∧ (¬ v0 < v1 → ((v2 < v0 → kX11_isIn_14 q) ∧ (¬ v2 < v0 → kX11_isIn_15 q 1))))
set_option maxHeartbeats 4000000 in
set_option maxRecDepth 100000 in
theorem ctX11_isIn (l : Launch) (D : va_G) (kc : Nat → ClassId) (ad : Nat → Nat) (q : SS) (v0 : Int32) (v1 : Int32) (v2 : Int32) (hok : kX11_isIn q v0 v1 v2) : Ci l yX11_isIn (Cond.code yX11_isIn cX11_isIn 3 (some .boolean) :: lw_G) (zr 0 0 0) 0 0 (PM D kc) (GM D kc ad) (GM D kc ad) [.int v0, .int v1, .int v2] q (fX11_isIn q v0 v1 v2) := by
  refine Ci.of (cc := cX11_isIn) (maxL := 3) (ret := (some .boolean)) (by decide) rfl (Nat.le_of_ble_eq_true rfl) ?_
  intro p e s m args below meth c A S hr hlocks hin hA hK
  have hx := S.1
  have hb := S.2.1
  have hK : va_K D vwCl (tysK kc) s := hK
  generalize hFe : fX11_isIn q v0 v1 v2 = F
  have hF : F = fX11_isIn q v0 v1 v2 := hFe.symm
  have b15 : ∀ (q : SS) (s0 : Int32), kX11_isIn_15 q s0 → F = fX11_isIn_15 q s0 → Z p l e (zr 0 0 0) s m args below meth c 0 0 (MQ below (va_Qi (fun (x : Int32) (_ : Unit) => x = F.1) (fun _ t => (GM D kc ad) A F.2 t.heap) A) args s 0 0 A) 3 A (ZG D vwCl (wM kc ad) (fun _ tl => tl = []) A) q 15 [] [.int s0] := by
    intro q s0 hok hF
    have h15 := And.left hok
    have hok := And.right hok
    exact z_iret hx hb hlocks hr h15 hF dX11_isIn_15
  have b14 : ∀ (q : SS), kX11_isIn_14 q → F = fX11_isIn_14 q → Z p l e (zr 0 0 0) s m args below meth c 0 0 (MQ below (va_Qi (fun (x : Int32) (_ : Unit) => x = F.1) (fun _ t => (GM D kc ad) A F.2 t.heap) A) args s 0 0 A) 3 A (ZG D vwCl (wM kc ad) (fun _ tl => tl = []) A) q 14 [] [] := by
    intro q hok hF
    refine z_iconst (v := 0) hx hb dX11_isIn_14 (by decide) ?_
    exact b15 q 0 hok hF
  refine z_iload_n (j := 0) hx hb dX11_isIn_0 rfl rfl ?_
  refine z_iload_n (j := 1) hx hb dX11_isIn_1 rfl rfl ?_
  refine z_icmp_lt (tgt := 14) hx hb dX11_isIn_2 (by decide) (fun g2 => ?_) (fun g2 => ?_)
  · have hF := hF.trans (if_pos g2)
    have hok := And.left hok g2
    refine z_sub [] rfl ?_
    exact b14 q hok hF
  · have hF := hF.trans (if_neg g2)
    have hok := And.right hok g2
    refine z_iload_n (j := 0) hx hb dX11_isIn_5 rfl rfl ?_
    refine z_iload_n (j := 2) hx hb dX11_isIn_6 rfl rfl ?_
    refine z_icmp_gt (tgt := 14) hx hb dX11_isIn_7 (by decide) (fun g7 => ?_) (fun g7 => ?_)
    · have hF := hF.trans (if_pos g7)
      have hok := And.left hok g7
      refine z_sub [] rfl ?_
      exact b14 q hok hF
    · have hF := hF.trans (if_neg g7)
      have hok := And.right hok g7
      refine z_iconst (v := 1) hx hb dX11_isIn_10 (by decide) ?_
      refine z_goto (tgt := 15) hx hb dX11_isIn_11 (by decide) ?_
      refine z_sub [] rfl ?_
      exact b15 q 1 hok hF
theorem hX11_isIn : yX11_isIn.cls ≠ "java/lang/invoke/MethodHandle" ∧ yX11_isIn.cls ≠ "java/lang/invoke/VarHandle" ∧ (parseMethodDescriptor yX11_isIn.desc).map (fun d => d.parameters.length) = some 3 := by decide +kernel
def fX11_ends_29 (q : SS) (s0 : Int32) : Int32 × SS := (s0, q)
def kX11_ends_29 (q : SS) (s0 : Int32) : Prop := narrow .boolean (.int s0) = .int s0 ∧ True
def fX11_ends_24 (q : SS) : Int32 × SS := fX11_ends_29 q 1
def kX11_ends_24 (q : SS) : Prop := kX11_ends_29 q 1
def fX11_ends (q : SS) (v0 : Int32) : Int32 × SS := (if v0 = 101 then fX11_ends_24 q else (if v0 = 115 then fX11_ends_24 q else (if v0 = 107 then fX11_ends_24 q else (if v0 = 103 then fX11_ends_24 q else fX11_ends_29 q 0))))
def kX11_ends (q : SS) (v0 : Int32) : Prop := ((v0 = 101 → kX11_ends_24 q) ∧ (¬ v0 = 101 → ((v0 = 115 → kX11_ends_24 q) ∧ (¬ v0 = 115 → ((v0 = 107 → kX11_ends_24 q) ∧ (¬ v0 = 107 → ((v0 = 103 → kX11_ends_24 q) ∧ (¬ v0 = 103 → kX11_ends_29 q 0))))))))
set_option maxHeartbeats 4000000 in
set_option maxRecDepth 100000 in
theorem ctX11_ends (l : Launch) (D : va_G) (kc : Nat → ClassId) (ad : Nat → Nat) (q : SS) (v0 : Int32) (hok : kX11_ends q v0) : Ci l yX11_ends (Cond.code yX11_ends cX11_ends 1 (some .boolean) :: lw_G) (zr 0 0 0) 0 0 (PM D kc) (GM D kc ad) (GM D kc ad) [.int v0] q (fX11_ends q v0) := by
  refine Ci.of (cc := cX11_ends) (maxL := 1) (ret := (some .boolean)) (by decide) rfl (Nat.le_of_ble_eq_true rfl) ?_
  intro p e s m args below meth c A S hr hlocks hin hA hK
  have hx := S.1
  have hb := S.2.1
  have hK : va_K D vwCl (tysK kc) s := hK
  generalize hFe : fX11_ends q v0 = F
  have hF : F = fX11_ends q v0 := hFe.symm
  have b29 : ∀ (q : SS) (s0 : Int32), kX11_ends_29 q s0 → F = fX11_ends_29 q s0 → Z p l e (zr 0 0 0) s m args below meth c 0 0 (MQ below (va_Qi (fun (x : Int32) (_ : Unit) => x = F.1) (fun _ t => (GM D kc ad) A F.2 t.heap) A) args s 0 0 A) 1 A (ZG D vwCl (wM kc ad) (fun _ tl => tl = []) A) q 29 [] [.int s0] := by
    intro q s0 hok hF
    have h29 := And.left hok
    have hok := And.right hok
    exact z_iret hx hb hlocks hr h29 hF dX11_ends_29
  have b24 : ∀ (q : SS), kX11_ends_24 q → F = fX11_ends_24 q → Z p l e (zr 0 0 0) s m args below meth c 0 0 (MQ below (va_Qi (fun (x : Int32) (_ : Unit) => x = F.1) (fun _ t => (GM D kc ad) A F.2 t.heap) A) args s 0 0 A) 1 A (ZG D vwCl (wM kc ad) (fun _ tl => tl = []) A) q 24 [] [] := by
    intro q hok hF
    refine z_iconst (v := 1) hx hb dX11_ends_24 (by decide) ?_
    refine z_goto (tgt := 29) hx hb dX11_ends_25 (by decide) ?_
    exact b29 q 1 hok hF
  refine z_iload_n (j := 0) hx hb dX11_ends_0 rfl rfl ?_
  refine z_bipush (v := 101) hx hb dX11_ends_1 (by decide) ?_
  refine z_icmp_eq (tgt := 24) hx hb dX11_ends_3 (by decide) (fun g3 => ?_) (fun g3 => ?_)
  · have hF := hF.trans (if_pos g3)
    have hok := And.left hok g3
    refine z_sub [] rfl ?_
    exact b24 q hok hF
  · have hF := hF.trans (if_neg g3)
    have hok := And.right hok g3
    refine z_iload_n (j := 0) hx hb dX11_ends_6 rfl rfl ?_
    refine z_bipush (v := 115) hx hb dX11_ends_7 (by decide) ?_
    refine z_icmp_eq (tgt := 24) hx hb dX11_ends_9 (by decide) (fun g9 => ?_) (fun g9 => ?_)
    · have hF := hF.trans (if_pos g9)
      have hok := And.left hok g9
      refine z_sub [] rfl ?_
      exact b24 q hok hF
    · have hF := hF.trans (if_neg g9)
      have hok := And.right hok g9
      refine z_iload_n (j := 0) hx hb dX11_ends_12 rfl rfl ?_
      refine z_bipush (v := 107) hx hb dX11_ends_13 (by decide) ?_
      refine z_icmp_eq (tgt := 24) hx hb dX11_ends_15 (by decide) (fun g15 => ?_) (fun g15 => ?_)
      · have hF := hF.trans (if_pos g15)
        have hok := And.left hok g15
        refine z_sub [] rfl ?_
        exact b24 q hok hF
      · have hF := hF.trans (if_neg g15)
        have hok := And.right hok g15
        refine z_iload_n (j := 0) hx hb dX11_ends_18 rfl rfl ?_
        refine z_bipush (v := 103) hx hb dX11_ends_19 (by decide) ?_
        refine z_icmp_ne (tgt := 28) hx hb dX11_ends_21 (by decide) (fun g21 => ?_) (fun g21 => ?_)
        · have hF := hF.trans (if_neg g21)
          have hok := And.right hok g21
          refine z_iconst (v := 0) hx hb dX11_ends_28 (by decide) ?_
          refine z_sub [] rfl ?_
          exact b29 q 0 hok hF
        · have hF := hF.trans (if_pos g21)
          have hok := And.left hok g21
          refine z_sub [] rfl ?_
          exact b24 q hok hF
theorem hX11_ends : yX11_ends.cls ≠ "java/lang/invoke/MethodHandle" ∧ yX11_ends.cls ≠ "java/lang/invoke/VarHandle" ∧ (parseMethodDescriptor yX11_ends.desc).map (fun d => d.parameters.length) = some 1 := by decide +kernel
def fX11_isOrder_54 (q : SS) (s0 : Int32) : Int32 × SS := (s0, q)
def kX11_isOrder_54 (q : SS) (s0 : Int32) : Prop := narrow .boolean (.int s0) = .int s0 ∧ True
def fX11_isOrder_49 (q : SS) : Int32 × SS := fX11_isOrder_54 q 1
def kX11_isOrder_49 (q : SS) : Prop := kX11_isOrder_54 q 1
def fX11_isOrder_40 (q : SS) (v0 : Int32) (s0 : Int32) : Int32 × SS := (if s0 = 0 then (if v0 = 113 then fX11_isOrder_49 q else fX11_isOrder_54 q 0) else fX11_isOrder_49 q)
def kX11_isOrder_40 (q : SS) (v0 : Int32) (s0 : Int32) : Prop := ((s0 = 0 → ((v0 = 113 → kX11_isOrder_49 q) ∧ (¬ v0 = 113 → kX11_isOrder_54 q 0))) ∧ (¬ s0 = 0 → kX11_isOrder_49 q))
def fX11_isOrder (q : SS) (v0 : Int32) : Int32 × SS := (if v0 = 110 then fX11_isOrder_49 q else (if v0 = 111 then fX11_isOrder_49 q else (if v0 = 99 then fX11_isOrder_49 q else (if v0 = 114 then fX11_isOrder_49 q else (if v0 = 100 then fX11_isOrder_49 q else (if v0 = 112 then fX11_isOrder_49 q else fX11_isOrder_40 (fX11_ends q v0).2 v0 (fX11_ends q v0).1))))))
def kX11_isOrder (q : SS) (v0 : Int32) : Prop := ((v0 = 110 → kX11_isOrder_49 q) ∧ (¬ v0 = 110 → ((v0 = 111 → kX11_isOrder_49 q) ∧ (¬ v0 = 111 → ((v0 = 99 → kX11_isOrder_49 q) ∧ (¬ v0 = 99 → ((v0 = 114 → kX11_isOrder_49 q) ∧ (¬ v0 = 114 → ((v0 = 100 → kX11_isOrder_49 q) ∧ (¬ v0 = 100 → ((v0 = 112 → kX11_isOrder_49 q) ∧ (¬ v0 = 112 → kX11_ends q v0 ∧ kX11_isOrder_40 (fX11_ends q v0).2 v0 (fX11_ends q v0).1))))))))))))
set_option maxHeartbeats 4000000 in
set_option maxRecDepth 100000 in
theorem ctX11_isOrder (l : Launch) (D : va_G) (kc : Nat → ClassId) (ad : Nat → Nat) (q : SS) (v0 : Int32) (hok : kX11_isOrder q v0) : Ci l yX11_isOrder (Cond.code yX11_isOrder cX11_isOrder 1 (some .boolean) :: lw_G) (zr 1 0 0) 0 0 (PM D kc) (GM D kc ad) (GM D kc ad) [.int v0] q (fX11_isOrder q v0) := by
  refine Ci.of (cc := cX11_isOrder) (maxL := 1) (ret := (some .boolean)) (by decide) rfl (Nat.le_of_ble_eq_true rfl) ?_
  intro p e s m args below meth c A S hr hlocks hin hA hK
  have hx := S.1
  have hb := S.2.1
  have hK : va_K D vwCl (tysK kc) s := hK
  generalize hFe : fX11_isOrder q v0 = F
  have hF : F = fX11_isOrder q v0 := hFe.symm
  have b54 : ∀ (q : SS) (s0 : Int32), kX11_isOrder_54 q s0 → F = fX11_isOrder_54 q s0 → Z p l e (zr 1 0 0) s m args below meth c 0 0 (MQ below (va_Qi (fun (x : Int32) (_ : Unit) => x = F.1) (fun _ t => (GM D kc ad) A F.2 t.heap) A) args s 0 0 A) 1 A (ZG D vwCl (wM kc ad) (fun _ tl => tl = []) A) q 54 [] [.int s0] := by
    intro q s0 hok hF
    have h54 := And.left hok
    have hok := And.right hok
    exact z_iret hx hb hlocks hr h54 hF dX11_isOrder_54
  have b49 : ∀ (q : SS), kX11_isOrder_49 q → F = fX11_isOrder_49 q → Z p l e (zr 1 0 0) s m args below meth c 0 0 (MQ below (va_Qi (fun (x : Int32) (_ : Unit) => x = F.1) (fun _ t => (GM D kc ad) A F.2 t.heap) A) args s 0 0 A) 1 A (ZG D vwCl (wM kc ad) (fun _ tl => tl = []) A) q 49 [] [] := by
    intro q hok hF
    refine z_iconst (v := 1) hx hb dX11_isOrder_49 (by decide) ?_
    refine z_goto (tgt := 54) hx hb dX11_isOrder_50 (by decide) ?_
    exact b54 q 1 hok hF
  have b40 : ∀ (q : SS) (v0 : Int32) (s0 : Int32), kX11_isOrder_40 q v0 s0 → F = fX11_isOrder_40 q v0 s0 → Z p l e (zr 1 0 0) s m args below meth c 0 0 (MQ below (va_Qi (fun (x : Int32) (_ : Unit) => x = F.1) (fun _ t => (GM D kc ad) A F.2 t.heap) A) args s 0 0 A) 1 A (ZG D vwCl (wM kc ad) (fun _ tl => tl = []) A) q 40 [(0, .int v0)] [.int s0] := by
    intro q v0 s0 hok hF
    refine z_if_ne (tgt := 49) hx hb dX11_isOrder_40 (by decide) (fun g40 => ?_) (fun g40 => ?_)
    · have hF := hF.trans (if_neg g40)
      have hok := And.right hok g40
      refine z_sub [] rfl ?_
      exact b49 q hok hF
    · have hF := hF.trans (if_pos g40)
      have hok := And.left hok g40
      refine z_iload_n (j := 0) hx hb dX11_isOrder_43 rfl rfl ?_
      refine z_bipush (v := 113) hx hb dX11_isOrder_44 (by decide) ?_
      refine z_icmp_ne (tgt := 53) hx hb dX11_isOrder_46 (by decide) (fun g46 => ?_) (fun g46 => ?_)
      · have hF := hF.trans (if_neg g46)
        have hok := And.right hok g46
        refine z_iconst (v := 0) hx hb dX11_isOrder_53 (by decide) ?_
        refine z_sub [] rfl ?_
        exact b54 q 0 hok hF
      · have hF := hF.trans (if_pos g46)
        have hok := And.left hok g46
        refine z_sub [] rfl ?_
        exact b49 q hok hF
  refine z_iload_n (j := 0) hx hb dX11_isOrder_0 rfl rfl ?_
  refine z_bipush (v := 110) hx hb dX11_isOrder_1 (by decide) ?_
  refine z_icmp_eq (tgt := 49) hx hb dX11_isOrder_3 (by decide) (fun g3 => ?_) (fun g3 => ?_)
  · have hF := hF.trans (if_pos g3)
    have hok := And.left hok g3
    refine z_sub [] rfl ?_
    exact b49 q hok hF
  · have hF := hF.trans (if_neg g3)
    have hok := And.right hok g3
    refine z_iload_n (j := 0) hx hb dX11_isOrder_6 rfl rfl ?_
    refine z_bipush (v := 111) hx hb dX11_isOrder_7 (by decide) ?_
    refine z_icmp_eq (tgt := 49) hx hb dX11_isOrder_9 (by decide) (fun g9 => ?_) (fun g9 => ?_)
    · have hF := hF.trans (if_pos g9)
      have hok := And.left hok g9
      refine z_sub [] rfl ?_
      exact b49 q hok hF
    · have hF := hF.trans (if_neg g9)
      have hok := And.right hok g9
      refine z_iload_n (j := 0) hx hb dX11_isOrder_12 rfl rfl ?_
      refine z_bipush (v := 99) hx hb dX11_isOrder_13 (by decide) ?_
      refine z_icmp_eq (tgt := 49) hx hb dX11_isOrder_15 (by decide) (fun g15 => ?_) (fun g15 => ?_)
      · have hF := hF.trans (if_pos g15)
        have hok := And.left hok g15
        refine z_sub [] rfl ?_
        exact b49 q hok hF
      · have hF := hF.trans (if_neg g15)
        have hok := And.right hok g15
        refine z_iload_n (j := 0) hx hb dX11_isOrder_18 rfl rfl ?_
        refine z_bipush (v := 114) hx hb dX11_isOrder_19 (by decide) ?_
        refine z_icmp_eq (tgt := 49) hx hb dX11_isOrder_21 (by decide) (fun g21 => ?_) (fun g21 => ?_)
        · have hF := hF.trans (if_pos g21)
          have hok := And.left hok g21
          refine z_sub [] rfl ?_
          exact b49 q hok hF
        · have hF := hF.trans (if_neg g21)
          have hok := And.right hok g21
          refine z_iload_n (j := 0) hx hb dX11_isOrder_24 rfl rfl ?_
          refine z_bipush (v := 100) hx hb dX11_isOrder_25 (by decide) ?_
          refine z_icmp_eq (tgt := 49) hx hb dX11_isOrder_27 (by decide) (fun g27 => ?_) (fun g27 => ?_)
          · have hF := hF.trans (if_pos g27)
            have hok := And.left hok g27
            refine z_sub [] rfl ?_
            exact b49 q hok hF
          · have hF := hF.trans (if_neg g27)
            have hok := And.right hok g27
            refine z_iload_n (j := 0) hx hb dX11_isOrder_30 rfl rfl ?_
            refine z_bipush (v := 112) hx hb dX11_isOrder_31 (by decide) ?_
            refine z_icmp_eq (tgt := 49) hx hb dX11_isOrder_33 (by decide) (fun g33 => ?_) (fun g33 => ?_)
            · have hF := hF.trans (if_pos g33)
              have hok := And.left hok g33
              refine z_sub [] rfl ?_
              exact b49 q hok hF
            · have hF := hF.trans (if_neg g33)
              have hok := And.right hok g33
              refine z_iload_n (j := 0) hx hb dX11_isOrder_36 rfl rfl ?_
              have h37 := And.left hok
              have hok := And.right hok
              refine z_callSi (As := [.int v0]) S (ctX11_ends l D kc ad q v0 h37) (va_cwS 1 S.2.2.2.2 (gS q7_27 q7_28 q1_12 q7_29) rfl rfl rfl hX11_ends ⟨Nat.le_of_ble_eq_true rfl, Nat.le_of_ble_eq_true rfl⟩) hA (pbM D kc) (psM hK) rfl rfl (Nat.le_of_ble_eq_true rfl) dX11_isOrder_37 ⟨Nat.le_of_ble_eq_true rfl, Nat.le_of_ble_eq_true rfl⟩ ?_
              exact b40 (fX11_ends q v0).2 v0 (fX11_ends q v0).1 hok hF
theorem hX11_isOrder : yX11_isOrder.cls ≠ "java/lang/invoke/MethodHandle" ∧ yX11_isOrder.cls ≠ "java/lang/invoke/VarHandle" ∧ (parseMethodDescriptor yX11_isOrder.desc).map (fun d => d.parameters.length) = some 1 := by decide +kernel
def fX11_out_32 (q : SS) (s0 : Int32) : Int32 × SS := (s0, q)
def kX11_out_32 (q : SS) (s0 : Int32) : Prop := narrow .boolean (.int s0) = .int s0 ∧ True
def fX11_out_17 (q : SS) (s0 : Int32) : Int32 × SS := (if s0 = 0 then fX11_out_32 (sI q 0 s0) 0 else fX11_out_32 (sI q 0 s0) 1)
def kX11_out_17 (q : SS) (s0 : Int32) : Prop := ((s0 = 0 → kX11_out_32 (sI q 0 s0) 0) ∧ (¬ s0 = 0 → kX11_out_32 (sI q 0 s0) 1))
def fX11_out_9 (q : SS) (s0 : Int32) : Int32 × SS := (if s0 = 0 then fX11_out_17 q 1 else fX11_out_17 q 0)
def kX11_out_9 (q : SS) (s0 : Int32) : Prop := ((s0 = 0 → kX11_out_17 q 1) ∧ (¬ s0 = 0 → kX11_out_17 q 0))
def fX11_out (q : SS) (v1 : Int32) (v2 : Int32) : Int32 × SS := fX11_out_9 (fX11_isIn q v1 0 (v2 - 1)).2 (fX11_isIn q v1 0 (v2 - 1)).1
def kX11_out (q : SS) (v1 : Int32) (v2 : Int32) : Prop := kX11_isIn q v1 0 (v2 - 1) ∧ kX11_out_9 (fX11_isIn q v1 0 (v2 - 1)).2 (fX11_isIn q v1 0 (v2 - 1)).1
set_option maxHeartbeats 4000000 in
set_option maxRecDepth 100000 in
theorem ctX11_out (l : Launch) (D : va_G) (kc : Nat → ClassId) (ad : Nat → Nat) (q : SS) (v1 : Int32) (v2 : Int32) (hok : kX11_out q v1 v2) : Ci l yX11_out (Cond.code yX11_out cX11_out 3 (some .boolean) :: lw_G) (zr 1 0 0) 0 0 (PM D kc) (GM D kc ad) (GM D kc ad) [.ref (ad 0), .int v1, .int v2] q (fX11_out q v1 v2) := by
  refine Ci.of (cc := cX11_out) (maxL := 3) (ret := (some .boolean)) (by decide) rfl (Nat.le_of_ble_eq_true rfl) ?_
  intro p e s m args below meth c A S hr hlocks hin hA hK
  have hx := S.1
  have hb := S.2.1
  have hK : va_K D vwCl (tysK kc) s := hK
  generalize hFe : fX11_out q v1 v2 = F
  have hF : F = fX11_out q v1 v2 := hFe.symm
  have b32 : ∀ (q : SS) (s0 : Int32), kX11_out_32 q s0 → F = fX11_out_32 q s0 → Z p l e (zr 1 0 0) s m args below meth c 0 0 (MQ below (va_Qi (fun (x : Int32) (_ : Unit) => x = F.1) (fun _ t => (GM D kc ad) A F.2 t.heap) A) args s 0 0 A) 3 A (ZG D vwCl (wM kc ad) (fun _ tl => tl = []) A) q 32 [] [.int s0] := by
    intro q s0 hok hF
    have h32 := And.left hok
    have hok := And.right hok
    exact z_iret hx hb hlocks hr h32 hF dX11_out_32
  have b17 : ∀ (q : SS) (s0 : Int32), kX11_out_17 q s0 → F = fX11_out_17 q s0 → Z p l e (zr 1 0 0) s m args below meth c 0 0 (MQ below (va_Qi (fun (x : Int32) (_ : Unit) => x = F.1) (fun _ t => (GM D kc ad) A F.2 t.heap) A) args s 0 0 A) 3 A (ZG D vwCl (wM kc ad) (fun _ tl => tl = []) A) q 17 [(0, .ref (ad 0))] [.int s0, .ref (ad 0)] := by
    intro q s0 hok hF
    refine z_put (v := .int s0) (q' := (sI q 0 s0)) S hK inX11 tyX11 tyX11_ok nmX11 0 (fun _ => rfl) rfl 0 (by decide) q6_97 rfl rfl rfl rfl (Nat.le_of_ble_eq_true rfl) dX11_out_17 (wMp0 kc ad _ _) (fun _ h => h) ?_
    refine z_aload_n (j := 0) hx hb dX11_out_20 rfl rfl ?_
    refine z_get (v := .int s0) S hK inX11 0 (fun _ => rfl) rfl 0 (by decide) q6_97 rfl rfl dX11_out_21 ?_
    refine z_if_eq (tgt := 31) hx hb dX11_out_24 (by decide) (fun g24 => ?_) (fun g24 => ?_)
    · have hF := hF.trans (if_pos g24)
      have hok := And.left hok g24
      refine z_iconst (v := 0) hx hb dX11_out_31 (by decide) ?_
      refine z_sub [] rfl ?_
      exact b32 (sI q 0 s0) 0 hok hF
    · have hF := hF.trans (if_neg g24)
      have hok := And.right hok g24
      refine z_iconst (v := 1) hx hb dX11_out_27 (by decide) ?_
      refine z_goto (tgt := 32) hx hb dX11_out_28 (by decide) ?_
      refine z_sub [] rfl ?_
      exact b32 (sI q 0 s0) 1 hok hF
  have b9 : ∀ (q : SS) (s0 : Int32), kX11_out_9 q s0 → F = fX11_out_9 q s0 → Z p l e (zr 1 0 0) s m args below meth c 0 0 (MQ below (va_Qi (fun (x : Int32) (_ : Unit) => x = F.1) (fun _ t => (GM D kc ad) A F.2 t.heap) A) args s 0 0 A) 3 A (ZG D vwCl (wM kc ad) (fun _ tl => tl = []) A) q 9 [(0, .ref (ad 0))] [.int s0, .ref (ad 0)] := by
    intro q s0 hok hF
    refine z_if_eq (tgt := 16) hx hb dX11_out_9 (by decide) (fun g9 => ?_) (fun g9 => ?_)
    · have hF := hF.trans (if_pos g9)
      have hok := And.left hok g9
      refine z_iconst (v := 1) hx hb dX11_out_16 (by decide) ?_
      exact b17 q 1 hok hF
    · have hF := hF.trans (if_neg g9)
      have hok := And.right hok g9
      refine z_iconst (v := 0) hx hb dX11_out_12 (by decide) ?_
      refine z_goto (tgt := 17) hx hb dX11_out_13 (by decide) ?_
      exact b17 q 0 hok hF
  refine z_aload_n (j := 0) hx hb dX11_out_0 rfl rfl ?_
  refine z_iload_n (j := 1) hx hb dX11_out_1 rfl rfl ?_
  refine z_iconst (v := 0) hx hb dX11_out_2 (by decide) ?_
  refine z_iload_n (j := 2) hx hb dX11_out_3 rfl rfl ?_
  refine z_iconst (v := 1) hx hb dX11_out_4 (by decide) ?_
  refine z_isub hx hb dX11_out_5 ?_
  have h6 := And.left hok
  have hok := And.right hok
  refine z_callSi (As := [.int v1, .int 0, .int (v2 - 1)]) S (ctX11_isIn l D kc ad q v1 0 (v2 - 1) h6) (va_cwS 3 S.2.2.2.2 (gS q7_21 q7_22 q1_12 q7_23) rfl rfl rfl hX11_isIn ⟨Nat.le_of_ble_eq_true rfl, Nat.le_of_ble_eq_true rfl⟩) hA (pbM D kc) (psM hK) rfl rfl (Nat.le_of_ble_eq_true rfl) dX11_out_6 ⟨Nat.le_of_ble_eq_true rfl, Nat.le_of_ble_eq_true rfl⟩ ?_
  refine z_sub [0] rfl ?_
  exact b9 (fX11_isIn q v1 0 (v2 - 1)).2 (fX11_isIn q v1 0 (v2 - 1)).1 hok hF
theorem hX11_out : yX11_out.cls = RX11 ∧ yX11_out.cls ≠ "java/lang/invoke/MethodHandle" ∧ yX11_out.cls ≠ "java/lang/invoke/VarHandle" ∧ (parseMethodDescriptor yX11_out.desc).map (fun d => d.parameters.length) = some 2 := by decide +kernel
def fX11_forbidden_80 (q : SS) (s0 : Int32) : Int32 × SS := (s0, q)
def kX11_forbidden_80 (q : SS) (s0 : Int32) : Prop := narrow .char (.int s0) = .int s0 ∧ True
def fX11_forbidden_78 (q : SS) : Int32 × SS := fX11_forbidden_80 q 45
def kX11_forbidden_78 (q : SS) : Prop := kX11_forbidden_80 q 45
def fX11_forbidden_60 (q : SS) (v0 : Int32) (v3 : Int32) : Int32 × SS := (if (v0 &&& 64) = 0 then fX11_forbidden_78 q else (if v3 = 111 then fX11_forbidden_80 q 107 else fX11_forbidden_78 q))
def kX11_forbidden_60 (q : SS) (v0 : Int32) (v3 : Int32) : Prop := (((v0 &&& 64) = 0 → kX11_forbidden_78 q) ∧ (¬ (v0 &&& 64) = 0 → ((v3 = 111 → kX11_forbidden_80 q 107) ∧ (¬ v3 = 111 → kX11_forbidden_78 q))))
def fX11_forbidden_46 (q : SS) (v0 : Int32) (v3 : Int32) (v4 : Int32) : Int32 × SS := (if v4 = 0 then fX11_forbidden_60 q v0 v3 else (if v3 = 111 then fX11_forbidden_60 q v0 v3 else (116, q)))
def kX11_forbidden_46 (q : SS) (v0 : Int32) (v3 : Int32) (v4 : Int32) : Prop := ((v4 = 0 → kX11_forbidden_60 q v0 v3) ∧ (¬ v4 = 0 → ((v3 = 111 → kX11_forbidden_60 q v0 v3) ∧ (¬ v3 = 111 → True))))
def fX11_forbidden_39 (q : SS) (v0 : Int32) (v2 : Int32) (v3 : Int32) (v4 : Int32) : Int32 × SS := (if v2 = 0 then fX11_forbidden_46 q v0 v3 v4 else (109, q))
def kX11_forbidden_39 (q : SS) (v0 : Int32) (v2 : Int32) (v3 : Int32) (v4 : Int32) : Prop := ((v2 = 0 → kX11_forbidden_46 q v0 v3 v4) ∧ (¬ v2 = 0 → True))
def fX11_forbidden_15 (q : SS) (v0 : Int32) (v1 : Int32) (v2 : Int32) (v3 : Int32) (v4 : Int32) : Int32 × SS := (if (v1 &&& 96) = 96 then (114, q) else (if v3 = 99 then fX11_forbidden_39 q v0 v2 v3 v4 else (if v3 = 114 then fX11_forbidden_39 q v0 v2 v3 v4 else fX11_forbidden_46 q v0 v3 v4)))
def kX11_forbidden_15 (q : SS) (v0 : Int32) (v1 : Int32) (v2 : Int32) (v3 : Int32) (v4 : Int32) : Prop := (((v1 &&& 96) = 96 → True) ∧ (¬ (v1 &&& 96) = 96 → ((v3 = 99 → kX11_forbidden_39 q v0 v2 v3 v4) ∧ (¬ v3 = 99 → ((v3 = 114 → kX11_forbidden_39 q v0 v2 v3 v4) ∧ (¬ v3 = 114 → kX11_forbidden_46 q v0 v3 v4))))))
def fX11_forbidden (q : SS) (v0 : Int32) (v1 : Int32) (v2 : Int32) (v3 : Int32) (v4 : Int32) : Int32 × SS := (if v2 = 1 then (if (v1 &&& 8) = 0 then fX11_forbidden_15 q v0 v1 v2 v3 v4 else (100, q)) else fX11_forbidden_15 q v0 v1 v2 v3 v4)
def kX11_forbidden (q : SS) (v0 : Int32) (v1 : Int32) (v2 : Int32) (v3 : Int32) (v4 : Int32) : Prop := ((v2 = 1 → (((v1 &&& 8) = 0 → kX11_forbidden_15 q v0 v1 v2 v3 v4) ∧ (¬ (v1 &&& 8) = 0 → True))) ∧ (¬ v2 = 1 → kX11_forbidden_15 q v0 v1 v2 v3 v4))
set_option maxHeartbeats 4000000 in
set_option maxRecDepth 100000 in
theorem ctX11_forbidden (l : Launch) (D : va_G) (kc : Nat → ClassId) (ad : Nat → Nat) (q : SS) (v0 : Int32) (v1 : Int32) (v2 : Int32) (v3 : Int32) (v4 : Int32) (hok : kX11_forbidden q v0 v1 v2 v3 v4) : Ci l yX11_forbidden (Cond.code yX11_forbidden cX11_forbidden 5 (some .char) :: lw_G) (zr 0 0 0) 0 0 (PM D kc) (GM D kc ad) (GM D kc ad) [.int v0, .int v1, .int v2, .int v3, .int v4] q (fX11_forbidden q v0 v1 v2 v3 v4) := by
  refine Ci.of (cc := cX11_forbidden) (maxL := 5) (ret := (some .char)) (by decide) rfl (Nat.le_of_ble_eq_true rfl) ?_
  intro p e s m args below meth c A S hr hlocks hin hA hK
  have hx := S.1
  have hb := S.2.1
  have hK : va_K D vwCl (tysK kc) s := hK
  generalize hFe : fX11_forbidden q v0 v1 v2 v3 v4 = F
  have hF : F = fX11_forbidden q v0 v1 v2 v3 v4 := hFe.symm
  have b80 : ∀ (q : SS) (s0 : Int32), kX11_forbidden_80 q s0 → F = fX11_forbidden_80 q s0 → Z p l e (zr 0 0 0) s m args below meth c 0 0 (MQ below (va_Qi (fun (x : Int32) (_ : Unit) => x = F.1) (fun _ t => (GM D kc ad) A F.2 t.heap) A) args s 0 0 A) 5 A (ZG D vwCl (wM kc ad) (fun _ tl => tl = []) A) q 80 [] [.int s0] := by
    intro q s0 hok hF
    have h80 := And.left hok
    have hok := And.right hok
    exact z_iret hx hb hlocks hr h80 hF dX11_forbidden_80
  have b78 : ∀ (q : SS), kX11_forbidden_78 q → F = fX11_forbidden_78 q → Z p l e (zr 0 0 0) s m args below meth c 0 0 (MQ below (va_Qi (fun (x : Int32) (_ : Unit) => x = F.1) (fun _ t => (GM D kc ad) A F.2 t.heap) A) args s 0 0 A) 5 A (ZG D vwCl (wM kc ad) (fun _ tl => tl = []) A) q 78 [] [] := by
    intro q hok hF
    refine z_bipush (v := 45) hx hb dX11_forbidden_78 (by decide) ?_
    exact b80 q 45 hok hF
  have b60 : ∀ (q : SS) (v0 : Int32) (v3 : Int32), kX11_forbidden_60 q v0 v3 → F = fX11_forbidden_60 q v0 v3 → Z p l e (zr 0 0 0) s m args below meth c 0 0 (MQ below (va_Qi (fun (x : Int32) (_ : Unit) => x = F.1) (fun _ t => (GM D kc ad) A F.2 t.heap) A) args s 0 0 A) 5 A (ZG D vwCl (wM kc ad) (fun _ tl => tl = []) A) q 60 [(0, .int v0), (3, .int v3)] [] := by
    intro q v0 v3 hok hF
    refine z_iload_n (j := 0) hx hb dX11_forbidden_60 rfl rfl ?_
    refine z_bipush (v := 64) hx hb dX11_forbidden_61 (by decide) ?_
    refine z_iand hx hb dX11_forbidden_63 ?_
    refine z_if_eq (tgt := 78) hx hb dX11_forbidden_64 (by decide) (fun g64 => ?_) (fun g64 => ?_)
    · have hF := hF.trans (if_pos g64)
      have hok := And.left hok g64
      refine z_sub [] rfl ?_
      exact b78 q hok hF
    · have hF := hF.trans (if_neg g64)
      have hok := And.right hok g64
      refine z_iload_n (j := 1) hx hb dX11_forbidden_67 rfl rfl ?_
      refine z_bipush (v := 111) hx hb dX11_forbidden_68 (by decide) ?_
      refine z_icmp_ne (tgt := 78) hx hb dX11_forbidden_70 (by decide) (fun g70 => ?_) (fun g70 => ?_)
      · have hF := hF.trans (if_neg g70)
        have hok := And.right hok g70
        refine z_sub [] rfl ?_
        exact b78 q hok hF
      · have hF := hF.trans (if_pos g70)
        have hok := And.left hok g70
        refine z_bipush (v := 107) hx hb dX11_forbidden_73 (by decide) ?_
        refine z_goto (tgt := 80) hx hb dX11_forbidden_75 (by decide) ?_
        refine z_sub [] rfl ?_
        exact b80 q 107 hok hF
  have b46 : ∀ (q : SS) (v0 : Int32) (v3 : Int32) (v4 : Int32), kX11_forbidden_46 q v0 v3 v4 → F = fX11_forbidden_46 q v0 v3 v4 → Z p l e (zr 0 0 0) s m args below meth c 0 0 (MQ below (va_Qi (fun (x : Int32) (_ : Unit) => x = F.1) (fun _ t => (GM D kc ad) A F.2 t.heap) A) args s 0 0 A) 5 A (ZG D vwCl (wM kc ad) (fun _ tl => tl = []) A) q 46 [(0, .int v0), (3, .int v3), (4, .int v4)] [] := by
    intro q v0 v3 v4 hok hF
    refine z_iload (j := 2) hx hb dX11_forbidden_46 rfl ?_
    refine z_if_eq (tgt := 60) hx hb dX11_forbidden_48 (by decide) (fun g48 => ?_) (fun g48 => ?_)
    · have hF := hF.trans (if_pos g48)
      have hok := And.left hok g48
      refine z_sub [0, 1] rfl ?_
      exact b60 q v0 v3 hok hF
    · have hF := hF.trans (if_neg g48)
      have hok := And.right hok g48
      refine z_iload_n (j := 1) hx hb dX11_forbidden_51 rfl rfl ?_
      refine z_bipush (v := 111) hx hb dX11_forbidden_52 (by decide) ?_
      refine z_icmp_eq (tgt := 60) hx hb dX11_forbidden_54 (by decide) (fun g54 => ?_) (fun g54 => ?_)
      · have hF := hF.trans (if_pos g54)
        have hok := And.left hok g54
        refine z_sub [0, 1] rfl ?_
        exact b60 q v0 v3 hok hF
      · have hF := hF.trans (if_neg g54)
        have hok := And.right hok g54
        refine z_bipush (v := 116) hx hb dX11_forbidden_57 (by decide) ?_
        exact z_iret hx hb hlocks hr (by decide) hF dX11_forbidden_59
  have b39 : ∀ (q : SS) (v0 : Int32) (v2 : Int32) (v3 : Int32) (v4 : Int32), kX11_forbidden_39 q v0 v2 v3 v4 → F = fX11_forbidden_39 q v0 v2 v3 v4 → Z p l e (zr 0 0 0) s m args below meth c 0 0 (MQ below (va_Qi (fun (x : Int32) (_ : Unit) => x = F.1) (fun _ t => (GM D kc ad) A F.2 t.heap) A) args s 0 0 A) 5 A (ZG D vwCl (wM kc ad) (fun _ tl => tl = []) A) q 39 [(0, .int v0), (2, .int v2), (3, .int v3), (4, .int v4)] [] := by
    intro q v0 v2 v3 v4 hok hF
    refine z_iload_n (j := 1) hx hb dX11_forbidden_39 rfl rfl ?_
    refine z_if_eq (tgt := 46) hx hb dX11_forbidden_40 (by decide) (fun g40 => ?_) (fun g40 => ?_)
    · have hF := hF.trans (if_pos g40)
      have hok := And.left hok g40
      refine z_sub [0, 2, 3] rfl ?_
      exact b46 q v0 v3 v4 hok hF
    · have hF := hF.trans (if_neg g40)
      have hok := And.right hok g40
      refine z_bipush (v := 109) hx hb dX11_forbidden_43 (by decide) ?_
      exact z_iret hx hb hlocks hr (by decide) hF dX11_forbidden_45
  have b15 : ∀ (q : SS) (v0 : Int32) (v1 : Int32) (v2 : Int32) (v3 : Int32) (v4 : Int32), kX11_forbidden_15 q v0 v1 v2 v3 v4 → F = fX11_forbidden_15 q v0 v1 v2 v3 v4 → Z p l e (zr 0 0 0) s m args below meth c 0 0 (MQ below (va_Qi (fun (x : Int32) (_ : Unit) => x = F.1) (fun _ t => (GM D kc ad) A F.2 t.heap) A) args s 0 0 A) 5 A (ZG D vwCl (wM kc ad) (fun _ tl => tl = []) A) q 15 [(0, .int v0), (1, .int v1), (2, .int v2), (3, .int v3), (4, .int v4)] [] := by
    intro q v0 v1 v2 v3 v4 hok hF
    refine z_iload_n (j := 1) hx hb dX11_forbidden_15 rfl rfl ?_
    refine z_bipush (v := 96) hx hb dX11_forbidden_16 (by decide) ?_
    refine z_iand hx hb dX11_forbidden_18 ?_
    refine z_bipush (v := 96) hx hb dX11_forbidden_19 (by decide) ?_
    refine z_icmp_ne (tgt := 27) hx hb dX11_forbidden_21 (by decide) (fun g21 => ?_) (fun g21 => ?_)
    · have hF := hF.trans (if_neg g21)
      have hok := And.right hok g21
      refine z_iload_n (j := 3) hx hb dX11_forbidden_27 rfl rfl ?_
      refine z_bipush (v := 99) hx hb dX11_forbidden_28 (by decide) ?_
      refine z_icmp_eq (tgt := 39) hx hb dX11_forbidden_30 (by decide) (fun g30 => ?_) (fun g30 => ?_)
      · have hF := hF.trans (if_pos g30)
        have hok := And.left hok g30
        refine z_sub [0, 2, 3, 4] rfl ?_
        exact b39 q v0 v2 v3 v4 hok hF
      · have hF := hF.trans (if_neg g30)
        have hok := And.right hok g30
        refine z_iload_n (j := 3) hx hb dX11_forbidden_33 rfl rfl ?_
        refine z_bipush (v := 114) hx hb dX11_forbidden_34 (by decide) ?_
        refine z_icmp_ne (tgt := 46) hx hb dX11_forbidden_36 (by decide) (fun g36 => ?_) (fun g36 => ?_)
        · have hF := hF.trans (if_neg g36)
          have hok := And.right hok g36
          refine z_sub [0, 3, 4] rfl ?_
          exact b46 q v0 v3 v4 hok hF
        · have hF := hF.trans (if_pos g36)
          have hok := And.left hok g36
          refine z_sub [0, 2, 3, 4] rfl ?_
          exact b39 q v0 v2 v3 v4 hok hF
    · have hF := hF.trans (if_pos g21)
      have hok := And.left hok g21
      refine z_bipush (v := 114) hx hb dX11_forbidden_24 (by decide) ?_
      exact z_iret hx hb hlocks hr (by decide) hF dX11_forbidden_26
  refine z_iload_n (j := 2) hx hb dX11_forbidden_0 rfl rfl ?_
  refine z_iconst (v := 1) hx hb dX11_forbidden_1 (by decide) ?_
  refine z_icmp_ne (tgt := 15) hx hb dX11_forbidden_2 (by decide) (fun g2 => ?_) (fun g2 => ?_)
  · have hF := hF.trans (if_neg g2)
    have hok := And.right hok g2
    exact b15 q v0 v1 v2 v3 v4 hok hF
  · have hF := hF.trans (if_pos g2)
    have hok := And.left hok g2
    refine z_iload_n (j := 1) hx hb dX11_forbidden_5 rfl rfl ?_
    refine z_bipush (v := 8) hx hb dX11_forbidden_6 (by decide) ?_
    refine z_iand hx hb dX11_forbidden_8 ?_
    refine z_if_eq (tgt := 15) hx hb dX11_forbidden_9 (by decide) (fun g9 => ?_) (fun g9 => ?_)
    · have hF := hF.trans (if_pos g9)
      have hok := And.left hok g9
      exact b15 q v0 v1 v2 v3 v4 hok hF
    · have hF := hF.trans (if_neg g9)
      have hok := And.right hok g9
      refine z_bipush (v := 100) hx hb dX11_forbidden_12 (by decide) ?_
      exact z_iret hx hb hlocks hr (by decide) hF dX11_forbidden_14
theorem hX11_forbidden : yX11_forbidden.cls ≠ "java/lang/invoke/MethodHandle" ∧ yX11_forbidden.cls ≠ "java/lang/invoke/VarHandle" ∧ (parseMethodDescriptor yX11_forbidden.desc).map (fun d => d.parameters.length) = some 5 := by decide +kernel
def fX11_adds_19 (q : SS) (v1 : Int32) (s0 : Int32) (s1 : Int32) : Int32 × SS := ((s1 + s0), (sA (sI q 1 (s1 + s0)) 10 (upd (gA q 10) (v1 : Int32).toNatClampNeg (vp_nar .boolean 1))))
def kX11_adds_19 (q : SS) (v1 : Int32) (s0 : Int32) (s1 : Int32) : Prop := vp_in v1 80 ∧ True
def fX11_adds (q : SS) (v1 : Int32) : Int32 × SS := (if ((gA q 10) (v1 : Int32).toNatClampNeg) = 0 then fX11_adds_19 q v1 1 (gI q 1) else fX11_adds_19 q v1 0 (gI q 1))
def kX11_adds (q : SS) (v1 : Int32) : Prop := vp_in v1 80 ∧ ((((gA q 10) (v1 : Int32).toNatClampNeg) = 0 → kX11_adds_19 q v1 1 (gI q 1)) ∧ (¬ ((gA q 10) (v1 : Int32).toNatClampNeg) = 0 → kX11_adds_19 q v1 0 (gI q 1)))
set_option maxHeartbeats 4000000 in
set_option maxRecDepth 100000 in
theorem ctX11_adds (l : Launch) (D : va_G) (kc : Nat → ClassId) (ad : Nat → Nat) (q : SS) (v1 : Int32) (hok : kX11_adds q v1) : Ci l yX11_adds (Cond.code yX11_adds cX11_adds 2 (some .int) :: lw_G) (zr 0 0 0) 0 0 (PM D kc) (GM D kc ad) (GM D kc ad) [.ref (ad 0), .int v1] q (fX11_adds q v1) := by
  refine Ci.of (cc := cX11_adds) (maxL := 2) (ret := (some .int)) (by decide) rfl (Nat.le_of_ble_eq_true rfl) ?_
  intro p e s m args below meth c A S hr hlocks hin hA hK
  have hx := S.1
  have hb := S.2.1
  have hK : va_K D vwCl (tysK kc) s := hK
  generalize hFe : fX11_adds q v1 = F
  have hF : F = fX11_adds q v1 := hFe.symm
  have b19 : ∀ (q : SS) (v1 : Int32) (s0 : Int32) (s1 : Int32), kX11_adds_19 q v1 s0 s1 → F = fX11_adds_19 q v1 s0 s1 → Z p l e (zr 0 0 0) s m args below meth c 0 0 (MQ below (va_Qi (fun (x : Int32) (_ : Unit) => x = F.1) (fun _ t => (GM D kc ad) A F.2 t.heap) A) args s 0 0 A) 2 A (ZG D vwCl (wM kc ad) (fun _ tl => tl = []) A) q 19 [(0, .ref (ad 0)), (1, .int v1)] [.int s0, .int s1, .ref (ad 0)] := by
    intro q v1 s0 s1 hok hF
    refine z_iadd hx hb dX11_adds_19 ?_
    refine z_put (v := .int (s1 + s0)) (q' := (sI q 1 (s1 + s0))) S hK inX11 tyX11 tyX11_ok nmX11 0 (fun _ => rfl) rfl 1 (by decide) q6_98 rfl rfl rfl rfl (Nat.le_of_ble_eq_true rfl) dX11_adds_20 (wMp1 kc ad _ _) (fun _ h => h) ?_
    refine z_aload_n (j := 0) hx hb dX11_adds_23 rfl rfl ?_
    refine z_get (v := .ref (ad 10)) S hK inX11 0 (fun _ => rfl) rfl 37 (by decide) q6_134 rfl rfl dX11_adds_24 ?_
    refine z_iload_n (j := 1) hx hb dX11_adds_27 rfl rfl ?_
    refine z_iconst (v := 1) hx hb dX11_adds_28 (by decide) ?_
    have h29 := And.left hok
    have hok := And.right hok
    refine z_zast (f := (gA q 10)) (q' := (sA (sI q 1 (s1 + s0)) 10 (upd (gA q 10) (v1 : Int32).toNatClampNeg (vp_nar .boolean 1)))) S hK 10 1 (fun _ => rfl) rfl h29 dX11_adds_29 (wMa10 kc ad _ _) (fun _ h => h) ?_
    refine z_aload_n (j := 0) hx hb dX11_adds_30 rfl rfl ?_
    refine z_get (v := .int (s1 + s0)) S hK inX11 0 (fun _ => rfl) rfl 1 (by decide) q6_98 rfl rfl dX11_adds_31 ?_
    exact z_iret hx hb hlocks hr rfl hF dX11_adds_34
  refine z_aload_n (j := 0) hx hb dX11_adds_0 rfl rfl ?_
  refine z_dup hx hb dX11_adds_1 rfl ?_
  refine z_get (v := .int (gI q 1)) S hK inX11 0 (fun _ => rfl) rfl 1 (by decide) q6_98 rfl rfl dX11_adds_2 ?_
  refine z_aload_n (j := 0) hx hb dX11_adds_5 rfl rfl ?_
  refine z_get (v := .ref (ad 10)) S hK inX11 0 (fun _ => rfl) rfl 37 (by decide) q6_134 rfl rfl dX11_adds_6 ?_
  refine z_iload_n (j := 1) hx hb dX11_adds_9 rfl rfl ?_
  have h10 := And.left hok
  have hok := And.right hok
  refine z_zald (f := (gA q 10)) S hK 10 1 (fun _ => rfl) rfl h10 dX11_adds_10 ?_
  refine z_if_eq (tgt := 18) hx hb dX11_adds_11 (by decide) (fun g11 => ?_) (fun g11 => ?_)
  · have hF := hF.trans (if_pos g11)
    have hok := And.left hok g11
    refine z_iconst (v := 1) hx hb dX11_adds_18 (by decide) ?_
    exact b19 q v1 1 (gI q 1) hok hF
  · have hF := hF.trans (if_neg g11)
    have hok := And.right hok g11
    refine z_iconst (v := 0) hx hb dX11_adds_14 (by decide) ?_
    refine z_goto (tgt := 19) hx hb dX11_adds_15 (by decide) ?_
    exact b19 q v1 0 (gI q 1) hok hF
theorem hX11_adds : yX11_adds.cls = RX11 ∧ yX11_adds.cls ≠ "java/lang/invoke/MethodHandle" ∧ yX11_adds.cls ≠ "java/lang/invoke/VarHandle" ∧ (parseMethodDescriptor yX11_adds.desc).map (fun d => d.parameters.length) = some 1 := by decide +kernel
def fX11_write_201 (q : SS) (v1 : Int32) (s0 : Int32) (s1 : Int32) : Int32 × SS := ((fX11_adds (sA (sA q 11 (upd (gA q 11) (s1 : Int32).toNatClampNeg (vp_nar .boolean s0))) 7 (upd (gA q 7) (v1 : Int32).toNatClampNeg 0)) v1).1, (fX11_adds (sA (sA q 11 (upd (gA q 11) (s1 : Int32).toNatClampNeg (vp_nar .boolean s0))) 7 (upd (gA q 7) (v1 : Int32).toNatClampNeg 0)) v1).2)
def kX11_write_201 (q : SS) (v1 : Int32) (s0 : Int32) (s1 : Int32) : Prop := vp_in s1 80 ∧ vp_in v1 80 ∧ kX11_adds (sA (sA q 11 (upd (gA q 11) (s1 : Int32).toNatClampNeg (vp_nar .boolean s0))) 7 (upd (gA q 7) (v1 : Int32).toNatClampNeg 0)) v1 ∧ True
def fX11_write_170 (q : SS) (v1 : Int32) (v7 : Int32) (v8 : Int32) (s0 : Int32) : Int32 × SS := (if (v8 - v8 / 2 * 2) = 1 then fX11_write_201 (sA (sA q 5 (upd (gA q 5) (s0 : Int32).toNatClampNeg v7)) 6 (upd (gA q 6) (v1 : Int32).toNatClampNeg (v8 / 2))) v1 1 v1 else fX11_write_201 (sA (sA q 5 (upd (gA q 5) (s0 : Int32).toNatClampNeg v7)) 6 (upd (gA q 6) (v1 : Int32).toNatClampNeg (v8 / 2))) v1 0 v1)
def kX11_write_170 (q : SS) (v1 : Int32) (v7 : Int32) (v8 : Int32) (s0 : Int32) : Prop := vp_in s0 80 ∧ vp_in v1 80 ∧ (((v8 - v8 / 2 * 2) = 1 → kX11_write_201 (sA (sA q 5 (upd (gA q 5) (s0 : Int32).toNatClampNeg v7)) 6 (upd (gA q 6) (v1 : Int32).toNatClampNeg (v8 / 2))) v1 1 v1) ∧ (¬ (v8 - v8 / 2 * 2) = 1 → kX11_write_201 (sA (sA q 5 (upd (gA q 5) (s0 : Int32).toNatClampNeg v7)) 6 (upd (gA q 6) (v1 : Int32).toNatClampNeg (v8 / 2))) v1 0 v1))
def fX11_write_116 (q : SS) (v1 : Int32) (v2 : Int32) (v3 : Int32) (v4 : Int32) (v5 : Int32) (v6 : Int32) (v7 : Int32) (v8 : Int32) (s0 : Int32) : Int32 × SS := (if s0 = 45 then fX11_write_170 (sA (sA (sA (sA (sA q 1 (upd (gA q 1) (v1 : Int32).toNatClampNeg v2)) 2 (upd (gA q 2) (v1 : Int32).toNatClampNeg v3)) 3 (upd (gA q 3) (v1 : Int32).toNatClampNeg v4)) 4 (upd (gA q 4) (v1 : Int32).toNatClampNeg v5)) 9 (upd (gA q 9) (v1 : Int32).toNatClampNeg (vp_nar .char v6))) v1 v7 v8 v1 else ((fX11_refuse q 3).1, (fX11_refuse q 3).2))
def kX11_write_116 (q : SS) (v1 : Int32) (v2 : Int32) (v3 : Int32) (v4 : Int32) (v5 : Int32) (v6 : Int32) (v7 : Int32) (v8 : Int32) (s0 : Int32) : Prop := ((s0 = 45 → vp_in v1 80 ∧ vp_in v1 80 ∧ vp_in v1 80 ∧ vp_in v1 80 ∧ vp_in v1 80 ∧ kX11_write_170 (sA (sA (sA (sA (sA q 1 (upd (gA q 1) (v1 : Int32).toNatClampNeg v2)) 2 (upd (gA q 2) (v1 : Int32).toNatClampNeg v3)) 3 (upd (gA q 3) (v1 : Int32).toNatClampNeg v4)) 4 (upd (gA q 4) (v1 : Int32).toNatClampNeg v5)) 9 (upd (gA q 9) (v1 : Int32).toNatClampNeg (vp_nar .char v6))) v1 v7 v8 v1) ∧ (¬ s0 = 45 → kX11_refuse q 3 ∧ True))
def fX11_write_89 (q : SS) (v1 : Int32) (v2 : Int32) (v3 : Int32) (v4 : Int32) (v5 : Int32) (v6 : Int32) (v7 : Int32) (v8 : Int32) (s0 : Int32) : Int32 × SS := (if s0 = 0 then ((fX11_refuse q 2).1, (fX11_refuse q 2).2) else fX11_write_116 (fX11_forbidden q v2 v4 v5 v6 (v8 / 2)).2 v1 v2 v3 v4 v5 v6 v7 v8 (fX11_forbidden q v2 v4 v5 v6 (v8 / 2)).1)
def kX11_write_89 (q : SS) (v1 : Int32) (v2 : Int32) (v3 : Int32) (v4 : Int32) (v5 : Int32) (v6 : Int32) (v7 : Int32) (v8 : Int32) (s0 : Int32) : Prop := ((s0 = 0 → kX11_refuse q 2 ∧ True) ∧ (¬ s0 = 0 → kX11_forbidden q v2 v4 v5 v6 (v8 / 2) ∧ kX11_write_116 (fX11_forbidden q v2 v4 v5 v6 (v8 / 2)).2 v1 v2 v3 v4 v5 v6 v7 v8 (fX11_forbidden q v2 v4 v5 v6 (v8 / 2)).1))
def fX11_write_88 (q : SS) (v1 : Int32) (v2 : Int32) (v3 : Int32) (v4 : Int32) (v5 : Int32) (v6 : Int32) (v7 : Int32) (v8 : Int32) : Int32 × SS := fX11_write_89 q v1 v2 v3 v4 v5 v6 v7 v8 0
def kX11_write_88 (q : SS) (v1 : Int32) (v2 : Int32) (v3 : Int32) (v4 : Int32) (v5 : Int32) (v6 : Int32) (v7 : Int32) (v8 : Int32) : Prop := kX11_write_89 q v1 v2 v3 v4 v5 v6 v7 v8 0
def fX11_write_81 (q : SS) (v1 : Int32) (v2 : Int32) (v3 : Int32) (v4 : Int32) (v5 : Int32) (v6 : Int32) (v7 : Int32) (v8 : Int32) (s0 : Int32) : Int32 × SS := (if s0 = 0 then fX11_write_88 q v1 v2 v3 v4 v5 v6 v7 v8 else fX11_write_89 q v1 v2 v3 v4 v5 v6 v7 v8 1)
def kX11_write_81 (q : SS) (v1 : Int32) (v2 : Int32) (v3 : Int32) (v4 : Int32) (v5 : Int32) (v6 : Int32) (v7 : Int32) (v8 : Int32) (s0 : Int32) : Prop := ((s0 = 0 → kX11_write_88 q v1 v2 v3 v4 v5 v6 v7 v8) ∧ (¬ s0 = 0 → kX11_write_89 q v1 v2 v3 v4 v5 v6 v7 v8 1))
def fX11_write_70 (q : SS) (v1 : Int32) (v2 : Int32) (v3 : Int32) (v4 : Int32) (v5 : Int32) (v6 : Int32) (v7 : Int32) (v8 : Int32) (s0 : Int32) : Int32 × SS := (if s0 = 0 then fX11_write_88 q v1 v2 v3 v4 v5 v6 v7 v8 else fX11_write_81 (fX11_isIn q v8 0 15).2 v1 v2 v3 v4 v5 v6 v7 v8 (fX11_isIn q v8 0 15).1)
def kX11_write_70 (q : SS) (v1 : Int32) (v2 : Int32) (v3 : Int32) (v4 : Int32) (v5 : Int32) (v6 : Int32) (v7 : Int32) (v8 : Int32) (s0 : Int32) : Prop := ((s0 = 0 → kX11_write_88 q v1 v2 v3 v4 v5 v6 v7 v8) ∧ (¬ s0 = 0 → kX11_isIn q v8 0 15 ∧ kX11_write_81 (fX11_isIn q v8 0 15).2 v1 v2 v3 v4 v5 v6 v7 v8 (fX11_isIn q v8 0 15).1))
def fX11_write_59 (q : SS) (v1 : Int32) (v2 : Int32) (v3 : Int32) (v4 : Int32) (v5 : Int32) (v6 : Int32) (v7 : Int32) (v8 : Int32) (s0 : Int32) : Int32 × SS := (if s0 = 0 then fX11_write_88 q v1 v2 v3 v4 v5 v6 v7 v8 else fX11_write_70 (fX11_isIn q v7 0 79).2 v1 v2 v3 v4 v5 v6 v7 v8 (fX11_isIn q v7 0 79).1)
def kX11_write_59 (q : SS) (v1 : Int32) (v2 : Int32) (v3 : Int32) (v4 : Int32) (v5 : Int32) (v6 : Int32) (v7 : Int32) (v8 : Int32) (s0 : Int32) : Prop := ((s0 = 0 → kX11_write_88 q v1 v2 v3 v4 v5 v6 v7 v8) ∧ (¬ s0 = 0 → kX11_isIn q v7 0 79 ∧ kX11_write_70 (fX11_isIn q v7 0 79).2 v1 v2 v3 v4 v5 v6 v7 v8 (fX11_isIn q v7 0 79).1))
def fX11_write_51 (q : SS) (v1 : Int32) (v2 : Int32) (v3 : Int32) (v4 : Int32) (v5 : Int32) (v6 : Int32) (v7 : Int32) (v8 : Int32) (s0 : Int32) : Int32 × SS := (if s0 = 0 then fX11_write_88 q v1 v2 v3 v4 v5 v6 v7 v8 else fX11_write_59 (fX11_isOrder q v6).2 v1 v2 v3 v4 v5 v6 v7 v8 (fX11_isOrder q v6).1)
def kX11_write_51 (q : SS) (v1 : Int32) (v2 : Int32) (v3 : Int32) (v4 : Int32) (v5 : Int32) (v6 : Int32) (v7 : Int32) (v8 : Int32) (s0 : Int32) : Prop := ((s0 = 0 → kX11_write_88 q v1 v2 v3 v4 v5 v6 v7 v8) ∧ (¬ s0 = 0 → kX11_isOrder q v6 ∧ kX11_write_59 (fX11_isOrder q v6).2 v1 v2 v3 v4 v5 v6 v7 v8 (fX11_isOrder q v6).1))
def fX11_write_41 (q : SS) (v1 : Int32) (v2 : Int32) (v3 : Int32) (v4 : Int32) (v5 : Int32) (v6 : Int32) (v7 : Int32) (v8 : Int32) (s0 : Int32) : Int32 × SS := (if s0 = 0 then fX11_write_88 q v1 v2 v3 v4 v5 v6 v7 v8 else fX11_write_51 (fX11_isIn q v5 0 2).2 v1 v2 v3 v4 v5 v6 v7 v8 (fX11_isIn q v5 0 2).1)
def kX11_write_41 (q : SS) (v1 : Int32) (v2 : Int32) (v3 : Int32) (v4 : Int32) (v5 : Int32) (v6 : Int32) (v7 : Int32) (v8 : Int32) (s0 : Int32) : Prop := ((s0 = 0 → kX11_write_88 q v1 v2 v3 v4 v5 v6 v7 v8) ∧ (¬ s0 = 0 → kX11_isIn q v5 0 2 ∧ kX11_write_51 (fX11_isIn q v5 0 2).2 v1 v2 v3 v4 v5 v6 v7 v8 (fX11_isIn q v5 0 2).1))
def fX11_write_29 (q : SS) (v1 : Int32) (v2 : Int32) (v3 : Int32) (v4 : Int32) (v5 : Int32) (v6 : Int32) (v7 : Int32) (v8 : Int32) (s0 : Int32) : Int32 × SS := (if s0 = 0 then fX11_write_88 q v1 v2 v3 v4 v5 v6 v7 v8 else fX11_write_41 (fX11_isIn q v4 0 255).2 v1 v2 v3 v4 v5 v6 v7 v8 (fX11_isIn q v4 0 255).1)
def kX11_write_29 (q : SS) (v1 : Int32) (v2 : Int32) (v3 : Int32) (v4 : Int32) (v5 : Int32) (v6 : Int32) (v7 : Int32) (v8 : Int32) (s0 : Int32) : Prop := ((s0 = 0 → kX11_write_88 q v1 v2 v3 v4 v5 v6 v7 v8) ∧ (¬ s0 = 0 → kX11_isIn q v4 0 255 ∧ kX11_write_41 (fX11_isIn q v4 0 255).2 v1 v2 v3 v4 v5 v6 v7 v8 (fX11_isIn q v4 0 255).1))
def fX11_write_19 (q : SS) (v1 : Int32) (v2 : Int32) (v3 : Int32) (v4 : Int32) (v5 : Int32) (v6 : Int32) (v7 : Int32) (v8 : Int32) (s0 : Int32) : Int32 × SS := (if s0 = 0 then fX11_write_88 q v1 v2 v3 v4 v5 v6 v7 v8 else fX11_write_29 (fX11_isIn q v3 0 7).2 v1 v2 v3 v4 v5 v6 v7 v8 (fX11_isIn q v3 0 7).1)
def kX11_write_19 (q : SS) (v1 : Int32) (v2 : Int32) (v3 : Int32) (v4 : Int32) (v5 : Int32) (v6 : Int32) (v7 : Int32) (v8 : Int32) (s0 : Int32) : Prop := ((s0 = 0 → kX11_write_88 q v1 v2 v3 v4 v5 v6 v7 v8) ∧ (¬ s0 = 0 → kX11_isIn q v3 0 7 ∧ kX11_write_29 (fX11_isIn q v3 0 7).2 v1 v2 v3 v4 v5 v6 v7 v8 (fX11_isIn q v3 0 7).1))
def fX11_write_7 (q : SS) (v1 : Int32) (v2 : Int32) (v3 : Int32) (v4 : Int32) (v5 : Int32) (v6 : Int32) (v7 : Int32) (v8 : Int32) (s0 : Int32) : Int32 × SS := (if s0 = 0 then fX11_write_19 (fX11_isIn q v2 0 127).2 v1 v2 v3 v4 v5 v6 v7 v8 (fX11_isIn q v2 0 127).1 else (0, q))
def kX11_write_7 (q : SS) (v1 : Int32) (v2 : Int32) (v3 : Int32) (v4 : Int32) (v5 : Int32) (v6 : Int32) (v7 : Int32) (v8 : Int32) (s0 : Int32) : Prop := ((s0 = 0 → kX11_isIn q v2 0 127 ∧ kX11_write_19 (fX11_isIn q v2 0 127).2 v1 v2 v3 v4 v5 v6 v7 v8 (fX11_isIn q v2 0 127).1) ∧ (¬ s0 = 0 → True))
def fX11_write (q : SS) (v1 : Int32) (v2 : Int32) (v3 : Int32) (v4 : Int32) (v5 : Int32) (v6 : Int32) (v7 : Int32) (v8 : Int32) : Int32 × SS := fX11_write_7 (fX11_out q v1 64).2 v1 v2 v3 v4 v5 v6 v7 v8 (fX11_out q v1 64).1
def kX11_write (q : SS) (v1 : Int32) (v2 : Int32) (v3 : Int32) (v4 : Int32) (v5 : Int32) (v6 : Int32) (v7 : Int32) (v8 : Int32) : Prop := kX11_out q v1 64 ∧ kX11_write_7 (fX11_out q v1 64).2 v1 v2 v3 v4 v5 v6 v7 v8 (fX11_out q v1 64).1
set_option maxHeartbeats 4000000 in
set_option maxRecDepth 100000 in
theorem ctX11_write (l : Launch) (D : va_G) (kc : Nat → ClassId) (ad : Nat → Nat) (q : SS) (v1 : Int32) (v2 : Int32) (v3 : Int32) (v4 : Int32) (v5 : Int32) (v6 : Int32) (v7 : Int32) (v8 : Int32) (hok : kX11_write q v1 v2 v3 v4 v5 v6 v7 v8) : Ci l yX11_write (Cond.code yX11_write cX11_write 10 (some .int) :: lw_G) (zr 2 0 0) 0 0 (PM D kc) (GM D kc ad) (GM D kc ad) [.ref (ad 0), .int v1, .int v2, .int v3, .int v4, .int v5, .int v6, .int v7, .int v8] q (fX11_write q v1 v2 v3 v4 v5 v6 v7 v8) := by
  refine Ci.of (cc := cX11_write) (maxL := 10) (ret := (some .int)) (by decide) rfl (Nat.le_of_ble_eq_true rfl) ?_
  intro p e s m args below meth c A S hr hlocks hin hA hK
  have hx := S.1
  have hb := S.2.1
  have hK : va_K D vwCl (tysK kc) s := hK
  generalize hFe : fX11_write q v1 v2 v3 v4 v5 v6 v7 v8 = F
  have hF : F = fX11_write q v1 v2 v3 v4 v5 v6 v7 v8 := hFe.symm
  have b201 : ∀ (q : SS) (v1 : Int32) (s0 : Int32) (s1 : Int32), kX11_write_201 q v1 s0 s1 → F = fX11_write_201 q v1 s0 s1 → Z p l e (zr 2 0 0) s m args below meth c 0 0 (MQ below (va_Qi (fun (x : Int32) (_ : Unit) => x = F.1) (fun _ t => (GM D kc ad) A F.2 t.heap) A) args s 0 0 A) 10 A (ZG D vwCl (wM kc ad) (fun _ tl => tl = []) A) q 201 [(0, .ref (ad 0)), (1, .int v1)] [.int s0, .int s1, .ref (ad 11)] := by
    intro q v1 s0 s1 hok hF
    have h201 := And.left hok
    have hok := And.right hok
    refine z_zast (f := (gA q 11)) (q' := (sA q 11 (upd (gA q 11) (s1 : Int32).toNatClampNeg (vp_nar .boolean s0)))) S hK 11 1 (fun _ => rfl) rfl h201 dX11_write_201 (wMa11 kc ad _ _) (fun _ h => h) ?_
    refine z_aload_n (j := 0) hx hb dX11_write_202 rfl rfl ?_
    refine z_get (v := .ref (ad 7)) S hK inX11 0 (fun _ => rfl) rfl 34 (by decide) q6_131 rfl rfl dX11_write_203 ?_
    refine z_iload_n (j := 1) hx hb dX11_write_206 rfl rfl ?_
    refine z_iconst (v := 0) hx hb dX11_write_207 (by decide) ?_
    have h208 := And.left hok
    have hok := And.right hok
    refine z_iast (f := (gA q 7)) (q' := (sA (sA q 11 (upd (gA q 11) (s1 : Int32).toNatClampNeg (vp_nar .boolean s0))) 7 (upd (gA q 7) (v1 : Int32).toNatClampNeg 0))) S hK 7 0 (fun _ => rfl) rfl h208 dX11_write_208 (wMa7 kc ad _ _) (fun _ h => h) ?_
    refine z_aload_n (j := 0) hx hb dX11_write_209 rfl rfl ?_
    refine z_iload_n (j := 1) hx hb dX11_write_210 rfl rfl ?_
    have h211 := And.left hok
    have hok := And.right hok
    refine z_callVi (As := [.int v1]) S (ctX11_adds l D kc ad (sA (sA q 11 (upd (gA q 11) (s1 : Int32).toNatClampNeg (vp_nar .boolean s0))) 7 (upd (gA q 7) (v1 : Int32).toNatClampNeg 0)) v1 h211) (cwV 1 S.2.2.2.2 (gV q7_37 q7_39 qp2_9 q1_12 q7_40) rfl rfl rfl hX11_adds ⟨Nat.le_of_ble_eq_true rfl, Nat.le_of_ble_eq_true rfl⟩) hA (pbM D kc) (psM hK) (z_recv hK 0 (fun _ => rfl) rfl) rfl rfl (Nat.le_of_ble_eq_true rfl) dX11_write_211 ⟨Nat.le_of_ble_eq_true rfl, Nat.le_of_ble_eq_true rfl⟩ ?_
    exact z_iret hx hb hlocks hr rfl hF dX11_write_214
  have b170 : ∀ (q : SS) (v1 : Int32) (v7 : Int32) (v8 : Int32) (s0 : Int32), kX11_write_170 q v1 v7 v8 s0 → F = fX11_write_170 q v1 v7 v8 s0 → Z p l e (zr 2 0 0) s m args below meth c 0 0 (MQ below (va_Qi (fun (x : Int32) (_ : Unit) => x = F.1) (fun _ t => (GM D kc ad) A F.2 t.heap) A) args s 0 0 A) 10 A (ZG D vwCl (wM kc ad) (fun _ tl => tl = []) A) q 170 [(0, .ref (ad 0)), (1, .int v1), (7, .int v7), (8, .int v8)] [.int s0, .ref (ad 5)] := by
    intro q v1 v7 v8 s0 hok hF
    refine z_iload (j := 2) hx hb dX11_write_170 rfl ?_
    have h172 := And.left hok
    have hok := And.right hok
    refine z_iast (f := (gA q 5)) (q' := (sA q 5 (upd (gA q 5) (s0 : Int32).toNatClampNeg v7))) S hK 5 0 (fun _ => rfl) rfl h172 dX11_write_172 (wMa5 kc ad _ _) (fun _ h => h) ?_
    refine z_aload_n (j := 0) hx hb dX11_write_173 rfl rfl ?_
    refine z_get (v := .ref (ad 6)) S hK inX11 0 (fun _ => rfl) rfl 33 (by decide) q6_130 rfl rfl dX11_write_174 ?_
    refine z_iload_n (j := 1) hx hb dX11_write_177 rfl rfl ?_
    refine z_iload (j := 3) hx hb dX11_write_178 rfl ?_
    refine z_iconst (v := 2) hx hb dX11_write_180 (by decide) ?_
    refine z_idiv hx hb dX11_write_181 (by decide) ?_
    have h182 := And.left hok
    have hok := And.right hok
    refine z_iast (f := (gA q 6)) (q' := (sA (sA q 5 (upd (gA q 5) (s0 : Int32).toNatClampNeg v7)) 6 (upd (gA q 6) (v1 : Int32).toNatClampNeg (v8 / 2)))) S hK 6 0 (fun _ => rfl) rfl h182 dX11_write_182 (wMa6 kc ad _ _) (fun _ h => h) ?_
    refine z_aload_n (j := 0) hx hb dX11_write_183 rfl rfl ?_
    refine z_get (v := .ref (ad 11)) S hK inX11 0 (fun _ => rfl) rfl 38 (by decide) q6_135 rfl rfl dX11_write_184 ?_
    refine z_iload_n (j := 1) hx hb dX11_write_187 rfl rfl ?_
    refine z_iload (j := 3) hx hb dX11_write_188 rfl ?_
    refine z_iconst (v := 2) hx hb dX11_write_190 (by decide) ?_
    refine z_irem hx hb dX11_write_191 (by decide) ?_
    refine z_iconst (v := 1) hx hb dX11_write_192 (by decide) ?_
    refine z_icmp_ne (tgt := 200) hx hb dX11_write_193 (by decide) (fun g193 => ?_) (fun g193 => ?_)
    · have hF := hF.trans (if_neg g193)
      have hok := And.right hok g193
      refine z_iconst (v := 0) hx hb dX11_write_200 (by decide) ?_
      refine z_sub [0, 1] rfl ?_
      exact b201 (sA (sA q 5 (upd (gA q 5) (s0 : Int32).toNatClampNeg v7)) 6 (upd (gA q 6) (v1 : Int32).toNatClampNeg (v8 / 2))) v1 0 v1 hok hF
    · have hF := hF.trans (if_pos g193)
      have hok := And.left hok g193
      refine z_iconst (v := 1) hx hb dX11_write_196 (by decide) ?_
      refine z_goto (tgt := 201) hx hb dX11_write_197 (by decide) ?_
      refine z_sub [0, 1] rfl ?_
      exact b201 (sA (sA q 5 (upd (gA q 5) (s0 : Int32).toNatClampNeg v7)) 6 (upd (gA q 6) (v1 : Int32).toNatClampNeg (v8 / 2))) v1 1 v1 hok hF
  have b116 : ∀ (q : SS) (v1 : Int32) (v2 : Int32) (v3 : Int32) (v4 : Int32) (v5 : Int32) (v6 : Int32) (v7 : Int32) (v8 : Int32) (s0 : Int32), kX11_write_116 q v1 v2 v3 v4 v5 v6 v7 v8 s0 → F = fX11_write_116 q v1 v2 v3 v4 v5 v6 v7 v8 s0 → Z p l e (zr 2 0 0) s m args below meth c 0 0 (MQ below (va_Qi (fun (x : Int32) (_ : Unit) => x = F.1) (fun _ t => (GM D kc ad) A F.2 t.heap) A) args s 0 0 A) 10 A (ZG D vwCl (wM kc ad) (fun _ tl => tl = []) A) q 116 [(0, .ref (ad 0)), (1, .int v1), (2, .int v2), (3, .int v3), (4, .int v4), (5, .int v5), (6, .int v6), (7, .int v7), (8, .int v8)] [.int s0] := by
    intro q v1 v2 v3 v4 v5 v6 v7 v8 s0 hok hF
    refine z_bipush (v := 45) hx hb dX11_write_116 (by decide) ?_
    refine z_icmp_eq (tgt := 127) hx hb dX11_write_118 (by decide) (fun g118 => ?_) (fun g118 => ?_)
    · have hF := hF.trans (if_pos g118)
      have hok := And.left hok g118
      refine z_aload_n (j := 0) hx hb dX11_write_127 rfl rfl ?_
      refine z_get (v := .ref (ad 1)) S hK inX11 0 (fun _ => rfl) rfl 28 (by decide) q6_125 rfl rfl dX11_write_128 ?_
      refine z_iload_n (j := 1) hx hb dX11_write_131 rfl rfl ?_
      refine z_iload_n (j := 2) hx hb dX11_write_132 rfl rfl ?_
      have h133 := And.left hok
      have hok := And.right hok
      refine z_iast (f := (gA q 1)) (q' := (sA q 1 (upd (gA q 1) (v1 : Int32).toNatClampNeg v2))) S hK 1 0 (fun _ => rfl) rfl h133 dX11_write_133 (wMa1 kc ad _ _) (fun _ h => h) ?_
      refine z_aload_n (j := 0) hx hb dX11_write_134 rfl rfl ?_
      refine z_get (v := .ref (ad 2)) S hK inX11 0 (fun _ => rfl) rfl 29 (by decide) q6_126 rfl rfl dX11_write_135 ?_
      refine z_iload_n (j := 1) hx hb dX11_write_138 rfl rfl ?_
      refine z_iload_n (j := 3) hx hb dX11_write_139 rfl rfl ?_
      have h140 := And.left hok
      have hok := And.right hok
      refine z_iast (f := (gA q 2)) (q' := (sA (sA q 1 (upd (gA q 1) (v1 : Int32).toNatClampNeg v2)) 2 (upd (gA q 2) (v1 : Int32).toNatClampNeg v3))) S hK 2 0 (fun _ => rfl) rfl h140 dX11_write_140 (wMa2 kc ad _ _) (fun _ h => h) ?_
      refine z_aload_n (j := 0) hx hb dX11_write_141 rfl rfl ?_
      refine z_get (v := .ref (ad 3)) S hK inX11 0 (fun _ => rfl) rfl 30 (by decide) q6_127 rfl rfl dX11_write_142 ?_
      refine z_iload_n (j := 1) hx hb dX11_write_145 rfl rfl ?_
      refine z_iload (j := 4) hx hb dX11_write_146 rfl ?_
      have h148 := And.left hok
      have hok := And.right hok
      refine z_iast (f := (gA q 3)) (q' := (sA (sA (sA q 1 (upd (gA q 1) (v1 : Int32).toNatClampNeg v2)) 2 (upd (gA q 2) (v1 : Int32).toNatClampNeg v3)) 3 (upd (gA q 3) (v1 : Int32).toNatClampNeg v4))) S hK 3 0 (fun _ => rfl) rfl h148 dX11_write_148 (wMa3 kc ad _ _) (fun _ h => h) ?_
      refine z_aload_n (j := 0) hx hb dX11_write_149 rfl rfl ?_
      refine z_get (v := .ref (ad 4)) S hK inX11 0 (fun _ => rfl) rfl 31 (by decide) q6_128 rfl rfl dX11_write_150 ?_
      refine z_iload_n (j := 1) hx hb dX11_write_153 rfl rfl ?_
      refine z_iload (j := 5) hx hb dX11_write_154 rfl ?_
      have h156 := And.left hok
      have hok := And.right hok
      refine z_iast (f := (gA q 4)) (q' := (sA (sA (sA (sA q 1 (upd (gA q 1) (v1 : Int32).toNatClampNeg v2)) 2 (upd (gA q 2) (v1 : Int32).toNatClampNeg v3)) 3 (upd (gA q 3) (v1 : Int32).toNatClampNeg v4)) 4 (upd (gA q 4) (v1 : Int32).toNatClampNeg v5))) S hK 4 0 (fun _ => rfl) rfl h156 dX11_write_156 (wMa4 kc ad _ _) (fun _ h => h) ?_
      refine z_aload_n (j := 0) hx hb dX11_write_157 rfl rfl ?_
      refine z_get (v := .ref (ad 9)) S hK inX11 0 (fun _ => rfl) rfl 36 (by decide) q6_133 rfl rfl dX11_write_158 ?_
      refine z_iload_n (j := 1) hx hb dX11_write_161 rfl rfl ?_
      refine z_iload (j := 6) hx hb dX11_write_162 rfl ?_
      have h164 := And.left hok
      have hok := And.right hok
      refine z_cast (f := (gA q 9)) (q' := (sA (sA (sA (sA (sA q 1 (upd (gA q 1) (v1 : Int32).toNatClampNeg v2)) 2 (upd (gA q 2) (v1 : Int32).toNatClampNeg v3)) 3 (upd (gA q 3) (v1 : Int32).toNatClampNeg v4)) 4 (upd (gA q 4) (v1 : Int32).toNatClampNeg v5)) 9 (upd (gA q 9) (v1 : Int32).toNatClampNeg (vp_nar .char v6)))) S hK 9 3 (fun _ => rfl) rfl h164 dX11_write_164 (wMa9 kc ad _ _) (fun _ h => h) ?_
      refine z_aload_n (j := 0) hx hb dX11_write_165 rfl rfl ?_
      refine z_get (v := .ref (ad 5)) S hK inX11 0 (fun _ => rfl) rfl 32 (by decide) q6_129 rfl rfl dX11_write_166 ?_
      refine z_iload_n (j := 1) hx hb dX11_write_169 rfl rfl ?_
      refine z_sub [0, 1, 7, 8] rfl ?_
      exact b170 (sA (sA (sA (sA (sA q 1 (upd (gA q 1) (v1 : Int32).toNatClampNeg v2)) 2 (upd (gA q 2) (v1 : Int32).toNatClampNeg v3)) 3 (upd (gA q 3) (v1 : Int32).toNatClampNeg v4)) 4 (upd (gA q 4) (v1 : Int32).toNatClampNeg v5)) 9 (upd (gA q 9) (v1 : Int32).toNatClampNeg (vp_nar .char v6))) v1 v7 v8 v1 hok hF
    · have hF := hF.trans (if_neg g118)
      have hok := And.right hok g118
      refine z_aload_n (j := 0) hx hb dX11_write_121 rfl rfl ?_
      refine z_iconst (v := 3) hx hb dX11_write_122 (by decide) ?_
      have h123 := And.left hok
      have hok := And.right hok
      refine z_callVi (As := [.int 3]) S (ctX11_refuse l D kc ad q 3 h123) (cwV 1 S.2.2.2.2 (gV q7_30 q7_32 qp2_8 q1_12 q7_33) rfl rfl rfl hX11_refuse ⟨Nat.le_of_ble_eq_true rfl, Nat.le_of_ble_eq_true rfl⟩) hA (pbM D kc) (psM hK) (z_recv hK 0 (fun _ => rfl) rfl) rfl rfl (Nat.le_of_ble_eq_true rfl) dX11_write_123 ⟨Nat.le_of_ble_eq_true rfl, Nat.le_of_ble_eq_true rfl⟩ ?_
      exact z_iret hx hb hlocks hr rfl hF dX11_write_126
  have b89 : ∀ (q : SS) (v1 : Int32) (v2 : Int32) (v3 : Int32) (v4 : Int32) (v5 : Int32) (v6 : Int32) (v7 : Int32) (v8 : Int32) (s0 : Int32), kX11_write_89 q v1 v2 v3 v4 v5 v6 v7 v8 s0 → F = fX11_write_89 q v1 v2 v3 v4 v5 v6 v7 v8 s0 → Z p l e (zr 2 0 0) s m args below meth c 0 0 (MQ below (va_Qi (fun (x : Int32) (_ : Unit) => x = F.1) (fun _ t => (GM D kc ad) A F.2 t.heap) A) args s 0 0 A) 10 A (ZG D vwCl (wM kc ad) (fun _ tl => tl = []) A) q 89 [(0, .ref (ad 0)), (1, .int v1), (2, .int v2), (3, .int v3), (4, .int v4), (5, .int v5), (6, .int v6), (7, .int v7), (8, .int v8)] [.int s0] := by
    intro q v1 v2 v3 v4 v5 v6 v7 v8 s0 hok hF
    refine z_istore (lv' := [(9, .int s0), (0, .ref (ad 0)), (1, .int v1), (2, .int v2), (3, .int v3), (4, .int v4), (5, .int v5), (6, .int v6), (7, .int v7), (8, .int v8)]) hx hb dX11_write_89 (by decide) rfl ?_
    refine z_iload (j := 0) hx hb dX11_write_91 rfl ?_
    refine z_if_ne (tgt := 102) hx hb dX11_write_93 (by decide) (fun g93 => ?_) (fun g93 => ?_)
    · have hF := hF.trans (if_neg g93)
      have hok := And.right hok g93
      refine z_iload_n (j := 3) hx hb dX11_write_102 rfl rfl ?_
      refine z_iload (j := 5) hx hb dX11_write_103 rfl ?_
      refine z_iload (j := 6) hx hb dX11_write_105 rfl ?_
      refine z_iload (j := 7) hx hb dX11_write_107 rfl ?_
      refine z_iload (j := 9) hx hb dX11_write_109 rfl ?_
      refine z_iconst (v := 2) hx hb dX11_write_111 (by decide) ?_
      refine z_idiv hx hb dX11_write_112 (by decide) ?_
      have h113 := And.left hok
      have hok := And.right hok
      refine z_callSi (As := [.int v2, .int v4, .int v5, .int v6, .int (v8 / 2)]) S (ctX11_forbidden l D kc ad q v2 v4 v5 v6 (v8 / 2) h113) (va_cwS 5 S.2.2.2.2 (gS q7_34 q7_35 q1_12 q7_36) rfl rfl rfl hX11_forbidden ⟨Nat.le_of_ble_eq_true rfl, Nat.le_of_ble_eq_true rfl⟩) hA (pbM D kc) (psM hK) rfl rfl (Nat.le_of_ble_eq_true rfl) dX11_write_113 ⟨Nat.le_of_ble_eq_true rfl, Nat.le_of_ble_eq_true rfl⟩ ?_
      refine z_sub [1, 2, 3, 4, 5, 6, 7, 8, 9] rfl ?_
      exact b116 (fX11_forbidden q v2 v4 v5 v6 (v8 / 2)).2 v1 v2 v3 v4 v5 v6 v7 v8 (fX11_forbidden q v2 v4 v5 v6 (v8 / 2)).1 hok hF
    · have hF := hF.trans (if_pos g93)
      have hok := And.left hok g93
      refine z_aload_n (j := 1) hx hb dX11_write_96 rfl rfl ?_
      refine z_iconst (v := 2) hx hb dX11_write_97 (by decide) ?_
      have h98 := And.left hok
      have hok := And.right hok
      refine z_callVi (As := [.int 2]) S (ctX11_refuse l D kc ad q 2 h98) (cwV 1 S.2.2.2.2 (gV q7_30 q7_32 qp2_8 q1_12 q7_33) rfl rfl rfl hX11_refuse ⟨Nat.le_of_ble_eq_true rfl, Nat.le_of_ble_eq_true rfl⟩) hA (pbM D kc) (psM hK) (z_recv hK 0 (fun _ => rfl) rfl) rfl rfl (Nat.le_of_ble_eq_true rfl) dX11_write_98 ⟨Nat.le_of_ble_eq_true rfl, Nat.le_of_ble_eq_true rfl⟩ ?_
      exact z_iret hx hb hlocks hr rfl hF dX11_write_101
  have b88 : ∀ (q : SS) (v1 : Int32) (v2 : Int32) (v3 : Int32) (v4 : Int32) (v5 : Int32) (v6 : Int32) (v7 : Int32) (v8 : Int32), kX11_write_88 q v1 v2 v3 v4 v5 v6 v7 v8 → F = fX11_write_88 q v1 v2 v3 v4 v5 v6 v7 v8 → Z p l e (zr 2 0 0) s m args below meth c 0 0 (MQ below (va_Qi (fun (x : Int32) (_ : Unit) => x = F.1) (fun _ t => (GM D kc ad) A F.2 t.heap) A) args s 0 0 A) 10 A (ZG D vwCl (wM kc ad) (fun _ tl => tl = []) A) q 88 [(0, .ref (ad 0)), (1, .int v1), (2, .int v2), (3, .int v3), (4, .int v4), (5, .int v5), (6, .int v6), (7, .int v7), (8, .int v8)] [] := by
    intro q v1 v2 v3 v4 v5 v6 v7 v8 hok hF
    refine z_iconst (v := 0) hx hb dX11_write_88 (by decide) ?_
    exact b89 q v1 v2 v3 v4 v5 v6 v7 v8 0 hok hF
  have b81 : ∀ (q : SS) (v1 : Int32) (v2 : Int32) (v3 : Int32) (v4 : Int32) (v5 : Int32) (v6 : Int32) (v7 : Int32) (v8 : Int32) (s0 : Int32), kX11_write_81 q v1 v2 v3 v4 v5 v6 v7 v8 s0 → F = fX11_write_81 q v1 v2 v3 v4 v5 v6 v7 v8 s0 → Z p l e (zr 2 0 0) s m args below meth c 0 0 (MQ below (va_Qi (fun (x : Int32) (_ : Unit) => x = F.1) (fun _ t => (GM D kc ad) A F.2 t.heap) A) args s 0 0 A) 10 A (ZG D vwCl (wM kc ad) (fun _ tl => tl = []) A) q 81 [(0, .ref (ad 0)), (1, .int v1), (2, .int v2), (3, .int v3), (4, .int v4), (5, .int v5), (6, .int v6), (7, .int v7), (8, .int v8)] [.int s0] := by
    intro q v1 v2 v3 v4 v5 v6 v7 v8 s0 hok hF
    refine z_if_eq (tgt := 88) hx hb dX11_write_81 (by decide) (fun g81 => ?_) (fun g81 => ?_)
    · have hF := hF.trans (if_pos g81)
      have hok := And.left hok g81
      exact b88 q v1 v2 v3 v4 v5 v6 v7 v8 hok hF
    · have hF := hF.trans (if_neg g81)
      have hok := And.right hok g81
      refine z_iconst (v := 1) hx hb dX11_write_84 (by decide) ?_
      refine z_goto (tgt := 89) hx hb dX11_write_85 (by decide) ?_
      exact b89 q v1 v2 v3 v4 v5 v6 v7 v8 1 hok hF
  have b70 : ∀ (q : SS) (v1 : Int32) (v2 : Int32) (v3 : Int32) (v4 : Int32) (v5 : Int32) (v6 : Int32) (v7 : Int32) (v8 : Int32) (s0 : Int32), kX11_write_70 q v1 v2 v3 v4 v5 v6 v7 v8 s0 → F = fX11_write_70 q v1 v2 v3 v4 v5 v6 v7 v8 s0 → Z p l e (zr 2 0 0) s m args below meth c 0 0 (MQ below (va_Qi (fun (x : Int32) (_ : Unit) => x = F.1) (fun _ t => (GM D kc ad) A F.2 t.heap) A) args s 0 0 A) 10 A (ZG D vwCl (wM kc ad) (fun _ tl => tl = []) A) q 70 [(0, .ref (ad 0)), (1, .int v1), (2, .int v2), (3, .int v3), (4, .int v4), (5, .int v5), (6, .int v6), (7, .int v7), (8, .int v8)] [.int s0] := by
    intro q v1 v2 v3 v4 v5 v6 v7 v8 s0 hok hF
    refine z_if_eq (tgt := 88) hx hb dX11_write_70 (by decide) (fun g70 => ?_) (fun g70 => ?_)
    · have hF := hF.trans (if_pos g70)
      have hok := And.left hok g70
      exact b88 q v1 v2 v3 v4 v5 v6 v7 v8 hok hF
    · have hF := hF.trans (if_neg g70)
      have hok := And.right hok g70
      refine z_iload (j := 8) hx hb dX11_write_73 rfl ?_
      refine z_iconst (v := 0) hx hb dX11_write_75 (by decide) ?_
      refine z_bipush (v := 15) hx hb dX11_write_76 (by decide) ?_
      have h78 := And.left hok
      have hok := And.right hok
      refine z_callSi (As := [.int v8, .int 0, .int 15]) S (ctX11_isIn l D kc ad q v8 0 15 h78) (va_cwS 3 S.2.2.2.2 (gS q7_21 q7_22 q1_12 q7_23) rfl rfl rfl hX11_isIn ⟨Nat.le_of_ble_eq_true rfl, Nat.le_of_ble_eq_true rfl⟩) hA (pbM D kc) (psM hK) rfl rfl (Nat.le_of_ble_eq_true rfl) dX11_write_78 ⟨Nat.le_of_ble_eq_true rfl, Nat.le_of_ble_eq_true rfl⟩ ?_
      exact b81 (fX11_isIn q v8 0 15).2 v1 v2 v3 v4 v5 v6 v7 v8 (fX11_isIn q v8 0 15).1 hok hF
  have b59 : ∀ (q : SS) (v1 : Int32) (v2 : Int32) (v3 : Int32) (v4 : Int32) (v5 : Int32) (v6 : Int32) (v7 : Int32) (v8 : Int32) (s0 : Int32), kX11_write_59 q v1 v2 v3 v4 v5 v6 v7 v8 s0 → F = fX11_write_59 q v1 v2 v3 v4 v5 v6 v7 v8 s0 → Z p l e (zr 2 0 0) s m args below meth c 0 0 (MQ below (va_Qi (fun (x : Int32) (_ : Unit) => x = F.1) (fun _ t => (GM D kc ad) A F.2 t.heap) A) args s 0 0 A) 10 A (ZG D vwCl (wM kc ad) (fun _ tl => tl = []) A) q 59 [(0, .ref (ad 0)), (1, .int v1), (2, .int v2), (3, .int v3), (4, .int v4), (5, .int v5), (6, .int v6), (7, .int v7), (8, .int v8)] [.int s0] := by
    intro q v1 v2 v3 v4 v5 v6 v7 v8 s0 hok hF
    refine z_if_eq (tgt := 88) hx hb dX11_write_59 (by decide) (fun g59 => ?_) (fun g59 => ?_)
    · have hF := hF.trans (if_pos g59)
      have hok := And.left hok g59
      exact b88 q v1 v2 v3 v4 v5 v6 v7 v8 hok hF
    · have hF := hF.trans (if_neg g59)
      have hok := And.right hok g59
      refine z_iload (j := 7) hx hb dX11_write_62 rfl ?_
      refine z_iconst (v := 0) hx hb dX11_write_64 (by decide) ?_
      refine z_bipush (v := 79) hx hb dX11_write_65 (by decide) ?_
      have h67 := And.left hok
      have hok := And.right hok
      refine z_callSi (As := [.int v7, .int 0, .int 79]) S (ctX11_isIn l D kc ad q v7 0 79 h67) (va_cwS 3 S.2.2.2.2 (gS q7_21 q7_22 q1_12 q7_23) rfl rfl rfl hX11_isIn ⟨Nat.le_of_ble_eq_true rfl, Nat.le_of_ble_eq_true rfl⟩) hA (pbM D kc) (psM hK) rfl rfl (Nat.le_of_ble_eq_true rfl) dX11_write_67 ⟨Nat.le_of_ble_eq_true rfl, Nat.le_of_ble_eq_true rfl⟩ ?_
      exact b70 (fX11_isIn q v7 0 79).2 v1 v2 v3 v4 v5 v6 v7 v8 (fX11_isIn q v7 0 79).1 hok hF
  have b51 : ∀ (q : SS) (v1 : Int32) (v2 : Int32) (v3 : Int32) (v4 : Int32) (v5 : Int32) (v6 : Int32) (v7 : Int32) (v8 : Int32) (s0 : Int32), kX11_write_51 q v1 v2 v3 v4 v5 v6 v7 v8 s0 → F = fX11_write_51 q v1 v2 v3 v4 v5 v6 v7 v8 s0 → Z p l e (zr 2 0 0) s m args below meth c 0 0 (MQ below (va_Qi (fun (x : Int32) (_ : Unit) => x = F.1) (fun _ t => (GM D kc ad) A F.2 t.heap) A) args s 0 0 A) 10 A (ZG D vwCl (wM kc ad) (fun _ tl => tl = []) A) q 51 [(0, .ref (ad 0)), (1, .int v1), (2, .int v2), (3, .int v3), (4, .int v4), (5, .int v5), (6, .int v6), (7, .int v7), (8, .int v8)] [.int s0] := by
    intro q v1 v2 v3 v4 v5 v6 v7 v8 s0 hok hF
    refine z_if_eq (tgt := 88) hx hb dX11_write_51 (by decide) (fun g51 => ?_) (fun g51 => ?_)
    · have hF := hF.trans (if_pos g51)
      have hok := And.left hok g51
      exact b88 q v1 v2 v3 v4 v5 v6 v7 v8 hok hF
    · have hF := hF.trans (if_neg g51)
      have hok := And.right hok g51
      refine z_iload (j := 6) hx hb dX11_write_54 rfl ?_
      have h56 := And.left hok
      have hok := And.right hok
      refine z_callSi (As := [.int v6]) S (ctX11_isOrder l D kc ad q v6 h56) (va_cwS 1 S.2.2.2.2 (gS q7_24 q7_25 q1_12 q7_26) rfl rfl rfl hX11_isOrder ⟨Nat.le_of_ble_eq_true rfl, Nat.le_of_ble_eq_true rfl⟩) hA (pbM D kc) (psM hK) rfl rfl (Nat.le_of_ble_eq_true rfl) dX11_write_56 ⟨Nat.le_of_ble_eq_true rfl, Nat.le_of_ble_eq_true rfl⟩ ?_
      exact b59 (fX11_isOrder q v6).2 v1 v2 v3 v4 v5 v6 v7 v8 (fX11_isOrder q v6).1 hok hF
  have b41 : ∀ (q : SS) (v1 : Int32) (v2 : Int32) (v3 : Int32) (v4 : Int32) (v5 : Int32) (v6 : Int32) (v7 : Int32) (v8 : Int32) (s0 : Int32), kX11_write_41 q v1 v2 v3 v4 v5 v6 v7 v8 s0 → F = fX11_write_41 q v1 v2 v3 v4 v5 v6 v7 v8 s0 → Z p l e (zr 2 0 0) s m args below meth c 0 0 (MQ below (va_Qi (fun (x : Int32) (_ : Unit) => x = F.1) (fun _ t => (GM D kc ad) A F.2 t.heap) A) args s 0 0 A) 10 A (ZG D vwCl (wM kc ad) (fun _ tl => tl = []) A) q 41 [(0, .ref (ad 0)), (1, .int v1), (2, .int v2), (3, .int v3), (4, .int v4), (5, .int v5), (6, .int v6), (7, .int v7), (8, .int v8)] [.int s0] := by
    intro q v1 v2 v3 v4 v5 v6 v7 v8 s0 hok hF
    refine z_if_eq (tgt := 88) hx hb dX11_write_41 (by decide) (fun g41 => ?_) (fun g41 => ?_)
    · have hF := hF.trans (if_pos g41)
      have hok := And.left hok g41
      exact b88 q v1 v2 v3 v4 v5 v6 v7 v8 hok hF
    · have hF := hF.trans (if_neg g41)
      have hok := And.right hok g41
      refine z_iload (j := 5) hx hb dX11_write_44 rfl ?_
      refine z_iconst (v := 0) hx hb dX11_write_46 (by decide) ?_
      refine z_iconst (v := 2) hx hb dX11_write_47 (by decide) ?_
      have h48 := And.left hok
      have hok := And.right hok
      refine z_callSi (As := [.int v5, .int 0, .int 2]) S (ctX11_isIn l D kc ad q v5 0 2 h48) (va_cwS 3 S.2.2.2.2 (gS q7_21 q7_22 q1_12 q7_23) rfl rfl rfl hX11_isIn ⟨Nat.le_of_ble_eq_true rfl, Nat.le_of_ble_eq_true rfl⟩) hA (pbM D kc) (psM hK) rfl rfl (Nat.le_of_ble_eq_true rfl) dX11_write_48 ⟨Nat.le_of_ble_eq_true rfl, Nat.le_of_ble_eq_true rfl⟩ ?_
      exact b51 (fX11_isIn q v5 0 2).2 v1 v2 v3 v4 v5 v6 v7 v8 (fX11_isIn q v5 0 2).1 hok hF
  have b29 : ∀ (q : SS) (v1 : Int32) (v2 : Int32) (v3 : Int32) (v4 : Int32) (v5 : Int32) (v6 : Int32) (v7 : Int32) (v8 : Int32) (s0 : Int32), kX11_write_29 q v1 v2 v3 v4 v5 v6 v7 v8 s0 → F = fX11_write_29 q v1 v2 v3 v4 v5 v6 v7 v8 s0 → Z p l e (zr 2 0 0) s m args below meth c 0 0 (MQ below (va_Qi (fun (x : Int32) (_ : Unit) => x = F.1) (fun _ t => (GM D kc ad) A F.2 t.heap) A) args s 0 0 A) 10 A (ZG D vwCl (wM kc ad) (fun _ tl => tl = []) A) q 29 [(0, .ref (ad 0)), (1, .int v1), (2, .int v2), (3, .int v3), (4, .int v4), (5, .int v5), (6, .int v6), (7, .int v7), (8, .int v8)] [.int s0] := by
    intro q v1 v2 v3 v4 v5 v6 v7 v8 s0 hok hF
    refine z_if_eq (tgt := 88) hx hb dX11_write_29 (by decide) (fun g29 => ?_) (fun g29 => ?_)
    · have hF := hF.trans (if_pos g29)
      have hok := And.left hok g29
      exact b88 q v1 v2 v3 v4 v5 v6 v7 v8 hok hF
    · have hF := hF.trans (if_neg g29)
      have hok := And.right hok g29
      refine z_iload (j := 4) hx hb dX11_write_32 rfl ?_
      refine z_iconst (v := 0) hx hb dX11_write_34 (by decide) ?_
      refine z_sipush (v := 255) hx hb dX11_write_35 (by decide) ?_
      have h38 := And.left hok
      have hok := And.right hok
      refine z_callSi (As := [.int v4, .int 0, .int 255]) S (ctX11_isIn l D kc ad q v4 0 255 h38) (va_cwS 3 S.2.2.2.2 (gS q7_21 q7_22 q1_12 q7_23) rfl rfl rfl hX11_isIn ⟨Nat.le_of_ble_eq_true rfl, Nat.le_of_ble_eq_true rfl⟩) hA (pbM D kc) (psM hK) rfl rfl (Nat.le_of_ble_eq_true rfl) dX11_write_38 ⟨Nat.le_of_ble_eq_true rfl, Nat.le_of_ble_eq_true rfl⟩ ?_
      exact b41 (fX11_isIn q v4 0 255).2 v1 v2 v3 v4 v5 v6 v7 v8 (fX11_isIn q v4 0 255).1 hok hF
  have b19 : ∀ (q : SS) (v1 : Int32) (v2 : Int32) (v3 : Int32) (v4 : Int32) (v5 : Int32) (v6 : Int32) (v7 : Int32) (v8 : Int32) (s0 : Int32), kX11_write_19 q v1 v2 v3 v4 v5 v6 v7 v8 s0 → F = fX11_write_19 q v1 v2 v3 v4 v5 v6 v7 v8 s0 → Z p l e (zr 2 0 0) s m args below meth c 0 0 (MQ below (va_Qi (fun (x : Int32) (_ : Unit) => x = F.1) (fun _ t => (GM D kc ad) A F.2 t.heap) A) args s 0 0 A) 10 A (ZG D vwCl (wM kc ad) (fun _ tl => tl = []) A) q 19 [(0, .ref (ad 0)), (1, .int v1), (2, .int v2), (3, .int v3), (4, .int v4), (5, .int v5), (6, .int v6), (7, .int v7), (8, .int v8)] [.int s0] := by
    intro q v1 v2 v3 v4 v5 v6 v7 v8 s0 hok hF
    refine z_if_eq (tgt := 88) hx hb dX11_write_19 (by decide) (fun g19 => ?_) (fun g19 => ?_)
    · have hF := hF.trans (if_pos g19)
      have hok := And.left hok g19
      exact b88 q v1 v2 v3 v4 v5 v6 v7 v8 hok hF
    · have hF := hF.trans (if_neg g19)
      have hok := And.right hok g19
      refine z_iload_n (j := 3) hx hb dX11_write_22 rfl rfl ?_
      refine z_iconst (v := 0) hx hb dX11_write_23 (by decide) ?_
      refine z_bipush (v := 7) hx hb dX11_write_24 (by decide) ?_
      have h26 := And.left hok
      have hok := And.right hok
      refine z_callSi (As := [.int v3, .int 0, .int 7]) S (ctX11_isIn l D kc ad q v3 0 7 h26) (va_cwS 3 S.2.2.2.2 (gS q7_21 q7_22 q1_12 q7_23) rfl rfl rfl hX11_isIn ⟨Nat.le_of_ble_eq_true rfl, Nat.le_of_ble_eq_true rfl⟩) hA (pbM D kc) (psM hK) rfl rfl (Nat.le_of_ble_eq_true rfl) dX11_write_26 ⟨Nat.le_of_ble_eq_true rfl, Nat.le_of_ble_eq_true rfl⟩ ?_
      exact b29 (fX11_isIn q v3 0 7).2 v1 v2 v3 v4 v5 v6 v7 v8 (fX11_isIn q v3 0 7).1 hok hF
  have b7 : ∀ (q : SS) (v1 : Int32) (v2 : Int32) (v3 : Int32) (v4 : Int32) (v5 : Int32) (v6 : Int32) (v7 : Int32) (v8 : Int32) (s0 : Int32), kX11_write_7 q v1 v2 v3 v4 v5 v6 v7 v8 s0 → F = fX11_write_7 q v1 v2 v3 v4 v5 v6 v7 v8 s0 → Z p l e (zr 2 0 0) s m args below meth c 0 0 (MQ below (va_Qi (fun (x : Int32) (_ : Unit) => x = F.1) (fun _ t => (GM D kc ad) A F.2 t.heap) A) args s 0 0 A) 10 A (ZG D vwCl (wM kc ad) (fun _ tl => tl = []) A) q 7 [(0, .ref (ad 0)), (1, .int v1), (2, .int v2), (3, .int v3), (4, .int v4), (5, .int v5), (6, .int v6), (7, .int v7), (8, .int v8)] [.int s0] := by
    intro q v1 v2 v3 v4 v5 v6 v7 v8 s0 hok hF
    refine z_if_eq (tgt := 12) hx hb dX11_write_7 (by decide) (fun g7 => ?_) (fun g7 => ?_)
    · have hF := hF.trans (if_pos g7)
      have hok := And.left hok g7
      refine z_iload_n (j := 2) hx hb dX11_write_12 rfl rfl ?_
      refine z_iconst (v := 0) hx hb dX11_write_13 (by decide) ?_
      refine z_bipush (v := 127) hx hb dX11_write_14 (by decide) ?_
      have h16 := And.left hok
      have hok := And.right hok
      refine z_callSi (As := [.int v2, .int 0, .int 127]) S (ctX11_isIn l D kc ad q v2 0 127 h16) (va_cwS 3 S.2.2.2.2 (gS q7_21 q7_22 q1_12 q7_23) rfl rfl rfl hX11_isIn ⟨Nat.le_of_ble_eq_true rfl, Nat.le_of_ble_eq_true rfl⟩) hA (pbM D kc) (psM hK) rfl rfl (Nat.le_of_ble_eq_true rfl) dX11_write_16 ⟨Nat.le_of_ble_eq_true rfl, Nat.le_of_ble_eq_true rfl⟩ ?_
      exact b19 (fX11_isIn q v2 0 127).2 v1 v2 v3 v4 v5 v6 v7 v8 (fX11_isIn q v2 0 127).1 hok hF
    · have hF := hF.trans (if_neg g7)
      have hok := And.right hok g7
      refine z_iconst (v := 0) hx hb dX11_write_10 (by decide) ?_
      exact z_iret hx hb hlocks hr rfl hF dX11_write_11
  refine z_aload_n (j := 0) hx hb dX11_write_0 rfl rfl ?_
  refine z_iload_n (j := 1) hx hb dX11_write_1 rfl rfl ?_
  refine z_bipush (v := 64) hx hb dX11_write_2 (by decide) ?_
  have h4 := And.left hok
  have hok := And.right hok
  refine z_callVi (As := [.int v1, .int 64]) S (ctX11_out l D kc ad q v1 64 h4) (cwV 2 S.2.2.2.2 (gV q7_17 q7_19 qp2_7 q1_12 q7_20) rfl rfl rfl hX11_out ⟨Nat.le_of_ble_eq_true rfl, Nat.le_of_ble_eq_true rfl⟩) hA (pbM D kc) (psM hK) (z_recv hK 0 (fun _ => rfl) rfl) rfl rfl (Nat.le_of_ble_eq_true rfl) dX11_write_4 ⟨Nat.le_of_ble_eq_true rfl, Nat.le_of_ble_eq_true rfl⟩ ?_
  exact b7 (fX11_out q v1 64).2 v1 v2 v3 v4 v5 v6 v7 v8 (fX11_out q v1 64).1 hok hF
theorem hX11_write : yX11_write.cls = RX11 ∧ yX11_write.cls ≠ "java/lang/invoke/MethodHandle" ∧ yX11_write.cls ≠ "java/lang/invoke/VarHandle" ∧ (parseMethodDescriptor yX11_write.desc).map (fun d => d.parameters.length) = some 8 := by decide +kernel
def fX11_patch_154 (q : SS) (v1 : Int32) (v2 : Int32) (s0 : Int32) : Int32 × SS := ((fX11_adds (sA (sA q 11 (upd (gA q 11) (s0 : Int32).toNatClampNeg (vp_nar .boolean ((gA q 11) (v2 : Int32).toNatClampNeg)))) 7 (upd (gA q 7) (v1 : Int32).toNatClampNeg ((gA q 7) (v2 : Int32).toNatClampNeg))) v1).1, (fX11_adds (sA (sA q 11 (upd (gA q 11) (s0 : Int32).toNatClampNeg (vp_nar .boolean ((gA q 11) (v2 : Int32).toNatClampNeg)))) 7 (upd (gA q 7) (v1 : Int32).toNatClampNeg ((gA q 7) (v2 : Int32).toNatClampNeg))) v1).2)
def kX11_patch_154 (q : SS) (v1 : Int32) (v2 : Int32) (s0 : Int32) : Prop := vp_in v2 80 ∧ vp_in s0 80 ∧ vp_in v2 80 ∧ vp_in v1 80 ∧ kX11_adds (sA (sA q 11 (upd (gA q 11) (s0 : Int32).toNatClampNeg (vp_nar .boolean ((gA q 11) (v2 : Int32).toNatClampNeg)))) 7 (upd (gA q 7) (v1 : Int32).toNatClampNeg ((gA q 7) (v2 : Int32).toNatClampNeg))) v1 ∧ True
def fX11_patch_112 (q : SS) (v1 : Int32) (v2 : Int32) (v3 : Int32) (s1 : Int32) : Int32 × SS := fX11_patch_154 (sA (sA (sA (sA q 4 (upd (gA q 4) (s1 : Int32).toNatClampNeg ((gA q 4) (v2 : Int32).toNatClampNeg))) 9 (upd (gA q 9) (v1 : Int32).toNatClampNeg (vp_nar .char ((gA q 9) (v2 : Int32).toNatClampNeg)))) 5 (upd (gA q 5) (v1 : Int32).toNatClampNeg v3)) 6 (upd (gA q 6) (v1 : Int32).toNatClampNeg ((gA q 6) (v2 : Int32).toNatClampNeg))) v1 v2 v1
def kX11_patch_112 (q : SS) (v1 : Int32) (v2 : Int32) (v3 : Int32) (s1 : Int32) : Prop := vp_in v2 80 ∧ vp_in s1 80 ∧ vp_in v2 80 ∧ vp_in v1 80 ∧ vp_in v1 80 ∧ vp_in v2 80 ∧ vp_in v1 80 ∧ kX11_patch_154 (sA (sA (sA (sA q 4 (upd (gA q 4) (s1 : Int32).toNatClampNeg ((gA q 4) (v2 : Int32).toNatClampNeg))) 9 (upd (gA q 9) (v1 : Int32).toNatClampNeg (vp_nar .char ((gA q 9) (v2 : Int32).toNatClampNeg)))) 5 (upd (gA q 5) (v1 : Int32).toNatClampNeg v3)) 6 (upd (gA q 6) (v1 : Int32).toNatClampNeg ((gA q 6) (v2 : Int32).toNatClampNeg))) v1 v2 v1
def fX11_patch_46 (q : SS) (v1 : Int32) (v2 : Int32) (v3 : Int32) (s0 : Int32) : Int32 × SS := (if s0 = 0 then ((fX11_refuse q 2).1, (fX11_refuse q 2).2) else (if ((gA q 10) (v2 : Int32).toNatClampNeg) = 0 then ((fX11_refuse q 3).1, (fX11_refuse q 3).2) else fX11_patch_112 (sA (sA (sA q 1 (upd (gA q 1) (v1 : Int32).toNatClampNeg ((gA q 1) (v2 : Int32).toNatClampNeg))) 2 (upd (gA q 2) (v1 : Int32).toNatClampNeg ((gA q 2) (v2 : Int32).toNatClampNeg))) 3 (upd (gA q 3) (v1 : Int32).toNatClampNeg ((gA q 3) (v2 : Int32).toNatClampNeg))) v1 v2 v3 v1))
def kX11_patch_46 (q : SS) (v1 : Int32) (v2 : Int32) (v3 : Int32) (s0 : Int32) : Prop := ((s0 = 0 → kX11_refuse q 2 ∧ True) ∧ (¬ s0 = 0 → vp_in v2 80 ∧ ((((gA q 10) (v2 : Int32).toNatClampNeg) = 0 → kX11_refuse q 3 ∧ True) ∧ (¬ ((gA q 10) (v2 : Int32).toNatClampNeg) = 0 → vp_in v2 80 ∧ vp_in v1 80 ∧ vp_in v2 80 ∧ vp_in v1 80 ∧ vp_in v2 80 ∧ vp_in v1 80 ∧ kX11_patch_112 (sA (sA (sA q 1 (upd (gA q 1) (v1 : Int32).toNatClampNeg ((gA q 1) (v2 : Int32).toNatClampNeg))) 2 (upd (gA q 2) (v1 : Int32).toNatClampNeg ((gA q 2) (v2 : Int32).toNatClampNeg))) 3 (upd (gA q 3) (v1 : Int32).toNatClampNeg ((gA q 3) (v2 : Int32).toNatClampNeg))) v1 v2 v3 v1))))
def fX11_patch_27 (q : SS) (v1 : Int32) (v2 : Int32) (v3 : Int32) (s0 : Int32) : Int32 × SS := (if s0 = 0 then fX11_patch_46 (fX11_isIn (sI q 0 s0) v3 0 79).2 v1 v2 v3 (fX11_isIn (sI q 0 s0) v3 0 79).1 else (0, (sI q 0 s0)))
def kX11_patch_27 (q : SS) (v1 : Int32) (v2 : Int32) (v3 : Int32) (s0 : Int32) : Prop := ((s0 = 0 → kX11_isIn (sI q 0 s0) v3 0 79 ∧ kX11_patch_46 (fX11_isIn (sI q 0 s0) v3 0 79).2 v1 v2 v3 (fX11_isIn (sI q 0 s0) v3 0 79).1) ∧ (¬ s0 = 0 → True))
def fX11_patch_26 (q : SS) (v1 : Int32) (v2 : Int32) (v3 : Int32) : Int32 × SS := fX11_patch_27 q v1 v2 v3 1
def kX11_patch_26 (q : SS) (v1 : Int32) (v2 : Int32) (v3 : Int32) : Prop := kX11_patch_27 q v1 v2 v3 1
def fX11_patch_19 (q : SS) (v1 : Int32) (v2 : Int32) (v3 : Int32) (s0 : Int32) : Int32 × SS := (if s0 = 0 then fX11_patch_26 q v1 v2 v3 else fX11_patch_27 q v1 v2 v3 0)
def kX11_patch_19 (q : SS) (v1 : Int32) (v2 : Int32) (v3 : Int32) (s0 : Int32) : Prop := ((s0 = 0 → kX11_patch_26 q v1 v2 v3) ∧ (¬ s0 = 0 → kX11_patch_27 q v1 v2 v3 0))
def fX11_patch_9 (q : SS) (v1 : Int32) (v2 : Int32) (v3 : Int32) (s0 : Int32) : Int32 × SS := (if s0 = 0 then fX11_patch_26 q v1 v2 v3 else fX11_patch_19 (fX11_isIn q v2 0 79).2 v1 v2 v3 (fX11_isIn q v2 0 79).1)
def kX11_patch_9 (q : SS) (v1 : Int32) (v2 : Int32) (v3 : Int32) (s0 : Int32) : Prop := ((s0 = 0 → kX11_patch_26 q v1 v2 v3) ∧ (¬ s0 = 0 → kX11_isIn q v2 0 79 ∧ kX11_patch_19 (fX11_isIn q v2 0 79).2 v1 v2 v3 (fX11_isIn q v2 0 79).1))
def fX11_patch (q : SS) (v1 : Int32) (v2 : Int32) (v3 : Int32) : Int32 × SS := fX11_patch_9 (fX11_isIn q v1 64 79).2 v1 v2 v3 (fX11_isIn q v1 64 79).1
def kX11_patch (q : SS) (v1 : Int32) (v2 : Int32) (v3 : Int32) : Prop := kX11_isIn q v1 64 79 ∧ kX11_patch_9 (fX11_isIn q v1 64 79).2 v1 v2 v3 (fX11_isIn q v1 64 79).1
set_option maxHeartbeats 4000000 in
set_option maxRecDepth 100000 in
theorem ctX11_patch (l : Launch) (D : va_G) (kc : Nat → ClassId) (ad : Nat → Nat) (q : SS) (v1 : Int32) (v2 : Int32) (v3 : Int32) (hok : kX11_patch q v1 v2 v3) : Ci l yX11_patch (Cond.code yX11_patch cX11_patch 4 (some .int) :: lw_G) (zr 1 0 0) 0 0 (PM D kc) (GM D kc ad) (GM D kc ad) [.ref (ad 0), .int v1, .int v2, .int v3] q (fX11_patch q v1 v2 v3) := by
  refine Ci.of (cc := cX11_patch) (maxL := 4) (ret := (some .int)) (by decide) rfl (Nat.le_of_ble_eq_true rfl) ?_
  intro p e s m args below meth c A S hr hlocks hin hA hK
  have hx := S.1
  have hb := S.2.1
  have hK : va_K D vwCl (tysK kc) s := hK
  generalize hFe : fX11_patch q v1 v2 v3 = F
  have hF : F = fX11_patch q v1 v2 v3 := hFe.symm
  have b154 : ∀ (q : SS) (v1 : Int32) (v2 : Int32) (s0 : Int32), kX11_patch_154 q v1 v2 s0 → F = fX11_patch_154 q v1 v2 s0 → Z p l e (zr 1 0 0) s m args below meth c 0 0 (MQ below (va_Qi (fun (x : Int32) (_ : Unit) => x = F.1) (fun _ t => (GM D kc ad) A F.2 t.heap) A) args s 0 0 A) 4 A (ZG D vwCl (wM kc ad) (fun _ tl => tl = []) A) q 154 [(0, .ref (ad 0)), (1, .int v1), (2, .int v2)] [.int s0, .ref (ad 11)] := by
    intro q v1 v2 s0 hok hF
    refine z_aload_n (j := 0) hx hb dX11_patch_154 rfl rfl ?_
    refine z_get (v := .ref (ad 11)) S hK inX11 0 (fun _ => rfl) rfl 38 (by decide) q6_135 rfl rfl dX11_patch_155 ?_
    refine z_iload_n (j := 2) hx hb dX11_patch_158 rfl rfl ?_
    have h159 := And.left hok
    have hok := And.right hok
    refine z_zald (f := (gA q 11)) S hK 11 1 (fun _ => rfl) rfl h159 dX11_patch_159 ?_
    have h160 := And.left hok
    have hok := And.right hok
    refine z_zast (f := (gA q 11)) (q' := (sA q 11 (upd (gA q 11) (s0 : Int32).toNatClampNeg (vp_nar .boolean ((gA q 11) (v2 : Int32).toNatClampNeg))))) S hK 11 1 (fun _ => rfl) rfl h160 dX11_patch_160 (wMa11 kc ad _ _) (fun _ h => h) ?_
    refine z_aload_n (j := 0) hx hb dX11_patch_161 rfl rfl ?_
    refine z_get (v := .ref (ad 7)) S hK inX11 0 (fun _ => rfl) rfl 34 (by decide) q6_131 rfl rfl dX11_patch_162 ?_
    refine z_iload_n (j := 1) hx hb dX11_patch_165 rfl rfl ?_
    refine z_aload_n (j := 0) hx hb dX11_patch_166 rfl rfl ?_
    refine z_get (v := .ref (ad 7)) S hK inX11 0 (fun _ => rfl) rfl 34 (by decide) q6_131 rfl rfl dX11_patch_167 ?_
    refine z_iload_n (j := 2) hx hb dX11_patch_170 rfl rfl ?_
    have h171 := And.left hok
    have hok := And.right hok
    refine z_iald (f := (gA q 7)) S hK 7 0 (fun _ => rfl) rfl h171 dX11_patch_171 ?_
    have h172 := And.left hok
    have hok := And.right hok
    refine z_iast (f := (gA q 7)) (q' := (sA (sA q 11 (upd (gA q 11) (s0 : Int32).toNatClampNeg (vp_nar .boolean ((gA q 11) (v2 : Int32).toNatClampNeg)))) 7 (upd (gA q 7) (v1 : Int32).toNatClampNeg ((gA q 7) (v2 : Int32).toNatClampNeg)))) S hK 7 0 (fun _ => rfl) rfl h172 dX11_patch_172 (wMa7 kc ad _ _) (fun _ h => h) ?_
    refine z_aload_n (j := 0) hx hb dX11_patch_173 rfl rfl ?_
    refine z_iload_n (j := 1) hx hb dX11_patch_174 rfl rfl ?_
    have h175 := And.left hok
    have hok := And.right hok
    refine z_callVi (As := [.int v1]) S (ctX11_adds l D kc ad (sA (sA q 11 (upd (gA q 11) (s0 : Int32).toNatClampNeg (vp_nar .boolean ((gA q 11) (v2 : Int32).toNatClampNeg)))) 7 (upd (gA q 7) (v1 : Int32).toNatClampNeg ((gA q 7) (v2 : Int32).toNatClampNeg))) v1 h175) (cwV 1 S.2.2.2.2 (gV q7_37 q7_39 qp2_9 q1_12 q7_40) rfl rfl rfl hX11_adds ⟨Nat.le_of_ble_eq_true rfl, Nat.le_of_ble_eq_true rfl⟩) hA (pbM D kc) (psM hK) (z_recv hK 0 (fun _ => rfl) rfl) rfl rfl (Nat.le_of_ble_eq_true rfl) dX11_patch_175 ⟨Nat.le_of_ble_eq_true rfl, Nat.le_of_ble_eq_true rfl⟩ ?_
    exact z_iret hx hb hlocks hr rfl hF dX11_patch_178
  have b112 : ∀ (q : SS) (v1 : Int32) (v2 : Int32) (v3 : Int32) (s1 : Int32), kX11_patch_112 q v1 v2 v3 s1 → F = fX11_patch_112 q v1 v2 v3 s1 → Z p l e (zr 1 0 0) s m args below meth c 0 0 (MQ below (va_Qi (fun (x : Int32) (_ : Unit) => x = F.1) (fun _ t => (GM D kc ad) A F.2 t.heap) A) args s 0 0 A) 4 A (ZG D vwCl (wM kc ad) (fun _ tl => tl = []) A) q 112 [(0, .ref (ad 0)), (1, .int v1), (2, .int v2), (3, .int v3)] [.ref (ad 0), .int s1, .ref (ad 4)] := by
    intro q v1 v2 v3 s1 hok hF
    refine z_get (v := .ref (ad 4)) S hK inX11 0 (fun _ => rfl) rfl 31 (by decide) q6_128 rfl rfl dX11_patch_112 ?_
    refine z_iload_n (j := 2) hx hb dX11_patch_115 rfl rfl ?_
    have h116 := And.left hok
    have hok := And.right hok
    refine z_iald (f := (gA q 4)) S hK 4 0 (fun _ => rfl) rfl h116 dX11_patch_116 ?_
    have h117 := And.left hok
    have hok := And.right hok
    refine z_iast (f := (gA q 4)) (q' := (sA q 4 (upd (gA q 4) (s1 : Int32).toNatClampNeg ((gA q 4) (v2 : Int32).toNatClampNeg)))) S hK 4 0 (fun _ => rfl) rfl h117 dX11_patch_117 (wMa4 kc ad _ _) (fun _ h => h) ?_
    refine z_aload_n (j := 0) hx hb dX11_patch_118 rfl rfl ?_
    refine z_get (v := .ref (ad 9)) S hK inX11 0 (fun _ => rfl) rfl 36 (by decide) q6_133 rfl rfl dX11_patch_119 ?_
    refine z_iload_n (j := 1) hx hb dX11_patch_122 rfl rfl ?_
    refine z_aload_n (j := 0) hx hb dX11_patch_123 rfl rfl ?_
    refine z_get (v := .ref (ad 9)) S hK inX11 0 (fun _ => rfl) rfl 36 (by decide) q6_133 rfl rfl dX11_patch_124 ?_
    refine z_iload_n (j := 2) hx hb dX11_patch_127 rfl rfl ?_
    have h128 := And.left hok
    have hok := And.right hok
    refine z_cald (f := (gA q 9)) S hK 9 3 (fun _ => rfl) rfl h128 dX11_patch_128 ?_
    have h129 := And.left hok
    have hok := And.right hok
    refine z_cast (f := (gA q 9)) (q' := (sA (sA q 4 (upd (gA q 4) (s1 : Int32).toNatClampNeg ((gA q 4) (v2 : Int32).toNatClampNeg))) 9 (upd (gA q 9) (v1 : Int32).toNatClampNeg (vp_nar .char ((gA q 9) (v2 : Int32).toNatClampNeg))))) S hK 9 3 (fun _ => rfl) rfl h129 dX11_patch_129 (wMa9 kc ad _ _) (fun _ h => h) ?_
    refine z_aload_n (j := 0) hx hb dX11_patch_130 rfl rfl ?_
    refine z_get (v := .ref (ad 5)) S hK inX11 0 (fun _ => rfl) rfl 32 (by decide) q6_129 rfl rfl dX11_patch_131 ?_
    refine z_iload_n (j := 1) hx hb dX11_patch_134 rfl rfl ?_
    refine z_iload_n (j := 3) hx hb dX11_patch_135 rfl rfl ?_
    have h136 := And.left hok
    have hok := And.right hok
    refine z_iast (f := (gA q 5)) (q' := (sA (sA (sA q 4 (upd (gA q 4) (s1 : Int32).toNatClampNeg ((gA q 4) (v2 : Int32).toNatClampNeg))) 9 (upd (gA q 9) (v1 : Int32).toNatClampNeg (vp_nar .char ((gA q 9) (v2 : Int32).toNatClampNeg)))) 5 (upd (gA q 5) (v1 : Int32).toNatClampNeg v3))) S hK 5 0 (fun _ => rfl) rfl h136 dX11_patch_136 (wMa5 kc ad _ _) (fun _ h => h) ?_
    refine z_aload_n (j := 0) hx hb dX11_patch_137 rfl rfl ?_
    refine z_get (v := .ref (ad 6)) S hK inX11 0 (fun _ => rfl) rfl 33 (by decide) q6_130 rfl rfl dX11_patch_138 ?_
    refine z_iload_n (j := 1) hx hb dX11_patch_141 rfl rfl ?_
    refine z_aload_n (j := 0) hx hb dX11_patch_142 rfl rfl ?_
    refine z_get (v := .ref (ad 6)) S hK inX11 0 (fun _ => rfl) rfl 33 (by decide) q6_130 rfl rfl dX11_patch_143 ?_
    refine z_iload_n (j := 2) hx hb dX11_patch_146 rfl rfl ?_
    have h147 := And.left hok
    have hok := And.right hok
    refine z_iald (f := (gA q 6)) S hK 6 0 (fun _ => rfl) rfl h147 dX11_patch_147 ?_
    have h148 := And.left hok
    have hok := And.right hok
    refine z_iast (f := (gA q 6)) (q' := (sA (sA (sA (sA q 4 (upd (gA q 4) (s1 : Int32).toNatClampNeg ((gA q 4) (v2 : Int32).toNatClampNeg))) 9 (upd (gA q 9) (v1 : Int32).toNatClampNeg (vp_nar .char ((gA q 9) (v2 : Int32).toNatClampNeg)))) 5 (upd (gA q 5) (v1 : Int32).toNatClampNeg v3)) 6 (upd (gA q 6) (v1 : Int32).toNatClampNeg ((gA q 6) (v2 : Int32).toNatClampNeg)))) S hK 6 0 (fun _ => rfl) rfl h148 dX11_patch_148 (wMa6 kc ad _ _) (fun _ h => h) ?_
    refine z_aload_n (j := 0) hx hb dX11_patch_149 rfl rfl ?_
    refine z_get (v := .ref (ad 11)) S hK inX11 0 (fun _ => rfl) rfl 38 (by decide) q6_135 rfl rfl dX11_patch_150 ?_
    refine z_iload_n (j := 1) hx hb dX11_patch_153 rfl rfl ?_
    refine z_sub [0, 1, 2] rfl ?_
    exact b154 (sA (sA (sA (sA q 4 (upd (gA q 4) (s1 : Int32).toNatClampNeg ((gA q 4) (v2 : Int32).toNatClampNeg))) 9 (upd (gA q 9) (v1 : Int32).toNatClampNeg (vp_nar .char ((gA q 9) (v2 : Int32).toNatClampNeg)))) 5 (upd (gA q 5) (v1 : Int32).toNatClampNeg v3)) 6 (upd (gA q 6) (v1 : Int32).toNatClampNeg ((gA q 6) (v2 : Int32).toNatClampNeg))) v1 v2 v1 hok hF
  have b46 : ∀ (q : SS) (v1 : Int32) (v2 : Int32) (v3 : Int32) (s0 : Int32), kX11_patch_46 q v1 v2 v3 s0 → F = fX11_patch_46 q v1 v2 v3 s0 → Z p l e (zr 1 0 0) s m args below meth c 0 0 (MQ below (va_Qi (fun (x : Int32) (_ : Unit) => x = F.1) (fun _ t => (GM D kc ad) A F.2 t.heap) A) args s 0 0 A) 4 A (ZG D vwCl (wM kc ad) (fun _ tl => tl = []) A) q 46 [(0, .ref (ad 0)), (1, .int v1), (2, .int v2), (3, .int v3)] [.int s0] := by
    intro q v1 v2 v3 s0 hok hF
    refine z_if_ne (tgt := 55) hx hb dX11_patch_46 (by decide) (fun g46 => ?_) (fun g46 => ?_)
    · have hF := hF.trans (if_neg g46)
      have hok := And.right hok g46
      refine z_aload_n (j := 0) hx hb dX11_patch_55 rfl rfl ?_
      refine z_get (v := .ref (ad 10)) S hK inX11 0 (fun _ => rfl) rfl 37 (by decide) q6_134 rfl rfl dX11_patch_56 ?_
      refine z_iload_n (j := 2) hx hb dX11_patch_59 rfl rfl ?_
      have h60 := And.left hok
      have hok := And.right hok
      refine z_zald (f := (gA q 10)) S hK 10 1 (fun _ => rfl) rfl h60 dX11_patch_60 ?_
      refine z_if_ne (tgt := 70) hx hb dX11_patch_61 (by decide) (fun g61 => ?_) (fun g61 => ?_)
      · have hF := hF.trans (if_neg g61)
        have hok := And.right hok g61
        refine z_aload_n (j := 0) hx hb dX11_patch_70 rfl rfl ?_
        refine z_get (v := .ref (ad 1)) S hK inX11 0 (fun _ => rfl) rfl 28 (by decide) q6_125 rfl rfl dX11_patch_71 ?_
        refine z_iload_n (j := 1) hx hb dX11_patch_74 rfl rfl ?_
        refine z_aload_n (j := 0) hx hb dX11_patch_75 rfl rfl ?_
        refine z_get (v := .ref (ad 1)) S hK inX11 0 (fun _ => rfl) rfl 28 (by decide) q6_125 rfl rfl dX11_patch_76 ?_
        refine z_iload_n (j := 2) hx hb dX11_patch_79 rfl rfl ?_
        have h80 := And.left hok
        have hok := And.right hok
        refine z_iald (f := (gA q 1)) S hK 1 0 (fun _ => rfl) rfl h80 dX11_patch_80 ?_
        have h81 := And.left hok
        have hok := And.right hok
        refine z_iast (f := (gA q 1)) (q' := (sA q 1 (upd (gA q 1) (v1 : Int32).toNatClampNeg ((gA q 1) (v2 : Int32).toNatClampNeg)))) S hK 1 0 (fun _ => rfl) rfl h81 dX11_patch_81 (wMa1 kc ad _ _) (fun _ h => h) ?_
        refine z_aload_n (j := 0) hx hb dX11_patch_82 rfl rfl ?_
        refine z_get (v := .ref (ad 2)) S hK inX11 0 (fun _ => rfl) rfl 29 (by decide) q6_126 rfl rfl dX11_patch_83 ?_
        refine z_iload_n (j := 1) hx hb dX11_patch_86 rfl rfl ?_
        refine z_aload_n (j := 0) hx hb dX11_patch_87 rfl rfl ?_
        refine z_get (v := .ref (ad 2)) S hK inX11 0 (fun _ => rfl) rfl 29 (by decide) q6_126 rfl rfl dX11_patch_88 ?_
        refine z_iload_n (j := 2) hx hb dX11_patch_91 rfl rfl ?_
        have h92 := And.left hok
        have hok := And.right hok
        refine z_iald (f := (gA q 2)) S hK 2 0 (fun _ => rfl) rfl h92 dX11_patch_92 ?_
        have h93 := And.left hok
        have hok := And.right hok
        refine z_iast (f := (gA q 2)) (q' := (sA (sA q 1 (upd (gA q 1) (v1 : Int32).toNatClampNeg ((gA q 1) (v2 : Int32).toNatClampNeg))) 2 (upd (gA q 2) (v1 : Int32).toNatClampNeg ((gA q 2) (v2 : Int32).toNatClampNeg)))) S hK 2 0 (fun _ => rfl) rfl h93 dX11_patch_93 (wMa2 kc ad _ _) (fun _ h => h) ?_
        refine z_aload_n (j := 0) hx hb dX11_patch_94 rfl rfl ?_
        refine z_get (v := .ref (ad 3)) S hK inX11 0 (fun _ => rfl) rfl 30 (by decide) q6_127 rfl rfl dX11_patch_95 ?_
        refine z_iload_n (j := 1) hx hb dX11_patch_98 rfl rfl ?_
        refine z_aload_n (j := 0) hx hb dX11_patch_99 rfl rfl ?_
        refine z_get (v := .ref (ad 3)) S hK inX11 0 (fun _ => rfl) rfl 30 (by decide) q6_127 rfl rfl dX11_patch_100 ?_
        refine z_iload_n (j := 2) hx hb dX11_patch_103 rfl rfl ?_
        have h104 := And.left hok
        have hok := And.right hok
        refine z_iald (f := (gA q 3)) S hK 3 0 (fun _ => rfl) rfl h104 dX11_patch_104 ?_
        have h105 := And.left hok
        have hok := And.right hok
        refine z_iast (f := (gA q 3)) (q' := (sA (sA (sA q 1 (upd (gA q 1) (v1 : Int32).toNatClampNeg ((gA q 1) (v2 : Int32).toNatClampNeg))) 2 (upd (gA q 2) (v1 : Int32).toNatClampNeg ((gA q 2) (v2 : Int32).toNatClampNeg))) 3 (upd (gA q 3) (v1 : Int32).toNatClampNeg ((gA q 3) (v2 : Int32).toNatClampNeg)))) S hK 3 0 (fun _ => rfl) rfl h105 dX11_patch_105 (wMa3 kc ad _ _) (fun _ h => h) ?_
        refine z_aload_n (j := 0) hx hb dX11_patch_106 rfl rfl ?_
        refine z_get (v := .ref (ad 4)) S hK inX11 0 (fun _ => rfl) rfl 31 (by decide) q6_128 rfl rfl dX11_patch_107 ?_
        refine z_iload_n (j := 1) hx hb dX11_patch_110 rfl rfl ?_
        refine z_aload_n (j := 0) hx hb dX11_patch_111 rfl rfl ?_
        exact b112 (sA (sA (sA q 1 (upd (gA q 1) (v1 : Int32).toNatClampNeg ((gA q 1) (v2 : Int32).toNatClampNeg))) 2 (upd (gA q 2) (v1 : Int32).toNatClampNeg ((gA q 2) (v2 : Int32).toNatClampNeg))) 3 (upd (gA q 3) (v1 : Int32).toNatClampNeg ((gA q 3) (v2 : Int32).toNatClampNeg))) v1 v2 v3 v1 hok hF
      · have hF := hF.trans (if_pos g61)
        have hok := And.left hok g61
        refine z_aload_n (j := 0) hx hb dX11_patch_64 rfl rfl ?_
        refine z_iconst (v := 3) hx hb dX11_patch_65 (by decide) ?_
        have h66 := And.left hok
        have hok := And.right hok
        refine z_callVi (As := [.int 3]) S (ctX11_refuse l D kc ad q 3 h66) (cwV 1 S.2.2.2.2 (gV q7_30 q7_32 qp2_8 q1_12 q7_33) rfl rfl rfl hX11_refuse ⟨Nat.le_of_ble_eq_true rfl, Nat.le_of_ble_eq_true rfl⟩) hA (pbM D kc) (psM hK) (z_recv hK 0 (fun _ => rfl) rfl) rfl rfl (Nat.le_of_ble_eq_true rfl) dX11_patch_66 ⟨Nat.le_of_ble_eq_true rfl, Nat.le_of_ble_eq_true rfl⟩ ?_
        exact z_iret hx hb hlocks hr rfl hF dX11_patch_69
    · have hF := hF.trans (if_pos g46)
      have hok := And.left hok g46
      refine z_aload_n (j := 0) hx hb dX11_patch_49 rfl rfl ?_
      refine z_iconst (v := 2) hx hb dX11_patch_50 (by decide) ?_
      have h51 := And.left hok
      have hok := And.right hok
      refine z_callVi (As := [.int 2]) S (ctX11_refuse l D kc ad q 2 h51) (cwV 1 S.2.2.2.2 (gV q7_30 q7_32 qp2_8 q1_12 q7_33) rfl rfl rfl hX11_refuse ⟨Nat.le_of_ble_eq_true rfl, Nat.le_of_ble_eq_true rfl⟩) hA (pbM D kc) (psM hK) (z_recv hK 0 (fun _ => rfl) rfl) rfl rfl (Nat.le_of_ble_eq_true rfl) dX11_patch_51 ⟨Nat.le_of_ble_eq_true rfl, Nat.le_of_ble_eq_true rfl⟩ ?_
      exact z_iret hx hb hlocks hr rfl hF dX11_patch_54
  have b27 : ∀ (q : SS) (v1 : Int32) (v2 : Int32) (v3 : Int32) (s0 : Int32), kX11_patch_27 q v1 v2 v3 s0 → F = fX11_patch_27 q v1 v2 v3 s0 → Z p l e (zr 1 0 0) s m args below meth c 0 0 (MQ below (va_Qi (fun (x : Int32) (_ : Unit) => x = F.1) (fun _ t => (GM D kc ad) A F.2 t.heap) A) args s 0 0 A) 4 A (ZG D vwCl (wM kc ad) (fun _ tl => tl = []) A) q 27 [(0, .ref (ad 0)), (1, .int v1), (2, .int v2), (3, .int v3)] [.int s0, .ref (ad 0)] := by
    intro q v1 v2 v3 s0 hok hF
    refine z_put (v := .int s0) (q' := (sI q 0 s0)) S hK inX11 tyX11 tyX11_ok nmX11 0 (fun _ => rfl) rfl 0 (by decide) q6_97 rfl rfl rfl rfl (Nat.le_of_ble_eq_true rfl) dX11_patch_27 (wMp0 kc ad _ _) (fun _ h => h) ?_
    refine z_aload_n (j := 0) hx hb dX11_patch_30 rfl rfl ?_
    refine z_get (v := .int s0) S hK inX11 0 (fun _ => rfl) rfl 0 (by decide) q6_97 rfl rfl dX11_patch_31 ?_
    refine z_if_eq (tgt := 39) hx hb dX11_patch_34 (by decide) (fun g34 => ?_) (fun g34 => ?_)
    · have hF := hF.trans (if_pos g34)
      have hok := And.left hok g34
      refine z_iload_n (j := 3) hx hb dX11_patch_39 rfl rfl ?_
      refine z_iconst (v := 0) hx hb dX11_patch_40 (by decide) ?_
      refine z_bipush (v := 79) hx hb dX11_patch_41 (by decide) ?_
      have h43 := And.left hok
      have hok := And.right hok
      refine z_callSi (As := [.int v3, .int 0, .int 79]) S (ctX11_isIn l D kc ad (sI q 0 s0) v3 0 79 h43) (va_cwS 3 S.2.2.2.2 (gS q7_21 q7_22 q1_12 q7_23) rfl rfl rfl hX11_isIn ⟨Nat.le_of_ble_eq_true rfl, Nat.le_of_ble_eq_true rfl⟩) hA (pbM D kc) (psM hK) rfl rfl (Nat.le_of_ble_eq_true rfl) dX11_patch_43 ⟨Nat.le_of_ble_eq_true rfl, Nat.le_of_ble_eq_true rfl⟩ ?_
      exact b46 (fX11_isIn (sI q 0 s0) v3 0 79).2 v1 v2 v3 (fX11_isIn (sI q 0 s0) v3 0 79).1 hok hF
    · have hF := hF.trans (if_neg g34)
      have hok := And.right hok g34
      refine z_iconst (v := 0) hx hb dX11_patch_37 (by decide) ?_
      exact z_iret hx hb hlocks hr rfl hF dX11_patch_38
  have b26 : ∀ (q : SS) (v1 : Int32) (v2 : Int32) (v3 : Int32), kX11_patch_26 q v1 v2 v3 → F = fX11_patch_26 q v1 v2 v3 → Z p l e (zr 1 0 0) s m args below meth c 0 0 (MQ below (va_Qi (fun (x : Int32) (_ : Unit) => x = F.1) (fun _ t => (GM D kc ad) A F.2 t.heap) A) args s 0 0 A) 4 A (ZG D vwCl (wM kc ad) (fun _ tl => tl = []) A) q 26 [(0, .ref (ad 0)), (1, .int v1), (2, .int v2), (3, .int v3)] [.ref (ad 0)] := by
    intro q v1 v2 v3 hok hF
    refine z_iconst (v := 1) hx hb dX11_patch_26 (by decide) ?_
    exact b27 q v1 v2 v3 1 hok hF
  have b19 : ∀ (q : SS) (v1 : Int32) (v2 : Int32) (v3 : Int32) (s0 : Int32), kX11_patch_19 q v1 v2 v3 s0 → F = fX11_patch_19 q v1 v2 v3 s0 → Z p l e (zr 1 0 0) s m args below meth c 0 0 (MQ below (va_Qi (fun (x : Int32) (_ : Unit) => x = F.1) (fun _ t => (GM D kc ad) A F.2 t.heap) A) args s 0 0 A) 4 A (ZG D vwCl (wM kc ad) (fun _ tl => tl = []) A) q 19 [(0, .ref (ad 0)), (1, .int v1), (2, .int v2), (3, .int v3)] [.int s0, .ref (ad 0)] := by
    intro q v1 v2 v3 s0 hok hF
    refine z_if_eq (tgt := 26) hx hb dX11_patch_19 (by decide) (fun g19 => ?_) (fun g19 => ?_)
    · have hF := hF.trans (if_pos g19)
      have hok := And.left hok g19
      exact b26 q v1 v2 v3 hok hF
    · have hF := hF.trans (if_neg g19)
      have hok := And.right hok g19
      refine z_iconst (v := 0) hx hb dX11_patch_22 (by decide) ?_
      refine z_goto (tgt := 27) hx hb dX11_patch_23 (by decide) ?_
      exact b27 q v1 v2 v3 0 hok hF
  have b9 : ∀ (q : SS) (v1 : Int32) (v2 : Int32) (v3 : Int32) (s0 : Int32), kX11_patch_9 q v1 v2 v3 s0 → F = fX11_patch_9 q v1 v2 v3 s0 → Z p l e (zr 1 0 0) s m args below meth c 0 0 (MQ below (va_Qi (fun (x : Int32) (_ : Unit) => x = F.1) (fun _ t => (GM D kc ad) A F.2 t.heap) A) args s 0 0 A) 4 A (ZG D vwCl (wM kc ad) (fun _ tl => tl = []) A) q 9 [(0, .ref (ad 0)), (1, .int v1), (2, .int v2), (3, .int v3)] [.int s0, .ref (ad 0)] := by
    intro q v1 v2 v3 s0 hok hF
    refine z_if_eq (tgt := 26) hx hb dX11_patch_9 (by decide) (fun g9 => ?_) (fun g9 => ?_)
    · have hF := hF.trans (if_pos g9)
      have hok := And.left hok g9
      exact b26 q v1 v2 v3 hok hF
    · have hF := hF.trans (if_neg g9)
      have hok := And.right hok g9
      refine z_iload_n (j := 2) hx hb dX11_patch_12 rfl rfl ?_
      refine z_iconst (v := 0) hx hb dX11_patch_13 (by decide) ?_
      refine z_bipush (v := 79) hx hb dX11_patch_14 (by decide) ?_
      have h16 := And.left hok
      have hok := And.right hok
      refine z_callSi (As := [.int v2, .int 0, .int 79]) S (ctX11_isIn l D kc ad q v2 0 79 h16) (va_cwS 3 S.2.2.2.2 (gS q7_21 q7_22 q1_12 q7_23) rfl rfl rfl hX11_isIn ⟨Nat.le_of_ble_eq_true rfl, Nat.le_of_ble_eq_true rfl⟩) hA (pbM D kc) (psM hK) rfl rfl (Nat.le_of_ble_eq_true rfl) dX11_patch_16 ⟨Nat.le_of_ble_eq_true rfl, Nat.le_of_ble_eq_true rfl⟩ ?_
      exact b19 (fX11_isIn q v2 0 79).2 v1 v2 v3 (fX11_isIn q v2 0 79).1 hok hF
  refine z_aload_n (j := 0) hx hb dX11_patch_0 rfl rfl ?_
  refine z_iload_n (j := 1) hx hb dX11_patch_1 rfl rfl ?_
  refine z_bipush (v := 64) hx hb dX11_patch_2 (by decide) ?_
  refine z_bipush (v := 79) hx hb dX11_patch_4 (by decide) ?_
  have h6 := And.left hok
  have hok := And.right hok
  refine z_callSi (As := [.int v1, .int 64, .int 79]) S (ctX11_isIn l D kc ad q v1 64 79 h6) (va_cwS 3 S.2.2.2.2 (gS q7_21 q7_22 q1_12 q7_23) rfl rfl rfl hX11_isIn ⟨Nat.le_of_ble_eq_true rfl, Nat.le_of_ble_eq_true rfl⟩) hA (pbM D kc) (psM hK) rfl rfl (Nat.le_of_ble_eq_true rfl) dX11_patch_6 ⟨Nat.le_of_ble_eq_true rfl, Nat.le_of_ble_eq_true rfl⟩ ?_
  exact b9 (fX11_isIn q v1 64 79).2 v1 v2 v3 (fX11_isIn q v1 64 79).1 hok hF
theorem hX11_patch : yX11_patch.cls = RX11 ∧ yX11_patch.cls ≠ "java/lang/invoke/MethodHandle" ∧ yX11_patch.cls ≠ "java/lang/invoke/VarHandle" ∧ (parseMethodDescriptor yX11_patch.desc).map (fun d => d.parameters.length) = some 3 := by decide +kernel
def fX11_setConstant_20 (q : SS) (v1 : Int32) (v2 : Int32) (s0 : Int32) : Int32 × SS := (if s0 = 0 then ((fX11_refuse q 2).1, (fX11_refuse q 2).2) else (if ((gA q 10) (v1 : Int32).toNatClampNeg) = 0 then ((fX11_refuse q 3).1, (fX11_refuse q 3).2) else (((gA q 7) (v1 : Int32).toNatClampNeg), (sA q 7 (upd (gA q 7) (v1 : Int32).toNatClampNeg v2)))))
def kX11_setConstant_20 (q : SS) (v1 : Int32) (v2 : Int32) (s0 : Int32) : Prop := ((s0 = 0 → kX11_refuse q 2 ∧ True) ∧ (¬ s0 = 0 → vp_in v1 80 ∧ ((((gA q 10) (v1 : Int32).toNatClampNeg) = 0 → kX11_refuse q 3 ∧ True) ∧ (¬ ((gA q 10) (v1 : Int32).toNatClampNeg) = 0 → vp_in v1 80 ∧ vp_in v1 80 ∧ True))))
def fX11_setConstant_7 (q : SS) (v1 : Int32) (v2 : Int32) (s0 : Int32) : Int32 × SS := (if s0 = 0 then fX11_setConstant_20 (fX11_isIn q v2 0 255).2 v1 v2 (fX11_isIn q v2 0 255).1 else (0, q))
def kX11_setConstant_7 (q : SS) (v1 : Int32) (v2 : Int32) (s0 : Int32) : Prop := ((s0 = 0 → kX11_isIn q v2 0 255 ∧ kX11_setConstant_20 (fX11_isIn q v2 0 255).2 v1 v2 (fX11_isIn q v2 0 255).1) ∧ (¬ s0 = 0 → True))
def fX11_setConstant (q : SS) (v1 : Int32) (v2 : Int32) : Int32 × SS := fX11_setConstant_7 (fX11_out q v1 80).2 v1 v2 (fX11_out q v1 80).1
def kX11_setConstant (q : SS) (v1 : Int32) (v2 : Int32) : Prop := kX11_out q v1 80 ∧ kX11_setConstant_7 (fX11_out q v1 80).2 v1 v2 (fX11_out q v1 80).1
set_option maxHeartbeats 4000000 in
set_option maxRecDepth 100000 in
theorem ctX11_setConstant (l : Launch) (D : va_G) (kc : Nat → ClassId) (ad : Nat → Nat) (q : SS) (v1 : Int32) (v2 : Int32) (hok : kX11_setConstant q v1 v2) : Ci l yX11_setConstant (Cond.code yX11_setConstant cX11_setConstant 4 (some .int) :: lw_G) (zr 2 0 0) 0 0 (PM D kc) (GM D kc ad) (GM D kc ad) [.ref (ad 0), .int v1, .int v2] q (fX11_setConstant q v1 v2) := by
  refine Ci.of (cc := cX11_setConstant) (maxL := 4) (ret := (some .int)) (by decide) rfl (Nat.le_of_ble_eq_true rfl) ?_
  intro p e s m args below meth c A S hr hlocks hin hA hK
  have hx := S.1
  have hb := S.2.1
  have hK : va_K D vwCl (tysK kc) s := hK
  generalize hFe : fX11_setConstant q v1 v2 = F
  have hF : F = fX11_setConstant q v1 v2 := hFe.symm
  have b20 : ∀ (q : SS) (v1 : Int32) (v2 : Int32) (s0 : Int32), kX11_setConstant_20 q v1 v2 s0 → F = fX11_setConstant_20 q v1 v2 s0 → Z p l e (zr 2 0 0) s m args below meth c 0 0 (MQ below (va_Qi (fun (x : Int32) (_ : Unit) => x = F.1) (fun _ t => (GM D kc ad) A F.2 t.heap) A) args s 0 0 A) 4 A (ZG D vwCl (wM kc ad) (fun _ tl => tl = []) A) q 20 [(0, .ref (ad 0)), (1, .int v1), (2, .int v2)] [.int s0] := by
    intro q v1 v2 s0 hok hF
    refine z_if_ne (tgt := 29) hx hb dX11_setConstant_20 (by decide) (fun g20 => ?_) (fun g20 => ?_)
    · have hF := hF.trans (if_neg g20)
      have hok := And.right hok g20
      refine z_aload_n (j := 0) hx hb dX11_setConstant_29 rfl rfl ?_
      refine z_get (v := .ref (ad 10)) S hK inX11 0 (fun _ => rfl) rfl 37 (by decide) q6_134 rfl rfl dX11_setConstant_30 ?_
      refine z_iload_n (j := 1) hx hb dX11_setConstant_33 rfl rfl ?_
      have h34 := And.left hok
      have hok := And.right hok
      refine z_zald (f := (gA q 10)) S hK 10 1 (fun _ => rfl) rfl h34 dX11_setConstant_34 ?_
      refine z_if_ne (tgt := 44) hx hb dX11_setConstant_35 (by decide) (fun g35 => ?_) (fun g35 => ?_)
      · have hF := hF.trans (if_neg g35)
        have hok := And.right hok g35
        refine z_aload_n (j := 0) hx hb dX11_setConstant_44 rfl rfl ?_
        refine z_get (v := .ref (ad 7)) S hK inX11 0 (fun _ => rfl) rfl 34 (by decide) q6_131 rfl rfl dX11_setConstant_45 ?_
        refine z_iload_n (j := 1) hx hb dX11_setConstant_48 rfl rfl ?_
        have h49 := And.left hok
        have hok := And.right hok
        refine z_iald (f := (gA q 7)) S hK 7 0 (fun _ => rfl) rfl h49 dX11_setConstant_49 ?_
        refine z_istore_n (lv' := [(3, .int ((gA q 7) (v1 : Int32).toNatClampNeg)), (0, .ref (ad 0)), (1, .int v1), (2, .int v2)]) hx hb dX11_setConstant_50 rfl (by decide) rfl ?_
        refine z_aload_n (j := 1) hx hb dX11_setConstant_51 rfl rfl ?_
        refine z_get (v := .ref (ad 7)) S hK inX11 0 (fun _ => rfl) rfl 34 (by decide) q6_131 rfl rfl dX11_setConstant_52 ?_
        refine z_iload_n (j := 2) hx hb dX11_setConstant_55 rfl rfl ?_
        refine z_iload_n (j := 3) hx hb dX11_setConstant_56 rfl rfl ?_
        have h57 := And.left hok
        have hok := And.right hok
        refine z_iast (f := (gA q 7)) (q' := (sA q 7 (upd (gA q 7) (v1 : Int32).toNatClampNeg v2))) S hK 7 0 (fun _ => rfl) rfl h57 dX11_setConstant_57 (wMa7 kc ad _ _) (fun _ h => h) ?_
        refine z_iload_n (j := 0) hx hb dX11_setConstant_58 rfl rfl ?_
        exact z_iret hx hb hlocks hr rfl hF dX11_setConstant_59
      · have hF := hF.trans (if_pos g35)
        have hok := And.left hok g35
        refine z_aload_n (j := 0) hx hb dX11_setConstant_38 rfl rfl ?_
        refine z_iconst (v := 3) hx hb dX11_setConstant_39 (by decide) ?_
        have h40 := And.left hok
        have hok := And.right hok
        refine z_callVi (As := [.int 3]) S (ctX11_refuse l D kc ad q 3 h40) (cwV 1 S.2.2.2.2 (gV q7_30 q7_32 qp2_8 q1_12 q7_33) rfl rfl rfl hX11_refuse ⟨Nat.le_of_ble_eq_true rfl, Nat.le_of_ble_eq_true rfl⟩) hA (pbM D kc) (psM hK) (z_recv hK 0 (fun _ => rfl) rfl) rfl rfl (Nat.le_of_ble_eq_true rfl) dX11_setConstant_40 ⟨Nat.le_of_ble_eq_true rfl, Nat.le_of_ble_eq_true rfl⟩ ?_
        exact z_iret hx hb hlocks hr rfl hF dX11_setConstant_43
    · have hF := hF.trans (if_pos g20)
      have hok := And.left hok g20
      refine z_aload_n (j := 0) hx hb dX11_setConstant_23 rfl rfl ?_
      refine z_iconst (v := 2) hx hb dX11_setConstant_24 (by decide) ?_
      have h25 := And.left hok
      have hok := And.right hok
      refine z_callVi (As := [.int 2]) S (ctX11_refuse l D kc ad q 2 h25) (cwV 1 S.2.2.2.2 (gV q7_30 q7_32 qp2_8 q1_12 q7_33) rfl rfl rfl hX11_refuse ⟨Nat.le_of_ble_eq_true rfl, Nat.le_of_ble_eq_true rfl⟩) hA (pbM D kc) (psM hK) (z_recv hK 0 (fun _ => rfl) rfl) rfl rfl (Nat.le_of_ble_eq_true rfl) dX11_setConstant_25 ⟨Nat.le_of_ble_eq_true rfl, Nat.le_of_ble_eq_true rfl⟩ ?_
      exact z_iret hx hb hlocks hr rfl hF dX11_setConstant_28
  have b7 : ∀ (q : SS) (v1 : Int32) (v2 : Int32) (s0 : Int32), kX11_setConstant_7 q v1 v2 s0 → F = fX11_setConstant_7 q v1 v2 s0 → Z p l e (zr 2 0 0) s m args below meth c 0 0 (MQ below (va_Qi (fun (x : Int32) (_ : Unit) => x = F.1) (fun _ t => (GM D kc ad) A F.2 t.heap) A) args s 0 0 A) 4 A (ZG D vwCl (wM kc ad) (fun _ tl => tl = []) A) q 7 [(0, .ref (ad 0)), (1, .int v1), (2, .int v2)] [.int s0] := by
    intro q v1 v2 s0 hok hF
    refine z_if_eq (tgt := 12) hx hb dX11_setConstant_7 (by decide) (fun g7 => ?_) (fun g7 => ?_)
    · have hF := hF.trans (if_pos g7)
      have hok := And.left hok g7
      refine z_iload_n (j := 2) hx hb dX11_setConstant_12 rfl rfl ?_
      refine z_iconst (v := 0) hx hb dX11_setConstant_13 (by decide) ?_
      refine z_sipush (v := 255) hx hb dX11_setConstant_14 (by decide) ?_
      have h17 := And.left hok
      have hok := And.right hok
      refine z_callSi (As := [.int v2, .int 0, .int 255]) S (ctX11_isIn l D kc ad q v2 0 255 h17) (va_cwS 3 S.2.2.2.2 (gS q7_21 q7_22 q1_12 q7_23) rfl rfl rfl hX11_isIn ⟨Nat.le_of_ble_eq_true rfl, Nat.le_of_ble_eq_true rfl⟩) hA (pbM D kc) (psM hK) rfl rfl (Nat.le_of_ble_eq_true rfl) dX11_setConstant_17 ⟨Nat.le_of_ble_eq_true rfl, Nat.le_of_ble_eq_true rfl⟩ ?_
      exact b20 (fX11_isIn q v2 0 255).2 v1 v2 (fX11_isIn q v2 0 255).1 hok hF
    · have hF := hF.trans (if_neg g7)
      have hok := And.right hok g7
      refine z_iconst (v := 0) hx hb dX11_setConstant_10 (by decide) ?_
      exact z_iret hx hb hlocks hr rfl hF dX11_setConstant_11
  refine z_aload_n (j := 0) hx hb dX11_setConstant_0 rfl rfl ?_
  refine z_iload_n (j := 1) hx hb dX11_setConstant_1 rfl rfl ?_
  refine z_bipush (v := 80) hx hb dX11_setConstant_2 (by decide) ?_
  have h4 := And.left hok
  have hok := And.right hok
  refine z_callVi (As := [.int v1, .int 80]) S (ctX11_out l D kc ad q v1 80 h4) (cwV 2 S.2.2.2.2 (gV q7_17 q7_19 qp2_7 q1_12 q7_20) rfl rfl rfl hX11_out ⟨Nat.le_of_ble_eq_true rfl, Nat.le_of_ble_eq_true rfl⟩) hA (pbM D kc) (psM hK) (z_recv hK 0 (fun _ => rfl) rfl) rfl rfl (Nat.le_of_ble_eq_true rfl) dX11_setConstant_4 ⟨Nat.le_of_ble_eq_true rfl, Nat.le_of_ble_eq_true rfl⟩ ?_
  exact b7 (fX11_out q v1 80).2 v1 v2 (fX11_out q v1 80).1 hok hF
theorem hX11_setConstant : yX11_setConstant.cls = RX11 ∧ yX11_setConstant.cls ≠ "java/lang/invoke/MethodHandle" ∧ yX11_setConstant.cls ≠ "java/lang/invoke/VarHandle" ∧ (parseMethodDescriptor yX11_setConstant.desc).map (fun d => d.parameters.length) = some 2 := by decide +kernel
def fX11_reason_80 (q : SS) (s0 : Int32) : Int32 × SS := (s0, q)
def kX11_reason_80 (q : SS) (s0 : Int32) : Prop := narrow .char (.int s0) = .int s0 ∧ True
def fX11_reason_75 (q : SS) (s0 : Int32) : Int32 × SS := fX11_reason_80 q s0
def kX11_reason_75 (q : SS) (s0 : Int32) : Prop := kX11_reason_80 q s0
def fX11_reason_55 (q : SS) (v1 : Int32) (v2 : Int32) (v3 : Int32) (v4 : Int32) (v5 : Int32) (s0 : Int32) : Int32 × SS := (if s0 = 0 then fX11_reason_75 (fX11_forbidden (sI q 0 s0) v1 v2 v3 v4 v5).2 (fX11_forbidden (sI q 0 s0) v1 v2 v3 v4 v5).1 else fX11_reason_80 (sI q 0 s0) 45)
def kX11_reason_55 (q : SS) (v1 : Int32) (v2 : Int32) (v3 : Int32) (v4 : Int32) (v5 : Int32) (s0 : Int32) : Prop := ((s0 = 0 → kX11_forbidden (sI q 0 s0) v1 v2 v3 v4 v5 ∧ kX11_reason_75 (fX11_forbidden (sI q 0 s0) v1 v2 v3 v4 v5).2 (fX11_forbidden (sI q 0 s0) v1 v2 v3 v4 v5).1) ∧ (¬ s0 = 0 → kX11_reason_80 (sI q 0 s0) 45))
def fX11_reason_54 (q : SS) (v1 : Int32) (v2 : Int32) (v3 : Int32) (v4 : Int32) (v5 : Int32) : Int32 × SS := fX11_reason_55 q v1 v2 v3 v4 v5 1
def kX11_reason_54 (q : SS) (v1 : Int32) (v2 : Int32) (v3 : Int32) (v4 : Int32) (v5 : Int32) : Prop := kX11_reason_55 q v1 v2 v3 v4 v5 1
def fX11_reason_47 (q : SS) (v1 : Int32) (v2 : Int32) (v3 : Int32) (v4 : Int32) (v5 : Int32) (s0 : Int32) : Int32 × SS := (if s0 = 0 then fX11_reason_54 q v1 v2 v3 v4 v5 else fX11_reason_55 q v1 v2 v3 v4 v5 0)
def kX11_reason_47 (q : SS) (v1 : Int32) (v2 : Int32) (v3 : Int32) (v4 : Int32) (v5 : Int32) (s0 : Int32) : Prop := ((s0 = 0 → kX11_reason_54 q v1 v2 v3 v4 v5) ∧ (¬ s0 = 0 → kX11_reason_55 q v1 v2 v3 v4 v5 0))
def fX11_reason_36 (q : SS) (v1 : Int32) (v2 : Int32) (v3 : Int32) (v4 : Int32) (v5 : Int32) (s0 : Int32) : Int32 × SS := (if s0 = 0 then fX11_reason_54 q v1 v2 v3 v4 v5 else fX11_reason_47 (fX11_isIn q v5 0 7).2 v1 v2 v3 v4 v5 (fX11_isIn q v5 0 7).1)
def kX11_reason_36 (q : SS) (v1 : Int32) (v2 : Int32) (v3 : Int32) (v4 : Int32) (v5 : Int32) (s0 : Int32) : Prop := ((s0 = 0 → kX11_reason_54 q v1 v2 v3 v4 v5) ∧ (¬ s0 = 0 → kX11_isIn q v5 0 7 ∧ kX11_reason_47 (fX11_isIn q v5 0 7).2 v1 v2 v3 v4 v5 (fX11_isIn q v5 0 7).1))
def fX11_reason_28 (q : SS) (v1 : Int32) (v2 : Int32) (v3 : Int32) (v4 : Int32) (v5 : Int32) (s0 : Int32) : Int32 × SS := (if s0 = 0 then fX11_reason_54 q v1 v2 v3 v4 v5 else fX11_reason_36 (fX11_isOrder q v4).2 v1 v2 v3 v4 v5 (fX11_isOrder q v4).1)
def kX11_reason_28 (q : SS) (v1 : Int32) (v2 : Int32) (v3 : Int32) (v4 : Int32) (v5 : Int32) (s0 : Int32) : Prop := ((s0 = 0 → kX11_reason_54 q v1 v2 v3 v4 v5) ∧ (¬ s0 = 0 → kX11_isOrder q v4 ∧ kX11_reason_36 (fX11_isOrder q v4).2 v1 v2 v3 v4 v5 (fX11_isOrder q v4).1))
def fX11_reason_19 (q : SS) (v1 : Int32) (v2 : Int32) (v3 : Int32) (v4 : Int32) (v5 : Int32) (s0 : Int32) : Int32 × SS := (if s0 = 0 then fX11_reason_54 q v1 v2 v3 v4 v5 else fX11_reason_28 (fX11_isIn q v3 0 2).2 v1 v2 v3 v4 v5 (fX11_isIn q v3 0 2).1)
def kX11_reason_19 (q : SS) (v1 : Int32) (v2 : Int32) (v3 : Int32) (v4 : Int32) (v5 : Int32) (s0 : Int32) : Prop := ((s0 = 0 → kX11_reason_54 q v1 v2 v3 v4 v5) ∧ (¬ s0 = 0 → kX11_isIn q v3 0 2 ∧ kX11_reason_28 (fX11_isIn q v3 0 2).2 v1 v2 v3 v4 v5 (fX11_isIn q v3 0 2).1))
def fX11_reason_8 (q : SS) (v1 : Int32) (v2 : Int32) (v3 : Int32) (v4 : Int32) (v5 : Int32) (s0 : Int32) : Int32 × SS := (if s0 = 0 then fX11_reason_54 q v1 v2 v3 v4 v5 else fX11_reason_19 (fX11_isIn q v2 0 255).2 v1 v2 v3 v4 v5 (fX11_isIn q v2 0 255).1)
def kX11_reason_8 (q : SS) (v1 : Int32) (v2 : Int32) (v3 : Int32) (v4 : Int32) (v5 : Int32) (s0 : Int32) : Prop := ((s0 = 0 → kX11_reason_54 q v1 v2 v3 v4 v5) ∧ (¬ s0 = 0 → kX11_isIn q v2 0 255 ∧ kX11_reason_19 (fX11_isIn q v2 0 255).2 v1 v2 v3 v4 v5 (fX11_isIn q v2 0 255).1))
def fX11_reason (q : SS) (v1 : Int32) (v2 : Int32) (v3 : Int32) (v4 : Int32) (v5 : Int32) : Int32 × SS := fX11_reason_8 (fX11_isIn q v1 0 127).2 v1 v2 v3 v4 v5 (fX11_isIn q v1 0 127).1
def kX11_reason (q : SS) (v1 : Int32) (v2 : Int32) (v3 : Int32) (v4 : Int32) (v5 : Int32) : Prop := kX11_isIn q v1 0 127 ∧ kX11_reason_8 (fX11_isIn q v1 0 127).2 v1 v2 v3 v4 v5 (fX11_isIn q v1 0 127).1
set_option maxHeartbeats 4000000 in
set_option maxRecDepth 100000 in
theorem ctX11_reason (l : Launch) (D : va_G) (kc : Nat → ClassId) (ad : Nat → Nat) (q : SS) (v1 : Int32) (v2 : Int32) (v3 : Int32) (v4 : Int32) (v5 : Int32) (hok : kX11_reason q v1 v2 v3 v4 v5) : Ci l yX11_reason (Cond.code yX11_reason cX11_reason 6 (some .char) :: lw_G) (zr 2 0 0) 0 0 (PM D kc) (GM D kc ad) (GM D kc ad) [.ref (ad 0), .int v1, .int v2, .int v3, .int v4, .int v5] q (fX11_reason q v1 v2 v3 v4 v5) := by
  refine Ci.of (cc := cX11_reason) (maxL := 6) (ret := (some .char)) (by decide) rfl (Nat.le_of_ble_eq_true rfl) ?_
  intro p e s m args below meth c A S hr hlocks hin hA hK
  have hx := S.1
  have hb := S.2.1
  have hK : va_K D vwCl (tysK kc) s := hK
  generalize hFe : fX11_reason q v1 v2 v3 v4 v5 = F
  have hF : F = fX11_reason q v1 v2 v3 v4 v5 := hFe.symm
  have b80 : ∀ (q : SS) (s0 : Int32), kX11_reason_80 q s0 → F = fX11_reason_80 q s0 → Z p l e (zr 2 0 0) s m args below meth c 0 0 (MQ below (va_Qi (fun (x : Int32) (_ : Unit) => x = F.1) (fun _ t => (GM D kc ad) A F.2 t.heap) A) args s 0 0 A) 6 A (ZG D vwCl (wM kc ad) (fun _ tl => tl = []) A) q 80 [] [.int s0] := by
    intro q s0 hok hF
    have h80 := And.left hok
    have hok := And.right hok
    exact z_iret hx hb hlocks hr h80 hF dX11_reason_80
  have b75 : ∀ (q : SS) (s0 : Int32), kX11_reason_75 q s0 → F = fX11_reason_75 q s0 → Z p l e (zr 2 0 0) s m args below meth c 0 0 (MQ below (va_Qi (fun (x : Int32) (_ : Unit) => x = F.1) (fun _ t => (GM D kc ad) A F.2 t.heap) A) args s 0 0 A) 6 A (ZG D vwCl (wM kc ad) (fun _ tl => tl = []) A) q 75 [] [.int s0] := by
    intro q s0 hok hF
    refine z_goto (tgt := 80) hx hb dX11_reason_75 (by decide) ?_
    exact b80 q s0 hok hF
  have b55 : ∀ (q : SS) (v1 : Int32) (v2 : Int32) (v3 : Int32) (v4 : Int32) (v5 : Int32) (s0 : Int32), kX11_reason_55 q v1 v2 v3 v4 v5 s0 → F = fX11_reason_55 q v1 v2 v3 v4 v5 s0 → Z p l e (zr 2 0 0) s m args below meth c 0 0 (MQ below (va_Qi (fun (x : Int32) (_ : Unit) => x = F.1) (fun _ t => (GM D kc ad) A F.2 t.heap) A) args s 0 0 A) 6 A (ZG D vwCl (wM kc ad) (fun _ tl => tl = []) A) q 55 [(0, .ref (ad 0)), (1, .int v1), (2, .int v2), (3, .int v3), (4, .int v4), (5, .int v5)] [.int s0, .ref (ad 0)] := by
    intro q v1 v2 v3 v4 v5 s0 hok hF
    refine z_put (v := .int s0) (q' := (sI q 0 s0)) S hK inX11 tyX11 tyX11_ok nmX11 0 (fun _ => rfl) rfl 0 (by decide) q6_97 rfl rfl rfl rfl (Nat.le_of_ble_eq_true rfl) dX11_reason_55 (wMp0 kc ad _ _) (fun _ h => h) ?_
    refine z_aload_n (j := 0) hx hb dX11_reason_58 rfl rfl ?_
    refine z_get (v := .int s0) S hK inX11 0 (fun _ => rfl) rfl 0 (by decide) q6_97 rfl rfl dX11_reason_59 ?_
    refine z_if_ne (tgt := 78) hx hb dX11_reason_62 (by decide) (fun g62 => ?_) (fun g62 => ?_)
    · have hF := hF.trans (if_neg g62)
      have hok := And.right hok g62
      refine z_bipush (v := 45) hx hb dX11_reason_78 (by decide) ?_
      refine z_sub [] rfl ?_
      exact b80 (sI q 0 s0) 45 hok hF
    · have hF := hF.trans (if_pos g62)
      have hok := And.left hok g62
      refine z_iload_n (j := 1) hx hb dX11_reason_65 rfl rfl ?_
      refine z_iload_n (j := 2) hx hb dX11_reason_66 rfl rfl ?_
      refine z_iload_n (j := 3) hx hb dX11_reason_67 rfl rfl ?_
      refine z_iload (j := 4) hx hb dX11_reason_68 rfl ?_
      refine z_iload (j := 5) hx hb dX11_reason_70 rfl ?_
      have h72 := And.left hok
      have hok := And.right hok
      refine z_callSi (As := [.int v1, .int v2, .int v3, .int v4, .int v5]) S (ctX11_forbidden l D kc ad (sI q 0 s0) v1 v2 v3 v4 v5 h72) (va_cwS 5 S.2.2.2.2 (gS q7_34 q7_35 q1_12 q7_36) rfl rfl rfl hX11_forbidden ⟨Nat.le_of_ble_eq_true rfl, Nat.le_of_ble_eq_true rfl⟩) hA (pbM D kc) (psM hK) rfl rfl (Nat.le_of_ble_eq_true rfl) dX11_reason_72 ⟨Nat.le_of_ble_eq_true rfl, Nat.le_of_ble_eq_true rfl⟩ ?_
      refine z_sub [] rfl ?_
      exact b75 (fX11_forbidden (sI q 0 s0) v1 v2 v3 v4 v5).2 (fX11_forbidden (sI q 0 s0) v1 v2 v3 v4 v5).1 hok hF
  have b54 : ∀ (q : SS) (v1 : Int32) (v2 : Int32) (v3 : Int32) (v4 : Int32) (v5 : Int32), kX11_reason_54 q v1 v2 v3 v4 v5 → F = fX11_reason_54 q v1 v2 v3 v4 v5 → Z p l e (zr 2 0 0) s m args below meth c 0 0 (MQ below (va_Qi (fun (x : Int32) (_ : Unit) => x = F.1) (fun _ t => (GM D kc ad) A F.2 t.heap) A) args s 0 0 A) 6 A (ZG D vwCl (wM kc ad) (fun _ tl => tl = []) A) q 54 [(0, .ref (ad 0)), (1, .int v1), (2, .int v2), (3, .int v3), (4, .int v4), (5, .int v5)] [.ref (ad 0)] := by
    intro q v1 v2 v3 v4 v5 hok hF
    refine z_iconst (v := 1) hx hb dX11_reason_54 (by decide) ?_
    exact b55 q v1 v2 v3 v4 v5 1 hok hF
  have b47 : ∀ (q : SS) (v1 : Int32) (v2 : Int32) (v3 : Int32) (v4 : Int32) (v5 : Int32) (s0 : Int32), kX11_reason_47 q v1 v2 v3 v4 v5 s0 → F = fX11_reason_47 q v1 v2 v3 v4 v5 s0 → Z p l e (zr 2 0 0) s m args below meth c 0 0 (MQ below (va_Qi (fun (x : Int32) (_ : Unit) => x = F.1) (fun _ t => (GM D kc ad) A F.2 t.heap) A) args s 0 0 A) 6 A (ZG D vwCl (wM kc ad) (fun _ tl => tl = []) A) q 47 [(0, .ref (ad 0)), (1, .int v1), (2, .int v2), (3, .int v3), (4, .int v4), (5, .int v5)] [.int s0, .ref (ad 0)] := by
    intro q v1 v2 v3 v4 v5 s0 hok hF
    refine z_if_eq (tgt := 54) hx hb dX11_reason_47 (by decide) (fun g47 => ?_) (fun g47 => ?_)
    · have hF := hF.trans (if_pos g47)
      have hok := And.left hok g47
      exact b54 q v1 v2 v3 v4 v5 hok hF
    · have hF := hF.trans (if_neg g47)
      have hok := And.right hok g47
      refine z_iconst (v := 0) hx hb dX11_reason_50 (by decide) ?_
      refine z_goto (tgt := 55) hx hb dX11_reason_51 (by decide) ?_
      exact b55 q v1 v2 v3 v4 v5 0 hok hF
  have b36 : ∀ (q : SS) (v1 : Int32) (v2 : Int32) (v3 : Int32) (v4 : Int32) (v5 : Int32) (s0 : Int32), kX11_reason_36 q v1 v2 v3 v4 v5 s0 → F = fX11_reason_36 q v1 v2 v3 v4 v5 s0 → Z p l e (zr 2 0 0) s m args below meth c 0 0 (MQ below (va_Qi (fun (x : Int32) (_ : Unit) => x = F.1) (fun _ t => (GM D kc ad) A F.2 t.heap) A) args s 0 0 A) 6 A (ZG D vwCl (wM kc ad) (fun _ tl => tl = []) A) q 36 [(0, .ref (ad 0)), (1, .int v1), (2, .int v2), (3, .int v3), (4, .int v4), (5, .int v5)] [.int s0, .ref (ad 0)] := by
    intro q v1 v2 v3 v4 v5 s0 hok hF
    refine z_if_eq (tgt := 54) hx hb dX11_reason_36 (by decide) (fun g36 => ?_) (fun g36 => ?_)
    · have hF := hF.trans (if_pos g36)
      have hok := And.left hok g36
      exact b54 q v1 v2 v3 v4 v5 hok hF
    · have hF := hF.trans (if_neg g36)
      have hok := And.right hok g36
      refine z_iload (j := 5) hx hb dX11_reason_39 rfl ?_
      refine z_iconst (v := 0) hx hb dX11_reason_41 (by decide) ?_
      refine z_bipush (v := 7) hx hb dX11_reason_42 (by decide) ?_
      have h44 := And.left hok
      have hok := And.right hok
      refine z_callSi (As := [.int v5, .int 0, .int 7]) S (ctX11_isIn l D kc ad q v5 0 7 h44) (va_cwS 3 S.2.2.2.2 (gS q7_21 q7_22 q1_12 q7_23) rfl rfl rfl hX11_isIn ⟨Nat.le_of_ble_eq_true rfl, Nat.le_of_ble_eq_true rfl⟩) hA (pbM D kc) (psM hK) rfl rfl (Nat.le_of_ble_eq_true rfl) dX11_reason_44 ⟨Nat.le_of_ble_eq_true rfl, Nat.le_of_ble_eq_true rfl⟩ ?_
      exact b47 (fX11_isIn q v5 0 7).2 v1 v2 v3 v4 v5 (fX11_isIn q v5 0 7).1 hok hF
  have b28 : ∀ (q : SS) (v1 : Int32) (v2 : Int32) (v3 : Int32) (v4 : Int32) (v5 : Int32) (s0 : Int32), kX11_reason_28 q v1 v2 v3 v4 v5 s0 → F = fX11_reason_28 q v1 v2 v3 v4 v5 s0 → Z p l e (zr 2 0 0) s m args below meth c 0 0 (MQ below (va_Qi (fun (x : Int32) (_ : Unit) => x = F.1) (fun _ t => (GM D kc ad) A F.2 t.heap) A) args s 0 0 A) 6 A (ZG D vwCl (wM kc ad) (fun _ tl => tl = []) A) q 28 [(0, .ref (ad 0)), (1, .int v1), (2, .int v2), (3, .int v3), (4, .int v4), (5, .int v5)] [.int s0, .ref (ad 0)] := by
    intro q v1 v2 v3 v4 v5 s0 hok hF
    refine z_if_eq (tgt := 54) hx hb dX11_reason_28 (by decide) (fun g28 => ?_) (fun g28 => ?_)
    · have hF := hF.trans (if_pos g28)
      have hok := And.left hok g28
      exact b54 q v1 v2 v3 v4 v5 hok hF
    · have hF := hF.trans (if_neg g28)
      have hok := And.right hok g28
      refine z_iload (j := 4) hx hb dX11_reason_31 rfl ?_
      have h33 := And.left hok
      have hok := And.right hok
      refine z_callSi (As := [.int v4]) S (ctX11_isOrder l D kc ad q v4 h33) (va_cwS 1 S.2.2.2.2 (gS q7_24 q7_25 q1_12 q7_26) rfl rfl rfl hX11_isOrder ⟨Nat.le_of_ble_eq_true rfl, Nat.le_of_ble_eq_true rfl⟩) hA (pbM D kc) (psM hK) rfl rfl (Nat.le_of_ble_eq_true rfl) dX11_reason_33 ⟨Nat.le_of_ble_eq_true rfl, Nat.le_of_ble_eq_true rfl⟩ ?_
      exact b36 (fX11_isOrder q v4).2 v1 v2 v3 v4 v5 (fX11_isOrder q v4).1 hok hF
  have b19 : ∀ (q : SS) (v1 : Int32) (v2 : Int32) (v3 : Int32) (v4 : Int32) (v5 : Int32) (s0 : Int32), kX11_reason_19 q v1 v2 v3 v4 v5 s0 → F = fX11_reason_19 q v1 v2 v3 v4 v5 s0 → Z p l e (zr 2 0 0) s m args below meth c 0 0 (MQ below (va_Qi (fun (x : Int32) (_ : Unit) => x = F.1) (fun _ t => (GM D kc ad) A F.2 t.heap) A) args s 0 0 A) 6 A (ZG D vwCl (wM kc ad) (fun _ tl => tl = []) A) q 19 [(0, .ref (ad 0)), (1, .int v1), (2, .int v2), (3, .int v3), (4, .int v4), (5, .int v5)] [.int s0, .ref (ad 0)] := by
    intro q v1 v2 v3 v4 v5 s0 hok hF
    refine z_if_eq (tgt := 54) hx hb dX11_reason_19 (by decide) (fun g19 => ?_) (fun g19 => ?_)
    · have hF := hF.trans (if_pos g19)
      have hok := And.left hok g19
      exact b54 q v1 v2 v3 v4 v5 hok hF
    · have hF := hF.trans (if_neg g19)
      have hok := And.right hok g19
      refine z_iload_n (j := 3) hx hb dX11_reason_22 rfl rfl ?_
      refine z_iconst (v := 0) hx hb dX11_reason_23 (by decide) ?_
      refine z_iconst (v := 2) hx hb dX11_reason_24 (by decide) ?_
      have h25 := And.left hok
      have hok := And.right hok
      refine z_callSi (As := [.int v3, .int 0, .int 2]) S (ctX11_isIn l D kc ad q v3 0 2 h25) (va_cwS 3 S.2.2.2.2 (gS q7_21 q7_22 q1_12 q7_23) rfl rfl rfl hX11_isIn ⟨Nat.le_of_ble_eq_true rfl, Nat.le_of_ble_eq_true rfl⟩) hA (pbM D kc) (psM hK) rfl rfl (Nat.le_of_ble_eq_true rfl) dX11_reason_25 ⟨Nat.le_of_ble_eq_true rfl, Nat.le_of_ble_eq_true rfl⟩ ?_
      exact b28 (fX11_isIn q v3 0 2).2 v1 v2 v3 v4 v5 (fX11_isIn q v3 0 2).1 hok hF
  have b8 : ∀ (q : SS) (v1 : Int32) (v2 : Int32) (v3 : Int32) (v4 : Int32) (v5 : Int32) (s0 : Int32), kX11_reason_8 q v1 v2 v3 v4 v5 s0 → F = fX11_reason_8 q v1 v2 v3 v4 v5 s0 → Z p l e (zr 2 0 0) s m args below meth c 0 0 (MQ below (va_Qi (fun (x : Int32) (_ : Unit) => x = F.1) (fun _ t => (GM D kc ad) A F.2 t.heap) A) args s 0 0 A) 6 A (ZG D vwCl (wM kc ad) (fun _ tl => tl = []) A) q 8 [(0, .ref (ad 0)), (1, .int v1), (2, .int v2), (3, .int v3), (4, .int v4), (5, .int v5)] [.int s0, .ref (ad 0)] := by
    intro q v1 v2 v3 v4 v5 s0 hok hF
    refine z_if_eq (tgt := 54) hx hb dX11_reason_8 (by decide) (fun g8 => ?_) (fun g8 => ?_)
    · have hF := hF.trans (if_pos g8)
      have hok := And.left hok g8
      exact b54 q v1 v2 v3 v4 v5 hok hF
    · have hF := hF.trans (if_neg g8)
      have hok := And.right hok g8
      refine z_iload_n (j := 2) hx hb dX11_reason_11 rfl rfl ?_
      refine z_iconst (v := 0) hx hb dX11_reason_12 (by decide) ?_
      refine z_sipush (v := 255) hx hb dX11_reason_13 (by decide) ?_
      have h16 := And.left hok
      have hok := And.right hok
      refine z_callSi (As := [.int v2, .int 0, .int 255]) S (ctX11_isIn l D kc ad q v2 0 255 h16) (va_cwS 3 S.2.2.2.2 (gS q7_21 q7_22 q1_12 q7_23) rfl rfl rfl hX11_isIn ⟨Nat.le_of_ble_eq_true rfl, Nat.le_of_ble_eq_true rfl⟩) hA (pbM D kc) (psM hK) rfl rfl (Nat.le_of_ble_eq_true rfl) dX11_reason_16 ⟨Nat.le_of_ble_eq_true rfl, Nat.le_of_ble_eq_true rfl⟩ ?_
      exact b19 (fX11_isIn q v2 0 255).2 v1 v2 v3 v4 v5 (fX11_isIn q v2 0 255).1 hok hF
  refine z_aload_n (j := 0) hx hb dX11_reason_0 rfl rfl ?_
  refine z_iload_n (j := 1) hx hb dX11_reason_1 rfl rfl ?_
  refine z_iconst (v := 0) hx hb dX11_reason_2 (by decide) ?_
  refine z_bipush (v := 127) hx hb dX11_reason_3 (by decide) ?_
  have h5 := And.left hok
  have hok := And.right hok
  refine z_callSi (As := [.int v1, .int 0, .int 127]) S (ctX11_isIn l D kc ad q v1 0 127 h5) (va_cwS 3 S.2.2.2.2 (gS q7_21 q7_22 q1_12 q7_23) rfl rfl rfl hX11_isIn ⟨Nat.le_of_ble_eq_true rfl, Nat.le_of_ble_eq_true rfl⟩) hA (pbM D kc) (psM hK) rfl rfl (Nat.le_of_ble_eq_true rfl) dX11_reason_5 ⟨Nat.le_of_ble_eq_true rfl, Nat.le_of_ble_eq_true rfl⟩ ?_
  exact b8 (fX11_isIn q v1 0 127).2 v1 v2 v3 v4 v5 (fX11_isIn q v1 0 127).1 hok hF
theorem hX11_reason : yX11_reason.cls = RX11 ∧ yX11_reason.cls ≠ "java/lang/invoke/MethodHandle" ∧ yX11_reason.cls ≠ "java/lang/invoke/VarHandle" ∧ (parseMethodDescriptor yX11_reason.desc).map (fun d => d.parameters.length) = some 5 := by decide +kernel
def fX11_isFree_23 (q : SS) (s0 : Int32) : Int32 × SS := (s0, q)
def kX11_isFree_23 (q : SS) (s0 : Int32) : Prop := narrow .boolean (.int s0) = .int s0 ∧ True
def fX11_isFree_22 (q : SS) : Int32 × SS := fX11_isFree_23 q 0
def kX11_isFree_22 (q : SS) : Prop := kX11_isFree_23 q 0
def fX11_isFree (q : SS) (v1 : Int32) : Int32 × SS := (if ((gA q 10) (v1 : Int32).toNatClampNeg) = 0 then (if ((gA q 12) (v1 : Int32).toNatClampNeg) = 0 then fX11_isFree_23 q 1 else fX11_isFree_22 q) else fX11_isFree_22 q)
def kX11_isFree (q : SS) (v1 : Int32) : Prop := vp_in v1 80 ∧ ((((gA q 10) (v1 : Int32).toNatClampNeg) = 0 → vp_in v1 80 ∧ ((((gA q 12) (v1 : Int32).toNatClampNeg) = 0 → kX11_isFree_23 q 1) ∧ (¬ ((gA q 12) (v1 : Int32).toNatClampNeg) = 0 → kX11_isFree_22 q))) ∧ (¬ ((gA q 10) (v1 : Int32).toNatClampNeg) = 0 → kX11_isFree_22 q))
set_option maxHeartbeats 4000000 in
set_option maxRecDepth 100000 in
theorem ctX11_isFree (l : Launch) (D : va_G) (kc : Nat → ClassId) (ad : Nat → Nat) (q : SS) (v1 : Int32) (hok : kX11_isFree q v1) : Ci l yX11_isFree (Cond.code yX11_isFree cX11_isFree 2 (some .boolean) :: lw_G) (zr 0 0 0) 0 0 (PM D kc) (GM D kc ad) (GM D kc ad) [.ref (ad 0), .int v1] q (fX11_isFree q v1) := by
  refine Ci.of (cc := cX11_isFree) (maxL := 2) (ret := (some .boolean)) (by decide) rfl (Nat.le_of_ble_eq_true rfl) ?_
  intro p e s m args below meth c A S hr hlocks hin hA hK
  have hx := S.1
  have hb := S.2.1
  have hK : va_K D vwCl (tysK kc) s := hK
  generalize hFe : fX11_isFree q v1 = F
  have hF : F = fX11_isFree q v1 := hFe.symm
  have b23 : ∀ (q : SS) (s0 : Int32), kX11_isFree_23 q s0 → F = fX11_isFree_23 q s0 → Z p l e (zr 0 0 0) s m args below meth c 0 0 (MQ below (va_Qi (fun (x : Int32) (_ : Unit) => x = F.1) (fun _ t => (GM D kc ad) A F.2 t.heap) A) args s 0 0 A) 2 A (ZG D vwCl (wM kc ad) (fun _ tl => tl = []) A) q 23 [] [.int s0] := by
    intro q s0 hok hF
    have h23 := And.left hok
    have hok := And.right hok
    exact z_iret hx hb hlocks hr h23 hF dX11_isFree_23
  have b22 : ∀ (q : SS), kX11_isFree_22 q → F = fX11_isFree_22 q → Z p l e (zr 0 0 0) s m args below meth c 0 0 (MQ below (va_Qi (fun (x : Int32) (_ : Unit) => x = F.1) (fun _ t => (GM D kc ad) A F.2 t.heap) A) args s 0 0 A) 2 A (ZG D vwCl (wM kc ad) (fun _ tl => tl = []) A) q 22 [] [] := by
    intro q hok hF
    refine z_iconst (v := 0) hx hb dX11_isFree_22 (by decide) ?_
    exact b23 q 0 hok hF
  refine z_aload_n (j := 0) hx hb dX11_isFree_0 rfl rfl ?_
  refine z_get (v := .ref (ad 10)) S hK inX11 0 (fun _ => rfl) rfl 37 (by decide) q6_134 rfl rfl dX11_isFree_1 ?_
  refine z_iload_n (j := 1) hx hb dX11_isFree_4 rfl rfl ?_
  have h5 := And.left hok
  have hok := And.right hok
  refine z_zald (f := (gA q 10)) S hK 10 1 (fun _ => rfl) rfl h5 dX11_isFree_5 ?_
  refine z_if_ne (tgt := 22) hx hb dX11_isFree_6 (by decide) (fun g6 => ?_) (fun g6 => ?_)
  · have hF := hF.trans (if_neg g6)
    have hok := And.right hok g6
    refine z_sub [] rfl ?_
    exact b22 q hok hF
  · have hF := hF.trans (if_pos g6)
    have hok := And.left hok g6
    refine z_aload_n (j := 0) hx hb dX11_isFree_9 rfl rfl ?_
    refine z_get (v := .ref (ad 12)) S hK inX11 0 (fun _ => rfl) rfl 39 (by decide) q6_136 rfl rfl dX11_isFree_10 ?_
    refine z_iload_n (j := 1) hx hb dX11_isFree_13 rfl rfl ?_
    have h14 := And.left hok
    have hok := And.right hok
    refine z_zald (f := (gA q 12)) S hK 12 1 (fun _ => rfl) rfl h14 dX11_isFree_14 ?_
    refine z_if_ne (tgt := 22) hx hb dX11_isFree_15 (by decide) (fun g15 => ?_) (fun g15 => ?_)
    · have hF := hF.trans (if_neg g15)
      have hok := And.right hok g15
      refine z_sub [] rfl ?_
      exact b22 q hok hF
    · have hF := hF.trans (if_pos g15)
      have hok := And.left hok g15
      refine z_iconst (v := 1) hx hb dX11_isFree_18 (by decide) ?_
      refine z_goto (tgt := 23) hx hb dX11_isFree_19 (by decide) ?_
      refine z_sub [] rfl ?_
      exact b23 q 1 hok hF
theorem hX11_isFree : yX11_isFree.cls = RX11 ∧ yX11_isFree.cls ≠ "java/lang/invoke/MethodHandle" ∧ yX11_isFree.cls ≠ "java/lang/invoke/VarHandle" ∧ (parseMethodDescriptor yX11_isFree.desc).map (fun d => d.parameters.length) = some 1 := by decide +kernel
def fX11_free_24 (k4 : SS → Int32 → Int32 → Int32 × SS) (q : SS) (v2 : Int32) (s0 : Int32) (s1 : Int32) : Int32 × SS := k4 q (s1 + s0) (v2 + 1)
def kX11_free_24 (kk4 : SS → Int32 → Int32 → Prop) (q : SS) (v2 : Int32) (s0 : Int32) (s1 : Int32) : Prop := kk4 q (s1 + s0) (v2 + 1)
def fX11_free_16 (k4 : SS → Int32 → Int32 → Int32 × SS) (q : SS) (v2 : Int32) (s0 : Int32) (s1 : Int32) : Int32 × SS := (if s0 = 0 then fX11_free_24 k4 q v2 0 s1 else fX11_free_24 k4 q v2 1 s1)
def kX11_free_16 (kk4 : SS → Int32 → Int32 → Prop) (q : SS) (v2 : Int32) (s0 : Int32) (s1 : Int32) : Prop := ((s0 = 0 → kX11_free_24 kk4 q v2 0 s1) ∧ (¬ s0 = 0 → kX11_free_24 kk4 q v2 1 s1))
def fX11_free_4 : Nat → SS → Int32 → Int32 → Int32 × SS
  | 0, q, _, _ => (0, q)
  | n + 1, q, v1, v2 => (if 64 ≤ v2 then (v1, q) else fX11_free_16 (fX11_free_4 n) (fX11_isFree q v2).2 v2 (fX11_isFree q v2).1 v1)
def kX11_free_4 : Nat → SS → Int32 → Int32 → Prop
  | 0, _, _, _ => False
  | n + 1, q, v1, v2 => ((64 ≤ v2 → True) ∧ (¬ 64 ≤ v2 → kX11_isFree q v2 ∧ kX11_free_16 (kX11_free_4 n) (fX11_isFree q v2).2 v2 (fX11_isFree q v2).1 v1))
def fX11_free (q : SS) : Int32 × SS := fX11_free_4 130 q 0 0
def kX11_free (q : SS) : Prop := kX11_free_4 130 q 0 0
set_option maxHeartbeats 4000000 in
set_option maxRecDepth 100000 in
theorem ctX11_free (l : Launch) (D : va_G) (kc : Nat → ClassId) (ad : Nat → Nat) (q : SS) (hok : kX11_free q) : Ci l yX11_free (Cond.code yX11_free cX11_free 3 (some .int) :: lw_G) (zr 1 0 0) 0 0 (PM D kc) (GM D kc ad) (GM D kc ad) [.ref (ad 0)] q (fX11_free q) := by
  refine Ci.of (cc := cX11_free) (maxL := 3) (ret := (some .int)) (by decide) rfl (Nat.le_of_ble_eq_true rfl) ?_
  intro p e s m args below meth c A S hr hlocks hin hA hK
  have hx := S.1
  have hb := S.2.1
  have hK : va_K D vwCl (tysK kc) s := hK
  generalize hFe : fX11_free q = F
  have hF : F = fX11_free q := hFe.symm
  have b24 : ∀ (k4 : SS → Int32 → Int32 → Int32 × SS) (kk4 : SS → Int32 → Int32 → Prop) (_ : ∀ (q : SS) (v1 : Int32) (v2 : Int32), kk4 q v1 v2 → F = k4 q v1 v2 → Z p l e (zr 1 0 0) s m args below meth c 0 0 (MQ below (va_Qi (fun (x : Int32) (_ : Unit) => x = F.1) (fun _ t => (GM D kc ad) A F.2 t.heap) A) args s 0 0 A) 3 A (ZG D vwCl (wM kc ad) (fun _ tl => tl = []) A) q 4 [(0, .ref (ad 0)), (1, .int v1), (2, .int v2)] []) (q : SS) (v2 : Int32) (s0 : Int32) (s1 : Int32), kX11_free_24 kk4 q v2 s0 s1 → F = fX11_free_24 k4 q v2 s0 s1 → Z p l e (zr 1 0 0) s m args below meth c 0 0 (MQ below (va_Qi (fun (x : Int32) (_ : Unit) => x = F.1) (fun _ t => (GM D kc ad) A F.2 t.heap) A) args s 0 0 A) 3 A (ZG D vwCl (wM kc ad) (fun _ tl => tl = []) A) q 24 [(0, .ref (ad 0)), (2, .int v2)] [.int s0, .int s1] := by
    intro k4 kk4 hk4 q v2 s0 s1 hok hF
    refine z_iadd hx hb dX11_free_24 ?_
    refine z_istore_n (lv' := [(1, .int (s1 + s0)), (0, .ref (ad 0)), (2, .int v2)]) hx hb dX11_free_25 rfl (by decide) rfl ?_
    refine z_iinc (k := 2) (v := (v2 + 1)) (lv' := [(2, .int (v2 + 1)), (1, .int (s1 + s0)), (0, .ref (ad 0))]) hx hb dX11_free_26 rfl rfl (by decide) rfl ?_
    refine z_goto (tgt := 4) hx hb dX11_free_29 (by decide) ?_
    refine z_sub [2, 1, 0] rfl ?_
    exact hk4 q (s1 + s0) (v2 + 1) hok hF
  have b16 : ∀ (k4 : SS → Int32 → Int32 → Int32 × SS) (kk4 : SS → Int32 → Int32 → Prop) (_ : ∀ (q : SS) (v1 : Int32) (v2 : Int32), kk4 q v1 v2 → F = k4 q v1 v2 → Z p l e (zr 1 0 0) s m args below meth c 0 0 (MQ below (va_Qi (fun (x : Int32) (_ : Unit) => x = F.1) (fun _ t => (GM D kc ad) A F.2 t.heap) A) args s 0 0 A) 3 A (ZG D vwCl (wM kc ad) (fun _ tl => tl = []) A) q 4 [(0, .ref (ad 0)), (1, .int v1), (2, .int v2)] []) (q : SS) (v2 : Int32) (s0 : Int32) (s1 : Int32), kX11_free_16 kk4 q v2 s0 s1 → F = fX11_free_16 k4 q v2 s0 s1 → Z p l e (zr 1 0 0) s m args below meth c 0 0 (MQ below (va_Qi (fun (x : Int32) (_ : Unit) => x = F.1) (fun _ t => (GM D kc ad) A F.2 t.heap) A) args s 0 0 A) 3 A (ZG D vwCl (wM kc ad) (fun _ tl => tl = []) A) q 16 [(0, .ref (ad 0)), (2, .int v2)] [.int s0, .int s1] := by
    intro k4 kk4 hk4 q v2 s0 s1 hok hF
    refine z_if_eq (tgt := 23) hx hb dX11_free_16 (by decide) (fun g16 => ?_) (fun g16 => ?_)
    · have hF := hF.trans (if_pos g16)
      have hok := And.left hok g16
      refine z_iconst (v := 0) hx hb dX11_free_23 (by decide) ?_
      exact b24 k4 kk4 hk4 q v2 0 s1 hok hF
    · have hF := hF.trans (if_neg g16)
      have hok := And.right hok g16
      refine z_iconst (v := 1) hx hb dX11_free_19 (by decide) ?_
      refine z_goto (tgt := 24) hx hb dX11_free_20 (by decide) ?_
      exact b24 k4 kk4 hk4 q v2 1 s1 hok hF
  have b4 : ∀ (n : Nat) (q : SS) (v1 : Int32) (v2 : Int32), kX11_free_4 n q v1 v2 → F = fX11_free_4 n q v1 v2 → Z p l e (zr 1 0 0) s m args below meth c 0 0 (MQ below (va_Qi (fun (x : Int32) (_ : Unit) => x = F.1) (fun _ t => (GM D kc ad) A F.2 t.heap) A) args s 0 0 A) 3 A (ZG D vwCl (wM kc ad) (fun _ tl => tl = []) A) q 4 [(0, .ref (ad 0)), (1, .int v1), (2, .int v2)] [] := by
    intro n
    induction n with
    | zero => intro q v1 v2 hok hF; exact False.elim hok
    | succ n ih =>
      intro q v1 v2 hok hF
      refine z_iload_n (j := 2) hx hb dX11_free_4 rfl rfl ?_
      refine z_bipush (v := 64) hx hb dX11_free_5 (by decide) ?_
      refine z_icmp_ge (tgt := 32) hx hb dX11_free_7 (by decide) (fun g7 => ?_) (fun g7 => ?_)
      · have hF := hF.trans (if_pos g7)
        have hok := And.left hok g7
        refine z_iload_n (j := 1) hx hb dX11_free_32 rfl rfl ?_
        exact z_iret hx hb hlocks hr rfl hF dX11_free_33
      · have hF := hF.trans (if_neg g7)
        have hok := And.right hok g7
        refine z_iload_n (j := 1) hx hb dX11_free_10 rfl rfl ?_
        refine z_aload_n (j := 0) hx hb dX11_free_11 rfl rfl ?_
        refine z_iload_n (j := 2) hx hb dX11_free_12 rfl rfl ?_
        have h13 := And.left hok
        have hok := And.right hok
        refine z_callVi (As := [.int v2]) S (ctX11_isFree l D kc ad q v2 h13) (cwV 1 S.2.2.2.2 (gV q7_57 q7_59 qp2_10 q1_12 q7_60) rfl rfl rfl hX11_isFree ⟨Nat.le_of_ble_eq_true rfl, Nat.le_of_ble_eq_true rfl⟩) hA (pbM D kc) (psM hK) (z_recv hK 0 (fun _ => rfl) rfl) rfl rfl (Nat.le_of_ble_eq_true rfl) dX11_free_13 ⟨Nat.le_of_ble_eq_true rfl, Nat.le_of_ble_eq_true rfl⟩ ?_
        refine z_sub [0, 2] rfl ?_
        exact b16 (fX11_free_4 n) (kX11_free_4 n) ih (fX11_isFree q v2).2 v2 (fX11_isFree q v2).1 v1 hok hF
  refine z_iconst (v := 0) hx hb dX11_free_0 (by decide) ?_
  refine z_istore_n (lv' := [(1, .int 0), (0, .ref (ad 0))]) hx hb dX11_free_1 rfl (by decide) rfl ?_
  refine z_iconst (v := 0) hx hb dX11_free_2 (by decide) ?_
  refine z_istore_n (lv' := [(2, .int 0), (1, .int 0), (0, .ref (ad 0))]) hx hb dX11_free_3 rfl (by decide) rfl ?_
  refine z_sub [2, 1, 0] rfl ?_
  exact b4 130 q 0 0 hok hF
theorem hX11_free : yX11_free.cls = RX11 ∧ yX11_free.cls ≠ "java/lang/invoke/MethodHandle" ∧ yX11_free.cls ≠ "java/lang/invoke/VarHandle" ∧ (parseMethodDescriptor yX11_free.desc).map (fun d => d.parameters.length) = some 0 := by decide +kernel
def fX11_reserve_73 : Nat → SS → Int32 → Int32 → Int32 → Int32 × SS
  | 0, q, _, _, _ => (0, q)
  | n + 1, q, v1, v2, v4 => (if v1 ≤ v4 then (v2, (sI q 0 0)) else fX11_reserve_73 n (sA q 12 (upd (gA q 12) ((v2 + v4) : Int32).toNatClampNeg (vp_nar .boolean 1))) v1 v2 (v4 + 1))
def kX11_reserve_73 : Nat → SS → Int32 → Int32 → Int32 → Prop
  | 0, _, _, _, _ => False
  | n + 1, q, v1, v2, v4 => ((v1 ≤ v4 → True) ∧ (¬ v1 ≤ v4 → vp_in (v2 + v4) 80 ∧ kX11_reserve_73 n (sA q 12 (upd (gA q 12) ((v2 + v4) : Int32).toNatClampNeg (vp_nar .boolean 1))) v1 v2 (v4 + 1)))
def fX11_reserve_55 (k29 : SS → Int32 → Int32 → Int32 × SS) (k40 : SS → Int32 → Int32 → Int32 → Int32 → Int32 × SS) (q : SS) (v1 : Int32) (v2 : Int32) (v4 : Int32) (s0 : Int32) (s1 : Int32) : Int32 × SS := k40 q v1 v2 (s1 &&& s0) (v4 + 1)
def kX11_reserve_55 (kk29 : SS → Int32 → Int32 → Prop) (kk40 : SS → Int32 → Int32 → Int32 → Int32 → Prop) (q : SS) (v1 : Int32) (v2 : Int32) (v4 : Int32) (s0 : Int32) (s1 : Int32) : Prop := kk40 q v1 v2 (s1 &&& s0) (v4 + 1)
def fX11_reserve_40 (k29 : SS → Int32 → Int32 → Int32 × SS) : Nat → SS → Int32 → Int32 → Int32 → Int32 → Int32 × SS
  | 0, q, _, _, _, _ => (0, q)
  | n + 1, q, v1, v2, v3, v4 => (if v1 ≤ v4 then (if v3 = 0 then k29 q v1 (v2 + v1) else fX11_reserve_73 130 q v1 v2 0) else fX11_reserve_55 k29 (fX11_reserve_40 k29 n) (fX11_isFree q (v2 + v4)).2 v1 v2 v4 (fX11_isFree q (v2 + v4)).1 v3)
def kX11_reserve_40 (kk29 : SS → Int32 → Int32 → Prop) : Nat → SS → Int32 → Int32 → Int32 → Int32 → Prop
  | 0, _, _, _, _, _ => False
  | n + 1, q, v1, v2, v3, v4 => ((v1 ≤ v4 → ((v3 = 0 → kk29 q v1 (v2 + v1)) ∧ (¬ v3 = 0 → kX11_reserve_73 130 q v1 v2 0))) ∧ (¬ v1 ≤ v4 → kX11_isFree q (v2 + v4) ∧ kX11_reserve_55 kk29 (kX11_reserve_40 kk29 n) (fX11_isFree q (v2 + v4)).2 v1 v2 v4 (fX11_isFree q (v2 + v4)).1 v3))
def fX11_reserve_29 : Nat → SS → Int32 → Int32 → Int32 × SS
  | 0, q, _, _ => (0, q)
  | n + 1, q, v1, v2 => (if 64 ≤ v2 then ((fX11_refuse q 2).1, (fX11_refuse q 2).2) else fX11_reserve_40 (fX11_reserve_29 n) 130 q v1 v2 1 0)
def kX11_reserve_29 : Nat → SS → Int32 → Int32 → Prop
  | 0, _, _, _ => False
  | n + 1, q, v1, v2 => ((64 ≤ v2 → kX11_refuse q 2 ∧ True) ∧ (¬ 64 ≤ v2 → kX11_reserve_40 (kX11_reserve_29 n) 130 q v1 v2 1 0))
def fX11_reserve_27 (q : SS) (v1 : Int32) : Int32 × SS := fX11_reserve_29 130 q v1 0
def kX11_reserve_27 (q : SS) (v1 : Int32) : Prop := kX11_reserve_29 130 q v1 0
def fX11_reserve (q : SS) (v1 : Int32) : Int32 × SS := (if v1 = 1 then fX11_reserve_27 q v1 else (if v1 = 2 then fX11_reserve_27 q v1 else (if v1 = 4 then fX11_reserve_27 q v1 else (if v1 = 8 then fX11_reserve_27 q v1 else ((fX11_refuse q 1).1, (fX11_refuse q 1).2)))))
def kX11_reserve (q : SS) (v1 : Int32) : Prop := ((v1 = 1 → kX11_reserve_27 q v1) ∧ (¬ v1 = 1 → ((v1 = 2 → kX11_reserve_27 q v1) ∧ (¬ v1 = 2 → ((v1 = 4 → kX11_reserve_27 q v1) ∧ (¬ v1 = 4 → ((v1 = 8 → kX11_reserve_27 q v1) ∧ (¬ v1 = 8 → kX11_refuse q 1 ∧ True))))))))
set_option maxHeartbeats 4000000 in
set_option maxRecDepth 100000 in
theorem ctX11_reserve (l : Launch) (D : va_G) (kc : Nat → ClassId) (ad : Nat → Nat) (q : SS) (v1 : Int32) (hok : kX11_reserve q v1) : Ci l yX11_reserve (Cond.code yX11_reserve cX11_reserve 5 (some .int) :: lw_G) (zr 1 0 0) 0 0 (PM D kc) (GM D kc ad) (GM D kc ad) [.ref (ad 0), .int v1] q (fX11_reserve q v1) := by
  refine Ci.of (cc := cX11_reserve) (maxL := 5) (ret := (some .int)) (by decide) rfl (Nat.le_of_ble_eq_true rfl) ?_
  intro p e s m args below meth c A S hr hlocks hin hA hK
  have hx := S.1
  have hb := S.2.1
  have hK : va_K D vwCl (tysK kc) s := hK
  generalize hFe : fX11_reserve q v1 = F
  have hF : F = fX11_reserve q v1 := hFe.symm
  have b73 : ∀ (n : Nat) (q : SS) (v1 : Int32) (v2 : Int32) (v4 : Int32), kX11_reserve_73 n q v1 v2 v4 → F = fX11_reserve_73 n q v1 v2 v4 → Z p l e (zr 1 0 0) s m args below meth c 0 0 (MQ below (va_Qi (fun (x : Int32) (_ : Unit) => x = F.1) (fun _ t => (GM D kc ad) A F.2 t.heap) A) args s 0 0 A) 5 A (ZG D vwCl (wM kc ad) (fun _ tl => tl = []) A) q 73 [(0, .ref (ad 0)), (1, .int v1), (2, .int v2), (4, .int v4)] [] := by
    intro n
    induction n with
    | zero => intro q v1 v2 v4 hok hF; exact False.elim hok
    | succ n ih =>
      intro q v1 v2 v4 hok hF
      refine z_iload (j := 3) hx hb dX11_reserve_73 rfl ?_
      refine z_iload_n (j := 1) hx hb dX11_reserve_75 rfl rfl ?_
      refine z_icmp_ge (tgt := 95) hx hb dX11_reserve_76 (by decide) (fun g76 => ?_) (fun g76 => ?_)
      · have hF := hF.trans (if_pos g76)
        have hok := And.left hok g76
        refine z_aload_n (j := 0) hx hb dX11_reserve_95 rfl rfl ?_
        refine z_iconst (v := 0) hx hb dX11_reserve_96 (by decide) ?_
        refine z_put (v := .int 0) (q' := (sI q 0 0)) S hK inX11 tyX11 tyX11_ok nmX11 0 (fun _ => rfl) rfl 0 (by decide) q6_97 rfl rfl rfl rfl (Nat.le_of_ble_eq_true rfl) dX11_reserve_97 (wMp0 kc ad _ _) (fun _ h => h) ?_
        refine z_iload_n (j := 2) hx hb dX11_reserve_100 rfl rfl ?_
        exact z_iret hx hb hlocks hr rfl hF dX11_reserve_101
      · have hF := hF.trans (if_neg g76)
        have hok := And.right hok g76
        refine z_aload_n (j := 0) hx hb dX11_reserve_79 rfl rfl ?_
        refine z_get (v := .ref (ad 12)) S hK inX11 0 (fun _ => rfl) rfl 39 (by decide) q6_136 rfl rfl dX11_reserve_80 ?_
        refine z_iload_n (j := 2) hx hb dX11_reserve_83 rfl rfl ?_
        refine z_iload (j := 3) hx hb dX11_reserve_84 rfl ?_
        refine z_iadd hx hb dX11_reserve_86 ?_
        refine z_iconst (v := 1) hx hb dX11_reserve_87 (by decide) ?_
        have h88 := And.left hok
        have hok := And.right hok
        refine z_zast (f := (gA q 12)) (q' := (sA q 12 (upd (gA q 12) ((v2 + v4) : Int32).toNatClampNeg (vp_nar .boolean 1)))) S hK 12 1 (fun _ => rfl) rfl h88 dX11_reserve_88 (wMa12 kc ad _ _) (fun _ h => h) ?_
        refine z_iinc (k := 3) (v := (v4 + 1)) (lv' := [(4, .int (v4 + 1)), (0, .ref (ad 0)), (1, .int v1), (2, .int v2)]) hx hb dX11_reserve_89 rfl rfl (by decide) rfl ?_
        refine z_goto (tgt := 73) hx hb dX11_reserve_92 (by decide) ?_
        refine z_sub [1, 2, 3, 0] rfl ?_
        exact ih (sA q 12 (upd (gA q 12) ((v2 + v4) : Int32).toNatClampNeg (vp_nar .boolean 1))) v1 v2 (v4 + 1) hok hF
  have b55 : ∀ (k29 : SS → Int32 → Int32 → Int32 × SS) (kk29 : SS → Int32 → Int32 → Prop) (_ : ∀ (q : SS) (v1 : Int32) (v2 : Int32), kk29 q v1 v2 → F = k29 q v1 v2 → Z p l e (zr 1 0 0) s m args below meth c 0 0 (MQ below (va_Qi (fun (x : Int32) (_ : Unit) => x = F.1) (fun _ t => (GM D kc ad) A F.2 t.heap) A) args s 0 0 A) 5 A (ZG D vwCl (wM kc ad) (fun _ tl => tl = []) A) q 29 [(0, .ref (ad 0)), (1, .int v1), (2, .int v2)] []) (k40 : SS → Int32 → Int32 → Int32 → Int32 → Int32 × SS) (kk40 : SS → Int32 → Int32 → Int32 → Int32 → Prop) (_ : ∀ (q : SS) (v1 : Int32) (v2 : Int32) (v3 : Int32) (v4 : Int32), kk40 q v1 v2 v3 v4 → F = k40 q v1 v2 v3 v4 → Z p l e (zr 1 0 0) s m args below meth c 0 0 (MQ below (va_Qi (fun (x : Int32) (_ : Unit) => x = F.1) (fun _ t => (GM D kc ad) A F.2 t.heap) A) args s 0 0 A) 5 A (ZG D vwCl (wM kc ad) (fun _ tl => tl = []) A) q 40 [(0, .ref (ad 0)), (1, .int v1), (2, .int v2), (3, .int v3), (4, .int v4)] []) (q : SS) (v1 : Int32) (v2 : Int32) (v4 : Int32) (s0 : Int32) (s1 : Int32), kX11_reserve_55 kk29 kk40 q v1 v2 v4 s0 s1 → F = fX11_reserve_55 k29 k40 q v1 v2 v4 s0 s1 → Z p l e (zr 1 0 0) s m args below meth c 0 0 (MQ below (va_Qi (fun (x : Int32) (_ : Unit) => x = F.1) (fun _ t => (GM D kc ad) A F.2 t.heap) A) args s 0 0 A) 5 A (ZG D vwCl (wM kc ad) (fun _ tl => tl = []) A) q 55 [(0, .ref (ad 0)), (1, .int v1), (2, .int v2), (4, .int v4)] [.int s0, .int s1] := by
    intro k29 kk29 hk29 k40 kk40 hk40 q v1 v2 v4 s0 s1 hok hF
    refine z_iand hx hb dX11_reserve_55 ?_
    refine z_istore_n (lv' := [(3, .int (s1 &&& s0)), (0, .ref (ad 0)), (1, .int v1), (2, .int v2), (4, .int v4)]) hx hb dX11_reserve_56 rfl (by decide) rfl ?_
    refine z_iinc (k := 4) (v := (v4 + 1)) (lv' := [(4, .int (v4 + 1)), (3, .int (s1 &&& s0)), (0, .ref (ad 0)), (1, .int v1), (2, .int v2)]) hx hb dX11_reserve_57 rfl rfl (by decide) rfl ?_
    refine z_goto (tgt := 40) hx hb dX11_reserve_60 (by decide) ?_
    refine z_sub [2, 3, 4, 1, 0] rfl ?_
    exact hk40 q v1 v2 (s1 &&& s0) (v4 + 1) hok hF
  have b40 : ∀  (k29 : SS → Int32 → Int32 → Int32 × SS) (kk29 : SS → Int32 → Int32 → Prop) (_ : ∀ (q : SS) (v1 : Int32) (v2 : Int32), kk29 q v1 v2 → F = k29 q v1 v2 → Z p l e (zr 1 0 0) s m args below meth c 0 0 (MQ below (va_Qi (fun (x : Int32) (_ : Unit) => x = F.1) (fun _ t => (GM D kc ad) A F.2 t.heap) A) args s 0 0 A) 5 A (ZG D vwCl (wM kc ad) (fun _ tl => tl = []) A) q 29 [(0, .ref (ad 0)), (1, .int v1), (2, .int v2)] []) (n : Nat) (q : SS) (v1 : Int32) (v2 : Int32) (v3 : Int32) (v4 : Int32), kX11_reserve_40 kk29 n q v1 v2 v3 v4 → F = fX11_reserve_40 k29 n q v1 v2 v3 v4 → Z p l e (zr 1 0 0) s m args below meth c 0 0 (MQ below (va_Qi (fun (x : Int32) (_ : Unit) => x = F.1) (fun _ t => (GM D kc ad) A F.2 t.heap) A) args s 0 0 A) 5 A (ZG D vwCl (wM kc ad) (fun _ tl => tl = []) A) q 40 [(0, .ref (ad 0)), (1, .int v1), (2, .int v2), (3, .int v3), (4, .int v4)] [] := by
    intro k29 kk29 hk29 n
    induction n with
    | zero => intro q v1 v2 v3 v4 hok hF; exact False.elim hok
    | succ n ih =>
      intro q v1 v2 v3 v4 hok hF
      refine z_iload (j := 4) hx hb dX11_reserve_40 rfl ?_
      refine z_iload_n (j := 1) hx hb dX11_reserve_42 rfl rfl ?_
      refine z_icmp_ge (tgt := 63) hx hb dX11_reserve_43 (by decide) (fun g43 => ?_) (fun g43 => ?_)
      · have hF := hF.trans (if_pos g43)
        have hok := And.left hok g43
        refine z_iload_n (j := 3) hx hb dX11_reserve_63 rfl rfl ?_
        refine z_if_ne (tgt := 70) hx hb dX11_reserve_64 (by decide) (fun g64 => ?_) (fun g64 => ?_)
        · have hF := hF.trans (if_neg g64)
          have hok := And.right hok g64
          refine z_iconst (v := 0) hx hb dX11_reserve_70 (by decide) ?_
          refine z_istore (lv' := [(4, .int 0), (0, .ref (ad 0)), (1, .int v1), (2, .int v2), (3, .int v3)]) hx hb dX11_reserve_71 (by decide) rfl ?_
          refine z_sub [1, 2, 3, 0] rfl ?_
          exact b73 130 q v1 v2 0 hok hF
        · have hF := hF.trans (if_pos g64)
          have hok := And.left hok g64
          refine z_goto (tgt := 102) hx hb dX11_reserve_67 (by decide) ?_
          refine z_iload_n (j := 2) hx hb dX11_reserve_102 rfl rfl ?_
          refine z_iload_n (j := 1) hx hb dX11_reserve_103 rfl rfl ?_
          refine z_iadd hx hb dX11_reserve_104 ?_
          refine z_istore_n (lv' := [(2, .int (v2 + v1)), (0, .ref (ad 0)), (1, .int v1), (3, .int v3), (4, .int v4)]) hx hb dX11_reserve_105 rfl (by decide) rfl ?_
          refine z_goto (tgt := 29) hx hb dX11_reserve_106 (by decide) ?_
          refine z_sub [1, 2, 0] rfl ?_
          exact hk29 q v1 (v2 + v1) hok hF
      · have hF := hF.trans (if_neg g43)
        have hok := And.right hok g43
        refine z_iload_n (j := 3) hx hb dX11_reserve_46 rfl rfl ?_
        refine z_aload_n (j := 0) hx hb dX11_reserve_47 rfl rfl ?_
        refine z_iload_n (j := 2) hx hb dX11_reserve_48 rfl rfl ?_
        refine z_iload (j := 4) hx hb dX11_reserve_49 rfl ?_
        refine z_iadd hx hb dX11_reserve_51 ?_
        have h52 := And.left hok
        have hok := And.right hok
        refine z_callVi (As := [.int (v2 + v4)]) S (ctX11_isFree l D kc ad q (v2 + v4) h52) (cwV 1 S.2.2.2.2 (gV q7_57 q7_59 qp2_10 q1_12 q7_60) rfl rfl rfl hX11_isFree ⟨Nat.le_of_ble_eq_true rfl, Nat.le_of_ble_eq_true rfl⟩) hA (pbM D kc) (psM hK) (z_recv hK 0 (fun _ => rfl) rfl) rfl rfl (Nat.le_of_ble_eq_true rfl) dX11_reserve_52 ⟨Nat.le_of_ble_eq_true rfl, Nat.le_of_ble_eq_true rfl⟩ ?_
        refine z_sub [0, 1, 2, 4] rfl ?_
        exact b55 k29 kk29 hk29 (fX11_reserve_40 k29 n) (kX11_reserve_40 kk29 n) ih (fX11_isFree q (v2 + v4)).2 v1 v2 v4 (fX11_isFree q (v2 + v4)).1 v3 hok hF
  have b29 : ∀ (n : Nat) (q : SS) (v1 : Int32) (v2 : Int32), kX11_reserve_29 n q v1 v2 → F = fX11_reserve_29 n q v1 v2 → Z p l e (zr 1 0 0) s m args below meth c 0 0 (MQ below (va_Qi (fun (x : Int32) (_ : Unit) => x = F.1) (fun _ t => (GM D kc ad) A F.2 t.heap) A) args s 0 0 A) 5 A (ZG D vwCl (wM kc ad) (fun _ tl => tl = []) A) q 29 [(0, .ref (ad 0)), (1, .int v1), (2, .int v2)] [] := by
    intro n
    induction n with
    | zero => intro q v1 v2 hok hF; exact False.elim hok
    | succ n ih =>
      intro q v1 v2 hok hF
      refine z_iload_n (j := 2) hx hb dX11_reserve_29 rfl rfl ?_
      refine z_bipush (v := 64) hx hb dX11_reserve_30 (by decide) ?_
      refine z_icmp_ge (tgt := 109) hx hb dX11_reserve_32 (by decide) (fun g32 => ?_) (fun g32 => ?_)
      · have hF := hF.trans (if_pos g32)
        have hok := And.left hok g32
        refine z_aload_n (j := 0) hx hb dX11_reserve_109 rfl rfl ?_
        refine z_iconst (v := 2) hx hb dX11_reserve_110 (by decide) ?_
        have h111 := And.left hok
        have hok := And.right hok
        refine z_callVi (As := [.int 2]) S (ctX11_refuse l D kc ad q 2 h111) (cwV 1 S.2.2.2.2 (gV q7_30 q7_32 qp2_8 q1_12 q7_33) rfl rfl rfl hX11_refuse ⟨Nat.le_of_ble_eq_true rfl, Nat.le_of_ble_eq_true rfl⟩) hA (pbM D kc) (psM hK) (z_recv hK 0 (fun _ => rfl) rfl) rfl rfl (Nat.le_of_ble_eq_true rfl) dX11_reserve_111 ⟨Nat.le_of_ble_eq_true rfl, Nat.le_of_ble_eq_true rfl⟩ ?_
        exact z_iret hx hb hlocks hr rfl hF dX11_reserve_114
      · have hF := hF.trans (if_neg g32)
        have hok := And.right hok g32
        refine z_iconst (v := 1) hx hb dX11_reserve_35 (by decide) ?_
        refine z_istore_n (lv' := [(3, .int 1), (0, .ref (ad 0)), (1, .int v1), (2, .int v2)]) hx hb dX11_reserve_36 rfl (by decide) rfl ?_
        refine z_iconst (v := 0) hx hb dX11_reserve_37 (by decide) ?_
        refine z_istore (lv' := [(4, .int 0), (3, .int 1), (0, .ref (ad 0)), (1, .int v1), (2, .int v2)]) hx hb dX11_reserve_38 (by decide) rfl ?_
        refine z_sub [2, 3, 4, 1, 0] rfl ?_
        exact b40 (fX11_reserve_29 n) (kX11_reserve_29 n) ih 130 q v1 v2 1 0 hok hF
  have b27 : ∀ (q : SS) (v1 : Int32), kX11_reserve_27 q v1 → F = fX11_reserve_27 q v1 → Z p l e (zr 1 0 0) s m args below meth c 0 0 (MQ below (va_Qi (fun (x : Int32) (_ : Unit) => x = F.1) (fun _ t => (GM D kc ad) A F.2 t.heap) A) args s 0 0 A) 5 A (ZG D vwCl (wM kc ad) (fun _ tl => tl = []) A) q 27 [(0, .ref (ad 0)), (1, .int v1)] [] := by
    intro q v1 hok hF
    refine z_iconst (v := 0) hx hb dX11_reserve_27 (by decide) ?_
    refine z_istore_n (lv' := [(2, .int 0), (0, .ref (ad 0)), (1, .int v1)]) hx hb dX11_reserve_28 rfl (by decide) rfl ?_
    refine z_sub [1, 2, 0] rfl ?_
    exact b29 130 q v1 0 hok hF
  refine z_iload_n (j := 1) hx hb dX11_reserve_0 rfl rfl ?_
  refine z_iconst (v := 1) hx hb dX11_reserve_1 (by decide) ?_
  refine z_icmp_eq (tgt := 27) hx hb dX11_reserve_2 (by decide) (fun g2 => ?_) (fun g2 => ?_)
  · have hF := hF.trans (if_pos g2)
    have hok := And.left hok g2
    exact b27 q v1 hok hF
  · have hF := hF.trans (if_neg g2)
    have hok := And.right hok g2
    refine z_iload_n (j := 1) hx hb dX11_reserve_5 rfl rfl ?_
    refine z_iconst (v := 2) hx hb dX11_reserve_6 (by decide) ?_
    refine z_icmp_eq (tgt := 27) hx hb dX11_reserve_7 (by decide) (fun g7 => ?_) (fun g7 => ?_)
    · have hF := hF.trans (if_pos g7)
      have hok := And.left hok g7
      exact b27 q v1 hok hF
    · have hF := hF.trans (if_neg g7)
      have hok := And.right hok g7
      refine z_iload_n (j := 1) hx hb dX11_reserve_10 rfl rfl ?_
      refine z_iconst (v := 4) hx hb dX11_reserve_11 (by decide) ?_
      refine z_icmp_eq (tgt := 27) hx hb dX11_reserve_12 (by decide) (fun g12 => ?_) (fun g12 => ?_)
      · have hF := hF.trans (if_pos g12)
        have hok := And.left hok g12
        exact b27 q v1 hok hF
      · have hF := hF.trans (if_neg g12)
        have hok := And.right hok g12
        refine z_iload_n (j := 1) hx hb dX11_reserve_15 rfl rfl ?_
        refine z_bipush (v := 8) hx hb dX11_reserve_16 (by decide) ?_
        refine z_icmp_eq (tgt := 27) hx hb dX11_reserve_18 (by decide) (fun g18 => ?_) (fun g18 => ?_)
        · have hF := hF.trans (if_pos g18)
          have hok := And.left hok g18
          exact b27 q v1 hok hF
        · have hF := hF.trans (if_neg g18)
          have hok := And.right hok g18
          refine z_aload_n (j := 0) hx hb dX11_reserve_21 rfl rfl ?_
          refine z_iconst (v := 1) hx hb dX11_reserve_22 (by decide) ?_
          have h23 := And.left hok
          have hok := And.right hok
          refine z_callVi (As := [.int 1]) S (ctX11_refuse l D kc ad q 1 h23) (cwV 1 S.2.2.2.2 (gV q7_30 q7_32 qp2_8 q1_12 q7_33) rfl rfl rfl hX11_refuse ⟨Nat.le_of_ble_eq_true rfl, Nat.le_of_ble_eq_true rfl⟩) hA (pbM D kc) (psM hK) (z_recv hK 0 (fun _ => rfl) rfl) rfl rfl (Nat.le_of_ble_eq_true rfl) dX11_reserve_23 ⟨Nat.le_of_ble_eq_true rfl, Nat.le_of_ble_eq_true rfl⟩ ?_
          exact z_iret hx hb hlocks hr rfl hF dX11_reserve_26
theorem hX11_reserve : yX11_reserve.cls = RX11 ∧ yX11_reserve.cls ≠ "java/lang/invoke/MethodHandle" ∧ yX11_reserve.cls ≠ "java/lang/invoke/VarHandle" ∧ (parseMethodDescriptor yX11_reserve.desc).map (fun d => d.parameters.length) = some 1 := by decide +kernel
def fX11_setEntry_44 (q : SS) (v1 : Int32) (v2 : Int32) (v3 : Int32) (s0 : Int32) : Int32 × SS := (if s0 = 0 then ((fX11_refuse q 2).1, (fX11_refuse q 2).2) else (((gA q 14) (((16 * v1) + v2) : Int32).toNatClampNeg), (sA q 14 (upd (gA q 14) (((16 * v1) + v2) : Int32).toNatClampNeg v3))))
def kX11_setEntry_44 (q : SS) (v1 : Int32) (v2 : Int32) (v3 : Int32) (s0 : Int32) : Prop := ((s0 = 0 → kX11_refuse q 2 ∧ True) ∧ (¬ s0 = 0 → vp_in ((16 * v1) + v2) 32 ∧ vp_in ((16 * v1) + v2) 32 ∧ True))
def fX11_setEntry_25 (q : SS) (v1 : Int32) (v2 : Int32) (v3 : Int32) (s0 : Int32) : Int32 × SS := (if s0 = 0 then fX11_setEntry_44 (fX11_isIn (sI q 0 s0) v3 (-1) 79).2 v1 v2 v3 (fX11_isIn (sI q 0 s0) v3 (-1) 79).1 else (0, (sI q 0 s0)))
def kX11_setEntry_25 (q : SS) (v1 : Int32) (v2 : Int32) (v3 : Int32) (s0 : Int32) : Prop := ((s0 = 0 → kX11_isIn (sI q 0 s0) v3 (-1) 79 ∧ kX11_setEntry_44 (fX11_isIn (sI q 0 s0) v3 (-1) 79).2 v1 v2 v3 (fX11_isIn (sI q 0 s0) v3 (-1) 79).1) ∧ (¬ s0 = 0 → True))
def fX11_setEntry_24 (q : SS) (v1 : Int32) (v2 : Int32) (v3 : Int32) : Int32 × SS := fX11_setEntry_25 q v1 v2 v3 1
def kX11_setEntry_24 (q : SS) (v1 : Int32) (v2 : Int32) (v3 : Int32) : Prop := kX11_setEntry_25 q v1 v2 v3 1
def fX11_setEntry_17 (q : SS) (v1 : Int32) (v2 : Int32) (v3 : Int32) (s0 : Int32) : Int32 × SS := (if s0 = 0 then fX11_setEntry_24 q v1 v2 v3 else fX11_setEntry_25 q v1 v2 v3 0)
def kX11_setEntry_17 (q : SS) (v1 : Int32) (v2 : Int32) (v3 : Int32) (s0 : Int32) : Prop := ((s0 = 0 → kX11_setEntry_24 q v1 v2 v3) ∧ (¬ s0 = 0 → kX11_setEntry_25 q v1 v2 v3 0))
def fX11_setEntry_7 (q : SS) (v1 : Int32) (v2 : Int32) (v3 : Int32) (s0 : Int32) : Int32 × SS := (if s0 = 0 then fX11_setEntry_24 q v1 v2 v3 else fX11_setEntry_17 (fX11_isIn q v2 0 15).2 v1 v2 v3 (fX11_isIn q v2 0 15).1)
def kX11_setEntry_7 (q : SS) (v1 : Int32) (v2 : Int32) (v3 : Int32) (s0 : Int32) : Prop := ((s0 = 0 → kX11_setEntry_24 q v1 v2 v3) ∧ (¬ s0 = 0 → kX11_isIn q v2 0 15 ∧ kX11_setEntry_17 (fX11_isIn q v2 0 15).2 v1 v2 v3 (fX11_isIn q v2 0 15).1))
def fX11_setEntry (q : SS) (v1 : Int32) (v2 : Int32) (v3 : Int32) : Int32 × SS := fX11_setEntry_7 (fX11_isIn q v1 0 1).2 v1 v2 v3 (fX11_isIn q v1 0 1).1
def kX11_setEntry (q : SS) (v1 : Int32) (v2 : Int32) (v3 : Int32) : Prop := kX11_isIn q v1 0 1 ∧ kX11_setEntry_7 (fX11_isIn q v1 0 1).2 v1 v2 v3 (fX11_isIn q v1 0 1).1
set_option maxHeartbeats 4000000 in
set_option maxRecDepth 100000 in
theorem ctX11_setEntry (l : Launch) (D : va_G) (kc : Nat → ClassId) (ad : Nat → Nat) (q : SS) (v1 : Int32) (v2 : Int32) (v3 : Int32) (hok : kX11_setEntry q v1 v2 v3) : Ci l yX11_setEntry (Cond.code yX11_setEntry cX11_setEntry 5 (some .int) :: lw_G) (zr 1 0 0) 0 0 (PM D kc) (GM D kc ad) (GM D kc ad) [.ref (ad 0), .int v1, .int v2, .int v3] q (fX11_setEntry q v1 v2 v3) := by
  refine Ci.of (cc := cX11_setEntry) (maxL := 5) (ret := (some .int)) (by decide) rfl (Nat.le_of_ble_eq_true rfl) ?_
  intro p e s m args below meth c A S hr hlocks hin hA hK
  have hx := S.1
  have hb := S.2.1
  have hK : va_K D vwCl (tysK kc) s := hK
  generalize hFe : fX11_setEntry q v1 v2 v3 = F
  have hF : F = fX11_setEntry q v1 v2 v3 := hFe.symm
  have b44 : ∀ (q : SS) (v1 : Int32) (v2 : Int32) (v3 : Int32) (s0 : Int32), kX11_setEntry_44 q v1 v2 v3 s0 → F = fX11_setEntry_44 q v1 v2 v3 s0 → Z p l e (zr 1 0 0) s m args below meth c 0 0 (MQ below (va_Qi (fun (x : Int32) (_ : Unit) => x = F.1) (fun _ t => (GM D kc ad) A F.2 t.heap) A) args s 0 0 A) 5 A (ZG D vwCl (wM kc ad) (fun _ tl => tl = []) A) q 44 [(0, .ref (ad 0)), (1, .int v1), (2, .int v2), (3, .int v3)] [.int s0] := by
    intro q v1 v2 v3 s0 hok hF
    refine z_if_ne (tgt := 53) hx hb dX11_setEntry_44 (by decide) (fun g44 => ?_) (fun g44 => ?_)
    · have hF := hF.trans (if_neg g44)
      have hok := And.right hok g44
      refine z_aload_n (j := 0) hx hb dX11_setEntry_53 rfl rfl ?_
      refine z_get (v := .ref (ad 14)) S hK inX11 0 (fun _ => rfl) rfl 41 (by decide) q6_138 rfl rfl dX11_setEntry_54 ?_
      refine z_bipush (v := 16) hx hb dX11_setEntry_57 (by decide) ?_
      refine z_iload_n (j := 1) hx hb dX11_setEntry_59 rfl rfl ?_
      refine z_imul hx hb dX11_setEntry_60 ?_
      refine z_iload_n (j := 2) hx hb dX11_setEntry_61 rfl rfl ?_
      refine z_iadd hx hb dX11_setEntry_62 ?_
      have h63 := And.left hok
      have hok := And.right hok
      refine z_iald (f := (gA q 14)) S hK 14 0 (fun _ => rfl) rfl h63 dX11_setEntry_63 ?_
      refine z_istore (lv' := [(4, .int ((gA q 14) (((16 * v1) + v2) : Int32).toNatClampNeg)), (0, .ref (ad 0)), (1, .int v1), (2, .int v2), (3, .int v3)]) hx hb dX11_setEntry_64 (by decide) rfl ?_
      refine z_aload_n (j := 1) hx hb dX11_setEntry_66 rfl rfl ?_
      refine z_get (v := .ref (ad 14)) S hK inX11 0 (fun _ => rfl) rfl 41 (by decide) q6_138 rfl rfl dX11_setEntry_67 ?_
      refine z_bipush (v := 16) hx hb dX11_setEntry_70 (by decide) ?_
      refine z_iload_n (j := 2) hx hb dX11_setEntry_72 rfl rfl ?_
      refine z_imul hx hb dX11_setEntry_73 ?_
      refine z_iload_n (j := 3) hx hb dX11_setEntry_74 rfl rfl ?_
      refine z_iadd hx hb dX11_setEntry_75 ?_
      refine z_iload_n (j := 4) hx hb dX11_setEntry_76 rfl rfl ?_
      have h77 := And.left hok
      have hok := And.right hok
      refine z_iast (f := (gA q 14)) (q' := (sA q 14 (upd (gA q 14) (((16 * v1) + v2) : Int32).toNatClampNeg v3))) S hK 14 0 (fun _ => rfl) rfl h77 dX11_setEntry_77 (wMa14 kc ad _ _) (fun _ h => h) ?_
      refine z_iload (j := 0) hx hb dX11_setEntry_78 rfl ?_
      exact z_iret hx hb hlocks hr rfl hF dX11_setEntry_80
    · have hF := hF.trans (if_pos g44)
      have hok := And.left hok g44
      refine z_aload_n (j := 0) hx hb dX11_setEntry_47 rfl rfl ?_
      refine z_iconst (v := 2) hx hb dX11_setEntry_48 (by decide) ?_
      have h49 := And.left hok
      have hok := And.right hok
      refine z_callVi (As := [.int 2]) S (ctX11_refuse l D kc ad q 2 h49) (cwV 1 S.2.2.2.2 (gV q7_30 q7_32 qp2_8 q1_12 q7_33) rfl rfl rfl hX11_refuse ⟨Nat.le_of_ble_eq_true rfl, Nat.le_of_ble_eq_true rfl⟩) hA (pbM D kc) (psM hK) (z_recv hK 0 (fun _ => rfl) rfl) rfl rfl (Nat.le_of_ble_eq_true rfl) dX11_setEntry_49 ⟨Nat.le_of_ble_eq_true rfl, Nat.le_of_ble_eq_true rfl⟩ ?_
      exact z_iret hx hb hlocks hr rfl hF dX11_setEntry_52
  have b25 : ∀ (q : SS) (v1 : Int32) (v2 : Int32) (v3 : Int32) (s0 : Int32), kX11_setEntry_25 q v1 v2 v3 s0 → F = fX11_setEntry_25 q v1 v2 v3 s0 → Z p l e (zr 1 0 0) s m args below meth c 0 0 (MQ below (va_Qi (fun (x : Int32) (_ : Unit) => x = F.1) (fun _ t => (GM D kc ad) A F.2 t.heap) A) args s 0 0 A) 5 A (ZG D vwCl (wM kc ad) (fun _ tl => tl = []) A) q 25 [(0, .ref (ad 0)), (1, .int v1), (2, .int v2), (3, .int v3)] [.int s0, .ref (ad 0)] := by
    intro q v1 v2 v3 s0 hok hF
    refine z_put (v := .int s0) (q' := (sI q 0 s0)) S hK inX11 tyX11 tyX11_ok nmX11 0 (fun _ => rfl) rfl 0 (by decide) q6_97 rfl rfl rfl rfl (Nat.le_of_ble_eq_true rfl) dX11_setEntry_25 (wMp0 kc ad _ _) (fun _ h => h) ?_
    refine z_aload_n (j := 0) hx hb dX11_setEntry_28 rfl rfl ?_
    refine z_get (v := .int s0) S hK inX11 0 (fun _ => rfl) rfl 0 (by decide) q6_97 rfl rfl dX11_setEntry_29 ?_
    refine z_if_eq (tgt := 37) hx hb dX11_setEntry_32 (by decide) (fun g32 => ?_) (fun g32 => ?_)
    · have hF := hF.trans (if_pos g32)
      have hok := And.left hok g32
      refine z_iload_n (j := 3) hx hb dX11_setEntry_37 rfl rfl ?_
      refine z_iconst (v := (-1)) hx hb dX11_setEntry_38 (by decide) ?_
      refine z_bipush (v := 79) hx hb dX11_setEntry_39 (by decide) ?_
      have h41 := And.left hok
      have hok := And.right hok
      refine z_callSi (As := [.int v3, .int (-1), .int 79]) S (ctX11_isIn l D kc ad (sI q 0 s0) v3 (-1) 79 h41) (va_cwS 3 S.2.2.2.2 (gS q7_21 q7_22 q1_12 q7_23) rfl rfl rfl hX11_isIn ⟨Nat.le_of_ble_eq_true rfl, Nat.le_of_ble_eq_true rfl⟩) hA (pbM D kc) (psM hK) rfl rfl (Nat.le_of_ble_eq_true rfl) dX11_setEntry_41 ⟨Nat.le_of_ble_eq_true rfl, Nat.le_of_ble_eq_true rfl⟩ ?_
      exact b44 (fX11_isIn (sI q 0 s0) v3 (-1) 79).2 v1 v2 v3 (fX11_isIn (sI q 0 s0) v3 (-1) 79).1 hok hF
    · have hF := hF.trans (if_neg g32)
      have hok := And.right hok g32
      refine z_iconst (v := 0) hx hb dX11_setEntry_35 (by decide) ?_
      exact z_iret hx hb hlocks hr rfl hF dX11_setEntry_36
  have b24 : ∀ (q : SS) (v1 : Int32) (v2 : Int32) (v3 : Int32), kX11_setEntry_24 q v1 v2 v3 → F = fX11_setEntry_24 q v1 v2 v3 → Z p l e (zr 1 0 0) s m args below meth c 0 0 (MQ below (va_Qi (fun (x : Int32) (_ : Unit) => x = F.1) (fun _ t => (GM D kc ad) A F.2 t.heap) A) args s 0 0 A) 5 A (ZG D vwCl (wM kc ad) (fun _ tl => tl = []) A) q 24 [(0, .ref (ad 0)), (1, .int v1), (2, .int v2), (3, .int v3)] [.ref (ad 0)] := by
    intro q v1 v2 v3 hok hF
    refine z_iconst (v := 1) hx hb dX11_setEntry_24 (by decide) ?_
    exact b25 q v1 v2 v3 1 hok hF
  have b17 : ∀ (q : SS) (v1 : Int32) (v2 : Int32) (v3 : Int32) (s0 : Int32), kX11_setEntry_17 q v1 v2 v3 s0 → F = fX11_setEntry_17 q v1 v2 v3 s0 → Z p l e (zr 1 0 0) s m args below meth c 0 0 (MQ below (va_Qi (fun (x : Int32) (_ : Unit) => x = F.1) (fun _ t => (GM D kc ad) A F.2 t.heap) A) args s 0 0 A) 5 A (ZG D vwCl (wM kc ad) (fun _ tl => tl = []) A) q 17 [(0, .ref (ad 0)), (1, .int v1), (2, .int v2), (3, .int v3)] [.int s0, .ref (ad 0)] := by
    intro q v1 v2 v3 s0 hok hF
    refine z_if_eq (tgt := 24) hx hb dX11_setEntry_17 (by decide) (fun g17 => ?_) (fun g17 => ?_)
    · have hF := hF.trans (if_pos g17)
      have hok := And.left hok g17
      exact b24 q v1 v2 v3 hok hF
    · have hF := hF.trans (if_neg g17)
      have hok := And.right hok g17
      refine z_iconst (v := 0) hx hb dX11_setEntry_20 (by decide) ?_
      refine z_goto (tgt := 25) hx hb dX11_setEntry_21 (by decide) ?_
      exact b25 q v1 v2 v3 0 hok hF
  have b7 : ∀ (q : SS) (v1 : Int32) (v2 : Int32) (v3 : Int32) (s0 : Int32), kX11_setEntry_7 q v1 v2 v3 s0 → F = fX11_setEntry_7 q v1 v2 v3 s0 → Z p l e (zr 1 0 0) s m args below meth c 0 0 (MQ below (va_Qi (fun (x : Int32) (_ : Unit) => x = F.1) (fun _ t => (GM D kc ad) A F.2 t.heap) A) args s 0 0 A) 5 A (ZG D vwCl (wM kc ad) (fun _ tl => tl = []) A) q 7 [(0, .ref (ad 0)), (1, .int v1), (2, .int v2), (3, .int v3)] [.int s0, .ref (ad 0)] := by
    intro q v1 v2 v3 s0 hok hF
    refine z_if_eq (tgt := 24) hx hb dX11_setEntry_7 (by decide) (fun g7 => ?_) (fun g7 => ?_)
    · have hF := hF.trans (if_pos g7)
      have hok := And.left hok g7
      exact b24 q v1 v2 v3 hok hF
    · have hF := hF.trans (if_neg g7)
      have hok := And.right hok g7
      refine z_iload_n (j := 2) hx hb dX11_setEntry_10 rfl rfl ?_
      refine z_iconst (v := 0) hx hb dX11_setEntry_11 (by decide) ?_
      refine z_bipush (v := 15) hx hb dX11_setEntry_12 (by decide) ?_
      have h14 := And.left hok
      have hok := And.right hok
      refine z_callSi (As := [.int v2, .int 0, .int 15]) S (ctX11_isIn l D kc ad q v2 0 15 h14) (va_cwS 3 S.2.2.2.2 (gS q7_21 q7_22 q1_12 q7_23) rfl rfl rfl hX11_isIn ⟨Nat.le_of_ble_eq_true rfl, Nat.le_of_ble_eq_true rfl⟩) hA (pbM D kc) (psM hK) rfl rfl (Nat.le_of_ble_eq_true rfl) dX11_setEntry_14 ⟨Nat.le_of_ble_eq_true rfl, Nat.le_of_ble_eq_true rfl⟩ ?_
      exact b17 (fX11_isIn q v2 0 15).2 v1 v2 v3 (fX11_isIn q v2 0 15).1 hok hF
  refine z_aload_n (j := 0) hx hb dX11_setEntry_0 rfl rfl ?_
  refine z_iload_n (j := 1) hx hb dX11_setEntry_1 rfl rfl ?_
  refine z_iconst (v := 0) hx hb dX11_setEntry_2 (by decide) ?_
  refine z_iconst (v := 1) hx hb dX11_setEntry_3 (by decide) ?_
  have h4 := And.left hok
  have hok := And.right hok
  refine z_callSi (As := [.int v1, .int 0, .int 1]) S (ctX11_isIn l D kc ad q v1 0 1 h4) (va_cwS 3 S.2.2.2.2 (gS q7_21 q7_22 q1_12 q7_23) rfl rfl rfl hX11_isIn ⟨Nat.le_of_ble_eq_true rfl, Nat.le_of_ble_eq_true rfl⟩) hA (pbM D kc) (psM hK) rfl rfl (Nat.le_of_ble_eq_true rfl) dX11_setEntry_4 ⟨Nat.le_of_ble_eq_true rfl, Nat.le_of_ble_eq_true rfl⟩ ?_
  exact b7 (fX11_isIn q v1 0 1).2 v1 v2 v3 (fX11_isIn q v1 0 1).1 hok hF
theorem hX11_setEntry : yX11_setEntry.cls = RX11 ∧ yX11_setEntry.cls ≠ "java/lang/invoke/MethodHandle" ∧ yX11_setEntry.cls ≠ "java/lang/invoke/VarHandle" ∧ (parseMethodDescriptor yX11_setEntry.desc).map (fun d => d.parameters.length) = some 3 := by decide +kernel
def fX11_setCatch_114 (q : SS) (v1 : Int32) (v2 : Int32) (s0 : Int32) (s1 : Int32) (s2 : Int32) : Int32 × SS := ((s2 + (s1 - s0)), (sA (sI q 2 (s2 + (s1 - s0))) 8 (upd (gA q 8) (v1 : Int32).toNatClampNeg v2)))
def kX11_setCatch_114 (q : SS) (v1 : Int32) (v2 : Int32) (s0 : Int32) (s1 : Int32) (s2 : Int32) : Prop := vp_in v1 80 ∧ True
def fX11_setCatch_99 (q : SS) (v1 : Int32) (v2 : Int32) (s0 : Int32) (s1 : Int32) : Int32 × SS := (if ((gA q 8) (v1 : Int32).toNatClampNeg) = (-1) then fX11_setCatch_114 q v1 v2 0 s0 s1 else fX11_setCatch_114 q v1 v2 1 s0 s1)
def kX11_setCatch_99 (q : SS) (v1 : Int32) (v2 : Int32) (s0 : Int32) (s1 : Int32) : Prop := vp_in v1 80 ∧ ((((gA q 8) (v1 : Int32).toNatClampNeg) = (-1) → kX11_setCatch_114 q v1 v2 0 s0 s1) ∧ (¬ ((gA q 8) (v1 : Int32).toNatClampNeg) = (-1) → kX11_setCatch_114 q v1 v2 1 s0 s1))
def fX11_setCatch_84 (q : SS) (v1 : Int32) (v2 : Int32) : Int32 × SS := (if v2 = (-1) then fX11_setCatch_99 q v1 v2 0 (gI q 2) else fX11_setCatch_99 q v1 v2 1 (gI q 2))
def kX11_setCatch_84 (q : SS) (v1 : Int32) (v2 : Int32) : Prop := ((v2 = (-1) → kX11_setCatch_99 q v1 v2 0 (gI q 2)) ∧ (¬ v2 = (-1) → kX11_setCatch_99 q v1 v2 1 (gI q 2)))
def fX11_setCatch_55 (q : SS) (v1 : Int32) (v2 : Int32) : Int32 × SS := (if v2 = (-1) then fX11_setCatch_84 q v1 v2 else (if ((gA q 8) (v1 : Int32).toNatClampNeg) = (-1) then (if (gI q 2) = 4 then ((fX11_refuse q 4).1, (fX11_refuse q 4).2) else fX11_setCatch_84 q v1 v2) else fX11_setCatch_84 q v1 v2))
def kX11_setCatch_55 (q : SS) (v1 : Int32) (v2 : Int32) : Prop := ((v2 = (-1) → kX11_setCatch_84 q v1 v2) ∧ (¬ v2 = (-1) → vp_in v1 80 ∧ ((((gA q 8) (v1 : Int32).toNatClampNeg) = (-1) → (((gI q 2) = 4 → kX11_refuse q 4 ∧ True) ∧ (¬ (gI q 2) = 4 → kX11_setCatch_84 q v1 v2))) ∧ (¬ ((gA q 8) (v1 : Int32).toNatClampNeg) = (-1) → kX11_setCatch_84 q v1 v2))))
def fX11_setCatch_34 (q : SS) (v1 : Int32) (v2 : Int32) : Int32 × SS := (if v2 = (-1) then (if ((gA q 8) (v1 : Int32).toNatClampNeg) = (-1) then ((fX11_refuse q 3).1, (fX11_refuse q 3).2) else fX11_setCatch_55 q v1 v2) else fX11_setCatch_55 q v1 v2)
def kX11_setCatch_34 (q : SS) (v1 : Int32) (v2 : Int32) : Prop := ((v2 = (-1) → vp_in v1 80 ∧ ((((gA q 8) (v1 : Int32).toNatClampNeg) = (-1) → kX11_refuse q 3 ∧ True) ∧ (¬ ((gA q 8) (v1 : Int32).toNatClampNeg) = (-1) → kX11_setCatch_55 q v1 v2))) ∧ (¬ v2 = (-1) → kX11_setCatch_55 q v1 v2))
def fX11_setCatch_25 (q : SS) (v1 : Int32) (v2 : Int32) (s0 : Int32) : Int32 × SS := (if s0 = 0 then ((fX11_refuse q 2).1, (fX11_refuse q 2).2) else fX11_setCatch_34 q v1 v2)
def kX11_setCatch_25 (q : SS) (v1 : Int32) (v2 : Int32) (s0 : Int32) : Prop := ((s0 = 0 → kX11_refuse q 2 ∧ True) ∧ (¬ s0 = 0 → kX11_setCatch_34 q v1 v2))
def fX11_setCatch_7 (q : SS) (v1 : Int32) (v2 : Int32) (s0 : Int32) : Int32 × SS := (if s0 = 0 then (if v2 = (-1) then fX11_setCatch_34 q v1 v2 else fX11_setCatch_25 (fX11_isIn q v2 64 79).2 v1 v2 (fX11_isIn q v2 64 79).1) else (0, q))
def kX11_setCatch_7 (q : SS) (v1 : Int32) (v2 : Int32) (s0 : Int32) : Prop := ((s0 = 0 → ((v2 = (-1) → kX11_setCatch_34 q v1 v2) ∧ (¬ v2 = (-1) → kX11_isIn q v2 64 79 ∧ kX11_setCatch_25 (fX11_isIn q v2 64 79).2 v1 v2 (fX11_isIn q v2 64 79).1))) ∧ (¬ s0 = 0 → True))
def fX11_setCatch (q : SS) (v1 : Int32) (v2 : Int32) : Int32 × SS := fX11_setCatch_7 (fX11_out q v1 80).2 v1 v2 (fX11_out q v1 80).1
def kX11_setCatch (q : SS) (v1 : Int32) (v2 : Int32) : Prop := kX11_out q v1 80 ∧ kX11_setCatch_7 (fX11_out q v1 80).2 v1 v2 (fX11_out q v1 80).1
set_option maxHeartbeats 4000000 in
set_option maxRecDepth 100000 in
theorem ctX11_setCatch (l : Launch) (D : va_G) (kc : Nat → ClassId) (ad : Nat → Nat) (q : SS) (v1 : Int32) (v2 : Int32) (hok : kX11_setCatch q v1 v2) : Ci l yX11_setCatch (Cond.code yX11_setCatch cX11_setCatch 3 (some .int) :: lw_G) (zr 2 0 0) 0 0 (PM D kc) (GM D kc ad) (GM D kc ad) [.ref (ad 0), .int v1, .int v2] q (fX11_setCatch q v1 v2) := by
  refine Ci.of (cc := cX11_setCatch) (maxL := 3) (ret := (some .int)) (by decide) rfl (Nat.le_of_ble_eq_true rfl) ?_
  intro p e s m args below meth c A S hr hlocks hin hA hK
  have hx := S.1
  have hb := S.2.1
  have hK : va_K D vwCl (tysK kc) s := hK
  generalize hFe : fX11_setCatch q v1 v2 = F
  have hF : F = fX11_setCatch q v1 v2 := hFe.symm
  have b114 : ∀ (q : SS) (v1 : Int32) (v2 : Int32) (s0 : Int32) (s1 : Int32) (s2 : Int32), kX11_setCatch_114 q v1 v2 s0 s1 s2 → F = fX11_setCatch_114 q v1 v2 s0 s1 s2 → Z p l e (zr 2 0 0) s m args below meth c 0 0 (MQ below (va_Qi (fun (x : Int32) (_ : Unit) => x = F.1) (fun _ t => (GM D kc ad) A F.2 t.heap) A) args s 0 0 A) 3 A (ZG D vwCl (wM kc ad) (fun _ tl => tl = []) A) q 114 [(0, .ref (ad 0)), (1, .int v1), (2, .int v2)] [.int s0, .int s1, .int s2, .ref (ad 0)] := by
    intro q v1 v2 s0 s1 s2 hok hF
    refine z_isub hx hb dX11_setCatch_114 ?_
    refine z_iadd hx hb dX11_setCatch_115 ?_
    refine z_put (v := .int (s2 + (s1 - s0))) (q' := (sI q 2 (s2 + (s1 - s0)))) S hK inX11 tyX11 tyX11_ok nmX11 0 (fun _ => rfl) rfl 2 (by decide) q6_99 rfl rfl rfl rfl (Nat.le_of_ble_eq_true rfl) dX11_setCatch_116 (wMp2 kc ad _ _) (fun _ h => h) ?_
    refine z_aload_n (j := 0) hx hb dX11_setCatch_119 rfl rfl ?_
    refine z_get (v := .ref (ad 8)) S hK inX11 0 (fun _ => rfl) rfl 35 (by decide) q6_132 rfl rfl dX11_setCatch_120 ?_
    refine z_iload_n (j := 1) hx hb dX11_setCatch_123 rfl rfl ?_
    refine z_iload_n (j := 2) hx hb dX11_setCatch_124 rfl rfl ?_
    have h125 := And.left hok
    have hok := And.right hok
    refine z_iast (f := (gA q 8)) (q' := (sA (sI q 2 (s2 + (s1 - s0))) 8 (upd (gA q 8) (v1 : Int32).toNatClampNeg v2))) S hK 8 0 (fun _ => rfl) rfl h125 dX11_setCatch_125 (wMa8 kc ad _ _) (fun _ h => h) ?_
    refine z_aload_n (j := 0) hx hb dX11_setCatch_126 rfl rfl ?_
    refine z_get (v := .int (s2 + (s1 - s0))) S hK inX11 0 (fun _ => rfl) rfl 2 (by decide) q6_99 rfl rfl dX11_setCatch_127 ?_
    exact z_iret hx hb hlocks hr rfl hF dX11_setCatch_130
  have b99 : ∀ (q : SS) (v1 : Int32) (v2 : Int32) (s0 : Int32) (s1 : Int32), kX11_setCatch_99 q v1 v2 s0 s1 → F = fX11_setCatch_99 q v1 v2 s0 s1 → Z p l e (zr 2 0 0) s m args below meth c 0 0 (MQ below (va_Qi (fun (x : Int32) (_ : Unit) => x = F.1) (fun _ t => (GM D kc ad) A F.2 t.heap) A) args s 0 0 A) 3 A (ZG D vwCl (wM kc ad) (fun _ tl => tl = []) A) q 99 [(0, .ref (ad 0)), (1, .int v1), (2, .int v2)] [.int s0, .int s1, .ref (ad 0)] := by
    intro q v1 v2 s0 s1 hok hF
    refine z_aload_n (j := 0) hx hb dX11_setCatch_99 rfl rfl ?_
    refine z_get (v := .ref (ad 8)) S hK inX11 0 (fun _ => rfl) rfl 35 (by decide) q6_132 rfl rfl dX11_setCatch_100 ?_
    refine z_iload_n (j := 1) hx hb dX11_setCatch_103 rfl rfl ?_
    have h104 := And.left hok
    have hok := And.right hok
    refine z_iald (f := (gA q 8)) S hK 8 0 (fun _ => rfl) rfl h104 dX11_setCatch_104 ?_
    refine z_iconst (v := (-1)) hx hb dX11_setCatch_105 (by decide) ?_
    refine z_icmp_ne (tgt := 113) hx hb dX11_setCatch_106 (by decide) (fun g106 => ?_) (fun g106 => ?_)
    · have hF := hF.trans (if_neg g106)
      have hok := And.right hok g106
      refine z_iconst (v := 1) hx hb dX11_setCatch_113 (by decide) ?_
      exact b114 q v1 v2 1 s0 s1 hok hF
    · have hF := hF.trans (if_pos g106)
      have hok := And.left hok g106
      refine z_iconst (v := 0) hx hb dX11_setCatch_109 (by decide) ?_
      refine z_goto (tgt := 114) hx hb dX11_setCatch_110 (by decide) ?_
      exact b114 q v1 v2 0 s0 s1 hok hF
  have b84 : ∀ (q : SS) (v1 : Int32) (v2 : Int32), kX11_setCatch_84 q v1 v2 → F = fX11_setCatch_84 q v1 v2 → Z p l e (zr 2 0 0) s m args below meth c 0 0 (MQ below (va_Qi (fun (x : Int32) (_ : Unit) => x = F.1) (fun _ t => (GM D kc ad) A F.2 t.heap) A) args s 0 0 A) 3 A (ZG D vwCl (wM kc ad) (fun _ tl => tl = []) A) q 84 [(0, .ref (ad 0)), (1, .int v1), (2, .int v2)] [] := by
    intro q v1 v2 hok hF
    refine z_aload_n (j := 0) hx hb dX11_setCatch_84 rfl rfl ?_
    refine z_dup hx hb dX11_setCatch_85 rfl ?_
    refine z_get (v := .int (gI q 2)) S hK inX11 0 (fun _ => rfl) rfl 2 (by decide) q6_99 rfl rfl dX11_setCatch_86 ?_
    refine z_iload_n (j := 2) hx hb dX11_setCatch_89 rfl rfl ?_
    refine z_iconst (v := (-1)) hx hb dX11_setCatch_90 (by decide) ?_
    refine z_icmp_ne (tgt := 98) hx hb dX11_setCatch_91 (by decide) (fun g91 => ?_) (fun g91 => ?_)
    · have hF := hF.trans (if_neg g91)
      have hok := And.right hok g91
      refine z_iconst (v := 1) hx hb dX11_setCatch_98 (by decide) ?_
      exact b99 q v1 v2 1 (gI q 2) hok hF
    · have hF := hF.trans (if_pos g91)
      have hok := And.left hok g91
      refine z_iconst (v := 0) hx hb dX11_setCatch_94 (by decide) ?_
      refine z_goto (tgt := 99) hx hb dX11_setCatch_95 (by decide) ?_
      exact b99 q v1 v2 0 (gI q 2) hok hF
  have b55 : ∀ (q : SS) (v1 : Int32) (v2 : Int32), kX11_setCatch_55 q v1 v2 → F = fX11_setCatch_55 q v1 v2 → Z p l e (zr 2 0 0) s m args below meth c 0 0 (MQ below (va_Qi (fun (x : Int32) (_ : Unit) => x = F.1) (fun _ t => (GM D kc ad) A F.2 t.heap) A) args s 0 0 A) 3 A (ZG D vwCl (wM kc ad) (fun _ tl => tl = []) A) q 55 [(0, .ref (ad 0)), (1, .int v1), (2, .int v2)] [] := by
    intro q v1 v2 hok hF
    refine z_iload_n (j := 2) hx hb dX11_setCatch_55 rfl rfl ?_
    refine z_iconst (v := (-1)) hx hb dX11_setCatch_56 (by decide) ?_
    refine z_icmp_eq (tgt := 84) hx hb dX11_setCatch_57 (by decide) (fun g57 => ?_) (fun g57 => ?_)
    · have hF := hF.trans (if_pos g57)
      have hok := And.left hok g57
      exact b84 q v1 v2 hok hF
    · have hF := hF.trans (if_neg g57)
      have hok := And.right hok g57
      refine z_aload_n (j := 0) hx hb dX11_setCatch_60 rfl rfl ?_
      refine z_get (v := .ref (ad 8)) S hK inX11 0 (fun _ => rfl) rfl 35 (by decide) q6_132 rfl rfl dX11_setCatch_61 ?_
      refine z_iload_n (j := 1) hx hb dX11_setCatch_64 rfl rfl ?_
      have h65 := And.left hok
      have hok := And.right hok
      refine z_iald (f := (gA q 8)) S hK 8 0 (fun _ => rfl) rfl h65 dX11_setCatch_65 ?_
      refine z_iconst (v := (-1)) hx hb dX11_setCatch_66 (by decide) ?_
      refine z_icmp_ne (tgt := 84) hx hb dX11_setCatch_67 (by decide) (fun g67 => ?_) (fun g67 => ?_)
      · have hF := hF.trans (if_neg g67)
        have hok := And.right hok g67
        exact b84 q v1 v2 hok hF
      · have hF := hF.trans (if_pos g67)
        have hok := And.left hok g67
        refine z_aload_n (j := 0) hx hb dX11_setCatch_70 rfl rfl ?_
        refine z_get (v := .int (gI q 2)) S hK inX11 0 (fun _ => rfl) rfl 2 (by decide) q6_99 rfl rfl dX11_setCatch_71 ?_
        refine z_iconst (v := 4) hx hb dX11_setCatch_74 (by decide) ?_
        refine z_icmp_ne (tgt := 84) hx hb dX11_setCatch_75 (by decide) (fun g75 => ?_) (fun g75 => ?_)
        · have hF := hF.trans (if_neg g75)
          have hok := And.right hok g75
          exact b84 q v1 v2 hok hF
        · have hF := hF.trans (if_pos g75)
          have hok := And.left hok g75
          refine z_aload_n (j := 0) hx hb dX11_setCatch_78 rfl rfl ?_
          refine z_iconst (v := 4) hx hb dX11_setCatch_79 (by decide) ?_
          have h80 := And.left hok
          have hok := And.right hok
          refine z_callVi (As := [.int 4]) S (ctX11_refuse l D kc ad q 4 h80) (cwV 1 S.2.2.2.2 (gV q7_30 q7_32 qp2_8 q1_12 q7_33) rfl rfl rfl hX11_refuse ⟨Nat.le_of_ble_eq_true rfl, Nat.le_of_ble_eq_true rfl⟩) hA (pbM D kc) (psM hK) (z_recv hK 0 (fun _ => rfl) rfl) rfl rfl (Nat.le_of_ble_eq_true rfl) dX11_setCatch_80 ⟨Nat.le_of_ble_eq_true rfl, Nat.le_of_ble_eq_true rfl⟩ ?_
          exact z_iret hx hb hlocks hr rfl hF dX11_setCatch_83
  have b34 : ∀ (q : SS) (v1 : Int32) (v2 : Int32), kX11_setCatch_34 q v1 v2 → F = fX11_setCatch_34 q v1 v2 → Z p l e (zr 2 0 0) s m args below meth c 0 0 (MQ below (va_Qi (fun (x : Int32) (_ : Unit) => x = F.1) (fun _ t => (GM D kc ad) A F.2 t.heap) A) args s 0 0 A) 3 A (ZG D vwCl (wM kc ad) (fun _ tl => tl = []) A) q 34 [(0, .ref (ad 0)), (1, .int v1), (2, .int v2)] [] := by
    intro q v1 v2 hok hF
    refine z_iload_n (j := 2) hx hb dX11_setCatch_34 rfl rfl ?_
    refine z_iconst (v := (-1)) hx hb dX11_setCatch_35 (by decide) ?_
    refine z_icmp_ne (tgt := 55) hx hb dX11_setCatch_36 (by decide) (fun g36 => ?_) (fun g36 => ?_)
    · have hF := hF.trans (if_neg g36)
      have hok := And.right hok g36
      exact b55 q v1 v2 hok hF
    · have hF := hF.trans (if_pos g36)
      have hok := And.left hok g36
      refine z_aload_n (j := 0) hx hb dX11_setCatch_39 rfl rfl ?_
      refine z_get (v := .ref (ad 8)) S hK inX11 0 (fun _ => rfl) rfl 35 (by decide) q6_132 rfl rfl dX11_setCatch_40 ?_
      refine z_iload_n (j := 1) hx hb dX11_setCatch_43 rfl rfl ?_
      have h44 := And.left hok
      have hok := And.right hok
      refine z_iald (f := (gA q 8)) S hK 8 0 (fun _ => rfl) rfl h44 dX11_setCatch_44 ?_
      refine z_iconst (v := (-1)) hx hb dX11_setCatch_45 (by decide) ?_
      refine z_icmp_ne (tgt := 55) hx hb dX11_setCatch_46 (by decide) (fun g46 => ?_) (fun g46 => ?_)
      · have hF := hF.trans (if_neg g46)
        have hok := And.right hok g46
        exact b55 q v1 v2 hok hF
      · have hF := hF.trans (if_pos g46)
        have hok := And.left hok g46
        refine z_aload_n (j := 0) hx hb dX11_setCatch_49 rfl rfl ?_
        refine z_iconst (v := 3) hx hb dX11_setCatch_50 (by decide) ?_
        have h51 := And.left hok
        have hok := And.right hok
        refine z_callVi (As := [.int 3]) S (ctX11_refuse l D kc ad q 3 h51) (cwV 1 S.2.2.2.2 (gV q7_30 q7_32 qp2_8 q1_12 q7_33) rfl rfl rfl hX11_refuse ⟨Nat.le_of_ble_eq_true rfl, Nat.le_of_ble_eq_true rfl⟩) hA (pbM D kc) (psM hK) (z_recv hK 0 (fun _ => rfl) rfl) rfl rfl (Nat.le_of_ble_eq_true rfl) dX11_setCatch_51 ⟨Nat.le_of_ble_eq_true rfl, Nat.le_of_ble_eq_true rfl⟩ ?_
        exact z_iret hx hb hlocks hr rfl hF dX11_setCatch_54
  have b25 : ∀ (q : SS) (v1 : Int32) (v2 : Int32) (s0 : Int32), kX11_setCatch_25 q v1 v2 s0 → F = fX11_setCatch_25 q v1 v2 s0 → Z p l e (zr 2 0 0) s m args below meth c 0 0 (MQ below (va_Qi (fun (x : Int32) (_ : Unit) => x = F.1) (fun _ t => (GM D kc ad) A F.2 t.heap) A) args s 0 0 A) 3 A (ZG D vwCl (wM kc ad) (fun _ tl => tl = []) A) q 25 [(0, .ref (ad 0)), (1, .int v1), (2, .int v2)] [.int s0] := by
    intro q v1 v2 s0 hok hF
    refine z_if_ne (tgt := 34) hx hb dX11_setCatch_25 (by decide) (fun g25 => ?_) (fun g25 => ?_)
    · have hF := hF.trans (if_neg g25)
      have hok := And.right hok g25
      exact b34 q v1 v2 hok hF
    · have hF := hF.trans (if_pos g25)
      have hok := And.left hok g25
      refine z_aload_n (j := 0) hx hb dX11_setCatch_28 rfl rfl ?_
      refine z_iconst (v := 2) hx hb dX11_setCatch_29 (by decide) ?_
      have h30 := And.left hok
      have hok := And.right hok
      refine z_callVi (As := [.int 2]) S (ctX11_refuse l D kc ad q 2 h30) (cwV 1 S.2.2.2.2 (gV q7_30 q7_32 qp2_8 q1_12 q7_33) rfl rfl rfl hX11_refuse ⟨Nat.le_of_ble_eq_true rfl, Nat.le_of_ble_eq_true rfl⟩) hA (pbM D kc) (psM hK) (z_recv hK 0 (fun _ => rfl) rfl) rfl rfl (Nat.le_of_ble_eq_true rfl) dX11_setCatch_30 ⟨Nat.le_of_ble_eq_true rfl, Nat.le_of_ble_eq_true rfl⟩ ?_
      exact z_iret hx hb hlocks hr rfl hF dX11_setCatch_33
  have b7 : ∀ (q : SS) (v1 : Int32) (v2 : Int32) (s0 : Int32), kX11_setCatch_7 q v1 v2 s0 → F = fX11_setCatch_7 q v1 v2 s0 → Z p l e (zr 2 0 0) s m args below meth c 0 0 (MQ below (va_Qi (fun (x : Int32) (_ : Unit) => x = F.1) (fun _ t => (GM D kc ad) A F.2 t.heap) A) args s 0 0 A) 3 A (ZG D vwCl (wM kc ad) (fun _ tl => tl = []) A) q 7 [(0, .ref (ad 0)), (1, .int v1), (2, .int v2)] [.int s0] := by
    intro q v1 v2 s0 hok hF
    refine z_if_eq (tgt := 12) hx hb dX11_setCatch_7 (by decide) (fun g7 => ?_) (fun g7 => ?_)
    · have hF := hF.trans (if_pos g7)
      have hok := And.left hok g7
      refine z_iload_n (j := 2) hx hb dX11_setCatch_12 rfl rfl ?_
      refine z_iconst (v := (-1)) hx hb dX11_setCatch_13 (by decide) ?_
      refine z_icmp_eq (tgt := 34) hx hb dX11_setCatch_14 (by decide) (fun g14 => ?_) (fun g14 => ?_)
      · have hF := hF.trans (if_pos g14)
        have hok := And.left hok g14
        exact b34 q v1 v2 hok hF
      · have hF := hF.trans (if_neg g14)
        have hok := And.right hok g14
        refine z_iload_n (j := 2) hx hb dX11_setCatch_17 rfl rfl ?_
        refine z_bipush (v := 64) hx hb dX11_setCatch_18 (by decide) ?_
        refine z_bipush (v := 79) hx hb dX11_setCatch_20 (by decide) ?_
        have h22 := And.left hok
        have hok := And.right hok
        refine z_callSi (As := [.int v2, .int 64, .int 79]) S (ctX11_isIn l D kc ad q v2 64 79 h22) (va_cwS 3 S.2.2.2.2 (gS q7_21 q7_22 q1_12 q7_23) rfl rfl rfl hX11_isIn ⟨Nat.le_of_ble_eq_true rfl, Nat.le_of_ble_eq_true rfl⟩) hA (pbM D kc) (psM hK) rfl rfl (Nat.le_of_ble_eq_true rfl) dX11_setCatch_22 ⟨Nat.le_of_ble_eq_true rfl, Nat.le_of_ble_eq_true rfl⟩ ?_
        exact b25 (fX11_isIn q v2 64 79).2 v1 v2 (fX11_isIn q v2 64 79).1 hok hF
    · have hF := hF.trans (if_neg g7)
      have hok := And.right hok g7
      refine z_iconst (v := 0) hx hb dX11_setCatch_10 (by decide) ?_
      exact z_iret hx hb hlocks hr rfl hF dX11_setCatch_11
  refine z_aload_n (j := 0) hx hb dX11_setCatch_0 rfl rfl ?_
  refine z_iload_n (j := 1) hx hb dX11_setCatch_1 rfl rfl ?_
  refine z_bipush (v := 80) hx hb dX11_setCatch_2 (by decide) ?_
  have h4 := And.left hok
  have hok := And.right hok
  refine z_callVi (As := [.int v1, .int 80]) S (ctX11_out l D kc ad q v1 80 h4) (cwV 2 S.2.2.2.2 (gV q7_17 q7_19 qp2_7 q1_12 q7_20) rfl rfl rfl hX11_out ⟨Nat.le_of_ble_eq_true rfl, Nat.le_of_ble_eq_true rfl⟩) hA (pbM D kc) (psM hK) (z_recv hK 0 (fun _ => rfl) rfl) rfl rfl (Nat.le_of_ble_eq_true rfl) dX11_setCatch_4 ⟨Nat.le_of_ble_eq_true rfl, Nat.le_of_ble_eq_true rfl⟩ ?_
  exact b7 (fX11_out q v1 80).2 v1 v2 (fX11_out q v1 80).1 hok hF
theorem hX11_setCatch : yX11_setCatch.cls = RX11 ∧ yX11_setCatch.cls ≠ "java/lang/invoke/MethodHandle" ∧ yX11_setCatch.cls ≠ "java/lang/invoke/VarHandle" ∧ (parseMethodDescriptor yX11_setCatch.desc).map (fun d => d.parameters.length) = some 2 := by decide +kernel
