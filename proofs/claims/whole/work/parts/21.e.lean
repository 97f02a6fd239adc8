/-! what is there around the class: texts, statics, what the tables say beyond good words -/
def xsLen : List Nat := [11, 4, 12, 10]
def xsByt : List (List Int32) := [[110, 111, 99, 114, 100, 112, 101, 115, 107, 103, 113], [101, 115, 107, 103], [80, 90, 67, 83, 73, 75, 84, 85, 65, 68, 88, 69], [80, 90, 67, 83, 73, 75, 48, 49, 50, 51]]
def xsThrow : List (Nat × String) := [(66, "the word is forbidden"), (111, "the writable store has no such address"), (119, "there is no word to copy"), (126, "there is no word"), (130, "there is no such number of words"), (139, "there are no such addresses"), (154, "there is no such catch"), (159, "there are catches enough"), (233, "there is no such part"), (268, "the instruction is undefined"), (277, "no instruction was wrong"), (304, "there were no cycles"), (310, "no instruction ended"), (322, "there is no such number"), (324, "the number is out of range"), (328, "there is no such order"), (333, "an instruction has begun")]
def exn (k : Nat) : String := match k with
  | 0 => "java/lang/IndexOutOfBoundsException"
  | 1 => "java/lang/IllegalArgumentException"
  | 2 => "java/lang/UnsupportedOperationException"
  | 3 => "java/util/NoSuchElementException"
  | 4 => "java/lang/IllegalStateException"
  | _ => "java/lang/ArithmeticException"
def xNlink : List (String × Nat × MethodName) := [(RX10, 18, yX5_init), (RX10, 25, yX1_init), (RX0, 46, yX10_isOutside), (RX2, 11, yX8_init), (RX2, 76, yX10_resultOf), (RX2, 80, yX10_hasCarry), (RX4, 23, yX10_resultOf), (RX4, 29, yX10_hasCarry), (RX6, 11, yX8_init), (RX6, 23, yX3_init), (RX6, 30, yX4_init), (RX6, 37, yX2_init), (RX6, 113, yX10_resultOf), (RX6, 348, yX10_isOutside), (RX7, 34, yX10_isOutside), (RX7, 38, yX9_init)]
def xNdecl : List MethodName := [Bundle.initS "java/lang/RuntimeException", Bundle.initS "java/lang/Exception", Bundle.initS "java/lang/Throwable"]
def EV (A : Nat → Prop) (U : State) (H : Heap) : Prop :=
  (∃ adK adV : Nat → Nat, vk_S 4 xsLen xsByt adK adV A U H ∧ vk_R RX10 326 "nocrdpeskgq" (adK 0) U ∧ vk_R RX6 158 "eskg" (adK 1) U ∧ vk_R RX10 226 "PZCSIKTUADXE" (adK 2) U ∧ vk_R RX10 257 "PZCSIK0123" (adK 3) U) ∧
  (∀ r ∈ xsThrow, ∃ a, vk_R RX10 r.1 r.2 a U) ∧ va_Z "java/lang/String" "COMPACT_STRINGS" "Z" (.int 1) A U H ∧
  vx_Zq Bundle.tN "UNASSIGNED_STACK" Bundle.steD A U H ∧ vx_Zq Bundle.tN "SUPPRESSED_SENTINEL" Bundle.listD A U H ∧
  (∀ r ∈ xNlink, va_Nw (.methodLinkNest r.1 r.2.1 r.2.2 RX10) U) ∧ (∀ y ∈ xNdecl, va_Nw (.declares y) U) ∧ (∀ k, k < 6 → va_Nw (.castable (exn k) (exn k)) U) ∧ (∀ i j, i < 6 → j < 6 → i ≠ j → va_Nc (exn i) (exn j) U)
theorem EV.warm {A : Nat → Prop} {s U : State} {H : Heap} (hW : s.WarmedH U.vm) (h : EV A s H) : EV A U H := by
  obtain ⟨⟨adK, adV, a1, a2, a3, a4, a5⟩, b, c1, c2, c3, d1, d2, d3, d4⟩ := h
  exact ⟨⟨adK, adV, a1.moved hW.alike, a2.warm hW, a3.warm hW, a4.warm hW, a5.warm hW⟩, fun r hr => (b r hr).elim fun a ha => ⟨a, ha.warm hW⟩, va_Z.moved hW.alike c1, vx_Zq.moved hW.alike c2, vx_Zq.moved hW.alike c3, fun r hr => (d1 r hr).warmM hW, fun y hy => (d2 y hy).warmD hW, fun k hk => (d3 k hk).warmC hW, fun i j hi hj hij => (d4 i j hi hj hij).moved hW.alike⟩
theorem EV.same {A : Nat → Prop} {s U : State} {H : Heap} (hv : s.vm = U.vm) (h : EV A s H) : EV A U H := by
  have hal : s.vm.Alike U.vm := by rw [hv]; exact Vm.Alike.refl _
  obtain ⟨⟨adK, adV, a1, a2, a3, a4, a5⟩, b, c1, c2, c3, d1, d2, d3, d4⟩ := h
  exact ⟨⟨adK, adV, a1.moved hal, a2.same hv.symm, a3.same hv.symm, a4.same hv.symm, a5.same hv.symm⟩, fun r hr => (b r hr).elim fun a ha => ⟨a, ha.same hv.symm⟩, va_Z.moved hal c1, vx_Zq.moved hal c2, vx_Zq.moved hal c3, fun r hr => (d1 r hr).same rfl hv, fun y hy => (d2 y hy).same rfl hv, fun k hk => (d3 k hk).same rfl hv, fun i j hi hj hij => (d4 i j hi hj hij).moved hal⟩
theorem EV.kept {A : Nat → Prop} {U : State} {H H1 : Heap} (h : EV A U H) (hq : ∀ a : Nat, a < H.size → ¬ A a → H1[a]? = H[a]?) : EV A U H1 := by
  obtain ⟨⟨adK, adV, a1, a2⟩, b, c1, c2, c3, d⟩ := h
  exact ⟨⟨adK, adV, a1.kept hq, a2⟩, b, c1.kept hq, c2.kept hq, c3.kept hq, d⟩
theorem EV.narrow {A B : Nat → Prop} {U : State} {H : Heap} (h : EV A U H) (hAB : ∀ q, B q → A q) : EV B U H := by
  obtain ⟨⟨adK, adV, a1, a2⟩, b, c1, c2, c3, d⟩ := h
  exact ⟨⟨adK, adV, a1.narrow hAB, a2⟩, b, va_Z.narrow c1 hAB, c2.narrow hAB, c3.narrow hAB, d⟩
abbrev PX (D : va_G) (kc : Nat → ClassId) : PH := fun A U => va_K D vwCl (tysK kc) U ∧ EV A U U.heap
theorem pbX (D : va_G) (kc : Nat → ClassId) : PB (PX D kc) := fun _ U g mk a h => ⟨va_K.moved (u := U) (U := U.calling g mk a) (Vm.Alike.refl U.vm) h.1, EV.same (s := U) (U := U.calling g mk a) rfl h.2⟩
theorem psX {D : va_G} {kc : Nat → ClassId} {A : Nat → Prop} {s : State} (h : va_K D vwCl (tysK kc) s) (hE : EV A s s.heap) : PS (PX D kc) A s := fun H locs hS U hU hW => ⟨va_K.moved hW.alike h, by rw [hU]; exact (hE.kept hS.2.1).warm hW⟩
/-! methods that return or throw: .inl (which exception, the state), .inr (the answer, the state) -/
def xb {β γ : Type} (F : (Nat × SS) ⊕ β) (k : β → (Nat × SS) ⊕ γ) : (Nat × SS) ⊕ γ := match F with
  | .inl u => .inl u
  | .inr b => k b
theorem xb_r {β γ : Type} {F : (Nat × SS) ⊕ β} {b : β} {k : β → (Nat × SS) ⊕ γ} (h : F = .inr b) : xb F k = k b := by rw [h]; rfl
theorem xb_l {β γ : Type} {F : (Nat × SS) ⊕ β} {u : Nat × SS} {k : β → (Nat × SS) ⊕ γ} (h : F = .inl u) : xb F k = .inl u := by rw [h]; rfl
def oc {α : Type} (r : Option Nat) (a : α) (b : Nat → α) : α := match r with
  | none => a
  | some k => b k
theorem oc_n {α : Type} {r : Option Nat} {a : α} {b : Nat → α} (h : r = none) : oc r a b = a := by rw [h]; rfl
theorem oc_s {α : Type} {r : Option Nat} {k : Nat} {a : α} {b : Nat → α} (h : r = some k) : oc r a b = b k := by rw [h]; rfl
def KG (G : GH) : Prop := ∀ (A : Nat → Prop) (q : SS) (H H1 : Heap), G A q H → (∀ z, z < H.size → H1[z]? = H[z]?) → G A q H1
theorem KG.zg {D : va_G} {cl : List vw_C} {w : SS → va_W} {PL : SS → va_W → Prop} : KG (fun A => ZG D cl w PL A) := by
  intro A q H H1 h hk
  obtain ⟨tl, hP, hD, hL⟩ := h
  exact ⟨tl, hP.kept (fun k x hx => hk x.1 (hP k x hx).lt), hD, hL⟩
theorem KG.x (D : va_G) (kc : Nat → ClassId) (ad wad : Nat → Nat) : KG (GX D kc ad wad) := KG.zg
theorem KG.xe (D : va_G) (kc : Nat → ClassId) (ad : Nat → Nat) : KG (GXe D kc ad) := fun A q H H1 h hk => h.elim fun wad h => ⟨wad, KG.x D kc ad wad A q H H1 h hk⟩
/-- a thrown exception E over the frame at pc -/
def ZT (p : Program) (l : Launch) (e : Env) (R : Room) (s : State) (m : MethodId) (args : Array Value) (below : List Frame) (meth : Method) (c : Code) (cells slots : Nat) (Q : State → Prop) (nL : Nat) (A : Nat → Prop) (G : SS → Heap → Prop) (E : String) (q : SS) (pc : Nat) (lv : List (Nat × Value)) (rest : List Value) : Prop :=
  ∀ (H : Heap) (locs : List Loc) (ls : Array Slot) (ce : Cell) (q9 : Addr), G q H → va_S A s.heap H locs → lv_has ls nL lv → H[q9]? = some ce → ce.vm = .none → s.vm.findClass E = some ce.cls → vx_W p l e R s m args below meth c H locs cells slots Q (F0 m pc ls rest) q9
def Xi (l : Launch) (y : MethodName) (ws : List Cond) (rm : Room) (mc ms : Nat) (P : PH) (G G' : GH) (av : List Value) (q : SS) (F : (Nat × SS) ⊕ (Int32 × SS)) : Prop :=
  ∀ (A : Nat → Prop) (sz : Nat), (∀ z, sz ≤ z → A z) → vx_Met l y ws rm (va_Pc av (fun U => U.heap.size = sz ∧ P A U ∧ G A q U.heap)) (va_Qi (fun (x : Int32) (u : SS) => F = .inr (x, u)) (fun u t => G' A u t.heap) A) (vx_X (fun (u : Nat × SS) => F = .inl u) (fun E u t => E = exn u.1 ∧ G' A u.2 t.heap) A) mc ms A
theorem Xi.of {l : Launch} {y : MethodName} {ws ws' : List Cond} {rm : Room} {mc ms maxL : Nat} {ret : Option FieldType} {cc : ByteArray} {P : PH} {G G' : GH} {av : List Value} {q : SS} {F : (Nat × SS) ⊕ (Int32 × SS)} (hy : plainName y.cls = true) (hw : ws = Cond.code y cc maxL ret :: ws') (hlen : (lg_sl av).length ≤ maxL)
    (body : ∀ (p : Program) (e : Env) (s : State) (m : MethodId) (args : Array Value) (below : List Frame) (meth : Method) (c : Code) (A : Nat → Prop), CallFix p m c cc maxL s args ws y.cls → meth.sig.returnType = ret → meth.locks = false → (∀ x ∈ c.exceptionTable.toList, False) → (∀ z, s.heap.size ≤ z → A z) → P A s → Z p l e rm s m args below meth c 0 0 (vx_MQ below (va_Qi (fun (x : Int32) (u : SS) => F = .inr (x, u)) (fun u t => G' A u t.heap) A) (vx_X (fun (u : Nat × SS) => F = .inl u) (fun E u t => E = exn u.1 ∧ G' A u.2 t.heap) A) args s mc ms A) maxL A (G A) q 0 (lv_args 0 av) []) : Xi l y ws rm mc ms P G G' av q F := by
  intro A sz hA
  refine vx_ofW (cc := cc) (maxL := maxL) (ret := ret) hy hw ?_
  intro p e s m args below meth c s₁ B hml htab hv
  obtain ⟨rfl, hsz, hP, hG⟩ := hv
  subst hsz
  have K := body p e s m _ below meth c A ⟨B.exec, B.bytes, hml, findClass_of_methodNamed B.named, atoms_spec (ws := ws) B.pre⟩ B.returns B.notSynchronized htab hA hP
  rw [lg_entry_eq]
  exact K _ _ _ hG va_S.rf (lv_entry av hlen)
def Xl (l : Launch) (y : MethodName) (ws : List Cond) (rm : Room) (mc ms : Nat) (P : PH) (G G' : GH) (av : List Value) (q : SS) (F : (Nat × SS) ⊕ (Int64 × SS)) : Prop :=
  ∀ (A : Nat → Prop) (sz : Nat), (∀ z, sz ≤ z → A z) → vx_Met l y ws rm (va_Pc av (fun U => U.heap.size = sz ∧ P A U ∧ G A q U.heap)) (va_Ql (fun (x : Int64) (u : SS) => F = .inr (x, u)) (fun u t => G' A u t.heap) A) (vx_X (fun (u : Nat × SS) => F = .inl u) (fun E u t => E = exn u.1 ∧ G' A u.2 t.heap) A) mc ms A
theorem Xl.of {l : Launch} {y : MethodName} {ws ws' : List Cond} {rm : Room} {mc ms maxL : Nat} {ret : Option FieldType} {cc : ByteArray} {P : PH} {G G' : GH} {av : List Value} {q : SS} {F : (Nat × SS) ⊕ (Int64 × SS)} (hy : plainName y.cls = true) (hw : ws = Cond.code y cc maxL ret :: ws') (hlen : (lg_sl av).length ≤ maxL)
    (body : ∀ (p : Program) (e : Env) (s : State) (m : MethodId) (args : Array Value) (below : List Frame) (meth : Method) (c : Code) (A : Nat → Prop), CallFix p m c cc maxL s args ws y.cls → meth.sig.returnType = ret → meth.locks = false → (∀ x ∈ c.exceptionTable.toList, False) → (∀ z, s.heap.size ≤ z → A z) → P A s → Z p l e rm s m args below meth c 0 0 (vx_MQ below (va_Ql (fun (x : Int64) (u : SS) => F = .inr (x, u)) (fun u t => G' A u t.heap) A) (vx_X (fun (u : Nat × SS) => F = .inl u) (fun E u t => E = exn u.1 ∧ G' A u.2 t.heap) A) args s mc ms A) maxL A (G A) q 0 (lv_args 0 av) []) : Xl l y ws rm mc ms P G G' av q F := by
  intro A sz hA
  refine vx_ofW (cc := cc) (maxL := maxL) (ret := ret) hy hw ?_
  intro p e s m args below meth c s₁ B hml htab hv
  obtain ⟨rfl, hsz, hP, hG⟩ := hv
  subst hsz
  have K := body p e s m _ below meth c A ⟨B.exec, B.bytes, hml, findClass_of_methodNamed B.named, atoms_spec (ws := ws) B.pre⟩ B.returns B.notSynchronized htab hA hP
  rw [lg_entry_eq]
  exact K _ _ _ hG va_S.rf (lv_entry av hlen)
def Xf (l : Launch) (y : MethodName) (ws : List Cond) (rm : Room) (mc ms : Nat) (P : PH) (G G' : GH) (av : List Value) (q : SS) (F : (Nat × SS) ⊕ (UInt32 × SS)) : Prop :=
  ∀ (A : Nat → Prop) (sz : Nat), (∀ z, sz ≤ z → A z) → vx_Met l y ws rm (va_Pc av (fun U => U.heap.size = sz ∧ P A U ∧ G A q U.heap)) (va_Qf (fun (x : UInt32) (u : SS) => F = .inr (x, u)) (fun u t => G' A u t.heap) A) (vx_X (fun (u : Nat × SS) => F = .inl u) (fun E u t => E = exn u.1 ∧ G' A u.2 t.heap) A) mc ms A
theorem Xf.of {l : Launch} {y : MethodName} {ws ws' : List Cond} {rm : Room} {mc ms maxL : Nat} {ret : Option FieldType} {cc : ByteArray} {P : PH} {G G' : GH} {av : List Value} {q : SS} {F : (Nat × SS) ⊕ (UInt32 × SS)} (hy : plainName y.cls = true) (hw : ws = Cond.code y cc maxL ret :: ws') (hlen : (lg_sl av).length ≤ maxL)
    (body : ∀ (p : Program) (e : Env) (s : State) (m : MethodId) (args : Array Value) (below : List Frame) (meth : Method) (c : Code) (A : Nat → Prop), CallFix p m c cc maxL s args ws y.cls → meth.sig.returnType = ret → meth.locks = false → (∀ x ∈ c.exceptionTable.toList, False) → (∀ z, s.heap.size ≤ z → A z) → P A s → Z p l e rm s m args below meth c 0 0 (vx_MQ below (va_Qf (fun (x : UInt32) (u : SS) => F = .inr (x, u)) (fun u t => G' A u t.heap) A) (vx_X (fun (u : Nat × SS) => F = .inl u) (fun E u t => E = exn u.1 ∧ G' A u.2 t.heap) A) args s mc ms A) maxL A (G A) q 0 (lv_args 0 av) []) : Xf l y ws rm mc ms P G G' av q F := by
  intro A sz hA
  refine vx_ofW (cc := cc) (maxL := maxL) (ret := ret) hy hw ?_
  intro p e s m args below meth c s₁ B hml htab hv
  obtain ⟨rfl, hsz, hP, hG⟩ := hv
  subst hsz
  have K := body p e s m _ below meth c A ⟨B.exec, B.bytes, hml, findClass_of_methodNamed B.named, atoms_spec (ws := ws) B.pre⟩ B.returns B.notSynchronized htab hA hP
  rw [lg_entry_eq]
  exact K _ _ _ hG va_S.rf (lv_entry av hlen)
def Xd (l : Launch) (y : MethodName) (ws : List Cond) (rm : Room) (mc ms : Nat) (P : PH) (G G' : GH) (av : List Value) (q : SS) (F : (Nat × SS) ⊕ (UInt64 × SS)) : Prop :=
  ∀ (A : Nat → Prop) (sz : Nat), (∀ z, sz ≤ z → A z) → vx_Met l y ws rm (va_Pc av (fun U => U.heap.size = sz ∧ P A U ∧ G A q U.heap)) (va_Qd (fun (x : UInt64) (u : SS) => F = .inr (x, u)) (fun u t => G' A u t.heap) A) (vx_X (fun (u : Nat × SS) => F = .inl u) (fun E u t => E = exn u.1 ∧ G' A u.2 t.heap) A) mc ms A
theorem Xd.of {l : Launch} {y : MethodName} {ws ws' : List Cond} {rm : Room} {mc ms maxL : Nat} {ret : Option FieldType} {cc : ByteArray} {P : PH} {G G' : GH} {av : List Value} {q : SS} {F : (Nat × SS) ⊕ (UInt64 × SS)} (hy : plainName y.cls = true) (hw : ws = Cond.code y cc maxL ret :: ws') (hlen : (lg_sl av).length ≤ maxL)
    (body : ∀ (p : Program) (e : Env) (s : State) (m : MethodId) (args : Array Value) (below : List Frame) (meth : Method) (c : Code) (A : Nat → Prop), CallFix p m c cc maxL s args ws y.cls → meth.sig.returnType = ret → meth.locks = false → (∀ x ∈ c.exceptionTable.toList, False) → (∀ z, s.heap.size ≤ z → A z) → P A s → Z p l e rm s m args below meth c 0 0 (vx_MQ below (va_Qd (fun (x : UInt64) (u : SS) => F = .inr (x, u)) (fun u t => G' A u t.heap) A) (vx_X (fun (u : Nat × SS) => F = .inl u) (fun E u t => E = exn u.1 ∧ G' A u.2 t.heap) A) args s mc ms A) maxL A (G A) q 0 (lv_args 0 av) []) : Xd l y ws rm mc ms P G G' av q F := by
  intro A sz hA
  refine vx_ofW (cc := cc) (maxL := maxL) (ret := ret) hy hw ?_
  intro p e s m args below meth c s₁ B hml htab hv
  obtain ⟨rfl, hsz, hP, hG⟩ := hv
  subst hsz
  have K := body p e s m _ below meth c A ⟨B.exec, B.bytes, hml, findClass_of_methodNamed B.named, atoms_spec (ws := ws) B.pre⟩ B.returns B.notSynchronized htab hA hP
  rw [lg_entry_eq]
  exact K _ _ _ hG va_S.rf (lv_entry av hlen)
def Xv (l : Launch) (y : MethodName) (ws : List Cond) (rm : Room) (mc ms : Nat) (P : PH) (G G' : GH) (av : List Value) (q : SS) (F : (Nat × SS) ⊕ SS) : Prop :=
  ∀ (A : Nat → Prop) (sz : Nat), (∀ z, sz ≤ z → A z) → vx_Met l y ws rm (va_Pc av (fun U => U.heap.size = sz ∧ P A U ∧ G A q U.heap)) (va_Qv (fun (u : SS) => F = .inr u) (fun u t => G' A u t.heap) A) (vx_X (fun (u : Nat × SS) => F = .inl u) (fun E u t => E = exn u.1 ∧ G' A u.2 t.heap) A) mc ms A
theorem Xv.of {l : Launch} {y : MethodName} {ws ws' : List Cond} {rm : Room} {mc ms maxL : Nat} {ret : Option FieldType} {cc : ByteArray} {P : PH} {G G' : GH} {av : List Value} {q : SS} {F : (Nat × SS) ⊕ SS} (hy : plainName y.cls = true) (hw : ws = Cond.code y cc maxL ret :: ws') (hlen : (lg_sl av).length ≤ maxL)
    (body : ∀ (p : Program) (e : Env) (s : State) (m : MethodId) (args : Array Value) (below : List Frame) (meth : Method) (c : Code) (A : Nat → Prop), CallFix p m c cc maxL s args ws y.cls → meth.sig.returnType = ret → meth.locks = false → (∀ x ∈ c.exceptionTable.toList, False) → (∀ z, s.heap.size ≤ z → A z) → P A s → Z p l e rm s m args below meth c 0 0 (vx_MQ below (va_Qv (fun (u : SS) => F = .inr u) (fun u t => G' A u t.heap) A) (vx_X (fun (u : Nat × SS) => F = .inl u) (fun E u t => E = exn u.1 ∧ G' A u.2 t.heap) A) args s mc ms A) maxL A (G A) q 0 (lv_args 0 av) []) : Xv l y ws rm mc ms P G G' av q F := by
  intro A sz hA
  refine vx_ofW (cc := cc) (maxL := maxL) (ret := ret) hy hw ?_
  intro p e s m args below meth c s₁ B hml htab hv
  obtain ⟨rfl, hsz, hP, hG⟩ := hv
  subst hsz
  have K := body p e s m _ below meth c A ⟨B.exec, B.bytes, hml, findClass_of_methodNamed B.named, atoms_spec (ws := ws) B.pre⟩ B.returns B.notSynchronized htab hA hP
  rw [lg_entry_eq]
  exact K _ _ _ hG va_S.rf (lv_entry av hlen)
section XA
variable {p : Program} {l : Launch} {e : Env} {R : Room} {s : State} {m : MethodId} {args : Array Value} {below : List Frame} {meth : Method} {c : Code} {cells slots : Nat} {Q : State → Prop} {nL : Nat} {A : Nat → Prop} {q : SS} {pc : Nat} {lv : List (Nat × Value)} {rest : List Value} {cc : ByteArray} {G G' Gc : GH} {P : PH} {Ts : List Cond} {own : String}
theorem x_iret (hx : p.tables.exec = Jvm.exec) (hb : c.code = cc) (hlocks : meth.locks = false) {ty : FieldType} (hr : meth.sig.returnType = some ty) {v : Int32} (hn : narrow ty (.int v) = .int v) {F : (Nat × SS) ⊕ (Int32 × SS)} (hF : F = .inr (v, q)) (hdg : decode cc pc = .ok (.ireturn, 1)) : Z p l e R s m args below meth c cells slots (vx_MQ below (va_Qi (fun (x : Int32) (u : SS) => F = .inr (x, u)) (fun u t => G A u t.heap) A) (vx_X (fun (u : Nat × SS) => F = .inl u) (fun E u t => E = exn u.1 ∧ G A u.2 t.heap) A) args s cells slots A) nL A (G A) q pc lv [.int v] := by
  intro H locs ls h1 h2 h3
  subst hF
  exact vx_ret (W.zret hx hb hr hn (fun t ht hW => ⟨⟨v, q, rfl, rfl, by subst ht; exact h1⟩, h2.F ht⟩) h2.2.2 hdg hlocks)
theorem x_lret (hx : p.tables.exec = Jvm.exec) (hb : c.code = cc) (hlocks : meth.locks = false) (hr : meth.sig.returnType = some .long) {v : Int64} {F : (Nat × SS) ⊕ (Int64 × SS)} (hF : F = .inr (v, q)) (hdg : decode cc pc = .ok (.lreturn, 1)) : Z p l e R s m args below meth c cells slots (vx_MQ below (va_Ql (fun (x : Int64) (u : SS) => F = .inr (x, u)) (fun u t => G A u t.heap) A) (vx_X (fun (u : Nat × SS) => F = .inl u) (fun E u t => E = exn u.1 ∧ G A u.2 t.heap) A) args s cells slots A) nL A (G A) q pc lv [.long v] := by
  intro H locs ls h1 h2 h3
  subst hF
  exact vx_ret (W.lret hx hb hr (fun t ht hW => ⟨⟨v, q, rfl, rfl, by subst ht; exact h1⟩, h2.F ht⟩) h2.2.2 hdg hlocks)
theorem x_fret (hx : p.tables.exec = Jvm.exec) (hb : c.code = cc) (hlocks : meth.locks = false) (hr : meth.sig.returnType = some .float) {v : UInt32} {F : (Nat × SS) ⊕ (UInt32 × SS)} (hF : F = .inr (v, q)) (hdg : decode cc pc = .ok (.freturn, 1)) : Z p l e R s m args below meth c cells slots (vx_MQ below (va_Qf (fun (x : UInt32) (u : SS) => F = .inr (x, u)) (fun u t => G A u t.heap) A) (vx_X (fun (u : Nat × SS) => F = .inl u) (fun E u t => E = exn u.1 ∧ G A u.2 t.heap) A) args s cells slots A) nL A (G A) q pc lv [.float v] := by
  intro H locs ls h1 h2 h3
  subst hF
  exact vx_ret (W.fret hx hb hr (fun t ht hW => ⟨⟨v, q, rfl, rfl, by subst ht; exact h1⟩, h2.F ht⟩) h2.2.2 hdg hlocks)
theorem x_dret (hx : p.tables.exec = Jvm.exec) (hb : c.code = cc) (hlocks : meth.locks = false) (hr : meth.sig.returnType = some .double) {v : UInt64} {F : (Nat × SS) ⊕ (UInt64 × SS)} (hF : F = .inr (v, q)) (hdg : decode cc pc = .ok (.dreturn, 1)) : Z p l e R s m args below meth c cells slots (vx_MQ below (va_Qd (fun (x : UInt64) (u : SS) => F = .inr (x, u)) (fun u t => G A u t.heap) A) (vx_X (fun (u : Nat × SS) => F = .inl u) (fun E u t => E = exn u.1 ∧ G A u.2 t.heap) A) args s cells slots A) nL A (G A) q pc lv [.double v] := by
  intro H locs ls h1 h2 h3
  subst hF
  exact vx_ret (W.dret hx hb hr (fun t ht hW => ⟨⟨v, q, rfl, rfl, by subst ht; exact h1⟩, h2.F ht⟩) h2.2.2 hdg hlocks)
theorem x_vret (hx : p.tables.exec = Jvm.exec) (hb : c.code = cc) (hlocks : meth.locks = false) (hr : meth.sig.returnType = none) {F : (Nat × SS) ⊕ SS} (hF : F = .inr q) (hdg : decode cc pc = .ok (.return_, 1)) : Z p l e R s m args below meth c cells slots (vx_MQ below (va_Qv (fun (u : SS) => F = .inr u) (fun u t => G A u t.heap) A) (vx_X (fun (u : Nat × SS) => F = .inl u) (fun E u t => E = exn u.1 ∧ G A u.2 t.heap) A) args s cells slots A) nL A (G A) q pc lv [] := by
  intro H locs ls h1 h2 h3
  subst hF
  exact vx_ret (W.vret hx hb hr (fun t ht hW => ⟨⟨q, rfl, rfl, by subst ht; exact h1⟩, h2.F ht⟩) h2.2.2 hdg hlocks)
theorem x_out {Qc : Array Value → State → Outcome → State → Prop} {β : Type} {F : (Nat × SS) ⊕ β} {u : Nat × SS} {mc ms : Nat} (htab : ∀ x ∈ c.exceptionTable.toList, False) (hlocks : meth.locks = false) (hF : F = .inl u) (hG : ∀ H, G A u.2 H → G' A u.2 H) (hc : cells ≤ mc) (hs : slots ≤ ms) : ZT p l e R s m args below meth c cells slots (vx_MQ below Qc (vx_X (fun (u : Nat × SS) => F = .inl u) (fun E u t => E = exn u.1 ∧ G' A u.2 t.heap) A) args s mc ms A) nL A (G A) (exn u.1) u.2 pc lv rest := by
  intro H locs ls ce q9 h1 h2 h3 hcell hv hcl
  exact vx_out (fun x hx => (htab x hx).elim) hlocks hcell hv hcl (fun t ht hvm => ⟨u, hF, ⟨rfl, by subst ht; exact hG _ h1⟩, h2.F ht⟩) h2.2.2 hc hs
/-- throw new E(text) -/
theorem x_throw {Qc : Array Value → State → Outcome → State → Prop} {β : Type} {F : (Nat × SS) ⊕ β} (S : CallFix p m c cc nL s args Ts RX10) (hl : l.stackTraces = false) (htab : ∀ x ∈ c.exceptionTable.toList, False) (hlocks : meth.locks = false) (hE : EV A s s.heap) (hGk : KG G) (hGG : ∀ H, G A q H → G' A q H) {k ik is ic mc ms : Nat} {names : List String} {text : String} (hF : F = .inl (k, q)) (hcls : Bundle.fit (exn k) = true) (hnames : ∀ n ∈ names, Bundle.fit n = true) (hk : Cond.classLink RX10 ik (exn k) ∈ Ts) (hini : Cond.initialized (exn k) ∈ Ts) (htx : (is, text) ∈ xsThrow)
    (hat : (∀ w ∈ Ts, w.before args s = true) → EV A s s.heap → ∀ w ∈ vx_atS RX10 ic (exn k) names, w.before args s = true) (hgood : ∀ w ∈ Cond.classLink RX10 ik (exn k) :: Cond.initialized (exn k) :: vx_atS RX10 ic (exn k) names, vx_ot w = true)
    (d0 : decode cc pc = .ok (.new ik, 3)) (d3 : decode cc (pc + 3) = .ok (.dup, 1)) (d4 : decode cc (pc + 4) = .ok (.ldc is, 2)) (d6 : decode cc (pc + 6) = .ok (.invokespecial ic, 3)) (d9 : decode cc (pc + 9) = .ok (.athrow, 1))
    (hRframes : names.length + 3 < R.frames) (hRlocals : (rest.map fun v => v.category).sum + (13 * (names.length + 1) + 43) ≤ R.locals) (hRcells : cells + 1 ≤ R.cells) (hRslots : slots + 6 ≤ R.slots) (hc : cells + 1 ≤ mc) (hs : slots + 6 ≤ ms) :
    Z p l e R s m args below meth c cells slots (vx_MQ below Qc (vx_X (fun (u : Nat × SS) => F = .inl u) (fun E u t => E = exn u.1 ∧ G' A u.2 t.heap) A) args s mc ms A) nL A (G A) q pc lv rest := by
  obtain ⟨hx, hb, hml, hown, hts⟩ := S
  intro H locs ls h1 h2 h3
  obtain ⟨sa, hsa⟩ := hE.2.1 _ htx
  exact vx_throwS hx hb hl hown hcls hnames (hts _ hk) (hts _ hini) hsa (hat hts hE) hgood hE.2.2.2.1 hE.2.2.2.2.1 h2 (h3.1.trans hml.symm) d0 d3 d4 d6 d9 (fun x hx => (htab x hx).elim) hRframes hRlocals hRcells hRslots hlocks
    (fun t hvm hz hk => ⟨(k, q), hF, ⟨rfl, hGG _ (hGk A q H t.heap h1 hk)⟩, Nat.le_trans h2.1 hz, fun z hz1 hz2 => (hk z (Nat.lt_of_lt_of_le hz1 h2.1)).trans (h2.2.1 z hz1 hz2)⟩) h2.2.2 hc hs
theorem x_callVi (S : CallFix p m c cc nL s args Ts own) {y : MethodName} {bytes : ByteArray} {idx maxL mc ms n : Nat} {ret : Option FieldType} {ws : List Cond} {rm : Room} {b : Addr} {As : List Value} {C : String} {F : (Nat × SS) ⊕ (Int32 × SS)} (hM : Xi l y ws rm mc ms P G G' (.ref b :: As) q F) (cw : CallW R s args own C idx y bytes maxL ret ws rm mc ms n) (hA : ∀ z, s.heap.size ≤ z → A z) (hPb : PB P) (hPs : PS P A s) (hrecv : ∀ H, G A q H → ∃ cell : Cell, H[b]? = some cell ∧ cell.vm.isStatics = false ∧ s.vm.findClass C = some cell.cls) {st0 : List Value} (hn : As.length = n) (hst : st0 = As.reverse ++ .ref b :: rest) (hW : (rest.map fun v => v.category).sum ≤ 8) (hdg : decode cc pc = .ok (.invokevirtual idx, 3)) (hf : cells + mc ≤ R.cells ∧ slots + ms ≤ R.slots)
    (kk : ∀ (r : Int32) (u : SS), F = .inr (r, u) → Z p l e R s m args below meth c (cells + mc) (slots + ms) Q nL A (G' A) u (pc + 3) lv (.int r :: rest))
    (kx : ∀ u : Nat × SS, F = .inl u → ZT p l e R s m args below meth c (cells + mc) (slots + ms) Q nL A (G' A) (exn u.1) u.2 pc lv rest) : Z p l e R s m args below meth c cells slots Q nL A (G A) q pc lv st0 := by
  intro H locs ls h1 h2 h3
  subst hst
  refine vx_calli (vx_runV (As := As) (rest := rest) S (hM A H.size (fun z hz => hA z (Nat.le_trans h2.1 hz))) cw ⟨fun a U g mk z => ⟨z.1, z.2.1, hPb _ _ _ _ _ z.2.2.1, z.2.2.2⟩, hrecv H h1, fun U hU hW => ⟨rfl, by rw [hU], hPs H locs h2 U hU hW, by rw [hU]; exact h1⟩⟩ rfl hn h3.1 rfl (lv_room hW) hdg hf) h2 (fun z _ h => h) (fun z h => h) (fun z _ h => h) (fun E ce q9 u t H1 locs1 ht hvm hu hB hz hk hS1 hcell hv hcl => ?_) (fun r u t H1 locs1 ht hvm hw hB hz hk hS1 => ?_)
  · obtain ⟨rfl, hB⟩ := hB
    exact kx u hu H1 locs1 ls ce q9 (by rw [← ht]; exact hB) hS1 h3 hcell hv hcl
  · exact kk r u hw H1 locs1 ls (by rw [← ht]; exact hB) hS1 h3
theorem x_callVl (S : CallFix p m c cc nL s args Ts own) {y : MethodName} {bytes : ByteArray} {idx maxL mc ms n : Nat} {ret : Option FieldType} {ws : List Cond} {rm : Room} {b : Addr} {As : List Value} {C : String} {F : (Nat × SS) ⊕ (Int64 × SS)} (hM : Xl l y ws rm mc ms P G G' (.ref b :: As) q F) (cw : CallW R s args own C idx y bytes maxL ret ws rm mc ms n) (hA : ∀ z, s.heap.size ≤ z → A z) (hPb : PB P) (hPs : PS P A s) (hrecv : ∀ H, G A q H → ∃ cell : Cell, H[b]? = some cell ∧ cell.vm.isStatics = false ∧ s.vm.findClass C = some cell.cls) {st0 : List Value} (hn : As.length = n) (hst : st0 = As.reverse ++ .ref b :: rest) (hW : (rest.map fun v => v.category).sum ≤ 8) (hdg : decode cc pc = .ok (.invokevirtual idx, 3)) (hf : cells + mc ≤ R.cells ∧ slots + ms ≤ R.slots)
    (kk : ∀ (r : Int64) (u : SS), F = .inr (r, u) → Z p l e R s m args below meth c (cells + mc) (slots + ms) Q nL A (G' A) u (pc + 3) lv (.long r :: rest))
    (kx : ∀ u : Nat × SS, F = .inl u → ZT p l e R s m args below meth c (cells + mc) (slots + ms) Q nL A (G' A) (exn u.1) u.2 pc lv rest) : Z p l e R s m args below meth c cells slots Q nL A (G A) q pc lv st0 := by
  intro H locs ls h1 h2 h3
  subst hst
  refine vx_calll (vx_runV (As := As) (rest := rest) S (hM A H.size (fun z hz => hA z (Nat.le_trans h2.1 hz))) cw ⟨fun a U g mk z => ⟨z.1, z.2.1, hPb _ _ _ _ _ z.2.2.1, z.2.2.2⟩, hrecv H h1, fun U hU hW => ⟨rfl, by rw [hU], hPs H locs h2 U hU hW, by rw [hU]; exact h1⟩⟩ rfl hn h3.1 rfl (lv_room hW) hdg hf) h2 (fun z _ h => h) (fun z h => h) (fun z _ h => h) (fun E ce q9 u t H1 locs1 ht hvm hu hB hz hk hS1 hcell hv hcl => ?_) (fun r u t H1 locs1 ht hvm hw hB hz hk hS1 => ?_)
  · obtain ⟨rfl, hB⟩ := hB
    exact kx u hu H1 locs1 ls ce q9 (by rw [← ht]; exact hB) hS1 h3 hcell hv hcl
  · exact kk r u hw H1 locs1 ls (by rw [← ht]; exact hB) hS1 h3
theorem x_callVf (S : CallFix p m c cc nL s args Ts own) {y : MethodName} {bytes : ByteArray} {idx maxL mc ms n : Nat} {ret : Option FieldType} {ws : List Cond} {rm : Room} {b : Addr} {As : List Value} {C : String} {F : (Nat × SS) ⊕ (UInt32 × SS)} (hM : Xf l y ws rm mc ms P G G' (.ref b :: As) q F) (cw : CallW R s args own C idx y bytes maxL ret ws rm mc ms n) (hA : ∀ z, s.heap.size ≤ z → A z) (hPb : PB P) (hPs : PS P A s) (hrecv : ∀ H, G A q H → ∃ cell : Cell, H[b]? = some cell ∧ cell.vm.isStatics = false ∧ s.vm.findClass C = some cell.cls) {st0 : List Value} (hn : As.length = n) (hst : st0 = As.reverse ++ .ref b :: rest) (hW : (rest.map fun v => v.category).sum ≤ 8) (hdg : decode cc pc = .ok (.invokevirtual idx, 3)) (hf : cells + mc ≤ R.cells ∧ slots + ms ≤ R.slots)
    (kk : ∀ (r : UInt32) (u : SS), F = .inr (r, u) → Z p l e R s m args below meth c (cells + mc) (slots + ms) Q nL A (G' A) u (pc + 3) lv (.float r :: rest))
    (kx : ∀ u : Nat × SS, F = .inl u → ZT p l e R s m args below meth c (cells + mc) (slots + ms) Q nL A (G' A) (exn u.1) u.2 pc lv rest) : Z p l e R s m args below meth c cells slots Q nL A (G A) q pc lv st0 := by
  intro H locs ls h1 h2 h3
  subst hst
  refine vx_callf (vx_runV (As := As) (rest := rest) S (hM A H.size (fun z hz => hA z (Nat.le_trans h2.1 hz))) cw ⟨fun a U g mk z => ⟨z.1, z.2.1, hPb _ _ _ _ _ z.2.2.1, z.2.2.2⟩, hrecv H h1, fun U hU hW => ⟨rfl, by rw [hU], hPs H locs h2 U hU hW, by rw [hU]; exact h1⟩⟩ rfl hn h3.1 rfl (lv_room hW) hdg hf) h2 (fun z _ h => h) (fun z h => h) (fun z _ h => h) (fun E ce q9 u t H1 locs1 ht hvm hu hB hz hk hS1 hcell hv hcl => ?_) (fun r u t H1 locs1 ht hvm hw hB hz hk hS1 => ?_)
  · obtain ⟨rfl, hB⟩ := hB
    exact kx u hu H1 locs1 ls ce q9 (by rw [← ht]; exact hB) hS1 h3 hcell hv hcl
  · exact kk r u hw H1 locs1 ls (by rw [← ht]; exact hB) hS1 h3
theorem x_callVd (S : CallFix p m c cc nL s args Ts own) {y : MethodName} {bytes : ByteArray} {idx maxL mc ms n : Nat} {ret : Option FieldType} {ws : List Cond} {rm : Room} {b : Addr} {As : List Value} {C : String} {F : (Nat × SS) ⊕ (UInt64 × SS)} (hM : Xd l y ws rm mc ms P G G' (.ref b :: As) q F) (cw : CallW R s args own C idx y bytes maxL ret ws rm mc ms n) (hA : ∀ z, s.heap.size ≤ z → A z) (hPb : PB P) (hPs : PS P A s) (hrecv : ∀ H, G A q H → ∃ cell : Cell, H[b]? = some cell ∧ cell.vm.isStatics = false ∧ s.vm.findClass C = some cell.cls) {st0 : List Value} (hn : As.length = n) (hst : st0 = As.reverse ++ .ref b :: rest) (hW : (rest.map fun v => v.category).sum ≤ 8) (hdg : decode cc pc = .ok (.invokevirtual idx, 3)) (hf : cells + mc ≤ R.cells ∧ slots + ms ≤ R.slots)
    (kk : ∀ (r : UInt64) (u : SS), F = .inr (r, u) → Z p l e R s m args below meth c (cells + mc) (slots + ms) Q nL A (G' A) u (pc + 3) lv (.double r :: rest))
    (kx : ∀ u : Nat × SS, F = .inl u → ZT p l e R s m args below meth c (cells + mc) (slots + ms) Q nL A (G' A) (exn u.1) u.2 pc lv rest) : Z p l e R s m args below meth c cells slots Q nL A (G A) q pc lv st0 := by
  intro H locs ls h1 h2 h3
  subst hst
  refine vx_calld (vx_runV (As := As) (rest := rest) S (hM A H.size (fun z hz => hA z (Nat.le_trans h2.1 hz))) cw ⟨fun a U g mk z => ⟨z.1, z.2.1, hPb _ _ _ _ _ z.2.2.1, z.2.2.2⟩, hrecv H h1, fun U hU hW => ⟨rfl, by rw [hU], hPs H locs h2 U hU hW, by rw [hU]; exact h1⟩⟩ rfl hn h3.1 rfl (lv_room hW) hdg hf) h2 (fun z _ h => h) (fun z h => h) (fun z _ h => h) (fun E ce q9 u t H1 locs1 ht hvm hu hB hz hk hS1 hcell hv hcl => ?_) (fun r u t H1 locs1 ht hvm hw hB hz hk hS1 => ?_)
  · obtain ⟨rfl, hB⟩ := hB
    exact kx u hu H1 locs1 ls ce q9 (by rw [← ht]; exact hB) hS1 h3 hcell hv hcl
  · exact kk r u hw H1 locs1 ls (by rw [← ht]; exact hB) hS1 h3
theorem x_callVv (S : CallFix p m c cc nL s args Ts own) {y : MethodName} {bytes : ByteArray} {idx maxL mc ms n : Nat} {ret : Option FieldType} {ws : List Cond} {rm : Room} {b : Addr} {As : List Value} {C : String} {F : (Nat × SS) ⊕ SS} (hM : Xv l y ws rm mc ms P G G' (.ref b :: As) q F) (cw : CallW R s args own C idx y bytes maxL ret ws rm mc ms n) (hA : ∀ z, s.heap.size ≤ z → A z) (hPb : PB P) (hPs : PS P A s) (hrecv : ∀ H, G A q H → ∃ cell : Cell, H[b]? = some cell ∧ cell.vm.isStatics = false ∧ s.vm.findClass C = some cell.cls) {st0 : List Value} (hn : As.length = n) (hst : st0 = As.reverse ++ .ref b :: rest) (hW : (rest.map fun v => v.category).sum ≤ 8) (hdg : decode cc pc = .ok (.invokevirtual idx, 3)) (hf : cells + mc ≤ R.cells ∧ slots + ms ≤ R.slots)
    (kk : ∀ u : SS, F = .inr u → Z p l e R s m args below meth c (cells + mc) (slots + ms) Q nL A (G' A) u (pc + 3) lv rest)
    (kx : ∀ u : Nat × SS, F = .inl u → ZT p l e R s m args below meth c (cells + mc) (slots + ms) Q nL A (G' A) (exn u.1) u.2 pc lv rest) : Z p l e R s m args below meth c cells slots Q nL A (G A) q pc lv st0 := by
  intro H locs ls h1 h2 h3
  subst hst
  refine vx_callv (vx_runV (As := As) (rest := rest) S (hM A H.size (fun z hz => hA z (Nat.le_trans h2.1 hz))) cw ⟨fun a U g mk z => ⟨z.1, z.2.1, hPb _ _ _ _ _ z.2.2.1, z.2.2.2⟩, hrecv H h1, fun U hU hW => ⟨rfl, by rw [hU], hPs H locs h2 U hU hW, by rw [hU]; exact h1⟩⟩ rfl hn h3.1 rfl (lv_room hW) hdg hf) h2 (fun z _ h => h) (fun z h => h) (fun z _ h => h) (fun E ce q9 u t H1 locs1 ht hvm hu hB hz hk hS1 hcell hv hcl => ?_) (fun u t H1 locs1 ht hvm hw hB hz hk hS1 => ?_)
  · obtain ⟨rfl, hB⟩ := hB
    exact kx u hu H1 locs1 ls ce q9 (by rw [← ht]; exact hB) hS1 h3 hcell hv hcl
  · exact kk u hw H1 locs1 ls (by rw [← ht]; exact hB) hS1 h3
theorem x_callSv (S : CallFix p m c cc nL s args Ts own) {y : MethodName} {bytes : ByteArray} {idx maxL mc ms n : Nat} {ret : Option FieldType} {ws : List Cond} {rm : Room} {As : List Value} {F : (Nat × SS) ⊕ SS} (hM : Xv l y ws rm mc ms P G G' As q F) (cw : CallB R s args own idx y bytes maxL ret ws rm mc ms n ∧ (Cond.static y).before args s = true) (hA : ∀ z, s.heap.size ≤ z → A z) (hPb : PB P) (hPs : PS P A s) {st0 : List Value} (hn : As.length = n) (hst : st0 = As.reverse ++ rest) (hW : (rest.map fun v => v.category).sum ≤ 8) (hdg : decode cc pc = .ok (.invokestatic idx, 3)) (hf : cells + mc ≤ R.cells ∧ slots + ms ≤ R.slots)
    (kk : ∀ u : SS, F = .inr u → Z p l e R s m args below meth c (cells + mc) (slots + ms) Q nL A (G' A) u (pc + 3) lv rest)
    (kx : ∀ u : Nat × SS, F = .inl u → ZT p l e R s m args below meth c (cells + mc) (slots + ms) Q nL A (G' A) (exn u.1) u.2 pc lv rest) : Z p l e R s m args below meth c cells slots Q nL A (G A) q pc lv st0 := by
  intro H locs ls h1 h2 h3
  subst hst
  refine vx_callv (vx_runS (As := As) (rest := rest) S (hM A H.size (fun z hz => hA z (Nat.le_trans h2.1 hz))) cw ⟨fun a U g mk z => ⟨z.1, z.2.1, hPb _ _ _ _ _ z.2.2.1, z.2.2.2⟩, fun U hU hW => ⟨rfl, by rw [hU], hPs H locs h2 U hU hW, by rw [hU]; exact h1⟩⟩ rfl hn h3.1 rfl (lv_room hW) hdg hf) h2 (fun z _ h => h) (fun z h => h) (fun z _ h => h) (fun E ce q9 u t H1 locs1 ht hvm hu hB hz hk hS1 hcell hv hcl => ?_) (fun u t H1 locs1 ht hvm hw hB hz hk hS1 => ?_)
  · obtain ⟨rfl, hB⟩ := hB
    exact kx u hu H1 locs1 ls ce q9 (by rw [← ht]; exact hB) hS1 h3 hcell hv hcl
  · exact kk u hw H1 locs1 ls (by rw [← ht]; exact hB) hS1 h3
end XA
theorem xg_0 : ∀ w ∈ (vx_atS RX10 113 (exn 0) ["java/lang/RuntimeException", "java/lang/Exception"]).filter goodWord, w ∈ lw_tbl := by decide +kernel
theorem xh_0 : ∀ w ∈ (vx_atS RX10 113 (exn 0) ["java/lang/RuntimeException", "java/lang/Exception"]).filter (fun w => !goodWord w), w ∈ (xNdecl.map Cond.declares ++ [Cond.castable (exn 0) (exn 0)]) := by decide +kernel
theorem xo_0 : ∀ w ∈ vx_atS RX10 113 (exn 0) ["java/lang/RuntimeException", "java/lang/Exception"], vx_ot w = true := by decide +kernel
theorem xt_0 {x : Cond} {args : Array Value} {s : State} {A : Nat → Prop} (hts : ∀ w ∈ x :: lw_G, w.before args s = true) (hE : EV A s s.heap) : ∀ w ∈ vx_atS RX10 113 (exn 0) ["java/lang/RuntimeException", "java/lang/Exception"], w.before args s = true :=
  vx_hat (fun w hw => hts w (List.mem_cons_of_mem _ (lw_Gi (xg_0 w hw) (List.mem_filter.mp hw).2))) xh_0 (fun w hw => by
    rcases List.mem_append.mp hw with h | h
    · obtain ⟨y, hy, rfl⟩ := List.mem_map.mp h
      exact va_Nw.use rfl (hE.2.2.2.2.2.2.1 y hy)
    · rw [List.mem_singleton.mp h]
      exact va_Nw.use rfl (hE.2.2.2.2.2.2.2.1 0 (by decide)))
theorem xg_1 : ∀ w ∈ (vx_atS RX10 132 (exn 1) ["java/lang/RuntimeException", "java/lang/Exception"]).filter goodWord, w ∈ lw_tbl := by decide +kernel
theorem xh_1 : ∀ w ∈ (vx_atS RX10 132 (exn 1) ["java/lang/RuntimeException", "java/lang/Exception"]).filter (fun w => !goodWord w), w ∈ (xNdecl.map Cond.declares ++ [Cond.castable (exn 1) (exn 1)]) := by decide +kernel
theorem xo_1 : ∀ w ∈ vx_atS RX10 132 (exn 1) ["java/lang/RuntimeException", "java/lang/Exception"], vx_ot w = true := by decide +kernel
theorem xt_1 {x : Cond} {args : Array Value} {s : State} {A : Nat → Prop} (hts : ∀ w ∈ x :: lw_G, w.before args s = true) (hE : EV A s s.heap) : ∀ w ∈ vx_atS RX10 132 (exn 1) ["java/lang/RuntimeException", "java/lang/Exception"], w.before args s = true :=
  vx_hat (fun w hw => hts w (List.mem_cons_of_mem _ (lw_Gi (xg_1 w hw) (List.mem_filter.mp hw).2))) xh_1 (fun w hw => by
    rcases List.mem_append.mp hw with h | h
    · obtain ⟨y, hy, rfl⟩ := List.mem_map.mp h
      exact va_Nw.use rfl (hE.2.2.2.2.2.2.1 y hy)
    · rw [List.mem_singleton.mp h]
      exact va_Nw.use rfl (hE.2.2.2.2.2.2.2.1 1 (by decide)))
theorem xg_2 : ∀ w ∈ (vx_atS RX10 68 (exn 2) ["java/lang/RuntimeException", "java/lang/Exception"]).filter goodWord, w ∈ lw_tbl := by decide +kernel
theorem xh_2 : ∀ w ∈ (vx_atS RX10 68 (exn 2) ["java/lang/RuntimeException", "java/lang/Exception"]).filter (fun w => !goodWord w), w ∈ (xNdecl.map Cond.declares ++ [Cond.castable (exn 2) (exn 2)]) := by decide +kernel
theorem xo_2 : ∀ w ∈ vx_atS RX10 68 (exn 2) ["java/lang/RuntimeException", "java/lang/Exception"], vx_ot w = true := by decide +kernel
theorem xt_2 {x : Cond} {args : Array Value} {s : State} {A : Nat → Prop} (hts : ∀ w ∈ x :: lw_G, w.before args s = true) (hE : EV A s s.heap) : ∀ w ∈ vx_atS RX10 68 (exn 2) ["java/lang/RuntimeException", "java/lang/Exception"], w.before args s = true :=
  vx_hat (fun w hw => hts w (List.mem_cons_of_mem _ (lw_Gi (xg_2 w hw) (List.mem_filter.mp hw).2))) xh_2 (fun w hw => by
    rcases List.mem_append.mp hw with h | h
    · obtain ⟨y, hy, rfl⟩ := List.mem_map.mp h
      exact va_Nw.use rfl (hE.2.2.2.2.2.2.1 y hy)
    · rw [List.mem_singleton.mp h]
      exact va_Nw.use rfl (hE.2.2.2.2.2.2.2.1 2 (by decide)))
theorem xg_4 : ∀ w ∈ (vx_atS RX10 141 (exn 4) ["java/lang/RuntimeException", "java/lang/Exception"]).filter goodWord, w ∈ lw_tbl := by decide +kernel
theorem xh_4 : ∀ w ∈ (vx_atS RX10 141 (exn 4) ["java/lang/RuntimeException", "java/lang/Exception"]).filter (fun w => !goodWord w), w ∈ (xNdecl.map Cond.declares ++ [Cond.castable (exn 4) (exn 4)]) := by decide +kernel
theorem xo_4 : ∀ w ∈ vx_atS RX10 141 (exn 4) ["java/lang/RuntimeException", "java/lang/Exception"], vx_ot w = true := by decide +kernel
theorem xt_4 {x : Cond} {args : Array Value} {s : State} {A : Nat → Prop} (hts : ∀ w ∈ x :: lw_G, w.before args s = true) (hE : EV A s s.heap) : ∀ w ∈ vx_atS RX10 141 (exn 4) ["java/lang/RuntimeException", "java/lang/Exception"], w.before args s = true :=
  vx_hat (fun w hw => hts w (List.mem_cons_of_mem _ (lw_Gi (xg_4 w hw) (List.mem_filter.mp hw).2))) xh_4 (fun w hw => by
    rcases List.mem_append.mp hw with h | h
    · obtain ⟨y, hy, rfl⟩ := List.mem_map.mp h
      exact va_Nw.use rfl (hE.2.2.2.2.2.2.1 y hy)
    · rw [List.mem_singleton.mp h]
      exact va_Nw.use rfl (hE.2.2.2.2.2.2.2.1 4 (by decide)))
theorem xg_5 : ∀ w ∈ (vx_atS RX10 306 (exn 5) ["java/lang/RuntimeException", "java/lang/Exception"]).filter goodWord, w ∈ lw_tbl := by decide +kernel
theorem xh_5 : ∀ w ∈ (vx_atS RX10 306 (exn 5) ["java/lang/RuntimeException", "java/lang/Exception"]).filter (fun w => !goodWord w), w ∈ (xNdecl.map Cond.declares ++ [Cond.castable (exn 5) (exn 5)]) := by decide +kernel
theorem xo_5 : ∀ w ∈ vx_atS RX10 306 (exn 5) ["java/lang/RuntimeException", "java/lang/Exception"], vx_ot w = true := by decide +kernel
theorem xt_5 {x : Cond} {args : Array Value} {s : State} {A : Nat → Prop} (hts : ∀ w ∈ x :: lw_G, w.before args s = true) (hE : EV A s s.heap) : ∀ w ∈ vx_atS RX10 306 (exn 5) ["java/lang/RuntimeException", "java/lang/Exception"], w.before args s = true :=
  vx_hat (fun w hw => hts w (List.mem_cons_of_mem _ (lw_Gi (xg_5 w hw) (List.mem_filter.mp hw).2))) xh_5 (fun w hw => by
    rcases List.mem_append.mp hw with h | h
    · obtain ⟨y, hy, rfl⟩ := List.mem_map.mp h
      exact va_Nw.use rfl (hE.2.2.2.2.2.2.1 y hy)
    · rw [List.mem_singleton.mp h]
      exact va_Nw.use rfl (hE.2.2.2.2.2.2.2.1 5 (by decide)))
