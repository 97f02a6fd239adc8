/-! contracts over the state: what a method answers and makes of it, F out of its own text -/
section ZC
/-- the room that every contract of this claim asks: frames k, locals 20 k, cells and slots as told -/
def zr (k mc ms : Nat) : Room := { frames := k, cells := mc, slots := ms, locals := 40 * k }
abbrev GH : Type := (Nat → Prop) → SS → Heap → Prop
abbrev PH : Type := (Nat → Prop) → State → Prop
def Ci (l : Launch) (y : MethodName) (ws : List Cond) (rm : Room) (mc ms : Nat) (P : PH) (G G' : GH) (av : List Value) (q : SS) (F : Int32 × SS) : Prop :=
  ∀ (A : Nat → Prop) (sz : Nat), (∀ z, sz ≤ z → A z) → Met l y ws rm (va_Pc av (fun U => U.heap.size = sz ∧ P A U ∧ G A q U.heap)) (va_Qi (fun (x : Int32) (_ : Unit) => x = F.1) (fun _ t => G' A F.2 t.heap) A) mc ms A
def Cl (l : Launch) (y : MethodName) (ws : List Cond) (rm : Room) (mc ms : Nat) (P : PH) (G G' : GH) (av : List Value) (q : SS) (F : Int64 × SS) : Prop :=
  ∀ (A : Nat → Prop) (sz : Nat), (∀ z, sz ≤ z → A z) → Met l y ws rm (va_Pc av (fun U => U.heap.size = sz ∧ P A U ∧ G A q U.heap)) (va_Ql (fun (x : Int64) (_ : Unit) => x = F.1) (fun _ t => G' A F.2 t.heap) A) mc ms A
def Cf (l : Launch) (y : MethodName) (ws : List Cond) (rm : Room) (mc ms : Nat) (P : PH) (G G' : GH) (av : List Value) (q : SS) (F : UInt32 × SS) : Prop :=
  ∀ (A : Nat → Prop) (sz : Nat), (∀ z, sz ≤ z → A z) → Met l y ws rm (va_Pc av (fun U => U.heap.size = sz ∧ P A U ∧ G A q U.heap)) (va_Qf (fun (x : UInt32) (_ : Unit) => x = F.1) (fun _ t => G' A F.2 t.heap) A) mc ms A
def Cd (l : Launch) (y : MethodName) (ws : List Cond) (rm : Room) (mc ms : Nat) (P : PH) (G G' : GH) (av : List Value) (q : SS) (F : UInt64 × SS) : Prop :=
  ∀ (A : Nat → Prop) (sz : Nat), (∀ z, sz ≤ z → A z) → Met l y ws rm (va_Pc av (fun U => U.heap.size = sz ∧ P A U ∧ G A q U.heap)) (va_Qd (fun (x : UInt64) (_ : Unit) => x = F.1) (fun _ t => G' A F.2 t.heap) A) mc ms A
def Cv (l : Launch) (y : MethodName) (ws : List Cond) (rm : Room) (mc ms : Nat) (P : PH) (G G' : GH) (av : List Value) (q : SS) (F : SS) : Prop :=
  ∀ (A : Nat → Prop) (sz : Nat), (∀ z, sz ≤ z → A z) → Met l y ws rm (va_Pc av (fun U => U.heap.size = sz ∧ P A U ∧ G A q U.heap)) (va_Qv (fun (_ : Unit) => True) (fun _ t => G' A F t.heap) A) mc ms A
/-- an answer that is null or an object, by its address -/
def Cq (l : Launch) (y : MethodName) (ws : List Cond) (rm : Room) (mc ms : Nat) (P : PH) (G G' : GH) (av : List Value) (q : SS) (F : Option Nat × SS) : Prop :=
  ∀ (A : Nat → Prop) (sz : Nat), (∀ z, sz ≤ z → A z) → Met l y ws rm (va_Pc av (fun U => U.heap.size = sz ∧ P A U ∧ G A q U.heap)) (va_Qq (fun (x : Option Nat) (_ : Unit) => x = F.1) (fun _ t => G' A F.2 t.heap) A) mc ms A
def PB (P : PH) : Prop := ∀ (A : Nat → Prop) (U : State) (g : JFrame) (mk : MethodId) (a : Array Value), P A U → P A (U.calling g mk a)
/-- the ambient fact, at any point of a method's walk -/
def PS (P : PH) (A : Nat → Prop) (s : State) : Prop := ∀ (H : Heap) (locs : List Loc), va_S A s.heap H locs → ∀ U : State, U.heap = H → s.WarmedH U.vm → P A U
theorem Ci.of {l : Launch} {y : MethodName} {ws ws' : List Cond} {rm : Room} {mc ms maxL : Nat} {ret : Option FieldType} {cc : ByteArray} {P : PH} {G G' : GH} {av : List Value} {q : SS} {F : Int32 × SS} (hy : plainName y.cls = true) (hw : ws = Cond.code y cc maxL ret :: ws') (hlen : (lg_sl av).length ≤ maxL)
    (body : ∀ (p : Program) (e : Env) (s : State) (m : MethodId) (args : Array Value) (below : List Frame) (meth : Method) (c : Code) (A : Nat → Prop), CallFix p m c cc maxL s args ws y.cls → meth.sig.returnType = ret → meth.locks = false → meth.name = y.name → (∀ z, s.heap.size ≤ z → A z) → P A s → Z p l e rm s m args below meth c 0 0 (MQ below (va_Qi (fun (x : Int32) (_ : Unit) => x = F.1) (fun _ t => G' A F.2 t.heap) A) args s mc ms A) maxL A (G A) q 0 (lv_args 0 av) []) : Ci l y ws rm mc ms P G G' av q F := by
  intro A sz hA
  refine Met.ofW (cc := cc) (maxL := maxL) (ret := ret) hy hw ?_
  intro p e s m args below meth c s₁ B hml hv
  obtain ⟨rfl, hsz, hP, hG⟩ := hv
  subst hsz
  have K := body p e s m _ below meth c A ⟨B.exec, B.bytes, hml, findClass_of_methodNamed B.named, atoms_spec (ws := ws) B.pre⟩ B.returns B.notSynchronized (name_of_methodNamed B.named B.method).1 hA hP
  rw [lg_entry_eq]
  exact K _ _ _ hG va_S.rf (lv_entry av hlen)
theorem Cl.of {l : Launch} {y : MethodName} {ws ws' : List Cond} {rm : Room} {mc ms maxL : Nat} {ret : Option FieldType} {cc : ByteArray} {P : PH} {G G' : GH} {av : List Value} {q : SS} {F : Int64 × SS} (hy : plainName y.cls = true) (hw : ws = Cond.code y cc maxL ret :: ws') (hlen : (lg_sl av).length ≤ maxL)
    (body : ∀ (p : Program) (e : Env) (s : State) (m : MethodId) (args : Array Value) (below : List Frame) (meth : Method) (c : Code) (A : Nat → Prop), CallFix p m c cc maxL s args ws y.cls → meth.sig.returnType = ret → meth.locks = false → meth.name = y.name → (∀ z, s.heap.size ≤ z → A z) → P A s → Z p l e rm s m args below meth c 0 0 (MQ below (va_Ql (fun (x : Int64) (_ : Unit) => x = F.1) (fun _ t => G' A F.2 t.heap) A) args s mc ms A) maxL A (G A) q 0 (lv_args 0 av) []) : Cl l y ws rm mc ms P G G' av q F := by
  intro A sz hA
  refine Met.ofW (cc := cc) (maxL := maxL) (ret := ret) hy hw ?_
  intro p e s m args below meth c s₁ B hml hv
  obtain ⟨rfl, hsz, hP, hG⟩ := hv
  subst hsz
  have K := body p e s m _ below meth c A ⟨B.exec, B.bytes, hml, findClass_of_methodNamed B.named, atoms_spec (ws := ws) B.pre⟩ B.returns B.notSynchronized (name_of_methodNamed B.named B.method).1 hA hP
  rw [lg_entry_eq]
  exact K _ _ _ hG va_S.rf (lv_entry av hlen)
theorem Cf.of {l : Launch} {y : MethodName} {ws ws' : List Cond} {rm : Room} {mc ms maxL : Nat} {ret : Option FieldType} {cc : ByteArray} {P : PH} {G G' : GH} {av : List Value} {q : SS} {F : UInt32 × SS} (hy : plainName y.cls = true) (hw : ws = Cond.code y cc maxL ret :: ws') (hlen : (lg_sl av).length ≤ maxL)
    (body : ∀ (p : Program) (e : Env) (s : State) (m : MethodId) (args : Array Value) (below : List Frame) (meth : Method) (c : Code) (A : Nat → Prop), CallFix p m c cc maxL s args ws y.cls → meth.sig.returnType = ret → meth.locks = false → meth.name = y.name → (∀ z, s.heap.size ≤ z → A z) → P A s → Z p l e rm s m args below meth c 0 0 (MQ below (va_Qf (fun (x : UInt32) (_ : Unit) => x = F.1) (fun _ t => G' A F.2 t.heap) A) args s mc ms A) maxL A (G A) q 0 (lv_args 0 av) []) : Cf l y ws rm mc ms P G G' av q F := by
  intro A sz hA
  refine Met.ofW (cc := cc) (maxL := maxL) (ret := ret) hy hw ?_
  intro p e s m args below meth c s₁ B hml hv
  obtain ⟨rfl, hsz, hP, hG⟩ := hv
  subst hsz
  have K := body p e s m _ below meth c A ⟨B.exec, B.bytes, hml, findClass_of_methodNamed B.named, atoms_spec (ws := ws) B.pre⟩ B.returns B.notSynchronized (name_of_methodNamed B.named B.method).1 hA hP
  rw [lg_entry_eq]
  exact K _ _ _ hG va_S.rf (lv_entry av hlen)
theorem Cd.of {l : Launch} {y : MethodName} {ws ws' : List Cond} {rm : Room} {mc ms maxL : Nat} {ret : Option FieldType} {cc : ByteArray} {P : PH} {G G' : GH} {av : List Value} {q : SS} {F : UInt64 × SS} (hy : plainName y.cls = true) (hw : ws = Cond.code y cc maxL ret :: ws') (hlen : (lg_sl av).length ≤ maxL)
    (body : ∀ (p : Program) (e : Env) (s : State) (m : MethodId) (args : Array Value) (below : List Frame) (meth : Method) (c : Code) (A : Nat → Prop), CallFix p m c cc maxL s args ws y.cls → meth.sig.returnType = ret → meth.locks = false → meth.name = y.name → (∀ z, s.heap.size ≤ z → A z) → P A s → Z p l e rm s m args below meth c 0 0 (MQ below (va_Qd (fun (x : UInt64) (_ : Unit) => x = F.1) (fun _ t => G' A F.2 t.heap) A) args s mc ms A) maxL A (G A) q 0 (lv_args 0 av) []) : Cd l y ws rm mc ms P G G' av q F := by
  intro A sz hA
  refine Met.ofW (cc := cc) (maxL := maxL) (ret := ret) hy hw ?_
  intro p e s m args below meth c s₁ B hml hv
  obtain ⟨rfl, hsz, hP, hG⟩ := hv
  subst hsz
  have K := body p e s m _ below meth c A ⟨B.exec, B.bytes, hml, findClass_of_methodNamed B.named, atoms_spec (ws := ws) B.pre⟩ B.returns B.notSynchronized (name_of_methodNamed B.named B.method).1 hA hP
  rw [lg_entry_eq]
  exact K _ _ _ hG va_S.rf (lv_entry av hlen)
theorem Cv.of {l : Launch} {y : MethodName} {ws ws' : List Cond} {rm : Room} {mc ms maxL : Nat} {ret : Option FieldType} {cc : ByteArray} {P : PH} {G G' : GH} {av : List Value} {q : SS} {F : SS} (hy : plainName y.cls = true) (hw : ws = Cond.code y cc maxL ret :: ws') (hlen : (lg_sl av).length ≤ maxL)
    (body : ∀ (p : Program) (e : Env) (s : State) (m : MethodId) (args : Array Value) (below : List Frame) (meth : Method) (c : Code) (A : Nat → Prop), CallFix p m c cc maxL s args ws y.cls → meth.sig.returnType = ret → meth.locks = false → meth.name = y.name → (∀ z, s.heap.size ≤ z → A z) → P A s → Z p l e rm s m args below meth c 0 0 (MQ below (va_Qv (fun (_ : Unit) => True) (fun _ t => G' A F t.heap) A) args s mc ms A) maxL A (G A) q 0 (lv_args 0 av) []) : Cv l y ws rm mc ms P G G' av q F := by
  intro A sz hA
  refine Met.ofW (cc := cc) (maxL := maxL) (ret := ret) hy hw ?_
  intro p e s m args below meth c s₁ B hml hv
  obtain ⟨rfl, hsz, hP, hG⟩ := hv
  subst hsz
  have K := body p e s m _ below meth c A ⟨B.exec, B.bytes, hml, findClass_of_methodNamed B.named, atoms_spec (ws := ws) B.pre⟩ B.returns B.notSynchronized (name_of_methodNamed B.named B.method).1 hA hP
  rw [lg_entry_eq]
  exact K _ _ _ hG va_S.rf (lv_entry av hlen)
theorem Cq.of {l : Launch} {y : MethodName} {ws ws' : List Cond} {rm : Room} {mc ms maxL : Nat} {ret : Option FieldType} {cc : ByteArray} {P : PH} {G G' : GH} {av : List Value} {q : SS} {F : Option Nat × SS} (hy : plainName y.cls = true) (hw : ws = Cond.code y cc maxL ret :: ws') (hlen : (lg_sl av).length ≤ maxL)
    (body : ∀ (p : Program) (e : Env) (s : State) (m : MethodId) (args : Array Value) (below : List Frame) (meth : Method) (c : Code) (A : Nat → Prop), CallFix p m c cc maxL s args ws y.cls → meth.sig.returnType = ret → meth.locks = false → meth.name = y.name → (∀ z, s.heap.size ≤ z → A z) → P A s → Z p l e rm s m args below meth c 0 0 (MQ below (va_Qq (fun (x : Option Nat) (_ : Unit) => x = F.1) (fun _ t => G' A F.2 t.heap) A) args s mc ms A) maxL A (G A) q 0 (lv_args 0 av) []) : Cq l y ws rm mc ms P G G' av q F := by
  intro A sz hA
  refine Met.ofW (cc := cc) (maxL := maxL) (ret := ret) hy hw ?_
  intro p e s m args below meth c s₁ B hml hv
  obtain ⟨rfl, hsz, hP, hG⟩ := hv
  subst hsz
  have K := body p e s m _ below meth c A ⟨B.exec, B.bytes, hml, findClass_of_methodNamed B.named, atoms_spec (ws := ws) B.pre⟩ B.returns B.notSynchronized (name_of_methodNamed B.named B.method).1 hA hP
  rw [lg_entry_eq]
  exact K _ _ _ hG va_S.rf (lv_entry av hlen)
end ZC
section ZD
variable {p : Program} {l : Launch} {e : Env} {R : Room} {s : State} {m : MethodId} {args : Array Value} {below : List Frame} {meth : Method} {c : Code} {cells slots : Nat} {Q : State → Prop} {nL : Nat} {A : Nat → Prop} {q q' : SS} {pc : Nat} {lv : List (Nat × Value)} {rest : List Value} {cc : ByteArray} {G G' Gc : GH} {P : PH} {Ts : List Cond} {own : String}
theorem z_iret (hx : p.tables.exec = Jvm.exec) (hb : c.code = cc) (hlocks : meth.locks = false) {ty : FieldType} (hr : meth.sig.returnType = some ty) {v : Int32} (hn : narrow ty (.int v) = .int v) {F : Int32 × SS} (hF : F = (v, q)) (hdg : decode cc pc = .ok (.ireturn, 1)) : Z p l e R s m args below meth c cells slots (MQ below (va_Qi (fun (x : Int32) (_ : Unit) => x = F.1) (fun _ t => G A F.2 t.heap) A) args s cells slots A) nL A (G A) q pc lv [.int v] := by
  intro H locs ls h1 h2 h3
  subst hF
  exact W.zret hx hb hr hn (fun t ht hW => ⟨⟨v, (), rfl, rfl, by subst ht; exact h1⟩, h2.F ht⟩) h2.2.2 hdg hlocks
theorem z_lret (hx : p.tables.exec = Jvm.exec) (hb : c.code = cc) (hlocks : meth.locks = false) (hr : meth.sig.returnType = some .long) {v : Int64} {F : Int64 × SS} (hF : F = (v, q)) (hdg : decode cc pc = .ok (.lreturn, 1)) : Z p l e R s m args below meth c cells slots (MQ below (va_Ql (fun (x : Int64) (_ : Unit) => x = F.1) (fun _ t => G A F.2 t.heap) A) args s cells slots A) nL A (G A) q pc lv [.long v] := by
  intro H locs ls h1 h2 h3
  subst hF
  exact W.lret hx hb hr (fun t ht hW => ⟨⟨v, (), rfl, rfl, by subst ht; exact h1⟩, h2.F ht⟩) h2.2.2 hdg hlocks
theorem z_fret (hx : p.tables.exec = Jvm.exec) (hb : c.code = cc) (hlocks : meth.locks = false) (hr : meth.sig.returnType = some .float) {v : UInt32} {F : UInt32 × SS} (hF : F = (v, q)) (hdg : decode cc pc = .ok (.freturn, 1)) : Z p l e R s m args below meth c cells slots (MQ below (va_Qf (fun (x : UInt32) (_ : Unit) => x = F.1) (fun _ t => G A F.2 t.heap) A) args s cells slots A) nL A (G A) q pc lv [.float v] := by
  intro H locs ls h1 h2 h3
  subst hF
  exact W.fret hx hb hr (fun t ht hW => ⟨⟨v, (), rfl, rfl, by subst ht; exact h1⟩, h2.F ht⟩) h2.2.2 hdg hlocks
theorem z_dret (hx : p.tables.exec = Jvm.exec) (hb : c.code = cc) (hlocks : meth.locks = false) (hr : meth.sig.returnType = some .double) {v : UInt64} {F : UInt64 × SS} (hF : F = (v, q)) (hdg : decode cc pc = .ok (.dreturn, 1)) : Z p l e R s m args below meth c cells slots (MQ below (va_Qd (fun (x : UInt64) (_ : Unit) => x = F.1) (fun _ t => G A F.2 t.heap) A) args s cells slots A) nL A (G A) q pc lv [.double v] := by
  intro H locs ls h1 h2 h3
  subst hF
  exact W.dret hx hb hr (fun t ht hW => ⟨⟨v, (), rfl, rfl, by subst ht; exact h1⟩, h2.F ht⟩) h2.2.2 hdg hlocks
theorem z_vret (hx : p.tables.exec = Jvm.exec) (hb : c.code = cc) (hlocks : meth.locks = false) (hr : meth.sig.returnType = none) {F : SS} (hF : F = q) (hdg : decode cc pc = .ok (.return_, 1)) : Z p l e R s m args below meth c cells slots (MQ below (va_Qv (fun (_ : Unit) => True) (fun _ t => G A F t.heap) A) args s cells slots A) nL A (G A) q pc lv [] := by
  intro H locs ls h1 h2 h3
  subst hF
  exact W.vret hx hb hr (fun t ht hW => ⟨⟨(), rfl, trivial, by subst ht; exact h1⟩, h2.F ht⟩) h2.2.2 hdg hlocks
theorem z_qret (hx : p.tables.exec = Jvm.exec) (hb : c.code = cc) (hlocks : meth.locks = false) {nm : String} (hr : meth.sig.returnType = some (.object nm)) {v : Option Nat} {F : Option Nat × SS} (hF : F = (v, q)) (hdg : decode cc pc = .ok (.areturn, 1)) : Z p l e R s m args below meth c cells slots (MQ below (va_Qq (fun (x : Option Nat) (_ : Unit) => x = F.1) (fun _ t => G A F.2 t.heap) A) args s cells slots A) nL A (G A) q pc lv [va_rf v] := by
  intro H locs ls h1 h2 h3
  subst hF
  exact W.aret hx hb hr (Or.inl ⟨_, rfl⟩) (va_rf_or v) (fun t ht hW => ⟨⟨v, (), rfl, rfl, by subst ht; exact h1⟩, h2.F ht⟩) h2.2.2 hdg hlocks
theorem z_callVi (S : CallFix p m c cc nL s args Ts own) {y : MethodName} {bytes : ByteArray} {idx maxL mc ms n : Nat} {ret : Option FieldType} {ws : List Cond} {rm : Room} {b : Addr} {As : List Value} {C : String} {F : Int32 × SS} (hM : Ci l y ws rm mc ms P G G' (.ref b :: As) q F) (cw : CallW R s args own C idx y bytes maxL ret ws rm mc ms n) (hA : ∀ z, s.heap.size ≤ z → A z) (hPb : PB P) (hPs : PS P A s) (hrecv : ∀ H, G A q H → ∃ cell : Cell, H[b]? = some cell ∧ cell.vm.isStatics = false ∧ s.vm.findClass C = some cell.cls) {st0 : List Value} (hn : As.length = n) (hst : st0 = As.reverse ++ .ref b :: rest) (hW : (rest.map fun v => v.category).sum ≤ 8) (hdg : decode cc pc = .ok (.invokevirtual idx, 3)) (hf : cells + mc ≤ R.cells ∧ slots + ms ≤ R.slots)
    (kk : Z p l e R s m args below meth c (cells + mc) (slots + ms) Q nL A (G' A) F.2 (pc + 3) lv (.int F.1 :: rest)) : Z p l e R s m args below meth c cells slots Q nL A (G A) q pc lv st0 := by
  intro H locs ls h1 h2 h3
  subst hst
  refine va_calli (va_runV (As := As) (rest := rest) S (hM A H.size (fun z hz => hA z (Nat.le_trans h2.1 hz))) cw ⟨fun a U g mk z => ⟨z.1, z.2.1, hPb _ _ _ _ _ z.2.2.1, z.2.2.2⟩, hrecv H h1, fun U hU hW => ⟨rfl, by rw [hU], hPs H locs h2 U hU hW, by rw [hU]; exact h1⟩⟩ rfl hn h3.1 rfl (lv_room hW) hdg hf) h2 (fun z _ h => h) (fun z h => h) (fun r u t H1 locs1 ht hvm hw hB hz hk hS1 => ?_)
  subst hw
  exact kk H1 locs1 ls (by rw [← ht]; exact hB) hS1 h3
theorem z_callVl (S : CallFix p m c cc nL s args Ts own) {y : MethodName} {bytes : ByteArray} {idx maxL mc ms n : Nat} {ret : Option FieldType} {ws : List Cond} {rm : Room} {b : Addr} {As : List Value} {C : String} {F : Int64 × SS} (hM : Cl l y ws rm mc ms P G G' (.ref b :: As) q F) (cw : CallW R s args own C idx y bytes maxL ret ws rm mc ms n) (hA : ∀ z, s.heap.size ≤ z → A z) (hPb : PB P) (hPs : PS P A s) (hrecv : ∀ H, G A q H → ∃ cell : Cell, H[b]? = some cell ∧ cell.vm.isStatics = false ∧ s.vm.findClass C = some cell.cls) {st0 : List Value} (hn : As.length = n) (hst : st0 = As.reverse ++ .ref b :: rest) (hW : (rest.map fun v => v.category).sum ≤ 8) (hdg : decode cc pc = .ok (.invokevirtual idx, 3)) (hf : cells + mc ≤ R.cells ∧ slots + ms ≤ R.slots)
    (kk : Z p l e R s m args below meth c (cells + mc) (slots + ms) Q nL A (G' A) F.2 (pc + 3) lv (.long F.1 :: rest)) : Z p l e R s m args below meth c cells slots Q nL A (G A) q pc lv st0 := by
  intro H locs ls h1 h2 h3
  subst hst
  refine va_calll (va_runV (As := As) (rest := rest) S (hM A H.size (fun z hz => hA z (Nat.le_trans h2.1 hz))) cw ⟨fun a U g mk z => ⟨z.1, z.2.1, hPb _ _ _ _ _ z.2.2.1, z.2.2.2⟩, hrecv H h1, fun U hU hW => ⟨rfl, by rw [hU], hPs H locs h2 U hU hW, by rw [hU]; exact h1⟩⟩ rfl hn h3.1 rfl (lv_room hW) hdg hf) h2 (fun z _ h => h) (fun z h => h) (fun r u t H1 locs1 ht hvm hw hB hz hk hS1 => ?_)
  subst hw
  exact kk H1 locs1 ls (by rw [← ht]; exact hB) hS1 h3
theorem z_callVf (S : CallFix p m c cc nL s args Ts own) {y : MethodName} {bytes : ByteArray} {idx maxL mc ms n : Nat} {ret : Option FieldType} {ws : List Cond} {rm : Room} {b : Addr} {As : List Value} {C : String} {F : UInt32 × SS} (hM : Cf l y ws rm mc ms P G G' (.ref b :: As) q F) (cw : CallW R s args own C idx y bytes maxL ret ws rm mc ms n) (hA : ∀ z, s.heap.size ≤ z → A z) (hPb : PB P) (hPs : PS P A s) (hrecv : ∀ H, G A q H → ∃ cell : Cell, H[b]? = some cell ∧ cell.vm.isStatics = false ∧ s.vm.findClass C = some cell.cls) {st0 : List Value} (hn : As.length = n) (hst : st0 = As.reverse ++ .ref b :: rest) (hW : (rest.map fun v => v.category).sum ≤ 8) (hdg : decode cc pc = .ok (.invokevirtual idx, 3)) (hf : cells + mc ≤ R.cells ∧ slots + ms ≤ R.slots)
    (kk : Z p l e R s m args below meth c (cells + mc) (slots + ms) Q nL A (G' A) F.2 (pc + 3) lv (.float F.1 :: rest)) : Z p l e R s m args below meth c cells slots Q nL A (G A) q pc lv st0 := by
  intro H locs ls h1 h2 h3
  subst hst
  refine va_callf (va_runV (As := As) (rest := rest) S (hM A H.size (fun z hz => hA z (Nat.le_trans h2.1 hz))) cw ⟨fun a U g mk z => ⟨z.1, z.2.1, hPb _ _ _ _ _ z.2.2.1, z.2.2.2⟩, hrecv H h1, fun U hU hW => ⟨rfl, by rw [hU], hPs H locs h2 U hU hW, by rw [hU]; exact h1⟩⟩ rfl hn h3.1 rfl (lv_room hW) hdg hf) h2 (fun z _ h => h) (fun z h => h) (fun r u t H1 locs1 ht hvm hw hB hz hk hS1 => ?_)
  subst hw
  exact kk H1 locs1 ls (by rw [← ht]; exact hB) hS1 h3
theorem z_callVd (S : CallFix p m c cc nL s args Ts own) {y : MethodName} {bytes : ByteArray} {idx maxL mc ms n : Nat} {ret : Option FieldType} {ws : List Cond} {rm : Room} {b : Addr} {As : List Value} {C : String} {F : UInt64 × SS} (hM : Cd l y ws rm mc ms P G G' (.ref b :: As) q F) (cw : CallW R s args own C idx y bytes maxL ret ws rm mc ms n) (hA : ∀ z, s.heap.size ≤ z → A z) (hPb : PB P) (hPs : PS P A s) (hrecv : ∀ H, G A q H → ∃ cell : Cell, H[b]? = some cell ∧ cell.vm.isStatics = false ∧ s.vm.findClass C = some cell.cls) {st0 : List Value} (hn : As.length = n) (hst : st0 = As.reverse ++ .ref b :: rest) (hW : (rest.map fun v => v.category).sum ≤ 8) (hdg : decode cc pc = .ok (.invokevirtual idx, 3)) (hf : cells + mc ≤ R.cells ∧ slots + ms ≤ R.slots)
    (kk : Z p l e R s m args below meth c (cells + mc) (slots + ms) Q nL A (G' A) F.2 (pc + 3) lv (.double F.1 :: rest)) : Z p l e R s m args below meth c cells slots Q nL A (G A) q pc lv st0 := by
  intro H locs ls h1 h2 h3
  subst hst
  refine va_calld (va_runV (As := As) (rest := rest) S (hM A H.size (fun z hz => hA z (Nat.le_trans h2.1 hz))) cw ⟨fun a U g mk z => ⟨z.1, z.2.1, hPb _ _ _ _ _ z.2.2.1, z.2.2.2⟩, hrecv H h1, fun U hU hW => ⟨rfl, by rw [hU], hPs H locs h2 U hU hW, by rw [hU]; exact h1⟩⟩ rfl hn h3.1 rfl (lv_room hW) hdg hf) h2 (fun z _ h => h) (fun z h => h) (fun r u t H1 locs1 ht hvm hw hB hz hk hS1 => ?_)
  subst hw
  exact kk H1 locs1 ls (by rw [← ht]; exact hB) hS1 h3
theorem z_callVv (S : CallFix p m c cc nL s args Ts own) {y : MethodName} {bytes : ByteArray} {idx maxL mc ms n : Nat} {ret : Option FieldType} {ws : List Cond} {rm : Room} {b : Addr} {As : List Value} {C : String} {F : SS} (hM : Cv l y ws rm mc ms P G G' (.ref b :: As) q F) (cw : CallW R s args own C idx y bytes maxL ret ws rm mc ms n) (hA : ∀ z, s.heap.size ≤ z → A z) (hPb : PB P) (hPs : PS P A s) (hrecv : ∀ H, G A q H → ∃ cell : Cell, H[b]? = some cell ∧ cell.vm.isStatics = false ∧ s.vm.findClass C = some cell.cls) {st0 : List Value} (hn : As.length = n) (hst : st0 = As.reverse ++ .ref b :: rest) (hW : (rest.map fun v => v.category).sum ≤ 8) (hdg : decode cc pc = .ok (.invokevirtual idx, 3)) (hf : cells + mc ≤ R.cells ∧ slots + ms ≤ R.slots)
    (kk : Z p l e R s m args below meth c (cells + mc) (slots + ms) Q nL A (G' A) F (pc + 3) lv rest) : Z p l e R s m args below meth c cells slots Q nL A (G A) q pc lv st0 := by
  intro H locs ls h1 h2 h3
  subst hst
  refine va_callv (va_runV (As := As) (rest := rest) S (hM A H.size (fun z hz => hA z (Nat.le_trans h2.1 hz))) cw ⟨fun a U g mk z => ⟨z.1, z.2.1, hPb _ _ _ _ _ z.2.2.1, z.2.2.2⟩, hrecv H h1, fun U hU hW => ⟨rfl, by rw [hU], hPs H locs h2 U hU hW, by rw [hU]; exact h1⟩⟩ rfl hn h3.1 rfl (lv_room hW) hdg hf) h2 (fun z _ h => h) (fun z h => h) (fun u t H1 locs1 ht hvm hw hB hz hk hS1 => ?_)
  exact kk H1 locs1 ls (by rw [← ht]; exact hB) hS1 h3
theorem z_callVq (S : CallFix p m c cc nL s args Ts own) {y : MethodName} {bytes : ByteArray} {idx maxL mc ms n : Nat} {ret : Option FieldType} {ws : List Cond} {rm : Room} {b : Addr} {As : List Value} {C : String} {F : Option Nat × SS} (hM : Cq l y ws rm mc ms P G G' (.ref b :: As) q F) (cw : CallW R s args own C idx y bytes maxL ret ws rm mc ms n) (hA : ∀ z, s.heap.size ≤ z → A z) (hPb : PB P) (hPs : PS P A s) (hrecv : ∀ H, G A q H → ∃ cell : Cell, H[b]? = some cell ∧ cell.vm.isStatics = false ∧ s.vm.findClass C = some cell.cls) {st0 : List Value} (hn : As.length = n) (hst : st0 = As.reverse ++ .ref b :: rest) (hW : (rest.map fun v => v.category).sum ≤ 8) (hdg : decode cc pc = .ok (.invokevirtual idx, 3)) (hf : cells + mc ≤ R.cells ∧ slots + ms ≤ R.slots)
    (kk : Z p l e R s m args below meth c (cells + mc) (slots + ms) Q nL A (G' A) F.2 (pc + 3) lv (va_rf F.1 :: rest)) : Z p l e R s m args below meth c cells slots Q nL A (G A) q pc lv st0 := by
  intro H locs ls h1 h2 h3
  subst hst
  refine va_callq (va_runV (As := As) (rest := rest) S (hM A H.size (fun z hz => hA z (Nat.le_trans h2.1 hz))) cw ⟨fun a U g mk z => ⟨z.1, z.2.1, hPb _ _ _ _ _ z.2.2.1, z.2.2.2⟩, hrecv H h1, fun U hU hW => ⟨rfl, by rw [hU], hPs H locs h2 U hU hW, by rw [hU]; exact h1⟩⟩ rfl hn h3.1 rfl (lv_room hW) hdg hf) h2 (fun z _ h => h) (fun z h => h) (fun r u t H1 locs1 ht hvm hw hB hz hk hS1 => ?_)
  subst hw
  exact kk H1 locs1 ls (by rw [← ht]; exact hB) hS1 h3
theorem z_callSi (S : CallFix p m c cc nL s args Ts own) {y : MethodName} {bytes : ByteArray} {idx maxL mc ms n : Nat} {ret : Option FieldType} {ws : List Cond} {rm : Room} {As : List Value} {F : Int32 × SS} (hM : Ci l y ws rm mc ms P G G' As q F) (cw : CallB R s args own idx y bytes maxL ret ws rm mc ms n ∧ (Cond.static y).before args s = true) (hA : ∀ z, s.heap.size ≤ z → A z) (hPb : PB P) (hPs : PS P A s) {st0 : List Value} (hn : As.length = n) (hst : st0 = As.reverse ++ rest) (hW : (rest.map fun v => v.category).sum ≤ 8) (hdg : decode cc pc = .ok (.invokestatic idx, 3)) (hf : cells + mc ≤ R.cells ∧ slots + ms ≤ R.slots)
    (kk : Z p l e R s m args below meth c (cells + mc) (slots + ms) Q nL A (G' A) F.2 (pc + 3) lv (.int F.1 :: rest)) : Z p l e R s m args below meth c cells slots Q nL A (G A) q pc lv st0 := by
  intro H locs ls h1 h2 h3
  subst hst
  refine va_calli (va_runS (As := As) (rest := rest) S (hM A H.size (fun z hz => hA z (Nat.le_trans h2.1 hz))) cw ⟨fun a U g mk z => ⟨z.1, z.2.1, hPb _ _ _ _ _ z.2.2.1, z.2.2.2⟩, fun U hU hW => ⟨rfl, by rw [hU], hPs H locs h2 U hU hW, by rw [hU]; exact h1⟩⟩ rfl hn h3.1 rfl (lv_room hW) hdg hf) h2 (fun z _ h => h) (fun z h => h) (fun r u t H1 locs1 ht hvm hw hB hz hk hS1 => ?_)
  subst hw
  exact kk H1 locs1 ls (by rw [← ht]; exact hB) hS1 h3
theorem z_callSv (S : CallFix p m c cc nL s args Ts own) {y : MethodName} {bytes : ByteArray} {idx maxL mc ms n : Nat} {ret : Option FieldType} {ws : List Cond} {rm : Room} {As : List Value} {F : SS} (hM : Cv l y ws rm mc ms P G G' As q F) (cw : CallB R s args own idx y bytes maxL ret ws rm mc ms n ∧ (Cond.static y).before args s = true) (hA : ∀ z, s.heap.size ≤ z → A z) (hPb : PB P) (hPs : PS P A s) {st0 : List Value} (hn : As.length = n) (hst : st0 = As.reverse ++ rest) (hW : (rest.map fun v => v.category).sum ≤ 8) (hdg : decode cc pc = .ok (.invokestatic idx, 3)) (hf : cells + mc ≤ R.cells ∧ slots + ms ≤ R.slots)
    (kk : Z p l e R s m args below meth c (cells + mc) (slots + ms) Q nL A (G' A) F (pc + 3) lv rest) : Z p l e R s m args below meth c cells slots Q nL A (G A) q pc lv st0 := by
  intro H locs ls h1 h2 h3
  subst hst
  refine va_callv (va_runS (As := As) (rest := rest) S (hM A H.size (fun z hz => hA z (Nat.le_trans h2.1 hz))) cw ⟨fun a U g mk z => ⟨z.1, z.2.1, hPb _ _ _ _ _ z.2.2.1, z.2.2.2⟩, fun U hU hW => ⟨rfl, by rw [hU], hPs H locs h2 U hU hW, by rw [hU]; exact h1⟩⟩ rfl hn h3.1 rfl (lv_room hW) hdg hf) h2 (fun z _ h => h) (fun z h => h) (fun u t H1 locs1 ht hvm hw hB hz hk hS1 => ?_)
  exact kk H1 locs1 ls (by rw [← ht]; exact hB) hS1 h3
theorem z_callSNi (S : CallFix p m c cc nL s args Ts own) {y : MethodName} {bytes : ByteArray} {idx maxL mc ms n : Nat} {ret : Option FieldType} {ws : List Cond} {rm : Room} {As : List Value} {host : String} {F : Int32 × SS} (hM : Ci l y ws rm mc ms P G G' As q F) (cw : va_CN R s args own idx y host bytes maxL ret ws rm mc ms n ∧ (Cond.static y).before args s = true ∧ True) (hA : ∀ z, s.heap.size ≤ z → A z) (hPb : PB P) (hPs : PS P A s) {st0 : List Value} (hn : As.length = n) (hst : st0 = As.reverse ++ rest) (hW : (rest.map fun v => v.category).sum ≤ 8) (hdg : decode cc pc = .ok (.invokestatic idx, 3)) (hf : cells + mc ≤ R.cells ∧ slots + ms ≤ R.slots)
    (kk : Z p l e R s m args below meth c (cells + mc) (slots + ms) Q nL A (G' A) F.2 (pc + 3) lv (.int F.1 :: rest)) : Z p l e R s m args below meth c cells slots Q nL A (G A) q pc lv st0 := by
  intro H locs ls h1 h2 h3
  subst hst
  refine va_calli (va_runSN (As := As) (rest := rest) S (hM A H.size (fun z hz => hA z (Nat.le_trans h2.1 hz))) cw ⟨fun a U g mk z => ⟨z.1, z.2.1, hPb _ _ _ _ _ z.2.2.1, z.2.2.2⟩, fun U hU hW => ⟨rfl, by rw [hU], hPs H locs h2 U hU hW, by rw [hU]; exact h1⟩⟩ rfl hn h3.1 rfl (lv_room hW) hdg hf) h2 (fun z _ h => h) (fun z h => h) (fun r u t H1 locs1 ht hvm hw hB hz hk hS1 => ?_)
  subst hw
  exact kk H1 locs1 ls (by rw [← ht]; exact hB) hS1 h3
theorem z_callSNv (S : CallFix p m c cc nL s args Ts own) {y : MethodName} {bytes : ByteArray} {idx maxL mc ms n : Nat} {ret : Option FieldType} {ws : List Cond} {rm : Room} {As : List Value} {host : String} {F : SS} (hM : Cv l y ws rm mc ms P G G' As q F) (cw : va_CN R s args own idx y host bytes maxL ret ws rm mc ms n ∧ (Cond.static y).before args s = true ∧ True) (hA : ∀ z, s.heap.size ≤ z → A z) (hPb : PB P) (hPs : PS P A s) {st0 : List Value} (hn : As.length = n) (hst : st0 = As.reverse ++ rest) (hW : (rest.map fun v => v.category).sum ≤ 8) (hdg : decode cc pc = .ok (.invokestatic idx, 3)) (hf : cells + mc ≤ R.cells ∧ slots + ms ≤ R.slots)
    (kk : Z p l e R s m args below meth c (cells + mc) (slots + ms) Q nL A (G' A) F (pc + 3) lv rest) : Z p l e R s m args below meth c cells slots Q nL A (G A) q pc lv st0 := by
  intro H locs ls h1 h2 h3
  subst hst
  refine va_callv (va_runSN (As := As) (rest := rest) S (hM A H.size (fun z hz => hA z (Nat.le_trans h2.1 hz))) cw ⟨fun a U g mk z => ⟨z.1, z.2.1, hPb _ _ _ _ _ z.2.2.1, z.2.2.2⟩, fun U hU hW => ⟨rfl, by rw [hU], hPs H locs h2 U hU hW, by rw [hU]; exact h1⟩⟩ rfl hn h3.1 rfl (lv_room hW) hdg hf) h2 (fun z _ h => h) (fun z h => h) (fun u t H1 locs1 ht hvm hw hB hz hk hS1 => ?_)
  exact kk H1 locs1 ls (by rw [← ht]; exact hB) hS1 h3
end ZD
