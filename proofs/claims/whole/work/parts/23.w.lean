/-! more rows: answers that are words or null, the store's new word, wide texts -/
def Cw (wad : Nat → Nat) (l : Launch) (y : MethodName) (ws : List Cond) (rm : Room) (mc ms : Nat) (P : PH) (G G' : GH) (av : List Value) (q : SS) (F : Option Nat × SS) : Prop :=
  ∀ (A : Nat → Prop) (sz : Nat), (∀ z, sz ≤ z → A z) → Met l y ws rm (va_Pc av (fun U => U.heap.size = sz ∧ P A U ∧ G A q U.heap)) (va_Qq (fun (x : Option Nat) (_ : Unit) => x = F.1.map wad) (fun _ t => G' A F.2 t.heap) A) mc ms A
theorem Cw.of {wad : Nat → Nat} {l : Launch} {y : MethodName} {ws ws' : List Cond} {rm : Room} {mc ms maxL : Nat} {ret : Option FieldType} {cc : ByteArray} {P : PH} {G G' : GH} {av : List Value} {q : SS} {F : Option Nat × SS} (hy : plainName y.cls = true) (hw : ws = Cond.code y cc maxL ret :: ws') (hlen : (lg_sl av).length ≤ maxL)
    (body : ∀ (p : Program) (e : Env) (s : State) (m : MethodId) (args : Array Value) (below : List Frame) (meth : Method) (c : Code) (A : Nat → Prop), CallFix p m c cc maxL s args ws y.cls → meth.sig.returnType = ret → meth.locks = false → meth.name = y.name → (∀ z, s.heap.size ≤ z → A z) → P A s → Z p l e rm s m args below meth c 0 0 (MQ below (va_Qq (fun (x : Option Nat) (_ : Unit) => x = F.1.map wad) (fun _ t => G' A F.2 t.heap) A) args s mc ms A) maxL A (G A) q 0 (lv_args 0 av) []) : Cw wad l y ws rm mc ms P G G' av q F := by
  intro A sz hA
  refine Met.ofW (cc := cc) (maxL := maxL) (ret := ret) hy hw ?_
  intro p e s m args below meth c s₁ B hml hv
  obtain ⟨rfl, hsz, hP, hG⟩ := hv
  subst hsz
  have K := body p e s m _ below meth c A ⟨B.exec, B.bytes, hml, findClass_of_methodNamed B.named, atoms_spec (ws := ws) B.pre⟩ B.returns B.notSynchronized (name_of_methodNamed B.named B.method).1 hA hP
  rw [lg_entry_eq]
  exact K _ _ _ hG va_S.rf (lv_entry av hlen)
section ZW
variable {p : Program} {l : Launch} {e : Env} {R : Room} {s : State} {m : MethodId} {args : Array Value} {below : List Frame} {meth : Method} {c : Code} {cells slots : Nat} {Q : State → Prop} {nL : Nat} {A : Nat → Prop} {q q' : SS} {pc : Nat} {lv : List (Nat × Value)} {rest : List Value} {cc : ByteArray} {G G' Gc : GH} {P : PH} {Ts : List Cond} {own : String}
variable {D : va_G} {kc : Nat → ClassId} {ad wad : Nat → Nat}
theorem z_wret (hx : p.tables.exec = Jvm.exec) (hb : c.code = cc) (hlocks : meth.locks = false) {nm : String} (hr : meth.sig.returnType = some (.object nm)) {v : Option Nat} {F : Option Nat × SS} (hF : F = (v, q)) (hdg : decode cc pc = .ok (.areturn, 1)) : Z p l e R s m args below meth c cells slots (MQ below (va_Qq (fun (x : Option Nat) (_ : Unit) => x = F.1.map wad) (fun _ t => G A F.2 t.heap) A) args s cells slots A) nL A (G A) q pc lv [va_rf (v.map wad)] := by
  intro H locs ls h1 h2 h3
  subst hF
  exact W.aret hx hb hr (Or.inl ⟨_, rfl⟩) (va_rf_or (v.map wad)) (fun t ht hW => ⟨⟨v.map wad, (), rfl, rfl, by subst ht; exact h1⟩, h2.F ht⟩) h2.2.2 hdg hlocks
theorem z_callVw (S : CallFix p m c cc nL s args Ts own) {y : MethodName} {bytes : ByteArray} {idx maxL mc ms n : Nat} {ret : Option FieldType} {ws : List Cond} {rm : Room} {b : Addr} {As : List Value} {C : String} {F : Option Nat × SS} (hM : Cw wad l y ws rm mc ms P G G' (.ref b :: As) q F) (cw : CallW R s args own C idx y bytes maxL ret ws rm mc ms n) (hA : ∀ z, s.heap.size ≤ z → A z) (hPb : PB P) (hPs : PS P A s) (hrecv : ∀ H, G A q H → ∃ cell : Cell, H[b]? = some cell ∧ cell.vm.isStatics = false ∧ s.vm.findClass C = some cell.cls) {st0 : List Value} (hn : As.length = n) (hst : st0 = As.reverse ++ .ref b :: rest) (hW : (rest.map fun v => v.category).sum ≤ 8) (hdg : decode cc pc = .ok (.invokevirtual idx, 3)) (hf : cells + mc ≤ R.cells ∧ slots + ms ≤ R.slots)
    (kn : F.1 = none → Z p l e R s m args below meth c (cells + mc) (slots + ms) Q nL A (G' A) F.2 (pc + 3) lv (.null :: rest)) (ks : ∀ k, F.1 = some k → Z p l e R s m args below meth c (cells + mc) (slots + ms) Q nL A (G' A) F.2 (pc + 3) lv (.ref (wad k) :: rest)) : Z p l e R s m args below meth c cells slots Q nL A (G A) q pc lv st0 := by
  intro H locs ls h1 h2 h3
  subst hst
  refine va_callq (va_runV (As := As) (rest := rest) S (hM A H.size (fun z hz => hA z (Nat.le_trans h2.1 hz))) cw ⟨fun a U g mk z => ⟨z.1, z.2.1, hPb _ _ _ _ _ z.2.2.1, z.2.2.2⟩, hrecv H h1, fun U hU hW => ⟨rfl, by rw [hU], hPs H locs h2 U hU hW, by rw [hU]; exact h1⟩⟩ rfl hn h3.1 rfl (lv_room hW) hdg hf) h2 (fun z _ h => h) (fun z h => h) (fun r u t H1 locs1 ht hvm hw hB hz hk hS1 => ?_)
  subst hw
  cases hF : F.1 with
  | none => exact kn hF H1 locs1 ls (by rw [← ht]; exact hB) hS1 h3
  | some k => exact ks k hF H1 locs1 ls (by rw [← ht]; exact hB) hS1 h3
theorem z_alen (S : CallFix p m c cc nL s args Ts own) {cl : List vw_C} {w : SS → va_W} {PL : SS → va_W → Prop} {tys : List (ClassId × FieldType)} {a : Nat} (hK : va_K D cl tys s) (q0 t0 : Nat) {cA : ClassId} {x : vp_A} (ha : ∀ tl, (w q ++ tl)[q0]? = some (a, .inl (cA, x))) {ty : FieldType} (ht : tys[t0]? = some (cA, ty)) {v : Int32} (hv : Int32.ofNat x.1 = v) (hdg : decode cc pc = .ok (.arraylength, 1)) (kk : Z p l e R s m args below meth c cells slots Q nL A (ZG D cl w PL A) q (pc + 1) lv (.int v :: rest)) : Z p l e R s m args below meth c cells slots Q nL A (ZG D cl w PL A) q pc lv (.ref a :: rest) := by
  obtain ⟨hx, hb, hml, hown, hts⟩ := S
  intro H locs ls h1 h2 h3
  obtain ⟨tl, hP, hD, hL⟩ := id h1
  exact va_alen hx hb hK hP q0 t0 (ha tl) ht hv hdg (kk H locs ls h1 h2 h3)
theorem z_ldcw {G : SS → Heap → Prop} (hx : p.tables.exec = Jvm.exec) (hb : c.code = cc) {own : String} {index : Nat} {v : Int32} (hown : s.vm.findClass own = some m.cls) (hconst : (Jvm.Cond.constant own index v).before args s = true) (hdg : decode cc pc = .ok (.ldc_w index, 3)) (k : Z p l e R s m args below meth c cells slots Q nL A G q (pc + 3) lv (.int v :: rest)) : Z p l e R s m args below meth c cells slots Q nL A G q pc lv rest :=
  fun H locs ls h1 h2 h3 => lv_ldcw hx hb hown hconst hdg (k H locs ls h1 h2 h3)
theorem z_ldcSW {G : SS → Heap → Prop} (hx : p.tables.exec = Jvm.exec) (hb : c.code = cc) {own tx : String} {index a : Nat} (hown : s.vm.findClass own = some m.cls) (hZ : vk_R own index tx a s) (hdg : decode cc pc = .ok (.ldc_w index, 3)) (k : Z p l e R s m args below meth c cells slots Q nL A G q (pc + 3) lv (.ref a :: rest)) : Z p l e R s m args below meth c cells slots Q nL A G q pc lv rest := by
  intro H locs ls h1 h2 h3 T hT X
  obtain ⟨t, a1, b1⟩ := k H locs ls h1 h2 h3 T hT X
  exact ⟨t, X.ldcStringW hx hown (text := tx) (a := a) hZ.1 hZ.2 (g := F0 m pc ls rest) rfl (by rw [hb]; exact hdg) t a1, b1⟩
theorem PJ.of {adK adV : Nat → Nat} {i : Nat} (h : vk_S 4 xsLen xsByt adK adV A s s.heap) (hi : i < 4) (hZ : va_Z "java/lang/String" "COMPACT_STRINGS" "Z" (.int 1) A s s.heap) : PJ (adK i) (adV i) i A s := ⟨(h.1 i hi).1, (h.1 i hi).2.1, (h.1 i hi).2.2.1, (h.1 i hi).2.2.2, hZ⟩
theorem x_throwW {Qc : Array Value → State → Outcome → State → Prop} {β : Type} {F : (Nat × SS) ⊕ β} (S : CallFix p m c cc nL s args Ts RX10) (hl : l.stackTraces = false) (htab : ∀ x ∈ c.exceptionTable.toList, False) (hlocks : meth.locks = false) (hE : EV A s s.heap) (hGk : KG G) (hGG : ∀ H, G A q H → G' A q H) {k ik is ic mc ms : Nat} {names : List String} {text : String} (hF : F = .inl (k, q)) (hcls : Bundle.fit (exn k) = true) (hnames : ∀ n ∈ names, Bundle.fit n = true) (hk : Cond.classLink RX10 ik (exn k) ∈ Ts) (hini : Cond.initialized (exn k) ∈ Ts) (htx : (is, text) ∈ xsThrow)
    (hat : (∀ w ∈ Ts, w.before args s = true) → EV A s s.heap → ∀ w ∈ vx_atS RX10 ic (exn k) names, w.before args s = true) (hgood : ∀ w ∈ Cond.classLink RX10 ik (exn k) :: Cond.initialized (exn k) :: vx_atS RX10 ic (exn k) names, vx_ot w = true)
    (d0 : decode cc pc = .ok (.new ik, 3)) (d3 : decode cc (pc + 3) = .ok (.dup, 1)) (d4 : decode cc (pc + 4) = .ok (.ldc_w is, 3)) (d7 : decode cc (pc + 7) = .ok (.invokespecial ic, 3)) (d10 : decode cc (pc + 10) = .ok (.athrow, 1))
    (hRframes : names.length + 3 < R.frames) (hRlocals : (rest.map fun v => v.category).sum + (13 * (names.length + 1) + 43) ≤ R.locals) (hRcells : cells + 1 ≤ R.cells) (hRslots : slots + 6 ≤ R.slots) (hc : cells + 1 ≤ mc) (hs : slots + 6 ≤ ms) :
    Z p l e R s m args below meth c cells slots (vx_MQ below Qc (vx_X (fun (u : Nat × SS) => F = .inl u) (fun E u t => E = exn u.1 ∧ G' A u.2 t.heap) A) args s mc ms A) nL A (G A) q pc lv rest := by
  obtain ⟨hx, hb, hml, hown, hts⟩ := S
  intro H locs ls h1 h2 h3
  obtain ⟨sa, hsa⟩ := hE.2.1 _ htx
  exact vx_throwSW hx hb hl hown hcls hnames (hts _ hk) (hts _ hini) hsa (hat hts hE) hgood hE.2.2.2.1 hE.2.2.2.2.1 h2 (h3.1.trans hml.symm) d0 d3 d4 d7 d10 (fun x hx => (htab x hx).elim) hRframes hRlocals hRcells hRslots hlocks
    (fun t hvm hz hk => ⟨(k, q), hF, ⟨rfl, hGG _ (hGk A q H t.heap h1 hk)⟩, Nat.le_trans h2.1 hz, fun z hz1 hz2 => (hk z (Nat.lt_of_lt_of_le hz1 h2.1)).trans (h2.2.1 z hz1 hz2)⟩) h2.2.2 hc hs
theorem x_throwN {Qc : Array Value → State → Outcome → State → Prop} {β : Type} {F : (Nat × SS) ⊕ β} (S : CallFix p m c cc nL s args Ts RX10) (hl : l.stackTraces = false) (htab : ∀ x ∈ c.exceptionTable.toList, False) (hlocks : meth.locks = false) (hE : EV A s s.heap) (hGk : KG G) (hGG : ∀ H, G A q H → G' A q H) {k ik is ic mc ms : Nat} {text : String} (hF : F = .inl (k, q)) (hk3 : k = 3) (hic : ic = 121) (hk : Cond.classLink RX10 ik (exn k) ∈ Ts) (hini : Cond.initialized (exn k) ∈ Ts) (htx : (is, text) ∈ xsThrow) (hat : (∀ w ∈ Ts, w.before args s = true) → EV A s s.heap → ∀ w ∈ nsAtoms.filter vx_no, w.before args s = true)
    (d0 : decode cc pc = .ok (.new ik, 3)) (d3 : decode cc (pc + 3) = .ok (.dup, 1)) (d4 : decode cc (pc + 4) = .ok (.ldc is, 2)) (d6 : decode cc (pc + 6) = .ok (.invokespecial ic, 3)) (d9 : decode cc (pc + 9) = .ok (.athrow, 1))
    (hRframes : 2 + 3 < R.frames) (hRlocals : (rest.map fun v => v.category).sum + (13 * (2 + 1) + 43) ≤ R.locals) (hRcells : cells + 1 ≤ R.cells) (hRslots : slots + 6 ≤ R.slots) (hc : cells + 1 ≤ mc) (hs : slots + 6 ≤ ms) :
    Z p l e R s m args below meth c cells slots (vx_MQ below Qc (vx_X (fun (u : Nat × SS) => F = .inl u) (fun E u t => E = exn u.1 ∧ G' A u.2 t.heap) A) args s mc ms A) nL A (G A) q pc lv rest := by
  subst hk3; subst hic
  obtain ⟨hx, hb, hml, hown, hts⟩ := S
  intro H locs ls h1 h2 h3
  obtain ⟨sa, hsa⟩ := hE.2.1 _ htx
  exact vx_throwN hx hb hl hown (hts _ hk) (hts _ hini) hsa (hat hts hE) (List.forall_mem_cons.mpr ⟨rfl, List.forall_mem_cons.mpr ⟨rfl, xo_3⟩⟩) hE.2.2.2.1 hE.2.2.2.2.1 h2 (h3.1.trans hml.symm) d0 d3 d4 d6 d9 (fun x hx => (htab x hx).elim) hRframes hRlocals hRcells hRslots hlocks
    (fun t hvm hz hk => ⟨(3, q), hF, ⟨rfl, hGG _ (hGk A q H t.heap h1 hk)⟩, Nat.le_trans h2.1 hz, fun z hz1 hz2 => (hk z (Nat.lt_of_lt_of_le hz1 h2.1)).trans (h2.2.1 z hz1 hz2)⟩) h2.2.2 hc hs
theorem x_throwNW {Qc : Array Value → State → Outcome → State → Prop} {β : Type} {F : (Nat × SS) ⊕ β} (S : CallFix p m c cc nL s args Ts RX10) (hl : l.stackTraces = false) (htab : ∀ x ∈ c.exceptionTable.toList, False) (hlocks : meth.locks = false) (hE : EV A s s.heap) (hGk : KG G) (hGG : ∀ H, G A q H → G' A q H) {k ik is ic mc ms : Nat} {text : String} (hF : F = .inl (k, q)) (hk3 : k = 3) (hic : ic = 121) (hk : Cond.classLink RX10 ik (exn k) ∈ Ts) (hini : Cond.initialized (exn k) ∈ Ts) (htx : (is, text) ∈ xsThrow) (hat : (∀ w ∈ Ts, w.before args s = true) → EV A s s.heap → ∀ w ∈ nsAtoms.filter vx_no, w.before args s = true)
    (d0 : decode cc pc = .ok (.new ik, 3)) (d3 : decode cc (pc + 3) = .ok (.dup, 1)) (d4 : decode cc (pc + 4) = .ok (.ldc_w is, 3)) (d7 : decode cc (pc + 7) = .ok (.invokespecial ic, 3)) (d10 : decode cc (pc + 10) = .ok (.athrow, 1))
    (hRframes : 2 + 3 < R.frames) (hRlocals : (rest.map fun v => v.category).sum + (13 * (2 + 1) + 43) ≤ R.locals) (hRcells : cells + 1 ≤ R.cells) (hRslots : slots + 6 ≤ R.slots) (hc : cells + 1 ≤ mc) (hs : slots + 6 ≤ ms) :
    Z p l e R s m args below meth c cells slots (vx_MQ below Qc (vx_X (fun (u : Nat × SS) => F = .inl u) (fun E u t => E = exn u.1 ∧ G' A u.2 t.heap) A) args s mc ms A) nL A (G A) q pc lv rest := by
  subst hk3; subst hic
  obtain ⟨hx, hb, hml, hown, hts⟩ := S
  intro H locs ls h1 h2 h3
  obtain ⟨sa, hsa⟩ := hE.2.1 _ htx
  exact vx_throwNW hx hb hl hown (hts _ hk) (hts _ hini) hsa (hat hts hE) (List.forall_mem_cons.mpr ⟨rfl, List.forall_mem_cons.mpr ⟨rfl, xo_3⟩⟩) hE.2.2.2.1 hE.2.2.2.2.1 h2 (h3.1.trans hml.symm) d0 d3 d4 d7 d10 (fun x hx => (htab x hx).elim) hRframes hRlocals hRcells hRslots hlocks
    (fun t hvm hz hk => ⟨(3, q), hF, ⟨rfl, hGG _ (hGk A q H t.heap h1 hk)⟩, Nat.le_trans h2.1 hz, fun z hz1 hz2 => (hk z (Nat.lt_of_lt_of_le hz1 h2.1)).trans (h2.2.1 z hz1 hz2)⟩) h2.2.2 hc hs
end ZW
/-- the store at a place, with a new word -/
def blankW (q : SS) (k : Nat) : SS := sA (sA (sA (sA (sA (sA (sA (sA (sA (sA q 30 (upd (gA q 30) k 0)) 31 (upd (gA q 31) k 0)) 32 (upd (gA q 32) k 0)) 33 (upd (gA q 33) k 0)) 34 (upd (gA q 34) k 0)) 35 (upd (gA q 35) k 0)) 36 (upd (gA q 36) k 0)) 37 (upd (gA q 37) k 0)) 38 (upd (gA q 38) k 0)) 39 (upd (gA q 39) k 1)
def fX7_claim (q : SS) (v1 : Int32) : SS := if gA q 39 (v1 : Int32).toNatClampNeg = 0 then sI (blankW q (v1 : Int32).toNatClampNeg) 204 (gI q 204 + 1) else q
theorem hX7_claim : yX7_claim.cls = RX7 ∧ yX7_claim.cls ≠ "java/lang/invoke/MethodHandle" ∧ yX7_claim.cls ≠ "java/lang/invoke/VarHandle" ∧ (parseMethodDescriptor yX7_claim.desc).map (fun d => d.parameters.length) = some 1 := by decide +kernel
def Cc (D : va_G) (kc : Nat → ClassId) (ad wad : Nat → Nat) (l : Launch) (y : MethodName) (ws : List Cond) (rm : Room) (mc ms : Nat) (av : List Value) (q : SS) (k : Nat) (F : SS) : Prop :=
  ∀ (A : Nat → Prop) (sz : Nat), (∀ z, sz ≤ z → A z) → Met l y ws rm (va_Pc av (fun U => U.heap.size = sz ∧ PX D kc A U ∧ GX D kc ad wad A q U.heap)) (va_Qr (fun (u : Nat → Nat) => ∀ j, isW q j → u j = wad j) (fun u a t => a = u k ∧ GX D kc ad u A F t.heap) A) mc ms A
section ZC2
variable {p : Program} {l : Launch} {e : Env} {R : Room} {s : State} {m : MethodId} {args : Array Value} {below : List Frame} {meth : Method} {c : Code} {cells slots : Nat} {Q : State → Prop} {nL : Nat} {A : Nat → Prop} {q q' : SS} {pc : Nat} {lv : List (Nat × Value)} {rest : List Value} {cc : ByteArray}  {Ts : List Cond} {own : String}
variable {D : va_G} {kc : Nat → ClassId} {ad wad : Nat → Nat}
theorem z_callC (S : CallFix p m c cc nL s args Ts own) {y : MethodName} {bytes : ByteArray} {idx maxL mc ms n : Nat} {ret : Option FieldType} {ws : List Cond} {rm : Room} {b : Addr} {As : List Value} {C : String} {k : Nat} {F : SS} (hM : Cc D kc ad wad l y ws rm mc ms (.ref b :: As) q k F) (cw : CallW R s args own C idx y bytes maxL ret ws rm mc ms n) (hA : ∀ z, s.heap.size ≤ z → A z) (hPb : PB (PX D kc)) (hPs : PS (PX D kc) A s) (hrecv : ∀ H, GX D kc ad wad A q H → ∃ cell : Cell, H[b]? = some cell ∧ cell.vm.isStatics = false ∧ s.vm.findClass C = some cell.cls) {st0 : List Value} (hn : As.length = n) (hst : st0 = As.reverse ++ .ref b :: rest) (hW : (rest.map fun v => v.category).sum ≤ 8) (hdg : decode cc pc = .ok (.invokevirtual idx, 3)) (hf : cells + mc ≤ R.cells ∧ slots + ms ≤ R.slots)
    (kk : ∀ wad2 : Nat → Nat, (∀ j, isW q j → wad2 j = wad j) → Z p l e R s m args below meth c (cells + mc) (slots + ms) Q nL A (GX D kc ad wad2 A) F (pc + 3) lv (.ref (wad2 k) :: rest)) : Z p l e R s m args below meth c cells slots Q nL A (GX D kc ad wad A) q pc lv st0 := by
  intro H locs ls h1 h2 h3
  subst hst
  refine va_callr (va_runV (As := As) (rest := rest) S (hM A H.size (fun z hz => hA z (Nat.le_trans h2.1 hz))) cw ⟨fun a U g mk z => ⟨z.1, z.2.1, hPb _ _ _ _ _ z.2.2.1, z.2.2.2⟩, hrecv H h1, fun U hU hW => ⟨rfl, by rw [hU], hPs H locs h2 U hU hW, by rw [hU]; exact h1⟩⟩ rfl hn h3.1 rfl (lv_room hW) hdg hf) h2 (fun z _ h => h) (fun z h => h) (fun u r t H1 locs1 ht hvm hw hB hz hk hS1 => ?_)
  obtain ⟨rfl, hB⟩ := hB
  exact kk u hw H1 locs1 ls (by rw [← ht]; exact hB) hS1 h3
end ZC2
theorem ctX7_claim (l : Launch) (hl : l.stackTraces = false) (D : va_G) (kc : Nat → ClassId) (ad wad : Nat → Nat) (q : SS) (v1 : Int32) (hin : vp_in v1 80) : Cc D kc ad wad l yX7_claim (Cond.code yX7_claim cX7_claim 3 (some (.object "MicrostoreWorks$Word")) :: lw_G) (zr 2 1 9) 1 9 [.ref (ad 1), .int v1] q (v1 : Int32).toNatClampNeg (fX7_claim q v1) := by
  sorry
