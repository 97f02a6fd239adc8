/-! more rows: answers that are words or null, the store's new word, wide texts -/
def Cw (wad : Nat → Nat) (l : Launch) (y : MethodName) (ws : List Cond) (rm : Room) (mc ms : Nat) (P : PH) (G G' : GH) (av : List Value) (q : SS) (F : Option Nat × SS) : Prop :=
  ∀ (A : Nat → Prop) (sz : Nat), (∀ z, sz ≤ z → A z) → Met l y ws rm (va_Pc av (fun U => U.heap.size = sz ∧ P A U ∧ G A q U.heap)) (va_Qq (fun (x : Option Nat) (_ : Unit) => x = F.1.map wad) (fun _ t => G' A F.2 t.heap) A) mc ms A
theorem Cw.of {wad : Nat → Nat} {l : Launch} {y : MethodName} {ws ws' : List Cond} {rm : Room} {mc ms maxL : Nat} {ret : Option FieldType} {cc : ByteArray} {P : PH} {G G' : GH} {av : List Value} {q : SS} {F : Option Nat × SS} (hy : plainName y.cls = true) (hw : ws = Cond.code y cc maxL ret :: ws') (hlen : (lg_sl av).length ≤ maxL)
    (body : ∀ (p : Program) (e : Env) (s : State) (m : MethodId) (args : Array Value) (below : List Frame) (meth : Method) (c : Code) (A : Nat → Prop), CallFix p m c cc maxL s args ws y.cls → meth.sig.returnType = ret → meth.locks = false → meth.name = y.name → (∀ z, s.heap.size ≤ z → A z) → P A s → Z p l e rm s m args below meth c 0 0 (MQ below (va_Qq (fun (x : Option Nat) (_ : Unit) => x = F.1.map wad) (fun _ t => G' A F.2 t.heap) A) args s mc ms A) maxL A (G A) q 0 (lv_args 0 av) []) : Cw wad l y ws rm mc ms P G G' av q F := by
  intro A sz hA
  refine Met.ofW (cc := cc) (maxL := maxL) (ret := ret) hy hw ?_
  intro p e s m args below meth c s₁ B hml hv
  obtain ⟨rfl, hsz, hP, hG⟩ := hv
  subst hsz
  have K := body p e s m _ below meth c A ⟨B.exec, B.bytes, hml, findClass_of_methodNamed B.named, atoms_spec (ws := ws) B.pre⟩ B.returns B.notSynchronized (name_of_methodNamed B.named B.method).1 hA hP
  rw [lg_entry_eq]
  exact K _ _ _ hG va_S.rf (lv_entry av hlen)
section ZW
variable {p : Program} {l : Launch} {e : Env} {R : Room} {s : State} {m : MethodId} {args : Array Value} {below : List Frame} {meth : Method} {c : Code} {cells slots : Nat} {Q : State → Prop} {nL : Nat} {A : Nat → Prop} {q q' : SS} {pc : Nat} {lv : List (Nat × Value)} {rest : List Value} {cc : ByteArray} {G G' Gc : GH} {P : PH} {Ts : List Cond} {own : String}
variable {D : va_G} {kc : Nat → ClassId} {ad wad : Nat → Nat}
theorem z_wret (hx : p.tables.exec = Jvm.exec) (hb : c.code = cc) (hlocks : meth.locks = false) {nm : String} (hr : meth.sig.returnType = some (.object nm)) {v : Option Nat} {F : Option Nat × SS} (hF : F = (v, q)) (hdg : decode cc pc = .ok (.areturn, 1)) : Z p l e R s m args below meth c cells slots (MQ below (va_Qq (fun (x : Option Nat) (_ : Unit) => x = F.1.map wad) (fun _ t => G A F.2 t.heap) A) args s cells slots A) nL A (G A) q pc lv [va_rf (v.map wad)] := by
  intro H locs ls h1 h2 h3
  subst hF
  exact W.aret hx hb hr (Or.inl ⟨_, rfl⟩) (va_rf_or (v.map wad)) (fun t ht hW => ⟨⟨v.map wad, (), rfl, rfl, by subst ht; exact h1⟩, h2.F ht⟩) h2.2.2 hdg hlocks
theorem z_callVw (S : CallFix p m c cc nL s args Ts own) {y : MethodName} {bytes : ByteArray} {idx maxL mc ms n : Nat} {ret : Option FieldType} {ws : List Cond} {rm : Room} {b : Addr} {As : List Value} {C : String} {F : Option Nat × SS} (hM : Cw wad l y ws rm mc ms P G G' (.ref b :: As) q F) (cw : CallW R s args own C idx y bytes maxL ret ws rm mc ms n) (hA : ∀ z, s.heap.size ≤ z → A z) (hPb : PB P) (hPs : PS P A s) (hrecv : ∀ H, G A q H → ∃ cell : Cell, H[b]? = some cell ∧ cell.vm.isStatics = false ∧ s.vm.findClass C = some cell.cls) {st0 : List Value} (hn : As.length = n) (hst : st0 = As.reverse ++ .ref b :: rest) (hW : (rest.map fun v => v.category).sum ≤ 8) (hdg : decode cc pc = .ok (.invokevirtual idx, 3)) (hf : cells + mc ≤ R.cells ∧ slots + ms ≤ R.slots)
    (kn : F.1 = none → Z p l e R s m args below meth c (cells + mc) (slots + ms) Q nL A (G' A) F.2 (pc + 3) lv (.null :: rest)) (ks : ∀ k, F.1 = some k → Z p l e R s m args below meth c (cells + mc) (slots + ms) Q nL A (G' A) F.2 (pc + 3) lv (.ref (wad k) :: rest)) : Z p l e R s m args below meth c cells slots Q nL A (G A) q pc lv st0 := by
  intro H locs ls h1 h2 h3
  subst hst
  refine va_callq (va_runV (As := As) (rest := rest) S (hM A H.size (fun z hz => hA z (Nat.le_trans h2.1 hz))) cw ⟨fun a U g mk z => ⟨z.1, z.2.1, hPb _ _ _ _ _ z.2.2.1, z.2.2.2⟩, hrecv H h1, fun U hU hW => ⟨rfl, by rw [hU], hPs H locs h2 U hU hW, by rw [hU]; exact h1⟩⟩ rfl hn h3.1 rfl (lv_room hW) hdg hf) h2 (fun z _ h => h) (fun z h => h) (fun r u t H1 locs1 ht hvm hw hB hz hk hS1 => ?_)
  subst hw
  cases hF : F.1 with
  | none => exact kn hF H1 locs1 ls (by rw [← ht]; exact hB) hS1 h3
  | some k => exact ks k hF H1 locs1 ls (by rw [← ht]; exact hB) hS1 h3
theorem z_alen (S : CallFix p m c cc nL s args Ts own) {cl : List vw_C} {w : SS → va_W} {PL : SS → va_W → Prop} {tys : List (ClassId × FieldType)} {a : Nat} (hK : va_K D cl tys s) (q0 t0 : Nat) {cA : ClassId} {x : vp_A} (ha : ∀ tl, (w q ++ tl)[q0]? = some (a, .inl (cA, x))) {ty : FieldType} (ht : tys[t0]? = some (cA, ty)) {v : Int32} (hv : Int32.ofNat x.1 = v) (hdg : decode cc pc = .ok (.arraylength, 1)) (kk : Z p l e R s m args below meth c cells slots Q nL A (ZG D cl w PL A) q (pc + 1) lv (.int v :: rest)) : Z p l e R s m args below meth c cells slots Q nL A (ZG D cl w PL A) q pc lv (.ref a :: rest) := by
  obtain ⟨hx, hb, hml, hown, hts⟩ := S
  intro H locs ls h1 h2 h3
  obtain ⟨tl, hP, hD, hL⟩ := id h1
  exact va_alen hx hb hK hP q0 t0 (ha tl) ht hv hdg (kk H locs ls h1 h2 h3)
theorem z_ldcw {G : SS → Heap → Prop} (hx : p.tables.exec = Jvm.exec) (hb : c.code = cc) {own : String} {index : Nat} {v : Int32} (hown : s.vm.findClass own = some m.cls) (hconst : (Jvm.Cond.constant own index v).before args s = true) (hdg : decode cc pc = .ok (.ldc_w index, 3)) (k : Z p l e R s m args below meth c cells slots Q nL A G q (pc + 3) lv (.int v :: rest)) : Z p l e R s m args below meth c cells slots Q nL A G q pc lv rest :=
  fun H locs ls h1 h2 h3 => lv_ldcw hx hb hown hconst hdg (k H locs ls h1 h2 h3)
theorem z_ldcSW {G : SS → Heap → Prop} (hx : p.tables.exec = Jvm.exec) (hb : c.code = cc) {own tx : String} {index a : Nat} (hown : s.vm.findClass own = some m.cls) (hZ : vk_R own index tx a s) (hdg : decode cc pc = .ok (.ldc_w index, 3)) (k : Z p l e R s m args below meth c cells slots Q nL A G q (pc + 3) lv (.ref a :: rest)) : Z p l e R s m args below meth c cells slots Q nL A G q pc lv rest := by
  intro H locs ls h1 h2 h3 T hT X
  obtain ⟨t, a1, b1⟩ := k H locs ls h1 h2 h3 T hT X
  exact ⟨t, X.ldcStringW hx hown (text := tx) (a := a) hZ.1 hZ.2 (g := F0 m pc ls rest) rfl (by rw [hb]; exact hdg) t a1, b1⟩
theorem PJ.of {adK adV : Nat → Nat} {i : Nat} (h : vk_S 4 xsLen xsByt adK adV A s s.heap) (hi : i < 4) (hZ : va_Z "java/lang/String" "COMPACT_STRINGS" "Z" (.int 1) A s s.heap) : PJ (adK i) (adV i) i A s := ⟨(h.1 i hi).1, (h.1 i hi).2.1, (h.1 i hi).2.2.1, (h.1 i hi).2.2.2, hZ⟩
theorem x_throwW {Qc : Array Value → State → Outcome → State → Prop} {β : Type} {F : (Nat × SS) ⊕ β} (S : CallFix p m c cc nL s args Ts RX10) (hl : l.stackTraces = false) (htab : ∀ x ∈ c.exceptionTable.toList, False) (hlocks : meth.locks = false) (hE : EV A s s.heap) (hGk : KG G) (hGG : ∀ H, G A q H → G' A q H) {k ik is ic mc ms : Nat} {names : List String} {text : String} (hF : F = .inl (k, q)) (hcls : Bundle.fit (exn k) = true) (hnames : ∀ n ∈ names, Bundle.fit n = true) (hk : Cond.classLink RX10 ik (exn k) ∈ Ts) (hini : Cond.initialized (exn k) ∈ Ts) (htx : (is, text) ∈ xsThrow)
    (hat : (∀ w ∈ Ts, w.before args s = true) → EV A s s.heap → ∀ w ∈ vx_atS RX10 ic (exn k) names, w.before args s = true) (hgood : ∀ w ∈ Cond.classLink RX10 ik (exn k) :: Cond.initialized (exn k) :: vx_atS RX10 ic (exn k) names, vx_ot w = true)
    (d0 : decode cc pc = .ok (.new ik, 3)) (d3 : decode cc (pc + 3) = .ok (.dup, 1)) (d4 : decode cc (pc + 4) = .ok (.ldc_w is, 3)) (d7 : decode cc (pc + 7) = .ok (.invokespecial ic, 3)) (d10 : decode cc (pc + 10) = .ok (.athrow, 1))
    (hRframes : names.length + 3 < R.frames) (hRlocals : (rest.map fun v => v.category).sum + (13 * (names.length + 1) + 43) ≤ R.locals) (hRcells : cells + 1 ≤ R.cells) (hRslots : slots + 6 ≤ R.slots) (hc : cells + 1 ≤ mc) (hs : slots + 6 ≤ ms) :
    Z p l e R s m args below meth c cells slots (vx_MQ below Qc (vx_X (fun (u : Nat × SS) => F = .inl u) (fun E u t => E = exn u.1 ∧ G' A u.2 t.heap) A) args s mc ms A) nL A (G A) q pc lv rest := by
  obtain ⟨hx, hb, hml, hown, hts⟩ := S
  intro H locs ls h1 h2 h3
  obtain ⟨sa, hsa⟩ := hE.2.1 _ htx
  exact vx_throwSW hx hb hl hown hcls hnames (hts _ hk) (hts _ hini) hsa (hat hts hE) hgood hE.2.2.2.1 hE.2.2.2.2.1 h2 (h3.1.trans hml.symm) d0 d3 d4 d7 d10 (fun x hx => (htab x hx).elim) hRframes hRlocals hRcells hRslots hlocks
    (fun t hvm hz hk => ⟨(k, q), hF, ⟨rfl, hGG _ (hGk A q H t.heap h1 hk)⟩, Nat.le_trans h2.1 hz, fun z hz1 hz2 => (hk z (Nat.lt_of_lt_of_le hz1 h2.1)).trans (h2.2.1 z hz1 hz2)⟩) h2.2.2 hc hs
theorem x_throwN {Qc : Array Value → State → Outcome → State → Prop} {β : Type} {F : (Nat × SS) ⊕ β} (S : CallFix p m c cc nL s args Ts RX10) (hl : l.stackTraces = false) (htab : ∀ x ∈ c.exceptionTable.toList, False) (hlocks : meth.locks = false) (hE : EV A s s.heap) (hGk : KG G) (hGG : ∀ H, G A q H → G' A q H) {k ik is ic mc ms : Nat} {text : String} (hF : F = .inl (k, q)) (hk3 : k = 3) (hic : ic = 121) (hk : Cond.classLink RX10 ik (exn k) ∈ Ts) (hini : Cond.initialized (exn k) ∈ Ts) (htx : (is, text) ∈ xsThrow) (hat : (∀ w ∈ Ts, w.before args s = true) → EV A s s.heap → ∀ w ∈ nsAtoms.filter vx_no, w.before args s = true)
    (d0 : decode cc pc = .ok (.new ik, 3)) (d3 : decode cc (pc + 3) = .ok (.dup, 1)) (d4 : decode cc (pc + 4) = .ok (.ldc is, 2)) (d6 : decode cc (pc + 6) = .ok (.invokespecial ic, 3)) (d9 : decode cc (pc + 9) = .ok (.athrow, 1))
    (hRframes : 2 + 3 < R.frames) (hRlocals : (rest.map fun v => v.category).sum + (13 * (2 + 1) + 43) ≤ R.locals) (hRcells : cells + 1 ≤ R.cells) (hRslots : slots + 6 ≤ R.slots) (hc : cells + 1 ≤ mc) (hs : slots + 6 ≤ ms) :
    Z p l e R s m args below meth c cells slots (vx_MQ below Qc (vx_X (fun (u : Nat × SS) => F = .inl u) (fun E u t => E = exn u.1 ∧ G' A u.2 t.heap) A) args s mc ms A) nL A (G A) q pc lv rest := by
  subst hk3; subst hic
  obtain ⟨hx, hb, hml, hown, hts⟩ := S
  intro H locs ls h1 h2 h3
  obtain ⟨sa, hsa⟩ := hE.2.1 _ htx
  exact vx_throwN hx hb hl hown (hts _ hk) (hts _ hini) hsa (hat hts hE) (List.forall_mem_cons.mpr ⟨rfl, List.forall_mem_cons.mpr ⟨rfl, xo_3⟩⟩) hE.2.2.2.1 hE.2.2.2.2.1 h2 (h3.1.trans hml.symm) d0 d3 d4 d6 d9 (fun x hx => (htab x hx).elim) hRframes hRlocals hRcells hRslots hlocks
    (fun t hvm hz hk => ⟨(3, q), hF, ⟨rfl, hGG _ (hGk A q H t.heap h1 hk)⟩, Nat.le_trans h2.1 hz, fun z hz1 hz2 => (hk z (Nat.lt_of_lt_of_le hz1 h2.1)).trans (h2.2.1 z hz1 hz2)⟩) h2.2.2 hc hs
theorem x_throwNW {Qc : Array Value → State → Outcome → State → Prop} {β : Type} {F : (Nat × SS) ⊕ β} (S : CallFix p m c cc nL s args Ts RX10) (hl : l.stackTraces = false) (htab : ∀ x ∈ c.exceptionTable.toList, False) (hlocks : meth.locks = false) (hE : EV A s s.heap) (hGk : KG G) (hGG : ∀ H, G A q H → G' A q H) {k ik is ic mc ms : Nat} {text : String} (hF : F = .inl (k, q)) (hk3 : k = 3) (hic : ic = 121) (hk : Cond.classLink RX10 ik (exn k) ∈ Ts) (hini : Cond.initialized (exn k) ∈ Ts) (htx : (is, text) ∈ xsThrow) (hat : (∀ w ∈ Ts, w.before args s = true) → EV A s s.heap → ∀ w ∈ nsAtoms.filter vx_no, w.before args s = true)
    (d0 : decode cc pc = .ok (.new ik, 3)) (d3 : decode cc (pc + 3) = .ok (.dup, 1)) (d4 : decode cc (pc + 4) = .ok (.ldc_w is, 3)) (d7 : decode cc (pc + 7) = .ok (.invokespecial ic, 3)) (d10 : decode cc (pc + 10) = .ok (.athrow, 1))
    (hRframes : 2 + 3 < R.frames) (hRlocals : (rest.map fun v => v.category).sum + (13 * (2 + 1) + 43) ≤ R.locals) (hRcells : cells + 1 ≤ R.cells) (hRslots : slots + 6 ≤ R.slots) (hc : cells + 1 ≤ mc) (hs : slots + 6 ≤ ms) :
    Z p l e R s m args below meth c cells slots (vx_MQ below Qc (vx_X (fun (u : Nat × SS) => F = .inl u) (fun E u t => E = exn u.1 ∧ G' A u.2 t.heap) A) args s mc ms A) nL A (G A) q pc lv rest := by
  subst hk3; subst hic
  obtain ⟨hx, hb, hml, hown, hts⟩ := S
  intro H locs ls h1 h2 h3
  obtain ⟨sa, hsa⟩ := hE.2.1 _ htx
  exact vx_throwNW hx hb hl hown (hts _ hk) (hts _ hini) hsa (hat hts hE) (List.forall_mem_cons.mpr ⟨rfl, List.forall_mem_cons.mpr ⟨rfl, xo_3⟩⟩) hE.2.2.2.1 hE.2.2.2.2.1 h2 (h3.1.trans hml.symm) d0 d3 d4 d7 d10 (fun x hx => (htab x hx).elim) hRframes hRlocals hRcells hRslots hlocks
    (fun t hvm hz hk => ⟨(3, q), hF, ⟨rfl, hGG _ (hGk A q H t.heap h1 hk)⟩, Nat.le_trans h2.1 hz, fun z hz1 hz2 => (hk z (Nat.lt_of_lt_of_le hz1 h2.1)).trans (h2.2.1 z hz1 hz2)⟩) h2.2.2 hc hs
end ZW
/-- the store at a place, with a new word -/
def blankW (q : SS) (k : Nat) : SS := sA (sA (sA (sA (sA (sA (sA (sA (sA (sA q 30 (upd (gA q 30) k 0)) 31 (upd (gA q 31) k 0)) 32 (upd (gA q 32) k 0)) 33 (upd (gA q 33) k 0)) 34 (upd (gA q 34) k 0)) 35 (upd (gA q 35) k 0)) 36 (upd (gA q 36) k 0)) 37 (upd (gA q 37) k 0)) 38 (upd (gA q 38) k 0)) 39 (upd (gA q 39) k 1)
def fX7_claim (q : SS) (v1 : Int32) : SS := if gA q 39 (v1 : Int32).toNatClampNeg = 0 then sI (blankW q (v1 : Int32).toNatClampNeg) 204 (gI q 204 + 1) else q
theorem hX7_claim : yX7_claim.cls = RX7 ∧ yX7_claim.cls ≠ "java/lang/invoke/MethodHandle" ∧ yX7_claim.cls ≠ "java/lang/invoke/VarHandle" ∧ (parseMethodDescriptor yX7_claim.desc).map (fun d => d.parameters.length) = some 1 := by decide +kernel
def Cc (D : va_G) (kc : Nat → ClassId) (ad wad : Nat → Nat) (l : Launch) (y : MethodName) (ws : List Cond) (rm : Room) (mc ms : Nat) (av : List Value) (q : SS) (k : Nat) (F : SS) : Prop :=
  ∀ (A : Nat → Prop) (sz : Nat), (∀ z, sz ≤ z → A z) → Met l y ws rm (va_Pc av (fun U => U.heap.size = sz ∧ PX D kc A U ∧ GX D kc ad wad A q U.heap)) (va_Qr (fun (u : Nat → Nat) => ∀ j, isW q j → u j = wad j) (fun u a t => a = u k ∧ GX D kc ad u A F t.heap) A) mc ms A
section ZC2
variable {p : Program} {l : Launch} {e : Env} {R : Room} {s : State} {m : MethodId} {args : Array Value} {below : List Frame} {meth : Method} {c : Code} {cells slots : Nat} {Q : State → Prop} {nL : Nat} {A : Nat → Prop} {q q' : SS} {pc : Nat} {lv : List (Nat × Value)} {rest : List Value} {cc : ByteArray}  {Ts : List Cond} {own : String}
variable {D : va_G} {kc : Nat → ClassId} {ad wad : Nat → Nat}
theorem z_callC (S : CallFix p m c cc nL s args Ts own) {y : MethodName} {bytes : ByteArray} {idx maxL mc ms n : Nat} {ret : Option FieldType} {ws : List Cond} {rm : Room} {b : Addr} {As : List Value} {C : String} {k : Nat} {F : SS} (hM : Cc D kc ad wad l y ws rm mc ms (.ref b :: As) q k F) (cw : CallW R s args own C idx y bytes maxL ret ws rm mc ms n) (hA : ∀ z, s.heap.size ≤ z → A z) (hPb : PB (PX D kc)) (hPs : PS (PX D kc) A s) (hrecv : ∀ H, GX D kc ad wad A q H → ∃ cell : Cell, H[b]? = some cell ∧ cell.vm.isStatics = false ∧ s.vm.findClass C = some cell.cls) {st0 : List Value} (hn : As.length = n) (hst : st0 = As.reverse ++ .ref b :: rest) (hW : (rest.map fun v => v.category).sum ≤ 8) (hdg : decode cc pc = .ok (.invokevirtual idx, 3)) (hf : cells + mc ≤ R.cells ∧ slots + ms ≤ R.slots)
    (kk : ∀ wad2 : Nat → Nat, (∀ j, isW q j → wad2 j = wad j) → Z p l e R s m args below meth c (cells + mc) (slots + ms) Q nL A (GX D kc ad wad2 A) F (pc + 3) lv (.ref (wad2 k) :: rest)) : Z p l e R s m args below meth c cells slots Q nL A (GX D kc ad wad A) q pc lv st0 := by
  intro H locs ls h1 h2 h3
  subst hst
  refine va_callr (va_runV (As := As) (rest := rest) S (hM A H.size (fun z hz => hA z (Nat.le_trans h2.1 hz))) cw ⟨fun a U g mk z => ⟨z.1, z.2.1, hPb _ _ _ _ _ z.2.2.1, z.2.2.2⟩, hrecv H h1, fun U hU hW => ⟨rfl, by rw [hU], hPs H locs h2 U hU hW, by rw [hU]; exact h1⟩⟩ rfl hn h3.1 rfl (lv_room hW) hdg hf) h2 (fun z _ h => h) (fun z h => h) (fun u r t H1 locs1 ht hvm hw hB hz hk hS1 => ?_)
  obtain ⟨rfl, hB⟩ := hB
  exact kk u hw H1 locs1 ls (by rw [← ht]; exact hB) hS1 h3
end ZC2
def PLp (wad : Nat → Nat) (qa : Nat) (q : SS) (tl : va_W) : Prop := ∃ (L : List Nat) (f : Nat → va_E), tl = va_pl (L ++ [qa]) f ∧ f qa = .inr (11, wf0) ∧ qa ∉ L ∧ (∀ k, isW q k → wad k ∈ L ∧ f (wad k) = .inr (11, wfl q k)) ∧ ∀ k j, isW q k → isW q j → wad k = wad j → k = j
section ZNW
variable {p : Program} {l : Launch} {e : Env} {R : Room} {s : State} {m : MethodId} {args : Array Value} {below : List Frame} {meth : Method} {c : Code} {cells slots : Nat} {Q : State → Prop} {nL : Nat} {A : Nat → Prop} {q : SS} {pc : Nat} {lv : List (Nat × Value)} {rest : List Value} {cc : ByteArray} {x0 : Cond}
variable {D : va_G} {kc : Nat → ClassId} {ad wad : Nat → Nat}
theorem z_wk {G G2 : SS → Heap → Prop} (h : ∀ H, G q H → G2 q H) (k : Z p l e R s m args below meth c cells slots Q nL A G2 q pc lv rest) : Z p l e R s m args below meth c cells slots Q nL A G q pc lv rest :=
  fun H locs ls h1 h2 h3 => k H locs ls (h H h1) h2 h3
/-- new Word(): the object lies behind the pool, not yet in the store -/
theorem z_newW (S : CallFix p m c cc nL s args (x0 :: lw_G) RX7) (hK : va_K D vwCl (tysK kc) s) (hE : EV A s s.heap) (hA : ∀ z, s.heap.size ≤ z → A z) (hfr : 2 ≤ R.frames ∧ 8 + (1 + 11) + 40 ≤ R.locals) (hcells : cells + 1 ≤ R.cells) (hslots : slots + 9 ≤ R.slots) (hW : (rest.map fun v => v.category).sum + 1 ≤ 8) (d0 : decode cc pc = .ok (.new 9, 3)) (d3 : decode cc (pc + 3) = .ok (.dup, 1)) (d4 : decode cc (pc + 4) = .ok (.invokespecial 38, 3))
    (k : ∀ qa : Nat, Z p l e R s m args below meth c (cells + 1) (slots + 9) Q nL A (ZG D vwCl (wX kc ad wad) (PLp wad qa) A) q (pc + 7) lv (.ref qa :: rest)) : Z p l e R s m args below meth c cells slots Q nL A (GX D kc ad wad A) q pc lv rest := by
  obtain ⟨hx, hb, hml, hown, hts⟩ := id S
  intro H locs ls g1 g2 g3
  obtain ⟨tl, hP, hD, L, f, rfl, hL, hI⟩ := id g1
  refine va_new (c0 := c) (ci := 11) (C := RX9) (T := TX9) (N := 9) (fs := wf0) hx hb hts inX9 tyX9 tyX9_ok hown (hts _ q1_45) (hts _ q4_21) (hts _ q1_26) hK hP hD g2 hA rfl (fun j hj => by
    match j, hj with
    | 0, _ => rfl
    | 1, _ => rfl
    | 2, _ => rfl
    | 3, _ => rfl
    | 4, _ => rfl
    | 5, _ => rfl
    | 6, _ => rfl
    | 7, _ => rfl
    | 8, _ => rfl
    | j + 9, hj => exact absurd hj (by omega)) hcells hslots d0 (fun qa H1 hP1 hD1 hS1 => ?_)
  have hqa : qa ∉ L := fun h => by
    obtain ⟨n, hn⟩ := va_pl_get (X := wX kc ad wad q) (f := f) h
    exact (va_D.apart hD1 hn (show ([(qa, Sum.inr (11, wf0))] : va_W)[0]? = some (qa, .inr (11, wf0)) from rfl)) rfl
  have K1 : Z p l e R s m args below meth c (cells + 1) (slots + 9) Q nL A (GK D ((wX kc ad wad q ++ va_pl L f) ++ [(qa, .inr (11, wf0))]) A) q (pc + 3) lv (.ref qa :: rest) := by
    refine z_dup hx hb d3 rfl ?_
    refine zk_callIN (As := []) (x := (qa, .inr (11, wf0))) S (ctX9_init l D kc qa) ⟨va_cnB 0 S.2.2.2.2 (gW q4_24) rfl rfl rfl (hE.2.2.2.2.2.1 (RX7, 38, yX9_init) (List.mem_of_getElem? (i := 15) rfl)) (S.2.2.2.2 _ q1_26) hX9_init ⟨hfr.1, hfr.2⟩, rfl, S.2.2.2.2 _ q4_23⟩ hA pbK (fun U hU => va_K.moved hU.alike hK) (wX kc ad wad q ++ va_pl L f) rfl (fun _ => (wX kc ad wad q ++ va_pl L f) ++ [(qa, .inr (11, wf0))]) (fun _ => rfl) rfl rfl (by simp only [List.map_cons, List.sum_cons]; show 1 + _ ≤ 8; omega) d4 ⟨hcells, hslots⟩ (fun u => ?_)
    refine z_wk (G2 := ZG D vwCl (wX kc ad wad) (PLp wad qa) A) (fun H2 h => ?_) (k qa)
    obtain ⟨hP2, hD2⟩ := h
    rw [List.append_assoc, va_pl_push hqa] at hP2 hD2
    exact ⟨_, hP2, hD2, L, _, rfl, va_up_self _ _ _, hqa, fun k hk => ⟨(hL k hk).1, by rw [va_up_ne _ _ (fun h => hqa (by rw [← h]; exact (hL k hk).1)), (hL k hk).2]⟩, hI⟩
  exact K1 H1 locs ls ⟨hP1, hD1⟩ hS1 g3
theorem z_rret (hx : p.tables.exec = Jvm.exec) (hb : c.code = cc) (hlocks : meth.locks = false) {nm : String} (hr : meth.sig.returnType = some (.object nm)) {k : Nat} {F q0 : SS} {wad0 : Nat → Nat} (hF : F = q) (hw : ∀ j, isW q0 j → wad j = wad0 j) (hdg : decode cc pc = .ok (.areturn, 1)) : Z p l e R s m args below meth c cells slots (MQ below (va_Qr (fun (u : Nat → Nat) => ∀ j, isW q0 j → u j = wad0 j) (fun u a t => a = u k ∧ GX D kc ad u A F t.heap) A) args s cells slots A) nL A (GX D kc ad wad A) q pc lv [.ref (wad k)] := by
  intro H locs ls h1 h2 h3
  subst hF
  exact W.aret hx hb hr (Or.inl ⟨_, rfl⟩) (Or.inr ⟨_, rfl⟩) (fun t ht hW => ⟨⟨wad, wad k, rfl, hw, rfl, by subst ht; exact h1⟩, h2.F ht⟩) h2.2.2 hdg hlocks
theorem gA_self (q : SS) (j : Nat) (f : Nat → Int32) : gA (sA q j f) j = f := va_up_self _ _ _
theorem gA_ne (q : SS) {i j : Nat} (f : Nat → Int32) (h : i ≠ j) : gA (sA q j f) i = gA q i := va_up_ne _ _ h
theorem wXnew (kc : Nat → ClassId) (ad wad' : Nat → Nat) (q : SS) (g : Nat → Int32) : ∀ tl, (wX kc ad wad' q ++ tl).set 12 (ad 12, .inl (kc 4, 80, .inr (.inr (.inr (.inr (fun k => if g k = 0 then none else some (wad' k))))))) = wX kc ad wad' (sA q 39 g) ++ tl := fun _ => rfl
theorem wXrow (kc : Nat → ClassId) (ad wad wad' : Nat → Nat) (q : SS) (x : va_E) : ∀ tl, (wX kc ad wad q ++ tl).set 12 (ad 12, x) = (wX kc ad wad' q ++ tl).set 12 (ad 12, x) := fun _ => rfl
def blankQ (q : SS) (k : Nat) : SS := sA (sA (sA (sA (sA (sA (sA (sA (sA q 30 (upd (gA q 30) k 0)) 31 (upd (gA q 31) k 0)) 32 (upd (gA q 32) k 0)) 33 (upd (gA q 33) k 0)) 34 (upd (gA q 34) k 0)) 35 (upd (gA q 35) k 0)) 36 (upd (gA q 36) k 0)) 37 (upd (gA q 37) k 0)) 38 (upd (gA q 38) k 0)
theorem wX_blank (kc : Nat → ClassId) (ad wad : Nat → Nat) (q : SS) (k : Nat) : wX kc ad wad (blankQ q k) = wX kc ad wad q := by
  unfold blankQ
  rw [wX_words kc ad wad _ 8 (by decide), wX_words kc ad wad _ 7 (by decide), wX_words kc ad wad _ 6 (by decide), wX_words kc ad wad _ 5 (by decide), wX_words kc ad wad _ 4 (by decide), wX_words kc ad wad _ 3 (by decide), wX_words kc ad wad _ 2 (by decide), wX_words kc ad wad _ 1 (by decide), wX_words kc ad wad _ 0 (by decide)]
theorem wfl_blank (q : SS) (k : Nat) : wfl (blankW q k) k = wf0 := by
  simp [wfl, blankW, wf0, gA, sA, va_up, upd]
theorem wfl_blank_ne (q : SS) {k i : Nat} (h : i ≠ k) : wfl (blankW q k) i = wfl q i := by
  simp [wfl, blankW, gA, sA, va_up, upd, h]
theorem isW_blank {q : SS} {k i : Nat} (h : isW (blankW q k) i) : i = k ∨ (i ≠ k ∧ isW q i) := by
  by_cases e : i = k
  · exact Or.inl e
  · refine Or.inr ⟨e, h.1, ?_⟩
    have h2 := h.2
    rw [blankW, gA_self] at h2
    simpa [upd, e] using h2
/-- the new word goes into the store -/
theorem z_astW {Ts : List Cond} {own : String} (S : CallFix p m c cc nL s args Ts own) (hK : va_K D vwCl (tysK kc) s) {i : Int32} (hin : vp_in i 80) (h0 : gA q 39 i.toNatClampNeg = 0) {qa : Nat} (hdg : decode cc pc = .ok (.aastore, 1))
    (kk : ∀ wad2 : Nat → Nat, wad2 i.toNatClampNeg = qa → (∀ j, isW q j → wad2 j = wad j) → Z p l e R s m args below meth c cells slots Q nL A (GX D kc ad wad2 A) (blankW q i.toNatClampNeg) (pc + 1) lv rest) : Z p l e R s m args below meth c cells slots Q nL A (ZG D vwCl (wX kc ad wad) (PLp wad qa) A) q pc lv (.ref qa :: .int i :: .ref (ad 12) :: rest) := by
  obtain ⟨hx, hb, hml, hown, hts⟩ := S
  intro H locs ls g1 g2 g3
  obtain ⟨tl, hP, hD, L, f, rfl, hf, hqa, hL, hI⟩ := id g1
  obtain ⟨n, hn⟩ := va_pl_get (X := wX kc ad wad q) (f := f) (show qa ∈ L ++ [qa] from List.mem_append_right _ List.mem_cons_self)
  rw [hf] at hn
  generalize hk : i.toNatClampNeg = k at *
  refine va_astq (v := qa) (f := fun k => if gA q 39 k = 0 then none else some (wad k)) hx hb hK hP hD g2 12 4 n 11 (r := (RX9, TX9, 9)) rfl rfl hn rfl hin hdg (fun H1 locs1 hP1 hD1 hS1 => ?_)
  have e : va_up (fun k => if gA q 39 k = 0 then none else some (wad k)) i.toNatClampNeg (some qa) = (fun j => if upd (gA q 39) k 1 j = 0 then none else some (va_up wad k qa j)) := by
    rw [hk]
    funext j
    by_cases e : j = k
    · subst e; simp [va_up, upd]
    · simp [va_up, upd, e]
  rw [e, wXrow kc ad wad (va_up wad k qa) q, ← wX_blank kc ad (va_up wad k qa) q k, wXnew kc ad (va_up wad k qa) (blankQ q k)] at hP1 hD1
  have hnW : ∀ j, isW q j → j ≠ k := fun j hj e => hj.2 (e ▸ h0)
  refine kk (va_up wad k qa) (va_up_self _ _ _) (fun j hj => va_up_ne _ _ (hnW j hj)) H1 locs1 ls ⟨_, hP1, hD1, _, f, rfl, fun j hj => ?_, fun j1 j2 hj1 hj2 e => ?_⟩ hS1 g3
  · rcases isW_blank hj with rfl | ⟨hjk, hj⟩
    · rw [va_up_self, wfl_blank]
      exact ⟨List.mem_append_right _ List.mem_cons_self, hf⟩
    · rw [va_up_ne _ _ hjk, wfl_blank_ne q hjk]
      exact ⟨List.mem_append_left _ (hL j hj).1, (hL j hj).2⟩
  · rcases isW_blank hj1 with rfl | ⟨h1k, h1⟩ <;> rcases isW_blank hj2 with h2 | ⟨h2k, h2⟩
    · exact h2.symm
    · rw [va_up_self, va_up_ne _ _ h2k] at e
      exact absurd (e ▸ (hL j2 h2).1) hqa
    · subst h2
      rw [va_up_self, va_up_ne _ _ h1k] at e
      exact absurd (e ▸ (hL j1 h1).1) hqa
    · rw [va_up_ne _ _ h1k, va_up_ne _ _ h2k] at e
      exact hI j1 j2 h1 h2 e
end ZNW
theorem ctX7_claim (l : Launch) (hl : l.stackTraces = false) (D : va_G) (kc : Nat → ClassId) (ad wad : Nat → Nat) (q : SS) (v1 : Int32) (hin : vp_in v1 80) : Cc D kc ad wad l yX7_claim (Cond.code yX7_claim cX7_claim 3 (some (.object "MicrostoreWorks$Word")) :: lw_G) (zr 2 1 9) 1 9 [.ref (ad 1), .int v1] q (v1 : Int32).toNatClampNeg (fX7_claim q v1) := by
  intro A sz hA
  refine Met.ofW (cc := cX7_claim) (maxL := 3) (ret := some (.object "MicrostoreWorks$Word")) (by decide) rfl ?_
  intro p e s m args below meth c s₁ B hml hv
  obtain ⟨rfl, hsz, ⟨hK, hE⟩, hG⟩ := hv
  subst hsz
  have S : CallFix p m c cX7_claim 3 s _ (Cond.code yX7_claim cX7_claim 3 (some (.object "MicrostoreWorks$Word")) :: lw_G) RX7 := ⟨B.exec, B.bytes, hml, findClass_of_methodNamed B.named, atoms_spec (ws := Cond.code yX7_claim cX7_claim 3 (some (.object "MicrostoreWorks$Word")) :: lw_G) B.pre⟩
  have hx := S.1
  have hb := S.2.1
  have hr := B.returns
  have hlocks := B.notSynchronized
  rw [lg_entry_eq]
  refine (show Z p l e (zr 2 1 9) s m _ below meth c 0 0 _ 3 A (GX D kc ad wad A) q 0 (lv_args 0 [.ref (ad 1), .int v1]) [] from ?_) _ _ _ hG va_S.rf (lv_entry [.ref (ad 1), .int v1] (Nat.le_of_ble_eq_true rfl))
  refine z_aload_n (j := 0) hx hb dX7_claim_0 rfl rfl ?_
  refine z_get S hK inX7 1 (fun _ => rfl) rfl 0 (by decide) q1_50 rfl rfl dX7_claim_1 ?_
  refine z_iload_n (j := 1) hx hb dX7_claim_4 rfl rfl ?_
  refine z_aldw S hK hin dX7_claim_5 (fun h0 => ?_) (fun h0 => ?_)
  · refine z_astore_nN (lv' := [(2, .null), (0, .ref (ad 1)), (1, .int v1)]) hx hb dX7_claim_6 rfl (by decide) rfl ?_
    refine z_aload_nN (j := 0) hx hb dX7_claim_7 rfl rfl ?_
    refine z_ifnonnullN hx hb dX7_claim_8 ?_
    refine z_newW S hK hE hA ⟨Nat.le_of_ble_eq_true rfl, Nat.le_of_ble_eq_true rfl⟩ (Nat.le_of_ble_eq_true rfl) (Nat.le_of_ble_eq_true rfl) (Nat.le_of_ble_eq_true rfl) dX7_claim_11 dX7_claim_14 dX7_claim_15 (fun qa => ?_)
    refine z_astore_n (lv' := [(2, .ref qa), (0, .ref (ad 1)), (1, .int v1)]) hx hb dX7_claim_18 rfl (by decide) rfl ?_
    refine z_aload_n (j := 1) hx hb dX7_claim_19 rfl rfl ?_
    refine z_get S hK inX7 1 (fun _ => rfl) rfl 0 (by decide) q1_50 rfl rfl dX7_claim_20 ?_
    refine z_iload_n (j := 2) hx hb dX7_claim_23 rfl rfl ?_
    refine z_aload_n (j := 0) hx hb dX7_claim_24 rfl rfl ?_
    refine z_astW S hK hin h0 dX7_claim_25 (fun wad2 hw2 hw3 => ?_)
    refine z_aload_n (j := 1) hx hb dX7_claim_26 rfl rfl ?_
    refine z_dup hx hb dX7_claim_27 rfl ?_
    refine z_get S hK inX7 1 (fun _ => rfl) rfl 4 (by decide) q1_55 rfl rfl dX7_claim_28 ?_
    refine z_iconst (v := 1) hx hb dX7_claim_31 (by decide) ?_
    refine z_iadd hx hb dX7_claim_32 ?_
    refine z_put (q' := sI (blankW q (v1 : Int32).toNatClampNeg) 204 (gI q 204 + 1)) S hK inX7 tyX7 tyX7_ok nmX7 1 (fun _ => rfl) rfl 4 (by decide) q1_55 rfl rfl rfl rfl (Nat.le_of_ble_eq_true rfl) dX7_claim_33 (wXp204 kc ad wad2 _ _) (fun _ h => h) ?_
    refine z_aload_n (j := 0) hx hb dX7_claim_36 rfl (show _ = some (2, Value.ref (wad2 (v1 : Int32).toNatClampNeg)) by rw [hw2]; rfl) ?_
    exact z_rret hx hb hlocks hr (by rw [fX7_claim, if_pos h0]) hw3 dX7_claim_37
  · refine z_astore_n (lv' := [(2, .ref (wad (v1 : Int32).toNatClampNeg)), (0, .ref (ad 1)), (1, .int v1)]) hx hb dX7_claim_6 rfl (by decide) rfl ?_
    refine z_aload_n (j := 0) hx hb dX7_claim_7 rfl rfl ?_
    refine z_ifnonnull (tgt := 36) hx hb dX7_claim_8 (by decide) ?_
    refine z_widen (Nat.zero_le 1) (Nat.zero_le 9) ?_
    refine z_aload_n (j := 0) hx hb dX7_claim_36 rfl rfl ?_
    exact z_rret hx hb hlocks hr (by rw [fX7_claim, if_neg h0]) (fun _ _ => rfl) dX7_claim_37
