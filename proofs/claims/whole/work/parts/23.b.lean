/-! constructors: a world told in full, the callee's part the last of it; the word's constructor; the store's new word -/
def q0s : SS := (fun _ => 0, fun _ => 0, fun _ _ => 0, fun _ _ => 0)
abbrev GK (D : va_G) (W : va_W) : GH := fun A _ H => va_P D vwCl W H ∧ va_D A W
abbrev MK (D : va_G) (A : Nat → Prop) (W1 : (Nat → Nat) → va_W) : Array Value → State → Outcome → State → Prop := va_Qv (fun _ : Nat → Nat => True) (fun x t => va_P D vwCl (W1 x) t.heap ∧ va_D A (W1 x)) A
def CK (P : State → Prop) (D : va_G) (l : Launch) (y : MethodName) (ws : List Cond) (rm : Room) (mc ms : Nat) (av : List Value) (W0 : va_W) (W1 : (Nat → Nat) → va_W) : Prop :=
  ∀ (A : Nat → Prop) (sz : Nat), (∀ z, sz ≤ z → A z) → Met l y ws rm (va_Pc av (fun U => U.heap.size = sz ∧ P U ∧ va_P D vwCl W0 U.heap ∧ va_D A W0)) (MK D A W1) mc ms A
theorem CK.of {P : State → Prop} {D : va_G} {l : Launch} {y : MethodName} {ws ws' : List Cond} {rm : Room} {mc ms maxL : Nat} {cc : ByteArray} {av : List Value} {W0 : va_W} {W1 : (Nat → Nat) → va_W} (hy : plainName y.cls = true) (hw : ws = Cond.code y cc maxL none :: ws') (hlen : (lg_sl av).length ≤ maxL)
    (body : ∀ (p : Program) (e : Env) (s : State) (m : MethodId) (args : Array Value) (below : List Frame) (meth : Method) (c : Code) (A : Nat → Prop), CallFix p m c cc maxL s args ws y.cls → meth.sig.returnType = none → meth.locks = false → meth.name = y.name → (∀ z, s.heap.size ≤ z → A z) → P s → Z p l e rm s m args below meth c 0 0 (MQ below (MK D A W1) args s mc ms A) maxL A (GK D W0 A) q0s 0 (lv_args 0 av) []) : CK P D l y ws rm mc ms av W0 W1 := by
  intro A sz hA
  refine Met.ofW (cc := cc) (maxL := maxL) (ret := none) hy hw ?_
  intro p e s m args below meth c s₁ B hml hv
  obtain ⟨rfl, hsz, hP, hG⟩ := hv
  subst hsz
  have K := body p e s m _ below meth c A ⟨B.exec, B.bytes, hml, findClass_of_methodNamed B.named, atoms_spec (ws := ws) B.pre⟩ B.returns B.notSynchronized (name_of_methodNamed B.named B.method).1 hA hP
  rw [lg_entry_eq]
  exact K _ _ _ hG va_S.rf (lv_entry av hlen)
section ZKR
variable {p : Program} {l : Launch} {e : Env} {R : Room} {s : State} {m : MethodId} {args : Array Value} {below : List Frame} {meth : Method} {c : Code} {cells slots : Nat} {Q : State → Prop} {nL : Nat} {A : Nat → Prop} {q : SS} {pc : Nat} {lv : List (Nat × Value)} {rest : List Value} {cc : ByteArray} {Ts : List Cond} {own : String} {D : va_G} {tys : List (ClassId × FieldType)} {G : SS → Heap → Prop}
theorem zk_ret (hx : p.tables.exec = Jvm.exec) (hb : c.code = cc) (hlocks : meth.locks = false) (hr : meth.sig.returnType = none) {W2 : va_W} {W1 : (Nat → Nat) → va_W} (u : Nat → Nat) (hW1 : W1 u = W2) (hdg : decode cc pc = .ok (.return_, 1)) : Z p l e R s m args below meth c cells slots (MQ below (MK D A W1) args s cells slots A) nL A (GK D W2 A) q pc lv [] := by
  intro H locs ls h1 h2 h3
  exact W.vret hx hb hr (fun t ht hW => ⟨⟨u, rfl, trivial, by subst ht; rw [hW1]; exact h1⟩, h2.F ht⟩) h2.2.2 hdg hlocks
theorem zk_oi (S : CallFix p m c cc nL s args Ts own) {idx a : Nat} (h1 : Cond.methodLink own idx Lib.objectInit ∈ Ts) (h2 : Cond.instanceMethod Lib.objectInit ∈ Ts) (h3 : Cond.code Lib.objectInit ⟨#[0xb1]⟩ 1 none ∈ Ts) (hd : decode cc pc = .ok (.invokespecial idx, 3)) (hfr : 1 ≤ R.frames) (hlo : (rest.map fun v => v.category).sum + 12 ≤ R.locals) (k : Z p l e R s m args below meth c cells slots Q nL A G q (pc + 3) lv rest) : Z p l e R s m args below meth c cells slots Q nL A G q pc lv (.ref a :: rest) := by
  obtain ⟨hx, hb, hml, hown, hts⟩ := S
  intro H locs ls g1 g2 g3
  exact W.objInit hx hb hown (hts _ h1) (hts _ h2) (hts _ h3) rfl (g3.1.trans hml.symm) rfl hd hfr (by show 2 * 0 + _ + 12 ≤ _; omega) (k H locs ls g1 g2 g3)
theorem zk_new (S : CallFix p m c cc nL s args Ts own) (hK : va_K D vwCl tys s) (hA : ∀ z, s.heap.size ≤ z → A z) {C : String} {T : u_T} {N ci index : Nat} (hin : ∀ x ∈ u_ws C T N, x ∈ Ts) (ty : Nat → FieldType) (hty : ∀ k, k < N → parseFieldDescriptor (T k).2.2.1 = some (ty k)) (h1 : Cond.classLink own index C ∈ Ts) (h2 : Cond.instantiable C N ∈ Ts) (h3 : Cond.initialized C ∈ Ts) (hc : vwCl[ci]? = some (C, T, N)) {fs : List Value} (hfs : ∀ j, j < N → defaultValue (ty j) = vp_V fs j) {W : va_W} (W' : Nat → va_W) (hW : ∀ qa, W ++ [(qa, .inr (ci, fs))] = W' qa) (hcells : cells + 1 ≤ R.cells) (hslots : slots + N ≤ R.slots) (hdg : decode cc pc = .ok (.new index, 3))
    (k : ∀ qa : Nat, Z p l e R s m args below meth c (cells + 1) (slots + N) Q nL A (GK D (W' qa) A) q (pc + 3) lv (.ref qa :: rest)) : Z p l e R s m args below meth c cells slots Q nL A (GK D W A) q pc lv rest := by
  obtain ⟨hx, hb, hml, hown, hts⟩ := S
  intro H locs ls g1 g2 g3
  refine va_new hx hb hts hin ty hty hown (hts _ h1) (hts _ h2) (hts _ h3) hK g1.1 g1.2 g2 hA hc hfs hcells hslots hdg (fun qa H1 hP1 hD1 hS1 => ?_)
  rw [hW] at hP1 hD1
  exact k qa H1 locs ls ⟨hP1, hD1⟩ hS1 g3
theorem zk_newa (S : CallFix p m c cc nL s args Ts own) (hK : va_K D vwCl tys s) (hA : ∀ z, s.heap.size ≤ z → A z) {atype : ArrayType} {ty : FieldType} (hty : newarray.typeOf atype = ty) (hpr : ∀ C, ty ≠ .object C) (t0 : Nat) {cA : ClassId} (ht : tys[t0]? = some (cA, ty)) (harr : Cond.arrayClass (newarray.typeOf atype) ∈ Ts) {n : Int32} {N' : Nat} {a0 : vp_A} {W : va_W} (W' : Nat → va_W)
    (ha : ∀ cA : ClassId, vp_cell cA a0 = arrV cA N' (fun _ => defaultValue ty)) (hn : ¬ n < 0) (hN : n.toNatClampNeg = N') (hbytes : N' * componentBytes ty ≤ 536870912) (hcells : cells + 1 ≤ R.cells) (hslots : slots + N' ≤ R.slots) (hdg : decode cc pc = .ok (.newarray atype, 2)) (hw : ∀ qa, W ++ [(qa, .inl (cA, a0))] = W' qa)
    (kk : ∀ qa : Nat, Z p l e R s m args below meth c (cells + 1) (slots + N') Q nL A (GK D (W' qa) A) q (pc + 2) lv (.ref qa :: rest)) : Z p l e R s m args below meth c cells slots Q nL A (GK D W A) q pc lv (.int n :: rest) := by
  obtain ⟨hx, hb, hml, hown, hts⟩ := S
  intro H locs ls h1 h2 h3
  refine va_newa hx hb (hts _ harr) hty hK h1.1 h1.2 h2 hA ha hn hN hbytes hcells hslots hdg (fun qa cB H1 hK1 hP1 hD1 hS1 => ?_)
  have e : cB = cA := va_RA.one hpr (hK.2 t0 _ ht).2 (hK1.2 tys.length (cB, ty) (by rw [List.getElem?_append_right (Nat.le_refl _), Nat.sub_self]; rfl)).2
  subst e
  rw [hw qa] at hP1 hD1
  exact kk qa H1 locs ls ⟨hP1, hD1⟩ hS1 h3
theorem zk_newq (S : CallFix p m c cc nL s args Ts own) (hK : va_K D vwCl tys s) (hA : ∀ z, s.heap.size ≤ z → A z) {C : String} {index : Nat} (h1 : Cond.classLink own index C ∈ Ts) (hover : va_AO C s) (t0 : Nat) {cA : ClassId} (ht : tys[t0]? = some (cA, .object C)) {n : Int32} {N' : Nat} {W : va_W} (W' : Nat → va_W) (hn : ¬ n < 0) (hN : n.toNatClampNeg = N') (hbytes : N' * 4 ≤ 536870912) (hcells : cells + 1 ≤ R.cells) (hslots : slots + N' ≤ R.slots) (hdg : decode cc pc = .ok (.anewarray index, 3)) (hw : ∀ qa, W ++ [(qa, .inl (cA, N', .inr (.inr (.inr (.inr (fun _ => none))))))] = W' qa)
    (kk : ∀ qa : Nat, Z p l e R s m args below meth c (cells + 1) (slots + N') Q nL A (GK D (W' qa) A) q (pc + 3) lv (.ref qa :: rest)) : Z p l e R s m args below meth c cells slots Q nL A (GK D W A) q pc lv (.int n :: rest) := by
  obtain ⟨hx, hb, hml, hown, hts⟩ := S
  intro H locs ls g1 g2 g3
  refine va_newq hx hb hown (hts _ h1) hover hK g1.1 g1.2 g2 hA hn hN hbytes hcells hslots hdg (fun qa cB H1 hK1 hP1 hD1 hS1 => ?_)
  have e : cB = cA := by
    obtain ⟨kA, comp, -, -, -, e1⟩ := (hK.2 t0 _ ht).2
    obtain ⟨kB, comp2, -, -, -, e2⟩ := (hK1.2 tys.length (cB, .object C) (by rw [List.getElem?_append_right (Nat.le_refl _), Nat.sub_self]; rfl)).2
    rw [e1] at e2
    exact (Option.some.inj e2).symm
  subst e
  rw [hw qa] at hP1 hD1
  exact kk qa H1 locs ls ⟨hP1, hD1⟩ hS1 g3
theorem zk_get (S : CallFix p m c cc nL s args Ts own) (hK : va_K D vwCl tys s) {C ref : String} {T : u_T} {N ci index a : Nat} (hin : ∀ x ∈ u_ws C T N, x ∈ Ts) (q0 : Nat) {W : va_W} {fs : List Value} (he : W[q0]? = some (a, .inr (ci, fs))) (hc : vwCl[ci]? = some (C, T, N)) (k : Nat) (hk : k < N) (hlink : Cond.fieldLink own index ref (T k).2.1 (T k).2.2.1 ∈ Ts) (href : (T k).1 = ref) {v : Value} (hv : fs[k]? = some v) (hdg : decode cc pc = .ok (.getfield index, 3)) (kk : Z p l e R s m args below meth c cells slots Q nL A (GK D W A) q (pc + 3) lv (v :: rest)) : Z p l e R s m args below meth c cells slots Q nL A (GK D W A) q pc lv (.ref a :: rest) := by
  obtain ⟨hx, hb, hml, hown, hts⟩ := S
  intro H locs ls h1 h2 h3
  exact va_get hx hb hts hin hown hK h1.1 q0 he hc k hk (hts _ hlink) (fun _ h9 => href ▸ h9) hv hdg (kk H locs ls h1 h2 h3)
theorem zk_put (S : CallFix p m c cc nL s args Ts own) (hK : va_K D vwCl tys s) {C ref : String} {T : u_T} {N ci index a : Nat} (hin : ∀ x ∈ u_ws C T N, x ∈ Ts) (ty0 : Nat → FieldType) (hty : ∀ k, k < N → parseFieldDescriptor (T k).2.2.1 = some (ty0 k)) (hnm : ∀ a, a < N → ∀ b, b < N → a ≠ b → (T a).2.1 ≠ (T b).2.1) (q0 : Nat) {W : va_W} (W' : va_W) {fs : List Value} (he : W[q0]? = some (a, .inr (ci, fs))) (hc : vwCl[ci]? = some (C, T, N)) (k : Nat) (hk : k < N) (hlink : Cond.fieldLink own index ref (T k).2.1 (T k).2.2.1 ∈ Ts) (href : (T k).1 = ref) (hfin : (T k).2.2.2 = false) {v : Value} (hn : narrow (ty0 k) v = v) (hfit : fits (ty0 k) v = true) (hl : k < fs.length) (hdg : decode cc pc = .ok (.putfield index, 3)) (hset : W.set q0 (a, .inr (ci, fs.set k v)) = W') (kk : Z p l e R s m args below meth c cells slots Q nL A (GK D W' A) q (pc + 3) lv rest) : Z p l e R s m args below meth c cells slots Q nL A (GK D W A) q pc lv (v :: .ref a :: rest) := by
  obtain ⟨hx, hb, hml, hown, hts⟩ := S
  intro H locs ls h1 h2 h3
  refine va_put hx hb hts hin ty0 hty hnm hown hK h1.1 h1.2 h2 q0 he hc k hk (hts _ hlink) (fun _ h9 => href ▸ h9) hfin (hty k hk) hn hfit hl hdg (fun H1 locs1 hP1 hD1 hS1 => ?_)
  rw [hset] at hP1 hD1
  exact kk H1 locs1 ls ⟨hP1, hD1⟩ hS1 h3
theorem zk_putF (S : CallFix p m c cc nL s args Ts own) (hK : va_K D vwCl tys s) {C ref : String} {T : u_T} {N ci index a : Nat} (hin : ∀ x ∈ u_ws C T N, x ∈ Ts) (ty0 : Nat → FieldType) (hty : ∀ k, k < N → parseFieldDescriptor (T k).2.2.1 = some (ty0 k)) (hnm : ∀ a, a < N → ∀ b, b < N → a ≠ b → (T a).2.1 ≠ (T b).2.1) (hi : meth.name = "<init>") (q0 : Nat) {W : va_W} (W' : va_W) {fs : List Value} (he : W[q0]? = some (a, .inr (ci, fs))) (hc : vwCl[ci]? = some (C, T, N)) (k : Nat) (hk : k < N) (hlink : Cond.fieldLink own index ref (T k).2.1 (T k).2.2.1 ∈ Ts) (href : (T k).1 = ref) (hfin : (T k).2.2.2 = true) (hdecl : (T k).1 = own) {v : Value} (hn : narrow (ty0 k) v = v) (hfit : fits (ty0 k) v = true) (hl : k < fs.length) (hdg : decode cc pc = .ok (.putfield index, 3)) (hset : W.set q0 (a, .inr (ci, fs.set k v)) = W') (kk : Z p l e R s m args below meth c cells slots Q nL A (GK D W' A) q (pc + 3) lv rest) : Z p l e R s m args below meth c cells slots Q nL A (GK D W A) q pc lv (v :: .ref a :: rest) := by
  obtain ⟨hx, hb, hml, hown, hts⟩ := S
  intro H locs ls h1 h2 h3
  refine va_putF hx hb hts hin ty0 hty hnm hown hK h1.1 h1.2 h2 q0 he hc k hk (hts _ hlink) (fun _ h9 => href ▸ h9) hfin hi hdecl (hty k hk) hn hfit hl hdg (fun H1 locs1 hP1 hD1 hS1 => ?_)
  rw [hset] at hP1 hD1
  exact kk H1 locs1 ls ⟨hP1, hD1⟩ hS1 h3
theorem zk_join {wr : va_W} {x : Nat × va_E} {H H1 : Heap} {w1 : va_W} (h1 : GK D (wr ++ [x]) A q H) (hk : ∀ z : Nat, z < H.size → ¬ (A z ∧ ∀ (k : Nat) (y : Nat × va_E), wr[k]? = some y → y.1 ≠ z) → H1[z]? = H[z]?) (hP1 : va_P D vwCl w1 H1) (hD1 : va_D (fun z => A z ∧ ∀ (k : Nat) (y : Nat × va_E), wr[k]? = some y → y.1 ≠ z) w1) : GK D (wr ++ w1) A q H1 := by
  obtain ⟨hP, hD⟩ := h1
  refine ⟨va_P.app (hP.pre.kept (fun k y hy => hk y.1 ((hP.pre k y hy).lt) (fun h => h.2 k y hy rfl))) hP1, va_D.mk2 hD.pre (hD1.weaken (fun _ _ _ h => h.1)) (fun i j x y hi hj h => (hD1.2 j y hj).2 i x hi h)⟩
theorem zk_part {wr : va_W} {x : Nat × va_E} {H : Heap} (h1 : GK D (wr ++ [x]) A q H) (hA : ∀ z, H.size ≤ z → A z) : (∀ z, H.size ≤ z → (A z ∧ ∀ (k : Nat) (y : Nat × va_E), wr[k]? = some y → y.1 ≠ z)) ∧ va_P D vwCl [x] H ∧ va_D (fun z => A z ∧ ∀ (k : Nat) (y : Nat × va_E), wr[k]? = some y → y.1 ≠ z) [x] := by
  obtain ⟨hP, hD⟩ := h1
  exact ⟨fun z hz => ⟨hA z hz, fun k y hk hyz => absurd ((hP.pre k y hk).lt) (by rw [hyz]; exact Nat.not_lt.mpr hz)⟩, hP.suf, ⟨hD.suf.1, fun k y hk => ⟨hD.suf.2 k y hk, fun j z hj h => hD.apart hj hk h⟩⟩⟩
theorem zk_callIN (S : CallFix p m c cc nL s args Ts own) {y : MethodName} {bytes : ByteArray} {idx maxL mc ms n : Nat} {ws : List Cond} {rm : Room} {b : Addr} {As : List Value} {host : String} {Pz : State → Prop} {x : Nat × va_E} {W1 : (Nat → Nat) → va_W} (hM : CK Pz D l y ws rm mc ms (.ref b :: As) [x] W1) (cw : va_CN R s args own idx y host bytes maxL none ws rm mc ms n ∧ y.name = "<init>" ∧ (Cond.instanceMethod y).before args s = true) (hA : ∀ z, s.heap.size ≤ z → A z) (hPb : ∀ (U : State) (g : JFrame) (mk : MethodId) (a : Array Value), Pz U → Pz (U.calling g mk a)) (hPw : ∀ U : State, s.WarmedH U.vm → Pz U) (wr : va_W) {W : va_W} (hWe : W = wr ++ [x]) (W' : (Nat → Nat) → va_W) (hW' : ∀ u, wr ++ W1 u = W' u) {st0 : List Value} (hn : As.length = n) (hst : st0 = As.reverse ++ .ref b :: rest) (hW : (rest.map fun v => v.category).sum ≤ 8) (hdg : decode cc pc = .ok (.invokespecial idx, 3)) (hf : cells + mc ≤ R.cells ∧ slots + ms ≤ R.slots)
    (kk : ∀ u, Z p l e R s m args below meth c (cells + mc) (slots + ms) Q nL A (GK D (W' u) A) q (pc + 3) lv rest) : Z p l e R s m args below meth c cells slots Q nL A (GK D W A) q pc lv st0 := by
  intro H locs ls h1 h2 h3
  subst hst; subst hWe
  obtain ⟨hA', hPx, hDx⟩ := zk_part h1 (fun z hz => hA z (Nat.le_trans h2.1 hz))
  refine va_callv (va_runIN (As := As) (rest := rest) S (hM _ H.size hA') cw ⟨fun a U g mk z => ⟨z.1, z.2.1, hPb _ _ _ _ z.2.2.1, z.2.2.2⟩, fun U hU hW => ⟨rfl, by rw [hU], hPw U hW, by rw [hU]; exact ⟨hPx, hDx⟩⟩⟩ rfl hn h3.1 rfl (lv_room hW) hdg hf) h2 (fun z _ h => h.1) (fun z h => h.1) (fun u t H1 locs1 ht hvm hw hB hz hk hS1 => ?_)
  rw [ht] at hB
  exact kk u H1 locs1 ls (by rw [← hW']; exact zk_join (q := q) h1 hk hB.1 hB.2) hS1 h3
theorem zk_callI (S : CallFix p m c cc nL s args Ts own) {y : MethodName} {bytes : ByteArray} {idx maxL mc ms n : Nat} {ws : List Cond} {rm : Room} {b : Addr} {As : List Value} {Pz : State → Prop} {x : Nat × va_E} {W1 : (Nat → Nat) → va_W} (hM : CK Pz D l y ws rm mc ms (.ref b :: As) [x] W1) (cw : CallB R s args own idx y bytes maxL none ws rm mc ms n ∧ y.name = "<init>" ∧ (Cond.instanceMethod y).before args s = true) (hA : ∀ z, s.heap.size ≤ z → A z) (hPb : ∀ (U : State) (g : JFrame) (mk : MethodId) (a : Array Value), Pz U → Pz (U.calling g mk a)) (hPw : ∀ U : State, s.WarmedH U.vm → Pz U) (wr : va_W) {W : va_W} (hWe : W = wr ++ [x]) (W' : (Nat → Nat) → va_W) (hW' : ∀ u, wr ++ W1 u = W' u) {st0 : List Value} (hn : As.length = n) (hst : st0 = As.reverse ++ .ref b :: rest) (hW : (rest.map fun v => v.category).sum ≤ 8) (hdg : decode cc pc = .ok (.invokespecial idx, 3)) (hf : cells + mc ≤ R.cells ∧ slots + ms ≤ R.slots)
    (kk : ∀ u, Z p l e R s m args below meth c (cells + mc) (slots + ms) Q nL A (GK D (W' u) A) q (pc + 3) lv rest) : Z p l e R s m args below meth c cells slots Q nL A (GK D W A) q pc lv st0 := by
  intro H locs ls h1 h2 h3
  subst hst; subst hWe
  obtain ⟨hA', hPx, hDx⟩ := zk_part h1 (fun z hz => hA z (Nat.le_trans h2.1 hz))
  refine va_callv (va_runI (As := As) (rest := rest) S (hM _ H.size hA') cw ⟨fun a U g mk z => ⟨z.1, z.2.1, hPb _ _ _ _ z.2.2.1, z.2.2.2⟩, fun U hU hW => ⟨rfl, by rw [hU], hPw U hW, by rw [hU]; exact ⟨hPx, hDx⟩⟩⟩ rfl hn h3.1 rfl (lv_room hW) hdg hf) h2 (fun z _ h => h.1) (fun z h => h.1) (fun u t H1 locs1 ht hvm hw hB hz hk hS1 => ?_)
  rw [ht] at hB
  exact kk u H1 locs1 ls (by rw [← hW']; exact zk_join (q := q) h1 hk hB.1 hB.2) hS1 h3
end ZKR
theorem pbK {D : va_G} {kc : Nat → ClassId} : ∀ (U : State) (g : JFrame) (mk : MethodId) (a : Array Value), va_K D vwCl (tysK kc) U → va_K D vwCl (tysK kc) (U.calling g mk a) := fun U g mk a h => va_K.moved (u := U) (U := U.calling g mk a) (Vm.Alike.refl U.vm) h
/-- nine fields, nothing in them yet -/
def wf0 : List Value := [.int 0, .int 0, .int 0, .int 0, .int 0, .int 0, .int 0, .int 0, .int 0]
theorem hX9_init : yX9_init.cls ≠ "java/lang/invoke/MethodHandle" ∧ yX9_init.cls ≠ "java/lang/invoke/VarHandle" ∧ (parseMethodDescriptor yX9_init.desc).map (fun d => d.parameters.length) = some 0 := by decide +kernel
theorem ctX9_init (l : Launch) (D : va_G) (kc : Nat → ClassId) (h0 : Nat) : CK (va_K D vwCl (tysK kc)) D l yX9_init (Cond.code yX9_init cX9_init 1 none :: lw_G) (zr 1 0 0) 0 0 [.ref h0] [(h0, .inr (11, wf0))] (fun _ => [(h0, .inr (11, wf0))]) := by
  refine CK.of (cc := cX9_init) (maxL := 1) (by decide) rfl (Nat.le_of_ble_eq_true rfl) ?_
  intro p e s m args below meth c A S hr hlocks hi hA hK
  have hx := S.1
  have hb := S.2.1
  refine z_aload_n (j := 0) hx hb dX9_init_0 rfl rfl ?_
  refine zk_oi S q4_25 q1_37 q1_38 dX9_init_1 (Nat.le_of_ble_eq_true rfl) (Nat.le_of_ble_eq_true rfl) ?_
  exact zk_ret hx hb hlocks hr id rfl dX9_init_4
