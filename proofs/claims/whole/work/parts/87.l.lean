/-! the law: pictures (the class beside a row; the class, the reference and two rows), calls -/
def LX (D : va_G) (kc : Nat → ClassId) (ad : Nat → Nat) (o : Nat) (e : va_E) : GH := fun A x H => ∃ B : Nat → Prop, GXe D kc ad B x H ∧ va_P D vwCl [(o, e)] H ∧ A o ∧ ¬ B o ∧ ∀ z, B z → A z ∧ z < H.size
def LA (D : va_G) (kc : Nat → ClassId) (ad am : Nat → Nat) (o1 o2 : Nat) (e1 e2 : va_E) (m : SS) : GH := fun A x H => ∃ B1 B2 : Nat → Prop, GXe D kc ad B1 x H ∧ GM D kc am B2 m H ∧ va_P D vwCl [(o1, e1)] H ∧ va_P D vwCl [(o2, e2)] H ∧ (A o1 ∧ A o2 ∧ o1 ≠ o2 ∧ ¬ B1 o1 ∧ ¬ B1 o2 ∧ ¬ B2 o1 ∧ ¬ B2 o2) ∧ (∀ z, B1 z → A z ∧ z < H.size ∧ ¬ B2 z) ∧ ∀ z, B2 z → A z ∧ z < H.size
section LPIC
variable {D : va_G} {kc : Nat → ClassId} {ad am : Nat → Nat} {o o1 o2 : Nat} {e e1 e2 : va_E} {A B : Nat → Prop} {x m : SS} {H H1 : Heap}
theorem gxe_weak (h : GXe D kc ad A x H) (hB : ∀ z, A z → z < H.size → B z) : GXe D kc ad B x H := by
  obtain ⟨wad, tl, hP, hD, hL⟩ := h
  exact ⟨wad, tl, hP, hD.weaken (fun k y hk hA => hB _ hA (hP k y hk).lt), hL⟩
theorem gm_weak (h : GM D kc am A m H) (hB : ∀ z, A z → z < H.size → B z) : GM D kc am B m H := by
  obtain ⟨tl, hP, hD, hL⟩ := h
  exact ⟨tl, hP, hD.weaken (fun k y hk hA => hB _ hA (hP k y hk).lt), hL⟩
theorem gxe_kept (h : GXe D kc ad A x H) (hk : ∀ z, A z → z < H.size → H1[z]? = H[z]?) : GXe D kc ad A x H1 := by
  obtain ⟨wad, tl, hP, hD, hL⟩ := h
  exact ⟨wad, tl, hP.kept (fun k y hy => hk _ (hD.2 k y hy) (hP k y hy).lt), hD, hL⟩
theorem gm_kept (h : GM D kc am A m H) (hk : ∀ z, A z → z < H.size → H1[z]? = H[z]?) : GM D kc am A m H1 := by
  obtain ⟨tl, hP, hD, hL⟩ := h
  exact ⟨tl, hP.kept (fun k y hy => hk _ (hD.2 k y hy) (hP k y hy).lt), hD, hL⟩
theorem p1_lt (h : va_P D vwCl [(o, e)] H) : o < H.size := (h 0 (o, e) rfl).lt
theorem p1_kept (h : va_P D vwCl [(o, e)] H) (hk : H1[o]? = H[o]?) : va_P D vwCl [(o, e)] H1 := h.kept (fun k y hy => by
  have hz : k < 1 := (List.getElem?_eq_some_iff.mp hy).1
  rw [show k = 0 by omega] at hy
  cases hy
  exact hk)
theorem lx_open (h : LX D kc ad o e A x H) (hA : ∀ z, H.size ≤ z → A z) : ∃ A1 : Nat → Prop, (∀ z, H.size ≤ z → A1 z) ∧ (∀ z, A1 z → A z) ∧ GXe D kc ad A1 x H ∧ ∀ (x' : SS) (H1 : Heap), H.size ≤ H1.size → (∀ z : Nat, z < H.size → ¬ A1 z → H1[z]? = H[z]?) → GXe D kc ad A1 x' H1 → LX D kc ad o e A x' H1 := by
  obtain ⟨B, h1, h2, h3, h4, h5⟩ := h
  have ol := p1_lt h2
  refine ⟨fun z => B z ∨ H.size ≤ z, fun z hz => Or.inr hz, fun z hz => hz.elim (fun h => (h5 z h).1) (hA z), gxe_weak h1 (fun z h _ => Or.inl h), fun x' H1 hz hk hG => ?_⟩
  have no : ¬ (B o ∨ H.size ≤ o) := fun h => h.elim h4 (fun h => absurd ol (Nat.not_lt.mpr h))
  exact ⟨fun z => (B z ∨ H.size ≤ z) ∧ z < H1.size, gxe_weak hG (fun z h hl => ⟨h, hl⟩), p1_kept h2 (hk o ol no), h3, fun h => no h.1, fun z h => ⟨h.1.elim (fun h => (h5 z h).1) (hA z), h.2⟩⟩
theorem la_openX (h : LA D kc ad am o1 o2 e1 e2 m A x H) (hA : ∀ z, H.size ≤ z → A z) : ∃ A1 : Nat → Prop, (∀ z, H.size ≤ z → A1 z) ∧ (∀ z, A1 z → A z) ∧ GXe D kc ad A1 x H ∧ ∀ (x' : SS) (H1 : Heap), H.size ≤ H1.size → (∀ z : Nat, z < H.size → ¬ A1 z → H1[z]? = H[z]?) → GXe D kc ad A1 x' H1 → LA D kc ad am o1 o2 e1 e2 m A x' H1 := by
  obtain ⟨B1, B2, h1, h2, h3, h4, ⟨a1, a2, a3, a4, a5, a6, a7⟩, h5, h6⟩ := h
  have l1 := p1_lt h3
  have l2 := p1_lt h4
  refine ⟨fun z => B1 z ∨ H.size ≤ z, fun z hz => Or.inr hz, fun z hz => hz.elim (fun h => (h5 z h).1) (hA z), gxe_weak h1 (fun z h _ => Or.inl h), fun x' H1 hz hk hG => ?_⟩
  have n1 : ¬ (B1 o1 ∨ H.size ≤ o1) := fun h => h.elim a4 (fun h => absurd l1 (Nat.not_lt.mpr h))
  have n2 : ¬ (B1 o2 ∨ H.size ≤ o2) := fun h => h.elim a5 (fun h => absurd l2 (Nat.not_lt.mpr h))
  have nB : ∀ z, B2 z → ¬ (B1 z ∨ H.size ≤ z) := fun z hb h => h.elim (fun h => (h5 z h).2.2 hb) (fun h => absurd (h6 z hb).2 (Nat.not_lt.mpr h))
  exact ⟨fun z => (B1 z ∨ H.size ≤ z) ∧ z < H1.size, B2, gxe_weak hG (fun z h hl => ⟨h, hl⟩), gm_kept h2 (fun z hb hl => hk z hl (nB z hb)), p1_kept h3 (hk o1 l1 n1), p1_kept h4 (hk o2 l2 n2), ⟨a1, a2, a3, fun h => n1 h.1, fun h => n2 h.1, a6, a7⟩, fun z h => ⟨h.1.elim (fun h => (h5 z h).1) (hA z), h.2, fun hb => nB z hb h.1⟩, fun z hb => ⟨(h6 z hb).1, Nat.lt_of_lt_of_le (h6 z hb).2 hz⟩⟩
theorem la_openM (h : LA D kc ad am o1 o2 e1 e2 m A x H) (hA : ∀ z, H.size ≤ z → A z) : ∃ A1 : Nat → Prop, (∀ z, H.size ≤ z → A1 z) ∧ (∀ z, A1 z → A z) ∧ GM D kc am A1 m H ∧ ∀ (m' : SS) (H1 : Heap), H.size ≤ H1.size → (∀ z : Nat, z < H.size → ¬ A1 z → H1[z]? = H[z]?) → GM D kc am A1 m' H1 → LA D kc ad am o1 o2 e1 e2 m' A x H1 := by
  obtain ⟨B1, B2, h1, h2, h3, h4, ⟨a1, a2, a3, a4, a5, a6, a7⟩, h5, h6⟩ := h
  have l1 := p1_lt h3
  have l2 := p1_lt h4
  refine ⟨fun z => B2 z ∨ H.size ≤ z, fun z hz => Or.inr hz, fun z hz => hz.elim (fun h => (h6 z h).1) (hA z), gm_weak h2 (fun z h _ => Or.inl h), fun m' H1 hz hk hG => ?_⟩
  have n1 : ¬ (B2 o1 ∨ H.size ≤ o1) := fun h => h.elim a6 (fun h => absurd l1 (Nat.not_lt.mpr h))
  have n2 : ¬ (B2 o2 ∨ H.size ≤ o2) := fun h => h.elim a7 (fun h => absurd l2 (Nat.not_lt.mpr h))
  have nB : ∀ z, B1 z → ¬ (B2 z ∨ H.size ≤ z) := fun z hb h => h.elim (fun h => (h5 z hb).2.2 h) (fun h => absurd (h5 z hb).2.1 (Nat.not_lt.mpr h))
  exact ⟨B1, fun z => (B2 z ∨ H.size ≤ z) ∧ z < H1.size, gxe_kept h1 (fun z hb hl => hk z hl (nB z hb)), gm_weak hG (fun z h hl => ⟨h, hl⟩), p1_kept h3 (hk o1 l1 n1), p1_kept h4 (hk o2 l2 n2), ⟨a1, a2, a3, a4, a5, fun h => n1 h.1, fun h => n2 h.1⟩, fun z hb => ⟨(h5 z hb).1, Nat.lt_of_lt_of_le (h5 z hb).2.1 hz, fun h => nB z hb h.1⟩, fun z h => ⟨h.1.elim (fun h => (h6 z h).1) (hA z), h.2⟩⟩
theorem la_open1 (h : LA D kc ad am o1 o2 e1 e2 m A x H) (hA : ∀ z, H.size ≤ z → A z) : ∃ A1 : Nat → Prop, (∀ z, H.size ≤ z → A1 z) ∧ (∀ z, A1 z → A z) ∧ LX D kc ad o1 e1 A1 x H ∧ ∀ (x' : SS) (e' : va_E) (H1 : Heap), H.size ≤ H1.size → (∀ z : Nat, z < H.size → ¬ A1 z → H1[z]? = H[z]?) → LX D kc ad o1 e' A1 x' H1 → LA D kc ad am o1 o2 e' e2 m A x' H1 := by
  obtain ⟨B1, B2, h1, h2, h3, h4, ⟨a1, a2, a3, a4, a5, a6, a7⟩, h5, h6⟩ := h
  have l1 := p1_lt h3
  have l2 := p1_lt h4
  refine ⟨fun z => (B1 z ∨ z = o1) ∨ H.size ≤ z, fun z hz => Or.inr hz, fun z hz => hz.elim (fun h => h.elim (fun h => (h5 z h).1) (fun h => h ▸ a1)) (hA z), ⟨B1, h1, h3, Or.inl (Or.inr rfl), a4, fun z h => ⟨Or.inl (Or.inl h), (h5 z h).2.1⟩⟩, fun x' e' H1 hz hk hG => ?_⟩
  obtain ⟨B, g1, g2, g3, g4, g5⟩ := hG
  have n2 : ¬ ((B1 o2 ∨ o2 = o1) ∨ H.size ≤ o2) := fun h => h.elim (fun h => h.elim a5 (fun h => a3 h.symm)) (fun h => absurd l2 (Nat.not_lt.mpr h))
  have nB : ∀ z, B2 z → ¬ ((B1 z ∨ z = o1) ∨ H.size ≤ z) := fun z hb h => h.elim (fun h => h.elim (fun h => (h5 z h).2.2 hb) (fun h => a6 (h ▸ hb))) (fun h => absurd (h6 z hb).2 (Nat.not_lt.mpr h))
  exact ⟨B, B2, g1, gm_kept h2 (fun z hb hl => hk z hl (nB z hb)), g2, p1_kept h4 (hk o2 l2 n2), ⟨a1, a2, a3, g4, fun h => n2 (g5 o2 h).1, a6, a7⟩, fun z h => ⟨(g5 z h).1.elim (fun h => h.elim (fun h => (h5 z h).1) (fun h => h ▸ a1)) (hA z), (g5 z h).2, fun hb => nB z hb (g5 z h).1⟩, fun z hb => ⟨(h6 z hb).1, Nat.lt_of_lt_of_le (h6 z hb).2 hz⟩⟩
theorem la_open2 (h : LA D kc ad am o1 o2 e1 e2 m A x H) (hA : ∀ z, H.size ≤ z → A z) : ∃ A1 : Nat → Prop, (∀ z, H.size ≤ z → A1 z) ∧ (∀ z, A1 z → A z) ∧ LX D kc ad o2 e2 A1 x H ∧ ∀ (x' : SS) (e' : va_E) (H1 : Heap), H.size ≤ H1.size → (∀ z : Nat, z < H.size → ¬ A1 z → H1[z]? = H[z]?) → LX D kc ad o2 e' A1 x' H1 → LA D kc ad am o1 o2 e1 e' m A x' H1 := by
  obtain ⟨B1, B2, h1, h2, h3, h4, ⟨a1, a2, a3, a4, a5, a6, a7⟩, h5, h6⟩ := h
  have h' : LA D kc ad am o2 o1 e2 e1 m A x H := ⟨B1, B2, h1, h2, h4, h3, ⟨a2, a1, fun h => a3 h.symm, a5, a4, a7, a6⟩, h5, h6⟩
  obtain ⟨A1, b1, b2, b3, b4⟩ := la_open1 h' hA
  refine ⟨A1, b1, b2, b3, fun x' e' H1 hz hk hG => ?_⟩
  obtain ⟨B1, B2, h1, h2, h3, h4, ⟨a1, a2, a3, a4, a5, a6, a7⟩, h5, h6⟩ := b4 x' e' H1 hz hk hG
  exact ⟨B1, B2, h1, h2, h4, h3, ⟨a2, a1, fun h => a3 h.symm, a5, a4, a7, a6⟩, h5, h6⟩
theorem lx_set {e' : va_E} (h : LX D kc ad o e A x H) (hz : H1.size = H.size) (hk : ∀ z : Nat, z ≠ o → H1[z]? = H[z]?) (hP : va_P D vwCl [(o, e')] H1) : LX D kc ad o e' A x H1 := by
  obtain ⟨B, h1, h2, h3, h4, h5⟩ := h
  exact ⟨B, gxe_kept h1 (fun z hb _ => hk z (fun e => h4 (e ▸ hb))), hP, h3, h4, fun z hb => ⟨(h5 z hb).1, by rw [hz]; exact (h5 z hb).2⟩⟩
end LPIC
abbrev LPW (D : va_G) (kc : Nat → ClassId) (kd : ClassId) : PH := fun A U => PX D kc A U ∧ va_K D vwCl [(kd, .double)] U
theorem pbL (D : va_G) (kc : Nat → ClassId) (kd : ClassId) : PB (LPW D kc kd) := fun A U g mk a h => ⟨pbX D kc A U g mk a h.1, va_K.moved (u := U) (U := U.calling g mk a) (Vm.Alike.refl U.vm) h.2⟩
def wpost {β : Type} (w : β → va_E) (e0 : va_E) (r0 : Int32) (F : (Nat × SS) ⊕ (β × SS)) (r : Int32) (u : SS × va_E) : Prop := (∀ k, F = .inl k → r = r0 ∧ u.1 = k.2 ∧ u.2 = e0) ∧ ∀ v, F = .inr v → r = 0 ∧ u.1 = v.2 ∧ u.2 = w v.1
def CWr (D : va_G) (kc : Nat → ClassId) (kd : ClassId) (ad : Nat → Nat) (o : Nat) (l : Launch) (y : MethodName) (ws : List Cond) (rm : Room) (mc ms : Nat) (av : List Value) (x : SS) (e : va_E) (post : Int32 → SS × va_E → Prop) : Prop :=
  ∀ (A : Nat → Prop) (sz : Nat), (∀ z, sz ≤ z → A z) → Met l y ws rm (va_Pc av (fun U => U.heap.size = sz ∧ LPW D kc kd A U ∧ LX D kc ad o e A x U.heap)) (va_Qi post (fun u t => LX D kc ad o u.2 A u.1 t.heap) A) mc ms A
theorem CWr.of {D : va_G} {kc : Nat → ClassId} {kd : ClassId} {ad : Nat → Nat} {o : Nat} {l : Launch} {y : MethodName} {ws ws' : List Cond} {rm : Room} {mc ms maxL : Nat} {ret : Option FieldType} {hh : List (Nat × Nat × Nat × Nat)} {cc : ByteArray} {av : List Value} {x : SS} {e : va_E} {post : Int32 → SS × va_E → Prop} (hy : plainName y.cls = true) (hw : ws = Cond.codeWith y cc maxL ret hh :: ws') (hlen : (lg_sl av).length ≤ maxL)
    (body : ∀ (p : Program) (e' : Env) (s : State) (m : MethodId) (args : Array Value) (below : List Frame) (meth : Method) (c : Code) (A : Nat → Prop), CallFix p m c cc maxL s args ws y.cls → meth.sig.returnType = ret → meth.locks = false → c.exceptionTable.toList = tableOf hh → (∀ z, s.heap.size ≤ z → A z) → LPW D kc kd A s → Z p l e' rm s m args below meth c 0 0 (MQ below (va_Qi post (fun u t => LX D kc ad o u.2 A u.1 t.heap) A) args s mc ms A) maxL A (LX D kc ad o e A) x 0 (lv_args 0 av) []) : CWr D kc kd ad o l y ws rm mc ms av x e post := by
  intro A sz hA
  refine MetFree.of_bodyS (code := cc) (maxLocals := maxL) (ret := ret) hy ?_ ?_
  · intro args s m h hn
    obtain ⟨m9, meth, c, hn9, h1, h2, h3, h4, -, h5, h6, -⟩ := Cond.codeWith_spec (atoms_spec (ws := ws) h _ (by rw [hw]; exact List.mem_cons_self))
    cases hn.symm.trans hn9
    exact ⟨meth, c, h1, h2, h3, h4, h5, h6⟩
  · intro p e' s m args below meth c s₁ B hml hv _
    have hh0 : s₁.heap = s.heap := by rw [B.state]; rfl
    obtain ⟨rfl, hsz, hP, hG⟩ := hv
    subst hsz
    have ht := vx_table (x := y) B (atoms_spec (ws := ws) B.pre _ (by rw [hw]; exact List.mem_cons_self))
    have K := body p e' s m _ below meth c A ⟨B.exec, B.bytes, hml, findClass_of_methodNamed B.named, atoms_spec (ws := ws) B.pre⟩ B.returns B.notSynchronized ht hA hP
    have KW : W p l e' (headSpec ws rm).room s m av.toArray below meth c s.heap [] 0 0 (MQ below (va_Qi post (fun u t => LX D kc ad o u.2 A u.1 t.heap) A) av.toArray s mc ms A) (entryFrame m av.toArray maxL) := by
      rw [lg_entry_eq]
      exact K _ _ _ hG va_S.rf (lv_entry av hlen)
    obtain ⟨t, a1, o1, b1, b2, b3⟩ := KW s₁ hh0 (Stand.of_body B)
    exact ⟨t, o1, a1, b1, b2, b3⟩
theorem gSW {x : Cond} {own : String} {idx n : Nat} {z : MethodName} {b : ByteArray} {r : Option FieldType} {hh : List (Nat × Nat × Nat × Nat)} (h1 : ∀ {y : Cond}, Cond.methodLink own idx z ∈ y :: lw_G) (h2 : ∀ {y : Cond}, Cond.static z ∈ y :: lw_G) (h4 : ∀ {y : Cond}, Cond.initialized z.cls ∈ y :: lw_G) (h5 : ∀ {y : Cond}, Cond.codeWith z b n r hh ∈ y :: lw_G) : GoodIn (x :: lw_G) (va_wsS own idx z (Cond.codeWith z b n r hh :: lw_G)) := gG (fun w hw => by
  rcases List.mem_append.mp hw with h | h
  · simp only [List.mem_cons, List.not_mem_nil, or_false] at h
    rcases h with rfl | rfl | rfl
    · exact gIn h1
    · exact gIn h2
    · exact gIn h4
  · exact (List.mem_cons.mp h).elim (fun e => e ▸ gIn h5) id)
section LROW
variable {p : Program} {l : Launch} {e : Env} {R : Room} {s : State} {m : MethodId} {args : Array Value} {below : List Frame} {meth : Method} {c : Code} {cells slots : Nat} {Q : State → Prop} {nL : Nat} {A : Nat → Prop} {x mm : SS} {pc : Nat} {lv : List (Nat × Value)} {rest : List Value} {cc : ByteArray} {Ts : List Cond} {own : String}
variable {D : va_G} {kc : Nat → ClassId} {kd : ClassId} {ad am : Nat → Nat} {o o1 o2 : Nat} {v e1 e2 : va_E} {G : SS → Heap → Prop}
theorem zw_ret (hx : p.tables.exec = Jvm.exec) (hb : c.code = cc) (hlocks : meth.locks = false) {ty : FieldType} (hr : meth.sig.returnType = some ty) {r : Int32} (hn : narrow ty (.int r) = .int r) {post : Int32 → SS × va_E → Prop} (hp : post r (x, v)) (hdg : decode cc pc = .ok (.ireturn, 1)) : Z p l e R s m args below meth c cells slots (MQ below (va_Qi post (fun u t => LX D kc ad o u.2 A u.1 t.heap) A) args s cells slots A) nL A (LX D kc ad o v A) x pc lv [.int r] := by
  intro H locs ls h1 h2 h3
  exact W.zret hx hb hr hn (fun t ht hW => ⟨⟨r, (x, v), rfl, hp, by subst ht; exact h1⟩, h2.F ht⟩) h2.2.2 hdg hlocks
theorem zw_catch (S : CallFix p m c cc nL s args Ts own) (hE : EV A s s.heap) {k : Nat} (hk6 : k < 6) (pre : List ExceptionTableEntry) (z : ExceptionTableEntry) (suf : List ExceptionTableEntry) (hsplit : c.exceptionTable.toList = pre ++ z :: suf) (hpass : ∀ y ∈ pre, y.catchType ≠ 0 ∧ ∃ j, j < 6 ∧ k ≠ j ∧ Cond.classLink own y.catchType (exn j) ∈ Ts) (hcov : covers z pc = true) (h0 : z.catchType ≠ 0) (hlink : Cond.classLink own z.catchType (exn k) ∈ Ts) (kk : ∀ q9 : Nat, Z p l e R s m args below meth c cells slots Q nL A G x z.handlerPc lv [.ref q9]) : ZT p l e R s m args below meth c cells slots Q nL A G (exn k) x pc lv rest := by
  obtain ⟨hx, hb, hml, hown, hts⟩ := S
  intro H locs ls ce q9 h1 h2 h3 hcell hv hcl
  exact vx_catch hown pre z suf hsplit (fun y hy => Or.inr (by
    obtain ⟨a1, j, a2, a3, a4⟩ := hpass y hy
    exact ⟨a1, exn j, hts _ a4, hE.2.2.2.2.2.2.2.2 k j hk6 a2 a3⟩)) hcov h0 (hts _ hlink) (va_Nw.use rfl (hE.2.2.2.2.2.2.2.1 k hk6)) hcell hv hcl (kk q9 H locs ls h1 h2 h3)
theorem zw_callXi (S : CallFix p m c cc nL s args Ts own) (hK : va_K D vwCl (tysK kc) s) (hE : EV A s s.heap) {y : MethodName} {bytes : ByteArray} {idx maxL mc ms n : Nat} {ret : Option FieldType} {ws : List Cond} {rm : Room} {As : List Value} {F : (Nat × SS) ⊕ (Int32 × SS)} (hM : Xi l y ws rm mc ms (PX D kc) (GXe D kc ad) (GXe D kc ad) (.ref (ad 0) :: As) x F) (cw : CallW R s args own RX10 idx y bytes maxL ret ws rm mc ms n) (hA : ∀ z, s.heap.size ≤ z → A z) {st0 : List Value} (hn : As.length = n) (hst : st0 = As.reverse ++ .ref (ad 0) :: rest) (hW : (rest.map fun v => v.category).sum ≤ 8) (hdg : decode cc pc = .ok (.invokevirtual idx, 3)) (hf : cells + mc ≤ R.cells ∧ slots + ms ≤ R.slots)
    (kk : ∀ (r : Int32) (u : SS), F = .inr (r, u) → Z p l e R s m args below meth c (cells + mc) (slots + ms) Q nL A (LX D kc ad o v A) u (pc + 3) lv (.int r :: rest))
    (kx : ∀ u : Nat × SS, F = .inl u → ZT p l e R s m args below meth c (cells + mc) (slots + ms) Q nL A (LX D kc ad o v A) (exn u.1) u.2 pc lv rest) : Z p l e R s m args below meth c cells slots Q nL A (LX D kc ad o v A) x pc lv st0 := by
  intro H locs ls h1 h2 h3
  subst hst
  obtain ⟨A1, ha, hs, hG, hk⟩ := lx_open h1 (fun z hz => hA z (Nat.le_trans h2.1 hz))
  refine vx_calli (vx_runV (As := As) (rest := rest) S (hM A1 H.size ha) cw ⟨fun a U g mk z => ⟨z.1, z.2.1, pbX D kc _ _ _ _ _ z.2.2.1, z.2.2.2⟩, hG.elim (fun wad hg => z_recv hK 0 (fun _ => rfl) rfl H hg), fun U hU hW => ⟨rfl, by rw [hU], ⟨va_K.moved hW.alike hK, by rw [hU]; exact ((hE.kept h2.2.1).warm hW).narrow hs⟩, by rw [hU]; exact hG⟩⟩ rfl hn h3.1 rfl (lv_room hW) hdg hf) h2 (fun z _ h => hs z h) (fun z h => hs z h) (fun z _ h => hs z h) (fun E ce q9 u t H1 locs1 ht hvm hu hB hz hk1 hS1 hcell hv hcl => ?_) (fun r u t H1 locs1 ht hvm hw hB hz hk1 hS1 => ?_)
  · obtain ⟨rfl, hB⟩ := hB
    exact kx u hu H1 locs1 ls ce q9 (hk _ _ hz hk1 (by rw [← ht]; exact hB)) hS1 h3 hcell hv hcl
  · exact kk r u hw H1 locs1 ls (hk _ _ hz hk1 (by rw [← ht]; exact hB)) hS1 h3
theorem zw_callXl (S : CallFix p m c cc nL s args Ts own) (hK : va_K D vwCl (tysK kc) s) (hE : EV A s s.heap) {y : MethodName} {bytes : ByteArray} {idx maxL mc ms n : Nat} {ret : Option FieldType} {ws : List Cond} {rm : Room} {As : List Value} {F : (Nat × SS) ⊕ (Int64 × SS)} (hM : Xl l y ws rm mc ms (PX D kc) (GXe D kc ad) (GXe D kc ad) (.ref (ad 0) :: As) x F) (cw : CallW R s args own RX10 idx y bytes maxL ret ws rm mc ms n) (hA : ∀ z, s.heap.size ≤ z → A z) {st0 : List Value} (hn : As.length = n) (hst : st0 = As.reverse ++ .ref (ad 0) :: rest) (hW : (rest.map fun v => v.category).sum ≤ 8) (hdg : decode cc pc = .ok (.invokevirtual idx, 3)) (hf : cells + mc ≤ R.cells ∧ slots + ms ≤ R.slots)
    (kk : ∀ (r : Int64) (u : SS), F = .inr (r, u) → Z p l e R s m args below meth c (cells + mc) (slots + ms) Q nL A (LX D kc ad o v A) u (pc + 3) lv (.long r :: rest))
    (kx : ∀ u : Nat × SS, F = .inl u → ZT p l e R s m args below meth c (cells + mc) (slots + ms) Q nL A (LX D kc ad o v A) (exn u.1) u.2 pc lv rest) : Z p l e R s m args below meth c cells slots Q nL A (LX D kc ad o v A) x pc lv st0 := by
  intro H locs ls h1 h2 h3
  subst hst
  obtain ⟨A1, ha, hs, hG, hk⟩ := lx_open h1 (fun z hz => hA z (Nat.le_trans h2.1 hz))
  refine vx_calll (vx_runV (As := As) (rest := rest) S (hM A1 H.size ha) cw ⟨fun a U g mk z => ⟨z.1, z.2.1, pbX D kc _ _ _ _ _ z.2.2.1, z.2.2.2⟩, hG.elim (fun wad hg => z_recv hK 0 (fun _ => rfl) rfl H hg), fun U hU hW => ⟨rfl, by rw [hU], ⟨va_K.moved hW.alike hK, by rw [hU]; exact ((hE.kept h2.2.1).warm hW).narrow hs⟩, by rw [hU]; exact hG⟩⟩ rfl hn h3.1 rfl (lv_room hW) hdg hf) h2 (fun z _ h => hs z h) (fun z h => hs z h) (fun z _ h => hs z h) (fun E ce q9 u t H1 locs1 ht hvm hu hB hz hk1 hS1 hcell hv hcl => ?_) (fun r u t H1 locs1 ht hvm hw hB hz hk1 hS1 => ?_)
  · obtain ⟨rfl, hB⟩ := hB
    exact kx u hu H1 locs1 ls ce q9 (hk _ _ hz hk1 (by rw [← ht]; exact hB)) hS1 h3 hcell hv hcl
  · exact kk r u hw H1 locs1 ls (hk _ _ hz hk1 (by rw [← ht]; exact hB)) hS1 h3
theorem zw_callXf (S : CallFix p m c cc nL s args Ts own) (hK : va_K D vwCl (tysK kc) s) (hE : EV A s s.heap) {y : MethodName} {bytes : ByteArray} {idx maxL mc ms n : Nat} {ret : Option FieldType} {ws : List Cond} {rm : Room} {As : List Value} {F : (Nat × SS) ⊕ (UInt32 × SS)} (hM : Xf l y ws rm mc ms (PX D kc) (GXe D kc ad) (GXe D kc ad) (.ref (ad 0) :: As) x F) (cw : CallW R s args own RX10 idx y bytes maxL ret ws rm mc ms n) (hA : ∀ z, s.heap.size ≤ z → A z) {st0 : List Value} (hn : As.length = n) (hst : st0 = As.reverse ++ .ref (ad 0) :: rest) (hW : (rest.map fun v => v.category).sum ≤ 8) (hdg : decode cc pc = .ok (.invokevirtual idx, 3)) (hf : cells + mc ≤ R.cells ∧ slots + ms ≤ R.slots)
    (kk : ∀ (r : UInt32) (u : SS), F = .inr (r, u) → Z p l e R s m args below meth c (cells + mc) (slots + ms) Q nL A (LX D kc ad o v A) u (pc + 3) lv (.float r :: rest))
    (kx : ∀ u : Nat × SS, F = .inl u → ZT p l e R s m args below meth c (cells + mc) (slots + ms) Q nL A (LX D kc ad o v A) (exn u.1) u.2 pc lv rest) : Z p l e R s m args below meth c cells slots Q nL A (LX D kc ad o v A) x pc lv st0 := by
  intro H locs ls h1 h2 h3
  subst hst
  obtain ⟨A1, ha, hs, hG, hk⟩ := lx_open h1 (fun z hz => hA z (Nat.le_trans h2.1 hz))
  refine vx_callf (vx_runV (As := As) (rest := rest) S (hM A1 H.size ha) cw ⟨fun a U g mk z => ⟨z.1, z.2.1, pbX D kc _ _ _ _ _ z.2.2.1, z.2.2.2⟩, hG.elim (fun wad hg => z_recv hK 0 (fun _ => rfl) rfl H hg), fun U hU hW => ⟨rfl, by rw [hU], ⟨va_K.moved hW.alike hK, by rw [hU]; exact ((hE.kept h2.2.1).warm hW).narrow hs⟩, by rw [hU]; exact hG⟩⟩ rfl hn h3.1 rfl (lv_room hW) hdg hf) h2 (fun z _ h => hs z h) (fun z h => hs z h) (fun z _ h => hs z h) (fun E ce q9 u t H1 locs1 ht hvm hu hB hz hk1 hS1 hcell hv hcl => ?_) (fun r u t H1 locs1 ht hvm hw hB hz hk1 hS1 => ?_)
  · obtain ⟨rfl, hB⟩ := hB
    exact kx u hu H1 locs1 ls ce q9 (hk _ _ hz hk1 (by rw [← ht]; exact hB)) hS1 h3 hcell hv hcl
  · exact kk r u hw H1 locs1 ls (hk _ _ hz hk1 (by rw [← ht]; exact hB)) hS1 h3
theorem zw_callXd (S : CallFix p m c cc nL s args Ts own) (hK : va_K D vwCl (tysK kc) s) (hE : EV A s s.heap) {y : MethodName} {bytes : ByteArray} {idx maxL mc ms n : Nat} {ret : Option FieldType} {ws : List Cond} {rm : Room} {As : List Value} {F : (Nat × SS) ⊕ (UInt64 × SS)} (hM : Xd l y ws rm mc ms (PX D kc) (GXe D kc ad) (GXe D kc ad) (.ref (ad 0) :: As) x F) (cw : CallW R s args own RX10 idx y bytes maxL ret ws rm mc ms n) (hA : ∀ z, s.heap.size ≤ z → A z) {st0 : List Value} (hn : As.length = n) (hst : st0 = As.reverse ++ .ref (ad 0) :: rest) (hW : (rest.map fun v => v.category).sum ≤ 8) (hdg : decode cc pc = .ok (.invokevirtual idx, 3)) (hf : cells + mc ≤ R.cells ∧ slots + ms ≤ R.slots)
    (kk : ∀ (r : UInt64) (u : SS), F = .inr (r, u) → Z p l e R s m args below meth c (cells + mc) (slots + ms) Q nL A (LX D kc ad o v A) u (pc + 3) lv (.double r :: rest))
    (kx : ∀ u : Nat × SS, F = .inl u → ZT p l e R s m args below meth c (cells + mc) (slots + ms) Q nL A (LX D kc ad o v A) (exn u.1) u.2 pc lv rest) : Z p l e R s m args below meth c cells slots Q nL A (LX D kc ad o v A) x pc lv st0 := by
  intro H locs ls h1 h2 h3
  subst hst
  obtain ⟨A1, ha, hs, hG, hk⟩ := lx_open h1 (fun z hz => hA z (Nat.le_trans h2.1 hz))
  refine vx_calld (vx_runV (As := As) (rest := rest) S (hM A1 H.size ha) cw ⟨fun a U g mk z => ⟨z.1, z.2.1, pbX D kc _ _ _ _ _ z.2.2.1, z.2.2.2⟩, hG.elim (fun wad hg => z_recv hK 0 (fun _ => rfl) rfl H hg), fun U hU hW => ⟨rfl, by rw [hU], ⟨va_K.moved hW.alike hK, by rw [hU]; exact ((hE.kept h2.2.1).warm hW).narrow hs⟩, by rw [hU]; exact hG⟩⟩ rfl hn h3.1 rfl (lv_room hW) hdg hf) h2 (fun z _ h => hs z h) (fun z h => hs z h) (fun z _ h => hs z h) (fun E ce q9 u t H1 locs1 ht hvm hu hB hz hk1 hS1 hcell hv hcl => ?_) (fun r u t H1 locs1 ht hvm hw hB hz hk1 hS1 => ?_)
  · obtain ⟨rfl, hB⟩ := hB
    exact kx u hu H1 locs1 ls ce q9 (hk _ _ hz hk1 (by rw [← ht]; exact hB)) hS1 h3 hcell hv hcl
  · exact kk r u hw H1 locs1 ls (hk _ _ hz hk1 (by rw [← ht]; exact hB)) hS1 h3
/-- the wrapper's row: one long, one double -/
theorem zw_last (S : CallFix p m c cc nL s args Ts own) (hK : va_K D vwCl (tysK kc) s) {f : Nat → Int64} {a : Int64} (hdg : decode cc pc = .ok (.lastore, 1)) (kk : Z p l e R s m args below meth c cells slots Q nL A (LX D kc ad o (.inl (kc 2, 1, .inr (.inl (vp_updL f 0 a)))) A) x (pc + 1) lv rest) : Z p l e R s m args below meth c cells slots Q nL A (LX D kc ad o (.inl (kc 2, 1, .inr (.inl f))) A) x pc lv (.long a :: .int 0 :: .ref o :: rest) := by
  obtain ⟨hx, hb, hml, hown, hts⟩ := S
  intro H locs ls h1 h2 h3
  obtain ⟨B, g1, g2, g3, g4, g5⟩ := id h1
  have hc := g2 0 _ rfl
  refine W.last hx hb hc ((hK.2 2 _ rfl).1 1 (fun j => .long (f j))) (fun q => by cases q) (by show ¬ ((0 : Int32) < 0 ∨ (arrV _ _ _).slots.size ≤ _); rw [arrV_size]; show ¬ ((0 : Int32) < 0 ∨ 1 ≤ (0 : Int32).toNatClampNeg); decide) rfl rfl hdg fun H1 ec hz oq => ?_
  refine kk H1 _ ls (lx_set h1 hz oq ?_) (h2.put hz oq g3) h3
  intro k y hy
  have hz : k < 1 := (List.getElem?_eq_some_iff.mp hy).1
  rw [show k = 0 by omega] at hy
  cases hy
  show H1[o]? = some (vp_cell _ _)
  rw [ec, vp_cell_l, vp_cell_l, arrV_store]
  congr 2
  funext q
  by_cases hq : q = 0
  · subst hq
    simp [updV, vp_updL]
  · simp [updV, vp_updL, hq]
theorem zw_dast (S : CallFix p m c cc nL s args Ts own) (hK : va_K D vwCl [(kd, .double)] s) {f : Nat → UInt64} {a : UInt64} (hdg : decode cc pc = .ok (.dastore, 1)) (kk : Z p l e R s m args below meth c cells slots Q nL A (LX D kc ad o (.inl (kd, 1, .inr (.inr (.inr (.inl (vf_upd f 0 a)))))) A) x (pc + 1) lv rest) : Z p l e R s m args below meth c cells slots Q nL A (LX D kc ad o (.inl (kd, 1, .inr (.inr (.inr (.inl f))))) A) x pc lv (.double a :: .int 0 :: .ref o :: rest) := by
  obtain ⟨hx, hb, hml, hown, hts⟩ := S
  intro H locs ls h1 h2 h3
  obtain ⟨B, g1, g2, g3, g4, g5⟩ := id h1
  have hc := g2 0 _ rfl
  refine W.dast hx hb hc ((hK.2 0 _ rfl).1 1 (fun j => .double (f j))) (fun q => by cases q) (by show ¬ ((0 : Int32) < 0 ∨ (arrV _ _ _).slots.size ≤ _); rw [arrV_size]; show ¬ ((0 : Int32) < 0 ∨ 1 ≤ (0 : Int32).toNatClampNeg); decide) rfl rfl hdg fun H1 ec hz oq => ?_
  refine kk H1 _ ls (lx_set h1 hz oq ?_) (h2.put hz oq g3) h3
  intro k y hy
  have hz : k < 1 := (List.getElem?_eq_some_iff.mp hy).1
  rw [show k = 0 by omega] at hy
  cases hy
  show H1[o]? = some (vp_cell _ _)
  rw [ec, vp_cell_d, vp_cell_d, arrV_store]
  congr 2
  funext q
  by_cases hq : q = 0
  · subst hq
    simp [updV, vf_upd]
  · simp [updV, vf_upd, hq]
theorem z_f2d (hx : p.tables.exec = Jvm.exec) (hb : c.code = cc) {a : UInt32} (hdg : decode cc pc = .ok (.f2d, 1)) (hne : vf_n64 (FP.f2d a)) (k : Z p l e R s m args below meth c cells slots Q nL A G x (pc + 1) lv (.double (FP.f2d a) :: rest)) : Z p l e R s m args below meth c cells slots Q nL A G x pc lv (.float a :: rest) :=
  fun H locs ls h1 h2 h3 => lv_f2d hx hb hdg hne (k H locs ls h1 h2 h3)
theorem z_dcmp (hx : p.tables.exec = Jvm.exec) (hb : c.code = cc) {a b : UInt64} {op : CmpOp} (hdg : decode cc pc = .ok (.dcmp op, 1)) (k : Z p l e R s m args below meth c cells slots Q nL A G x (pc + 1) lv (.int (Op.cmpValue (FP.dcmp a b) op) :: rest)) : Z p l e R s m args below meth c cells slots Q nL A G x pc lv (.double b :: .double a :: rest) :=
  fun H locs ls h1 h2 h3 => lv_dcmp hx hb hdg (k H locs ls h1 h2 h3)
end LROW
