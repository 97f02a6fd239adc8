/-! arrays that a method makes for itself, behind the world; calls past them -/
section ZE
variable {p : Program} {l : Launch} {e : Env} {R : Room} {s : State} {m : MethodId} {args : Array Value} {below : List Frame} {meth : Method} {c : Code} {cells slots : Nat} {Q : State → Prop} {nL : Nat} {A : Nat → Prop} {D : va_G} {cl : List vw_C} {w : SS → va_W} {q : SS} {pc : Nat} {lv : List (Nat × Value)} {rest : List Value} {cc : ByteArray} {tys : List (ClassId × FieldType)} {Ts : List Cond} {own : String}
theorem z_weak {G G2 : SS → Heap → Prop} (h : ∀ q H, G q H → G2 q H) (k : Z p l e R s m args below meth c cells slots Q nL A G2 q pc lv rest) : Z p l e R s m args below meth c cells slots Q nL A G q pc lv rest :=
  fun H locs ls h1 h2 h3 => k H locs ls (h q H h1) h2 h3
theorem va_P.pre {D : va_G} {cl : List vw_C} {w1 w2 : va_W} {H : Heap} (h : va_P D cl (w1 ++ w2) H) : va_P D cl w1 H := fun k x hk => h k x (by rw [List.getElem?_append_left (List.getElem?_eq_some_iff.mp hk).1]; exact hk)
theorem va_P.suf {D : va_G} {cl : List vw_C} {w1 w2 : va_W} {H : Heap} (h : va_P D cl (w1 ++ w2) H) : va_P D cl w2 H := fun k x hk => h (w1.length + k) x (by rw [List.getElem?_append_right (Nat.le_add_right _ _), Nat.add_sub_cancel_left]; exact hk)
theorem va_D.pre {A : Nat → Prop} {w1 w2 : va_W} (h : va_D A (w1 ++ w2)) : va_D A w1 := by
  have e : ∀ (k : Nat) (x : Nat × va_E), w1[k]? = some x → (w1 ++ w2)[k]? = some x := fun k x hk => by rw [List.getElem?_append_left (List.getElem?_eq_some_iff.mp hk).1]; exact hk
  exact ⟨fun i j x y hi hj hxy => h.1 i j x y (e i x hi) (e j y hj) hxy, fun k x hk => h.2 k x (e k x hk)⟩
theorem va_D.suf {A : Nat → Prop} {w1 w2 : va_W} (h : va_D A (w1 ++ w2)) : va_D A w2 := by
  have e : ∀ (k : Nat) (x : Nat × va_E), w2[k]? = some x → (w1 ++ w2)[w1.length + k]? = some x := fun k x hk => by rw [List.getElem?_append_right (Nat.le_add_right _ _), Nat.add_sub_cancel_left]; exact hk
  exact ⟨fun i j x y hi hj hxy => by have := h.1 _ _ x y (e i x hi) (e j y hj) hxy; omega, fun k x hk => h.2 _ x (e k x hk)⟩
theorem va_D.apart {A : Nat → Prop} {w1 w2 : va_W} (h : va_D A (w1 ++ w2)) {i j : Nat} {x y : Nat × va_E} (hi : w1[i]? = some x) (hj : w2[j]? = some y) : x.1 ≠ y.1 := by
  intro hxy
  have l1 := (List.getElem?_eq_some_iff.mp hi).1
  have e1 : (w1 ++ w2)[i]? = some x := by rw [List.getElem?_append_left l1]; exact hi
  have e2 : (w1 ++ w2)[w1.length + j]? = some y := by rw [List.getElem?_append_right (Nat.le_add_right _ _), Nat.add_sub_cancel_left]; exact hj
  have := h.1 _ _ x y e1 e2 hxy
  omega
theorem va_D.mk2 {A : Nat → Prop} {w1 w2 : va_W} (h1 : va_D A w1) (h2 : va_D A w2) (hx : ∀ (i j : Nat) (x y : Nat × va_E), w1[i]? = some x → w2[j]? = some y → x.1 ≠ y.1) : va_D A (w1 ++ w2) := va_D.app h1 h2 hx
/-- the method's own arrays are let go -/
theorem z_drop {loc : SS → va_W} {q : SS} {H : Heap} (h : ZG D cl (fun q => w q ++ loc q) (fun _ tl => tl = []) A q H) : ZG D cl w (fun _ tl => tl = []) A q H := by
  obtain ⟨tl, hP, hD, rfl⟩ := h
  rw [List.append_nil] at hP hD
  exact ⟨[], by rw [List.append_nil]; exact hP.pre, by rw [List.append_nil]; exact hD.pre, rfl⟩
theorem va_RA.one {U : State} {cA cB : ClassId} {ty : FieldType} (hpr : ∀ C, ty ≠ .object C) (h1 : va_RA U cA ty) (h2 : va_RA U cB ty) : cB = cA := by
  cases ty with
  | object C => exact absurd rfl (hpr C)
  | _ =>
    have e1 : U.vm.findClass _ = some cA := h1
    have e2 : U.vm.findClass _ = some cB := h2
    rw [e1] at e2
    exact (Option.some.inj e2).symm
/-- newarray: a row of the method's own, kept under a key of the state -/
theorem z_newa (S : CallFix p m c cc nL s args Ts own) (hK : va_K D cl tys s) (hA : ∀ z, s.heap.size ≤ z → A z) {atype : ArrayType} {ty : FieldType} (hty : newarray.typeOf atype = ty) (hpr : ∀ C, ty ≠ .object C) (t0 : Nat) {cA : ClassId} (ht : tys[t0]? = some (cA, ty)) (harr : Cond.arrayClass (newarray.typeOf atype) ∈ Ts) {n : Int32} {N' : Nat} {a0 : vp_A} {q' : SS} (w' : Nat → SS → va_W)
    (ha : ∀ cA : ClassId, vp_cell cA a0 = arrV cA N' (fun _ => defaultValue ty)) (hn : ¬ n < 0) (hN : n.toNatClampNeg = N') (hbytes : N' * componentBytes ty ≤ 536870912) (hcells : cells + 1 ≤ R.cells) (hslots : slots + N' ≤ R.slots) (hdg : decode cc pc = .ok (.newarray atype, 2)) (hw : ∀ qa, w q ++ [(qa, .inl (cA, a0))] = w' qa q')
    (kk : ∀ qa : Nat, Z p l e R s m args below meth c (cells + 1) (slots + N') Q nL A (ZG D cl (w' qa) (fun _ tl => tl = []) A) q' (pc + 2) lv (.ref qa :: rest)) : Z p l e R s m args below meth c cells slots Q nL A (ZG D cl w (fun _ tl => tl = []) A) q pc lv (.int n :: rest) := by
  obtain ⟨hx, hb, hml, hown, hts⟩ := S
  intro H locs ls h1 h2 h3
  obtain ⟨tl, hP, hD, rfl⟩ := id h1
  rw [List.append_nil] at hP hD
  refine va_newa hx hb (hts _ harr) hty hK hP hD h2 hA ha hn hN hbytes hcells hslots hdg (fun qa cB H1 hK1 hP1 hD1 hS1 => ?_)
  have e : cB = cA := va_RA.one hpr (hK.2 t0 _ ht).2 (hK1.2 tys.length (cB, ty) (by rw [List.getElem?_append_right (Nat.le_refl _), Nat.sub_self]; rfl)).2
  subst e
  rw [hw qa] at hP1 hD1
  exact kk qa H1 locs ls ⟨[], by rw [List.append_nil]; exact hP1, by rw [List.append_nil]; exact hD1, rfl⟩ hS1 h3
end ZE
section ZH
variable {p : Program} {l : Launch} {e : Env} {R : Room} {s : State} {m : MethodId} {args : Array Value} {below : List Frame} {meth : Method} {c : Code} {cells slots : Nat} {Q : State → Prop} {nL : Nat} {A : Nat → Prop} {q : SS} {pc : Nat} {lv : List (Nat × Value)} {rest : List Value} {cc : ByteArray} {P : PH} {Ts : List Cond} {own : String} {D : va_G} {cl : List vw_C} {w loc : SS → va_W} {tys : List (ClassId × FieldType)}
/-- a call of a method that knows nothing of the caller's own arrays -/
theorem z_callLVi (S : CallFix p m c cc nL s args Ts own) {y : MethodName} {bytes : ByteArray} {idx maxL mc ms n : Nat} {ret : Option FieldType} {ws : List Cond} {rm : Room} {b : Addr} {As : List Value} {C : String} {F : Int32 × SS} (hM : Ci l y ws rm mc ms P (fun A => ZG D cl w (fun _ tl => tl = []) A) (fun A => ZG D cl w (fun _ tl => tl = []) A) (.ref b :: As) q F) (cw : CallW R s args own C idx y bytes maxL ret ws rm mc ms n) (hA : ∀ z, s.heap.size ≤ z → A z) (hPb : PB P) (hPw : ∀ (A' : Nat → Prop) (U : State), s.WarmedH U.vm → P A' U) (hrecv : ∀ A' H, ZG D cl w (fun _ tl => tl = []) A' q H → ∃ cell : Cell, H[b]? = some cell ∧ cell.vm.isStatics = false ∧ s.vm.findClass C = some cell.cls) (hloc : loc F.2 = loc q) {st0 : List Value} (hn : As.length = n) (hst : st0 = As.reverse ++ .ref b :: rest) (hW : (rest.map fun v => v.category).sum ≤ 8) (hdg : decode cc pc = .ok (.invokevirtual idx, 3)) (hf : cells + mc ≤ R.cells ∧ slots + ms ≤ R.slots)
    (kk : Z p l e R s m args below meth c (cells + mc) (slots + ms) Q nL A (ZG D cl (fun q => w q ++ loc q) (fun _ tl => tl = []) A) F.2 (pc + 3) lv (.int F.1 :: rest)) : Z p l e R s m args below meth c cells slots Q nL A (ZG D cl (fun q => w q ++ loc q) (fun _ tl => tl = []) A) q pc lv st0 := by
  intro H locs ls h1 h2 h3
  subst hst
  obtain ⟨tl, hP, hD, rfl⟩ := id h1
  rw [List.append_nil] at hP hD
  have hA' : ∀ z, H.size ≤ z → (A z ∧ ∀ (k : Nat) (x : Nat × va_E), (loc q)[k]? = some x → x.1 ≠ z) := fun z hz => ⟨hA z (Nat.le_trans h2.1 hz), fun k x hk hxz => absurd ((hP.suf k x hk).lt) (by rw [hxz]; exact Nat.not_lt.mpr hz)⟩
  have hG : ZG D cl w (fun _ tl => tl = []) (fun z => A z ∧ ∀ (k : Nat) (x : Nat × va_E), (loc q)[k]? = some x → x.1 ≠ z) q H := ⟨[], by rw [List.append_nil]; exact hP.pre, by
    rw [List.append_nil]
    exact ⟨hD.pre.1, fun k x hk => ⟨hD.pre.2 k x hk, fun j y hj h => hD.apart hk hj h.symm⟩⟩, rfl⟩
  refine va_calli (va_runV (As := As) (rest := rest) S (hM _ H.size hA') cw ⟨fun a U g mk z => ⟨z.1, z.2.1, hPb _ _ _ _ _ z.2.2.1, z.2.2.2⟩, hrecv _ H hG, fun U hU hW => ⟨rfl, by rw [hU], hPw _ U hW, by rw [hU]; exact hG⟩⟩ rfl hn h3.1 rfl (lv_room hW) hdg hf) h2 (fun z _ h => h.1) (fun z h => h.1) (fun r u t H1 locs1 ht hvm hw hB hz hk hS1 => ?_)
  subst hw
  obtain ⟨tl, hP1, hD1, rfl⟩ := hB
  rw [List.append_nil] at hP1 hD1
  rw [ht] at hP1
  refine kk H1 locs1 ls ⟨[], ?_, ?_, rfl⟩ hS1 h3
  · rw [List.append_nil]
    show va_P D cl (w F.2 ++ loc F.2) H1
    rw [hloc]
    exact hP1.app (fun i x hi => (hP.suf i x hi).kept (hk x.1 ((hP.suf i x hi).lt) (fun h => h.2 i x hi rfl)))
  · rw [List.append_nil]
    show va_D A (w F.2 ++ loc F.2)
    rw [hloc]
    exact va_D.mk2 (hD1.weaken (fun _ _ _ h => h.1)) hD.suf (fun i j x y hi hj h => (hD1.2 i x hi).2 j y hj h.symm)
end ZH
