/-! more rows for constructors: PK, arrays by place, Arrays.fill -/
def PK (D : va_G) (kc : Nat → ClassId) (U : State) : Prop := va_K D vwCl (tysK kc) U ∧ (∀ r ∈ xNlink, va_Nw (.methodLinkNest r.1 r.2.1 r.2.2 RX10) U) ∧ va_AO RX9 U
theorem PK.warm {D : va_G} {kc : Nat → ClassId} {s U : State} (hW : s.WarmedH U.vm) (h : PK D kc s) : PK D kc U := ⟨va_K.moved hW.alike h.1, fun r hr => (h.2.1 r hr).warmM hW, va_AO.moved hW.alike h.2.2⟩
theorem pbP {D : va_G} {kc : Nat → ClassId} : ∀ (U : State) (g : JFrame) (mk : MethodId) (a : Array Value), PK D kc U → PK D kc (U.calling g mk a) := fun U g mk a h => ⟨va_K.moved (u := U) (U := U.calling g mk a) (Vm.Alike.refl U.vm) h.1, fun r hr => (h.2.1 r hr).same rfl rfl, va_AO.moved (u := U) (U := U.calling g mk a) (Vm.Alike.refl U.vm) h.2.2⟩
theorem kO {i : Nat} (h : i < 2147483648) : (Int32.ofNat i).toInt = i := Int32.toInt_ofNat_of_lt h
theorem kIn {i n : Nat} (h : i < n) (hn : n ≤ 100000) : vp_in (Int32.ofNat i) n := by
  have e := kO (show i < 2147483648 by omega)
  rintro (h1 | h1)
  · rw [Int32.lt_iff_toInt_lt, e] at h1
    have : (0 : Int32).toInt = 0 := by decide
    omega
  · have : (Int32.ofNat i).toNatClampNeg = i := by rw [Int32.toNatClampNeg, e]; rfl
    omega
theorem kNat {i : Nat} (h : i < 2147483648) : (Int32.ofNat i).toNatClampNeg = i := by rw [Int32.toNatClampNeg, kO h]; rfl
theorem kle {i j : Nat} (hi : i < 2147483648) (hj : j < 2147483648) : Int32.ofNat i ≤ Int32.ofNat j ↔ i ≤ j := by
  rw [Int32.le_iff_toInt_le, kO hi, kO hj]; omega
theorem ksucc (i : Nat) : Int32.ofNat i + Int32.ofInt 1 = Int32.ofNat (i + 1) := by
  rw [Int32.ofNat_add]; rfl
section ZKA
variable {p : Program} {l : Launch} {e : Env} {R : Room} {s : State} {m : MethodId} {args : Array Value} {below : List Frame} {meth : Method} {c : Code} {cells slots : Nat} {Q : State → Prop} {nL : Nat} {A : Nat → Prop} {q : SS} {pc : Nat} {lv : List (Nat × Value)} {rest : List Value} {cc : ByteArray} {Ts : List Cond} {own : String} {D : va_G} {tys : List (ClassId × FieldType)} {G : SS → Heap → Prop}
theorem zk_alen (S : CallFix p m c cc nL s args Ts own) (hK : va_K D vwCl tys s) (q0 t0 : Nat) {cA : ClassId} {x : vp_A} {a : Nat} {W : va_W} (ha : W[q0]? = some (a, .inl (cA, x))) {ty : FieldType} (ht : tys[t0]? = some (cA, ty)) {v : Int32} (hv : Int32.ofNat x.1 = v) (hdg : decode cc pc = .ok (.arraylength, 1)) (kk : Z p l e R s m args below meth c cells slots Q nL A (GK D W A) q (pc + 1) lv (.int v :: rest)) : Z p l e R s m args below meth c cells slots Q nL A (GK D W A) q pc lv (.ref a :: rest) := by
  obtain ⟨hx, hb, hml, hown, hts⟩ := S
  intro H locs ls h1 h2 h3
  exact va_alen hx hb hK h1.1 q0 t0 ha ht hv hdg (kk H locs ls h1 h2 h3)
theorem zk_iast (S : CallFix p m c cc nL s args Ts own) (hK : va_K D vwCl tys s) (q0 t0 : Nat) {cA : ClassId} {n a : Nat} {f : Nat → Int32} {W : va_W} (W' : va_W) (ha : W[q0]? = some (a, .inl (cA, n, .inl f))) (ht : tys[t0]? = some (cA, .int)) {i x : Int32} (hin : vp_in i n) (hdg : decode cc pc = .ok (.iastore, 1)) (hset : W.set q0 (a, .inl (cA, n, .inl (upd f i.toNatClampNeg x))) = W') (kk : Z p l e R s m args below meth c cells slots Q nL A (GK D W' A) q (pc + 1) lv rest) : Z p l e R s m args below meth c cells slots Q nL A (GK D W A) q pc lv (.int x :: .int i :: .ref a :: rest) := by
  obtain ⟨hx, hb, hml, hown, hts⟩ := S
  intro H locs ls h1 h2 h3
  refine va_iast hx hb hK h1.1 h1.2 h2 q0 t0 ha ht hin hdg (fun H1 locs1 hP1 hD1 hS1 => ?_)
  rw [hset] at hP1 hD1
  exact kk H1 locs1 ls ⟨hP1, hD1⟩ hS1 h3
theorem zk_callS (S : CallFix p m c cc nL s args Ts own) {y : MethodName} {bytes : ByteArray} {idx maxL mc ms n : Nat} {ws : List Cond} {rm : Room} {As : List Value} {Pz : State → Prop} {W : va_W} {W1 : (Nat → Nat) → va_W} (hM : CK Pz D l y ws rm mc ms As W W1) (cw : CallB R s args own idx y bytes maxL none ws rm mc ms n ∧ (Cond.static y).before args s = true) (hA : ∀ z, s.heap.size ≤ z → A z) (hPb : ∀ (U : State) (g : JFrame) (mk : MethodId) (a : Array Value), Pz U → Pz (U.calling g mk a)) (hPw : ∀ U : State, s.WarmedH U.vm → Pz U) (W' : (Nat → Nat) → va_W) (hW' : ∀ u, W1 u = W' u) {st0 : List Value} (hn : As.length = n) (hst : st0 = As.reverse ++ rest) (hW : (rest.map fun v => v.category).sum ≤ 8) (hdg : decode cc pc = .ok (.invokestatic idx, 3)) (hf : cells + mc ≤ R.cells ∧ slots + ms ≤ R.slots)
    (kk : ∀ u, Z p l e R s m args below meth c (cells + mc) (slots + ms) Q nL A (GK D (W' u) A) q (pc + 3) lv rest) : Z p l e R s m args below meth c cells slots Q nL A (GK D W A) q pc lv st0 := by
  intro H locs ls h1 h2 h3
  subst hst
  refine va_callv (va_runS (As := As) (rest := rest) S (hM A H.size (fun z hz => hA z (Nat.le_trans h2.1 hz))) cw ⟨fun a U g mk z => ⟨z.1, z.2.1, hPb _ _ _ _ z.2.2.1, z.2.2.2⟩, fun U hU hW => ⟨rfl, by rw [hU], hPw U hW, by rw [hU]; exact h1⟩⟩ rfl hn h3.1 rfl (lv_room hW) hdg hf) h2 (fun z _ h => h) (fun z h => h) (fun u t H1 locs1 ht hvm hw hB hz hk hS1 => ?_)
  rw [ht] at hB
  exact kk u H1 locs1 ls (by rw [← hW']; exact hB) hS1 h3
end ZKA
/-- an array's picture asks nothing beyond its length -/
theorem gk_arr {D : va_G} {W : va_W} {q0 a N : Nat} {cA : ClassId} {g g' : Nat → Int32} {A : Nat → Prop} {q : SS} {H : Heap} {f0 : va_E} (ha : W[q0]? = some (a, f0)) (hg : ∀ k, k < N → g k = g' k) (h : GK D (W.set q0 (a, .inl (cA, N, .inl g))) A q H) : GK D (W.set q0 (a, .inl (cA, N, .inl g'))) A q H := by
  obtain ⟨hP, hD⟩ := h
  have hl := (List.getElem?_eq_some_iff.mp ha).1
  have ec : vp_cell cA (N, .inl g) = vp_cell cA (N, .inl g') := by
    rw [vp_cell_i, vp_cell_i, arrV, arrV]
    congr 1
    exact congrArg Array.ofFn (funext fun j => by rw [hg j.1 j.2])
  have h0 := hP q0 (a, .inl (cA, N, .inl g)) (List.getElem?_set_self hl)
  have e : ∀ f1 f2 : va_E, (W.set q0 (a, f1)).set q0 (a, f2) = W.set q0 (a, f2) := fun f1 f2 => List.set_set _
  have := hP.set (H1 := H) (e := .inl (cA, N, .inl g')) hD (List.getElem?_set_self hl) (by
    show H[a]? = some (vp_cell cA (N, .inl g'))
    rw [← ec]; exact h0) (fun _ _ => rfl)
  rw [e] at this
  have h2 := hD.set (e := .inl (cA, N, .inl g')) (List.getElem?_set_self hl)
  rw [e] at h2
  exact ⟨this, h2⟩
theorem hfill : yJ7_fill_53178.cls ≠ "java/lang/invoke/MethodHandle" ∧ yJ7_fill_53178.cls ≠ "java/lang/invoke/VarHandle" ∧ (parseMethodDescriptor yJ7_fill_53178.desc).map (fun d => d.parameters.length) = some 2 := by decide +kernel
theorem ctFill (l : Launch) (D : va_G) (kc : Nat → ClassId) (W : va_W) (q0 a N : Nat) (f : Nat → Int32) (ha : W[q0]? = some (a, .inl (kc 0, N, .inl f))) (hN : N ≤ 1000) (v : Int32) : CK (va_K D vwCl (tysK kc)) D l yJ7_fill_53178 (Cond.code yJ7_fill_53178 cJ7_fill_53178 4 none :: lw_G) (zr 0 0 0) 0 0 [.ref a, .int v] W (fun _ => W.set q0 (a, .inl (kc 0, N, .inl (fun _ => v)))) := by
  refine CK.of (cc := cJ7_fill_53178) (maxL := 4) (by decide) rfl (Nat.le_of_ble_eq_true rfl) ?_
  intro p e s m args below meth c A S hr hlocks hi hA hK
  have hx := S.1
  have hb := S.2.1
  have hl := (List.getElem?_eq_some_iff.mp ha).1
  have es : ∀ f1 f2 : va_E, (W.set q0 (a, f1)).set q0 (a, f2) = W.set q0 (a, f2) := fun f1 f2 => List.set_set _
  have b5 : ∀ (d i : Nat) (g : Nat → Int32), i + d = N → (∀ k, k < i → g k = v) → Z p l e (zr 0 0 0) s m args below meth c 0 0 (MQ below (MK D A (fun _ => W.set q0 (a, .inl (kc 0, N, .inl (fun _ => v))))) args s 0 0 A) 4 A (GK D (W.set q0 (a, .inl (kc 0, N, .inl g))) A) q0s 5 [(0, .ref a), (1, .int v), (2, .int (Int32.ofNat i)), (3, .int (Int32.ofNat N))] [] := by
    intro d
    induction d with
    | zero =>
      intro i g hd hg
      refine z_iload_n (j := 2) hx hb dJ7_fill_53178_5 rfl rfl ?_
      refine z_iload_n (j := 3) hx hb dJ7_fill_53178_6 rfl rfl ?_
      refine z_icmp_ge (tgt := 20) hx hb dJ7_fill_53178_7 (by decide) (fun g7 => ?_) (fun g7 => ?_)
      · refine z_wk (G2 := GK D (W.set q0 (a, .inl (kc 0, N, .inl (fun _ => v)))) A) (fun H h => gk_arr ha (fun k hk => hg k (by omega)) h) ?_
        exact zk_ret hx hb hlocks hr id rfl dJ7_fill_53178_20
      · exact absurd ((kle (by omega) (by omega)).mpr (by omega)) g7
    | succ d ih =>
      intro i g hd hg
      refine z_iload_n (j := 2) hx hb dJ7_fill_53178_5 rfl rfl ?_
      refine z_iload_n (j := 3) hx hb dJ7_fill_53178_6 rfl rfl ?_
      refine z_icmp_ge (tgt := 20) hx hb dJ7_fill_53178_7 (by decide) (fun g7 => ?_) (fun g7 => ?_)
      · exact absurd ((kle (by omega) (by omega)).mp g7) (by omega)
      · refine z_aload_n (j := 0) hx hb dJ7_fill_53178_10 rfl rfl ?_
        refine z_iload_n (j := 2) hx hb dJ7_fill_53178_11 rfl rfl ?_
        refine z_iload_n (j := 1) hx hb dJ7_fill_53178_12 rfl rfl ?_
        refine zk_iast (f := g) (W' := W.set q0 (a, .inl (kc 0, N, .inl (upd g i v)))) S hK q0 0 (List.getElem?_set_self hl) rfl (kIn (by omega) (by omega)) dJ7_fill_53178_13 (by rw [es, kNat (by omega)]) ?_
        refine z_iinc (k := 2) (v := Int32.ofNat (i + 1)) (lv' := [(2, .int (Int32.ofNat (i + 1))), (0, .ref a), (1, .int v), (3, .int (Int32.ofNat N))]) hx hb dJ7_fill_53178_14 rfl (ksucc i) (by decide) rfl ?_
        refine z_goto (tgt := 5) hx hb dJ7_fill_53178_17 (by decide) ?_
        refine z_sub [1, 2, 0, 3] rfl ?_
        exact ih (i + 1) (upd g i v) (by omega) (fun k hk => by
          by_cases e : k = i
          · subst e; simp [upd]
          · simp [upd, e]; exact hg k (by omega))
  refine z_iconst (v := 0) hx hb dJ7_fill_53178_0 (by decide) ?_
  refine z_istore_n (lv' := [(2, .int 0), (0, .ref a), (1, .int v)]) hx hb dJ7_fill_53178_1 rfl (by decide) rfl ?_
  refine z_aload_n (j := 1) hx hb dJ7_fill_53178_2 rfl rfl ?_
  refine zk_alen (v := Int32.ofNat N) S hK q0 0 ha rfl rfl dJ7_fill_53178_3 ?_
  refine z_istore_n (lv' := [(3, .int (Int32.ofNat N)), (2, .int 0), (0, .ref a), (1, .int v)]) hx hb dJ7_fill_53178_4 rfl (by decide) rfl ?_
  refine z_sub [2, 3, 1, 0] rfl ?_
  have := b5 N 0 f (by omega) (fun k hk => absurd hk (by omega))
  have e0 : W.set q0 (a, .inl (kc 0, N, .inl f)) = W := by
    apply List.ext_getElem?
    intro j
    by_cases e : q0 = j
    · subst e; rw [List.getElem?_set_self hl, ha]
    · rw [List.getElem?_set_ne e]
  rw [e0] at this
  exact this
