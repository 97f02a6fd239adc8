/-! the JDK's own methods of texts, over the four texts of the class -/
def bytf (i : Nat) (j : Nat) : Int32 := (xsByt.getD i []).getD j 0
def PJ (a bv i : Nat) : PH := fun A U => va_O "java/lang/String" a A U U.heap ∧ va_OF "java/lang/String" "coder" "B" (.int 0) a A U U.heap ∧ va_OF "java/lang/String" "value" "[B" (.ref bv) a A U U.heap ∧ va_T .byte bv (xsLen.getD i 0) (fun j => .int (bytf i j)) A U U.heap ∧ va_Z "java/lang/String" "COMPACT_STRINGS" "Z" (.int 1) A U U.heap
theorem PJ.move {a bv i : Nat} {A : Nat → Prop} {s U : State} {H : Heap} (hal : s.vm.Alike U.vm) (hH : U.heap = H) (hk : ∀ z : Nat, z < s.heap.size → ¬ A z → H[z]? = s.heap[z]?) (h : PJ a bv i A s) : PJ a bv i A U := by
  obtain ⟨h1, h2, h3, h4, h5⟩ := h
  subst hH
  exact ⟨(va_O.moved hal h1).kept hk, (va_OF.moved hal h2).kept hk, (va_OF.moved hal h3).kept hk, (va_T.moved hal h4).kept hk, (va_Z.moved hal h5).kept hk⟩
theorem pbJ (a bv i : Nat) : PB (PJ a bv i) := fun _ U _ _ _ h => PJ.move (s := U) (Vm.Alike.refl U.vm) rfl (fun _ _ _ => rfl) h
theorem psJ {a bv i : Nat} {A : Nat → Prop} {s : State} (h : PJ a bv i A s) : PS (PJ a bv i) A s := fun H locs hS U hU hW => PJ.move hW.alike hU hS.2.1 h
section ZJ
variable {p : Program} {l : Launch} {e : Env} {R : Room} {s : State} {m : MethodId} {args : Array Value} {below : List Frame} {meth : Method} {c : Code} {cells slots : Nat} {Q : State → Prop} {nL : Nat} {A : Nat → Prop} {G : SS → Heap → Prop} {q : SS} {pc : Nat} {lv : List (Nat × Value)} {rest : List Value} {cc : ByteArray} {Ts : List Cond} {own : String}
theorem z_getS (S : CallFix p m c cc nL s args Ts own) {o n d ref : String} {index a : Nat} {v : Value} (hE : va_OF o n d v a A s s.heap) (hlink : Cond.fieldLink own index ref n d ∈ Ts) (href : o = ref) (hdg : decode cc pc = .ok (.getfield index, 3)) (kk : Z p l e R s m args below meth c cells slots Q nL A G q (pc + 3) lv (v :: rest)) : Z p l e R s m args below meth c cells slots Q nL A G q pc lv (.ref a :: rest) := by
  obtain ⟨hx, hb, hml, hown, hts⟩ := S
  intro H locs ls h1 h2 h3
  exact vk_getf hx hb hE h2 hown (hts _ hlink) (fun _ h9 => href ▸ h9) hdg (kk H locs ls h1 h2 h3)
theorem z_gets (S : CallFix p m c cc nL s args Ts own) {C n d ref : String} {index : Nat} {v : Value} (hZ : va_Z C n d v A s s.heap) (hlink : Cond.fieldLink own index ref n d ∈ Ts) (href : C = ref) (hdg : decode cc pc = .ok (.getstatic index, 3)) (kk : Z p l e R s m args below meth c cells slots Q nL A G q (pc + 3) lv (v :: rest)) : Z p l e R s m args below meth c cells slots Q nL A G q pc lv rest := by
  obtain ⟨hx, hb, hml, hown, hts⟩ := S
  intro H locs ls h1 h2 h3
  exact va_gets hx hb hZ h2 hown (hts _ hlink) (fun _ h9 => href ▸ h9) hdg (kk H locs ls h1 h2 h3)
theorem z_alenT (S : CallFix p m c cc nL s args Ts own) {t N : Nat} {f : Nat → Value} {ty : FieldType} (hT : va_T ty t N f A s s.heap) {v : Int32} (hv : Int32.ofNat N = v) (hdg : decode cc pc = .ok (.arraylength, 1)) (kk : Z p l e R s m args below meth c cells slots Q nL A G q (pc + 1) lv (.int v :: rest)) : Z p l e R s m args below meth c cells slots Q nL A G q pc lv (.ref t :: rest) := by
  obtain ⟨hx, hb, hml, hown, hts⟩ := S
  intro H locs ls h1 h2 h3
  exact va_tlen hx hb hT h2 hv hdg (kk H locs ls h1 h2 h3)
theorem z_ldT (S : CallFix p m c cc nL s args Ts own) {t N : Nat} {f : Nat → Value} (hT : va_T .byte t N f A s s.heap) {i : Int32} (hin : vp_in i N) {v : Value} (hv : f i.toNatClampNeg = v) (hdg : decode cc pc = .ok (.baload, 1)) (kk : Z p l e R s m args below meth c cells slots Q nL A G q (pc + 1) lv (v :: rest)) : Z p l e R s m args below meth c cells slots Q nL A G q pc lv (.int i :: .ref t :: rest) := by
  obtain ⟨hx, hb, hml, hown, hts⟩ := S
  intro H locs ls h1 h2 h3
  exact va_tb hx hb hT h2 hin hv hdg (kk H locs ls h1 h2 h3)
theorem z_i2b (hx : p.tables.exec = Jvm.exec) (hb : c.code = cc) {x : Int32} (hdg : decode cc pc = .ok (.i2b, 1)) (k : Z p l e R s m args below meth c cells slots Q nL A G q (pc + 1) lv (.int x.toInt8.toInt32 :: rest)) : Z p l e R s m args below meth c cells slots Q nL A G q pc lv (.int x :: rest) :=
  fun H locs ls h1 h2 h3 => lv_i2b hx hb hdg rfl (k H locs ls h1 h2 h3)
theorem z_mmax (S : CallFix p m c cc nL s args Ts own) {index : Nat} (hlink : Cond.methodLink own index Lib.Math.max.name ∈ Ts) (hstat : Cond.static Lib.Math.max.name ∈ Ts) (hini : Cond.initialized "java/lang/Math" ∈ Ts) (hcode : Cond.code Lib.Math.max.name Lib.Math.max.code 2 (some .int) ∈ Ts) (hf : 1 ≤ R.frames) (hlo : (rest.map fun v => v.category).sum + 13 ≤ R.locals) (hc : cells ≤ R.cells) (hs : slots ≤ R.slots) {x y : Int32} (hdg : decode cc pc = .ok (.invokestatic index, 3)) (kk : Z p l e R s m args below meth c cells slots Q nL A G q (pc + 3) lv (.int (if x < y then y else x) :: rest)) : Z p l e R s m args below meth c cells slots Q nL A G q pc lv (.int y :: .int x :: rest) := by
  obtain ⟨hx, hb, hml, hown, hts⟩ := S
  intro H locs ls h1 h2 h3
  exact va_mmax hx hb (hml.trans h3.1.symm) hown (hts _ hlink) (hts _ hstat) (hts _ hini) (hts _ hcode) hf hlo hc hs hdg (kk H locs ls h1 h2 h3)
theorem z_mmin (S : CallFix p m c cc nL s args Ts own) {index : Nat} (hlink : Cond.methodLink own index Lib.Math.min.name ∈ Ts) (hstat : Cond.static Lib.Math.min.name ∈ Ts) (hini : Cond.initialized "java/lang/Math" ∈ Ts) (hcode : Cond.code Lib.Math.min.name Lib.Math.min.code 2 (some .int) ∈ Ts) (hf : 1 ≤ R.frames) (hlo : (rest.map fun v => v.category).sum + 13 ≤ R.locals) (hc : cells ≤ R.cells) (hs : slots ≤ R.slots) {x y : Int32} (hdg : decode cc pc = .ok (.invokestatic index, 3)) (kk : Z p l e R s m args below meth c cells slots Q nL A G q (pc + 3) lv (.int (if y < x then y else x) :: rest)) : Z p l e R s m args below meth c cells slots Q nL A G q pc lv (.int y :: .int x :: rest) := by
  obtain ⟨hx, hb, hml, hown, hts⟩ := S
  intro H locs ls h1 h2 h3
  exact va_mmin hx hb (hml.trans h3.1.symm) hown (hts _ hlink) (hts _ hstat) (hts _ hini) (hts _ hcode) hf hlo hc hs hdg (kk H locs ls h1 h2 h3)
theorem z_ldcS (hx : p.tables.exec = Jvm.exec) (hb : c.code = cc) {own tx : String} {index a : Nat} (hown : s.vm.findClass own = some m.cls) (hZ : vk_R own index tx a s) (hdg : decode cc pc = .ok (.ldc index, 2)) (k : Z p l e R s m args below meth c cells slots Q nL A G q (pc + 2) lv (.ref a :: rest)) : Z p l e R s m args below meth c cells slots Q nL A G q pc lv rest :=
  fun H locs ls h1 h2 h3 => va_ldcS hx hb hown hZ hdg (k H locs ls h1 h2 h3)
end ZJ
section ZK
variable {p : Program} {l : Launch} {e : Env} {R : Room} {s : State} {m : MethodId} {args : Array Value} {below : List Frame} {meth : Method} {c : Code} {cells slots : Nat} {Q : State → Prop} {nL : Nat} {A : Nat → Prop} {q q' : SS} {pc : Nat} {lv : List (Nat × Value)} {rest : List Value} {cc : ByteArray} {G G' Gc : GH} {P : PH} {Ts : List Cond} {own : String}
theorem z_callVi_ (S : CallFix p m c cc nL s args Ts own) {y : MethodName} {bytes : ByteArray} {idx maxL mc ms n : Nat} {ret : Option FieldType} {ws : List Cond} {rm : Room} {b : Addr} {As : List Value} {C : String} {F : Int32 × SS} (hM : Ci l y ws rm mc ms P G G' (.ref b :: As) q F) (cw : CallW R s args own C idx y bytes maxL ret ws rm mc ms n) (hA : ∀ z, s.heap.size ≤ z → A z) (hPb : PB P) (hPs : PS P A s) (hrecv : ∀ (H : Heap) (locs : List Loc), va_S A s.heap H locs → ∃ cell : Cell, H[b]? = some cell ∧ cell.vm.isStatics = false ∧ s.vm.findClass C = some cell.cls) {st0 : List Value} (hn : As.length = n) (hst : st0 = As.reverse ++ .ref b :: rest) (hW : (rest.map fun v => v.category).sum ≤ 8) (hdg : decode cc pc = .ok (.invokevirtual idx, 3)) (hf : cells + mc ≤ R.cells ∧ slots + ms ≤ R.slots)
    (kk : Z p l e R s m args below meth c (cells + mc) (slots + ms) Q nL A (G' A) F.2 (pc + 3) lv (.int F.1 :: rest)) : Z p l e R s m args below meth c cells slots Q nL A (G A) q pc lv st0 := by
  intro H locs ls h1 h2 h3
  subst hst
  refine va_calli (va_runV (As := As) (rest := rest) S (hM A H.size (fun z hz => hA z (Nat.le_trans h2.1 hz))) cw ⟨fun a U g mk z => ⟨z.1, z.2.1, hPb _ _ _ _ _ z.2.2.1, z.2.2.2⟩, hrecv H locs h2, fun U hU hW => ⟨rfl, by rw [hU], hPs H locs h2 U hU hW, by rw [hU]; exact h1⟩⟩ rfl hn h3.1 rfl (lv_room hW) hdg hf) h2 (fun z _ h => h) (fun z h => h) (fun r u t H1 locs1 ht hvm hw hB hz hk hS1 => ?_)
  subst hw
  exact kk H1 locs1 ls (by rw [← ht]; exact hB) hS1 h3
end ZK
theorem rvJ {a : Nat} {A : Nat → Prop} {s : State} (hO : va_O "java/lang/String" a A s s.heap) : ∀ (H : Heap) (locs : List Loc), va_S A s.heap H locs → ∃ cell : Cell, H[a]? = some cell ∧ cell.vm.isStatics = false ∧ s.vm.findClass RJ0 = some cell.cls := by
  intro H locs hS
  obtain ⟨cell, h1, h2, h3, -⟩ := hO.kept hS.2.1
  exact ⟨cell, h1, h2, h3⟩

def fJ0_coder_7d493_t0 (q : SS) : Int32 × SS := (0, q)
def kJ0_coder_7d493_t0 (q : SS) : Prop := True
set_option maxHeartbeats 4000000 in
set_option maxRecDepth 100000 in
theorem ctJ0_coder_7d493_t0 (l : Launch) (G : GH) (a bv : Nat) (q : SS) (hok : kJ0_coder_7d493_t0 q) : Ci l yJ0_coder_7d493 (Cond.code yJ0_coder_7d493 cJ0_coder_7d493 1 (some .byte) :: lw_G) (zr 0 0 0) 0 0 (PJ a bv 0) G G [.ref a] q (fJ0_coder_7d493_t0 q) := by
  refine Ci.of (cc := cJ0_coder_7d493) (maxL := 1) (ret := (some .byte)) (by decide) rfl (Nat.le_of_ble_eq_true rfl) ?_
  intro p e s m args below meth c A S hr hlocks hin hA hK
  have hx := S.1
  have hb := S.2.1
  obtain ⟨hO, hco, hva, hT, hZ⟩ := id hK
  generalize hFe : fJ0_coder_7d493_t0 q = F
  have hF : F = fJ0_coder_7d493_t0 q := hFe.symm
  refine z_gets (v := .int 1) S hZ q3_163 rfl dJ0_coder_7d493_0 ?_
  refine z_if_eq (tgt := 13) hx hb dJ0_coder_7d493_3 (by decide) (fun g3 => absurd g3 (show ¬ (1 : Int32) = 0 by decide)) (fun _ => ?_)
  refine z_aload_n (j := 0) hx hb dJ0_coder_7d493_6 rfl rfl ?_
  refine z_getS (v := .int 0) S hco q8_86 rfl dJ0_coder_7d493_7 ?_
  refine z_goto (tgt := 14) hx hb dJ0_coder_7d493_10 (by decide) ?_
  exact z_iret hx hb hlocks hr (by decide) hF dJ0_coder_7d493_14
theorem hJ0_coder_7d493 : yJ0_coder_7d493.cls = RJ0 ∧ yJ0_coder_7d493.cls ≠ "java/lang/invoke/MethodHandle" ∧ yJ0_coder_7d493.cls ≠ "java/lang/invoke/VarHandle" ∧ (parseMethodDescriptor yJ0_coder_7d493.desc).map (fun d => d.parameters.length) = some 0 := by decide +kernel
def fJ0_isLatin1_aae02_t0 (q : SS) : Int32 × SS := (1, q)
def kJ0_isLatin1_aae02_t0 (q : SS) : Prop := True
set_option maxHeartbeats 4000000 in
set_option maxRecDepth 100000 in
theorem ctJ0_isLatin1_aae02_t0 (l : Launch) (G : GH) (a bv : Nat) (q : SS) (hok : kJ0_isLatin1_aae02_t0 q) : Ci l yJ0_isLatin1_aae02 (Cond.code yJ0_isLatin1_aae02 cJ0_isLatin1_aae02 1 (some .boolean) :: lw_G) (zr 0 0 0) 0 0 (PJ a bv 0) G G [.ref a] q (fJ0_isLatin1_aae02_t0 q) := by
  refine Ci.of (cc := cJ0_isLatin1_aae02) (maxL := 1) (ret := (some .boolean)) (by decide) rfl (Nat.le_of_ble_eq_true rfl) ?_
  intro p e s m args below meth c A S hr hlocks hin hA hK
  have hx := S.1
  have hb := S.2.1
  obtain ⟨hO, hco, hva, hT, hZ⟩ := id hK
  generalize hFe : fJ0_isLatin1_aae02_t0 q = F
  have hF : F = fJ0_isLatin1_aae02_t0 q := hFe.symm
  refine z_gets (v := .int 1) S hZ q3_163 rfl dJ0_isLatin1_aae02_0 ?_
  refine z_if_eq (tgt := 17) hx hb dJ0_isLatin1_aae02_3 (by decide) (fun g3 => absurd g3 (show ¬ (1 : Int32) = 0 by decide)) (fun _ => ?_)
  refine z_aload_n (j := 0) hx hb dJ0_isLatin1_aae02_6 rfl rfl ?_
  refine z_getS (v := .int 0) S hco q8_86 rfl dJ0_isLatin1_aae02_7 ?_
  refine z_if_ne (tgt := 17) hx hb dJ0_isLatin1_aae02_10 (by decide) (fun g10 => absurd g10 (show ¬ (¬ (0 : Int32) = 0) by decide)) (fun _ => ?_)
  refine z_iconst (v := 1) hx hb dJ0_isLatin1_aae02_13 (by decide) ?_
  refine z_goto (tgt := 18) hx hb dJ0_isLatin1_aae02_14 (by decide) ?_
  exact z_iret hx hb hlocks hr (by decide) hF dJ0_isLatin1_aae02_18
theorem hJ0_isLatin1_aae02 : yJ0_isLatin1_aae02.cls = RJ0 ∧ yJ0_isLatin1_aae02.cls ≠ "java/lang/invoke/MethodHandle" ∧ yJ0_isLatin1_aae02.cls ≠ "java/lang/invoke/VarHandle" ∧ (parseMethodDescriptor yJ0_isLatin1_aae02.desc).map (fun d => d.parameters.length) = some 0 := by decide +kernel
def fJ0_length_8abf5_t0 (q : SS) : Int32 × SS := (((11 : Int32) >>> (0 &&& 31)), q)
def kJ0_length_8abf5_t0 (q : SS) : Prop := kJ0_coder_7d493_t0 q ∧ True
set_option maxHeartbeats 4000000 in
set_option maxRecDepth 100000 in
theorem ctJ0_length_8abf5_t0 (l : Launch) (G : GH) (a bv : Nat) (q : SS) (hok : kJ0_length_8abf5_t0 q) : Ci l yJ0_length_8abf5 (Cond.code yJ0_length_8abf5 cJ0_length_8abf5 1 (some .int) :: lw_G) (zr 1 0 0) 0 0 (PJ a bv 0) G G [.ref a] q (fJ0_length_8abf5_t0 q) := by
  refine Ci.of (cc := cJ0_length_8abf5) (maxL := 1) (ret := (some .int)) (by decide) rfl (Nat.le_of_ble_eq_true rfl) ?_
  intro p e s m args below meth c A S hr hlocks hin hA hK
  have hx := S.1
  have hb := S.2.1
  obtain ⟨hO, hco, hva, hT, hZ⟩ := id hK
  generalize hFe : fJ0_length_8abf5_t0 q = F
  have hF : F = fJ0_length_8abf5_t0 q := hFe.symm
  refine z_aload_n (j := 0) hx hb dJ0_length_8abf5_0 rfl rfl ?_
  refine z_getS (v := .ref bv) S hva q8_87 rfl dJ0_length_8abf5_1 ?_
  refine z_alenT (v := 11) S hT (by decide) dJ0_length_8abf5_4 ?_
  refine z_aload_n (j := 0) hx hb dJ0_length_8abf5_5 rfl rfl ?_
  have h6 := And.left hok
  have hok := And.right hok
  refine z_callVi_ (As := []) S (ctJ0_coder_7d493_t0 l G a bv q h6) (cwV 0 S.2.2.2.2 (gV q3_169 q3_170 q3_171 q1_18 q3_172) rfl rfl rfl hJ0_coder_7d493 ⟨Nat.le_of_ble_eq_true rfl, Nat.le_of_ble_eq_true rfl⟩) hA (pbJ a bv 0) (psJ hK) (rvJ hO) rfl rfl (Nat.le_of_ble_eq_true rfl) dJ0_length_8abf5_6 ⟨Nat.le_of_ble_eq_true rfl, Nat.le_of_ble_eq_true rfl⟩ ?_
  refine z_ishr hx hb dJ0_length_8abf5_9 ?_
  exact z_iret hx hb hlocks hr rfl hF dJ0_length_8abf5_10
theorem hJ0_length_8abf5 : yJ0_length_8abf5.cls = RJ0 ∧ yJ0_length_8abf5.cls ≠ "java/lang/invoke/MethodHandle" ∧ yJ0_length_8abf5.cls ≠ "java/lang/invoke/VarHandle" ∧ (parseMethodDescriptor yJ0_length_8abf5.desc).map (fun d => d.parameters.length) = some 0 := by decide +kernel
def fJ1_canEncode_9a6ad_t0_16 (q : SS) (s0 : Int32) : Int32 × SS := (s0, q)
def kJ1_canEncode_9a6ad_t0_16 (q : SS) (s0 : Int32) : Prop := narrow .boolean (.int s0) = .int s0 ∧ True
def fJ1_canEncode_9a6ad_t0_15 (q : SS) : Int32 × SS := fJ1_canEncode_9a6ad_t0_16 q 0
def kJ1_canEncode_9a6ad_t0_15 (q : SS) : Prop := kJ1_canEncode_9a6ad_t0_16 q 0
def fJ1_canEncode_9a6ad_t0 (q : SS) (v0 : Int32) : Int32 × SS := (if v0 < 0 then fJ1_canEncode_9a6ad_t0_15 q else (if 255 < v0 then fJ1_canEncode_9a6ad_t0_15 q else fJ1_canEncode_9a6ad_t0_16 q 1))
def kJ1_canEncode_9a6ad_t0 (q : SS) (v0 : Int32) : Prop := ((v0 < 0 → kJ1_canEncode_9a6ad_t0_15 q) ∧ (¬ v0 < 0 → ((255 < v0 → kJ1_canEncode_9a6ad_t0_15 q) ∧ (¬ 255 < v0 → kJ1_canEncode_9a6ad_t0_16 q 1))))
set_option maxHeartbeats 4000000 in
set_option maxRecDepth 100000 in
theorem ctJ1_canEncode_9a6ad_t0 (l : Launch) (G : GH) (a bv : Nat) (q : SS) (v0 : Int32) (hok : kJ1_canEncode_9a6ad_t0 q v0) : Ci l yJ1_canEncode_9a6ad (Cond.code yJ1_canEncode_9a6ad cJ1_canEncode_9a6ad 1 (some .boolean) :: lw_G) (zr 0 0 0) 0 0 (PJ a bv 0) G G [.int v0] q (fJ1_canEncode_9a6ad_t0 q v0) := by
  refine Ci.of (cc := cJ1_canEncode_9a6ad) (maxL := 1) (ret := (some .boolean)) (by decide) rfl (Nat.le_of_ble_eq_true rfl) ?_
  intro p e s m args below meth c A S hr hlocks hin hA hK
  have hx := S.1
  have hb := S.2.1
  obtain ⟨hO, hco, hva, hT, hZ⟩ := id hK
  generalize hFe : fJ1_canEncode_9a6ad_t0 q v0 = F
  have hF : F = fJ1_canEncode_9a6ad_t0 q v0 := hFe.symm
  have b16 : ∀ (q : SS) (s0 : Int32), kJ1_canEncode_9a6ad_t0_16 q s0 → F = fJ1_canEncode_9a6ad_t0_16 q s0 → Z p l e (zr 0 0 0) s m args below meth c 0 0 (MQ below (va_Qi (fun (x : Int32) (_ : Unit) => x = F.1) (fun _ t => G A F.2 t.heap) A) args s 0 0 A) 1 A (G A) q 16 [] [.int s0] := by
    intro q s0 hok hF
    have h16 := And.left hok
    have hok := And.right hok
    exact z_iret hx hb hlocks hr h16 hF dJ1_canEncode_9a6ad_16
  have b15 : ∀ (q : SS), kJ1_canEncode_9a6ad_t0_15 q → F = fJ1_canEncode_9a6ad_t0_15 q → Z p l e (zr 0 0 0) s m args below meth c 0 0 (MQ below (va_Qi (fun (x : Int32) (_ : Unit) => x = F.1) (fun _ t => G A F.2 t.heap) A) args s 0 0 A) 1 A (G A) q 15 [] [] := by
    intro q hok hF
    refine z_iconst (v := 0) hx hb dJ1_canEncode_9a6ad_15 (by decide) ?_
    exact b16 q 0 hok hF
  refine z_iload_n (j := 0) hx hb dJ1_canEncode_9a6ad_0 rfl rfl ?_
  refine z_if_lt (tgt := 15) hx hb dJ1_canEncode_9a6ad_1 (by decide) (fun g1 => ?_) (fun g1 => ?_)
  · have hF := hF.trans (if_pos g1)
    have hok := And.left hok g1
    refine z_sub [] rfl ?_
    exact b15 q hok hF
  · have hF := hF.trans (if_neg g1)
    have hok := And.right hok g1
    refine z_iload_n (j := 0) hx hb dJ1_canEncode_9a6ad_4 rfl rfl ?_
    refine z_sipush (v := 255) hx hb dJ1_canEncode_9a6ad_5 (by decide) ?_
    refine z_icmp_gt (tgt := 15) hx hb dJ1_canEncode_9a6ad_8 (by decide) (fun g8 => ?_) (fun g8 => ?_)
    · have hF := hF.trans (if_pos g8)
      have hok := And.left hok g8
      refine z_sub [] rfl ?_
      exact b15 q hok hF
    · have hF := hF.trans (if_neg g8)
      have hok := And.right hok g8
      refine z_iconst (v := 1) hx hb dJ1_canEncode_9a6ad_11 (by decide) ?_
      refine z_goto (tgt := 16) hx hb dJ1_canEncode_9a6ad_12 (by decide) ?_
      refine z_sub [] rfl ?_
      exact b16 q 1 hok hF
theorem hJ1_canEncode_9a6ad : yJ1_canEncode_9a6ad.cls ≠ "java/lang/invoke/MethodHandle" ∧ yJ1_canEncode_9a6ad.cls ≠ "java/lang/invoke/VarHandle" ∧ (parseMethodDescriptor yJ1_canEncode_9a6ad.desc).map (fun d => d.parameters.length) = some 1 := by decide +kernel
def fJ1_indexOfChar_4cfef_t0_7 : Nat → SS → Int32 → Int32 → Int32 → Int32 × SS
  | 0, q, _, _, _ => (0, q)
  | n + 1, q, v3, v4, v5 => (if v3 ≤ v5 then ((-1), q) else (if (bytf 0 (v5 : Int32).toNatClampNeg) = v4 then (v5, q) else fJ1_indexOfChar_4cfef_t0_7 n q v3 v4 (v5 + 1)))
def kJ1_indexOfChar_4cfef_t0_7 : Nat → SS → Int32 → Int32 → Int32 → Prop
  | 0, _, _, _, _ => False
  | n + 1, q, v3, v4, v5 => ((v3 ≤ v5 → True) ∧ (¬ v3 ≤ v5 → vp_in v5 11 ∧ (((bytf 0 (v5 : Int32).toNatClampNeg) = v4 → True) ∧ (¬ (bytf 0 (v5 : Int32).toNatClampNeg) = v4 → kJ1_indexOfChar_4cfef_t0_7 n q v3 v4 (v5 + 1)))))
def fJ1_indexOfChar_4cfef_t0 (q : SS) (v1 : Int32) (v2 : Int32) (v3 : Int32) : Int32 × SS := fJ1_indexOfChar_4cfef_t0_7 20 q v3 ((v1 : Int32).toInt8.toInt32) v2
def kJ1_indexOfChar_4cfef_t0 (q : SS) (v1 : Int32) (v2 : Int32) (v3 : Int32) : Prop := kJ1_indexOfChar_4cfef_t0_7 20 q v3 ((v1 : Int32).toInt8.toInt32) v2
set_option maxHeartbeats 4000000 in
set_option maxRecDepth 100000 in
theorem ctJ1_indexOfChar_4cfef_t0 (l : Launch) (G : GH) (a bv : Nat) (q : SS) (v1 : Int32) (v2 : Int32) (v3 : Int32) (hok : kJ1_indexOfChar_4cfef_t0 q v1 v2 v3) : Ci l yJ1_indexOfChar_4cfef (Cond.code yJ1_indexOfChar_4cfef cJ1_indexOfChar_4cfef 6 (some .int) :: lw_G) (zr 0 0 0) 0 0 (PJ a bv 0) G G [.ref bv, .int v1, .int v2, .int v3] q (fJ1_indexOfChar_4cfef_t0 q v1 v2 v3) := by
  refine Ci.of (cc := cJ1_indexOfChar_4cfef) (maxL := 6) (ret := (some .int)) (by decide) rfl (Nat.le_of_ble_eq_true rfl) ?_
  intro p e s m args below meth c A S hr hlocks hin hA hK
  have hx := S.1
  have hb := S.2.1
  obtain ⟨hO, hco, hva, hT, hZ⟩ := id hK
  generalize hFe : fJ1_indexOfChar_4cfef_t0 q v1 v2 v3 = F
  have hF : F = fJ1_indexOfChar_4cfef_t0 q v1 v2 v3 := hFe.symm
  have b7 : ∀ (n : Nat) (q : SS) (v3 : Int32) (v4 : Int32) (v5 : Int32), kJ1_indexOfChar_4cfef_t0_7 n q v3 v4 v5 → F = fJ1_indexOfChar_4cfef_t0_7 n q v3 v4 v5 → Z p l e (zr 0 0 0) s m args below meth c 0 0 (MQ below (va_Qi (fun (x : Int32) (_ : Unit) => x = F.1) (fun _ t => G A F.2 t.heap) A) args s 0 0 A) 6 A (G A) q 7 [(0, .ref bv), (3, .int v3), (4, .int v4), (5, .int v5)] [] := by
    intro n
    induction n with
    | zero => intro q v3 v4 v5 hok hF; exact False.elim hok
    | succ n ih =>
      intro q v3 v4 v5 hok hF
      refine z_iload (j := 3) hx hb dJ1_indexOfChar_4cfef_7 rfl ?_
      refine z_iload_n (j := 1) hx hb dJ1_indexOfChar_4cfef_9 rfl rfl ?_
      refine z_icmp_ge (tgt := 31) hx hb dJ1_indexOfChar_4cfef_10 (by decide) (fun g10 => ?_) (fun g10 => ?_)
      · have hF := hF.trans (if_pos g10)
        have hok := And.left hok g10
        refine z_iconst (v := (-1)) hx hb dJ1_indexOfChar_4cfef_31 (by decide) ?_
        exact z_iret hx hb hlocks hr rfl hF dJ1_indexOfChar_4cfef_32
      · have hF := hF.trans (if_neg g10)
        have hok := And.right hok g10
        refine z_aload_n (j := 0) hx hb dJ1_indexOfChar_4cfef_13 rfl rfl ?_
        refine z_iload (j := 3) hx hb dJ1_indexOfChar_4cfef_14 rfl ?_
        have h16 := And.left hok
        have hok := And.right hok
        refine z_ldT (v := .int (bytf 0 (v5 : Int32).toNatClampNeg)) S hT h16 rfl dJ1_indexOfChar_4cfef_16 ?_
        refine z_iload (j := 2) hx hb dJ1_indexOfChar_4cfef_17 rfl ?_
        refine z_icmp_ne (tgt := 25) hx hb dJ1_indexOfChar_4cfef_19 (by decide) (fun g19 => ?_) (fun g19 => ?_)
        · have hF := hF.trans (if_neg g19)
          have hok := And.right hok g19
          refine z_iinc (k := 3) (v := (v5 + 1)) (lv' := [(5, .int (v5 + 1)), (0, .ref bv), (3, .int v3), (4, .int v4)]) hx hb dJ1_indexOfChar_4cfef_25 rfl rfl (by decide) rfl ?_
          refine z_goto (tgt := 7) hx hb dJ1_indexOfChar_4cfef_28 (by decide) ?_
          refine z_sub [1, 2, 3, 0] rfl ?_
          exact ih q v3 v4 (v5 + 1) hok hF
        · have hF := hF.trans (if_pos g19)
          have hok := And.left hok g19
          refine z_iload (j := 3) hx hb dJ1_indexOfChar_4cfef_22 rfl ?_
          exact z_iret hx hb hlocks hr rfl hF dJ1_indexOfChar_4cfef_24
  refine z_iload_n (j := 1) hx hb dJ1_indexOfChar_4cfef_0 rfl rfl ?_
  refine z_i2b hx hb dJ1_indexOfChar_4cfef_1 ?_
  refine z_istore (lv' := [(4, .int ((v1 : Int32).toInt8.toInt32)), (0, .ref bv), (1, .int v1), (2, .int v2), (3, .int v3)]) hx hb dJ1_indexOfChar_4cfef_2 (by decide) rfl ?_
  refine z_iload_n (j := 3) hx hb dJ1_indexOfChar_4cfef_4 rfl rfl ?_
  refine z_istore (lv' := [(5, .int v2), (4, .int ((v1 : Int32).toInt8.toInt32)), (0, .ref bv), (1, .int v1), (2, .int v2), (3, .int v3)]) hx hb dJ1_indexOfChar_4cfef_5 (by decide) rfl ?_
  refine z_sub [2, 5, 1, 0] rfl ?_
  exact b7 20 q v3 ((v1 : Int32).toInt8.toInt32) v2 hok hF
theorem hJ1_indexOfChar_4cfef : yJ1_indexOfChar_4cfef.cls ≠ "java/lang/invoke/MethodHandle" ∧ yJ1_indexOfChar_4cfef.cls ≠ "java/lang/invoke/VarHandle" ∧ (parseMethodDescriptor yJ1_indexOfChar_4cfef.desc).map (fun d => d.parameters.length) = some 4 := by decide +kernel
def fJ1_indexOf_4cfef_t0 (q : SS) (v1 : Int32) (v2 : Int32) (v3 : Int32) : Int32 × SS := (if (fJ1_canEncode_9a6ad_t0 q v1).1 = 0 then ((-1), (fJ1_canEncode_9a6ad_t0 q v1).2) else (if (if v2 < 0 then 0 else v2) < (if 11 < v3 then 11 else v3) then ((fJ1_indexOfChar_4cfef_t0 (fJ1_canEncode_9a6ad_t0 q v1).2 v1 (if v2 < 0 then 0 else v2) (if 11 < v3 then 11 else v3)).1, (fJ1_indexOfChar_4cfef_t0 (fJ1_canEncode_9a6ad_t0 q v1).2 v1 (if v2 < 0 then 0 else v2) (if 11 < v3 then 11 else v3)).2) else ((-1), (fJ1_canEncode_9a6ad_t0 q v1).2)))
def kJ1_indexOf_4cfef_t0 (q : SS) (v1 : Int32) (v2 : Int32) (v3 : Int32) : Prop := kJ1_canEncode_9a6ad_t0 q v1 ∧ (((fJ1_canEncode_9a6ad_t0 q v1).1 = 0 → True) ∧ (¬ (fJ1_canEncode_9a6ad_t0 q v1).1 = 0 → (((if v2 < 0 then 0 else v2) < (if 11 < v3 then 11 else v3) → kJ1_indexOfChar_4cfef_t0 (fJ1_canEncode_9a6ad_t0 q v1).2 v1 (if v2 < 0 then 0 else v2) (if 11 < v3 then 11 else v3) ∧ True) ∧ (¬ (if v2 < 0 then 0 else v2) < (if 11 < v3 then 11 else v3) → True))))
set_option maxHeartbeats 4000000 in
set_option maxRecDepth 100000 in
theorem ctJ1_indexOf_4cfef_t0 (l : Launch) (G : GH) (a bv : Nat) (q : SS) (v1 : Int32) (v2 : Int32) (v3 : Int32) (hok : kJ1_indexOf_4cfef_t0 q v1 v2 v3) : Ci l yJ1_indexOf_4cfef (Cond.code yJ1_indexOf_4cfef cJ1_indexOf_4cfef 4 (some .int) :: lw_G) (zr 1 0 0) 0 0 (PJ a bv 0) G G [.ref bv, .int v1, .int v2, .int v3] q (fJ1_indexOf_4cfef_t0 q v1 v2 v3) := by
  refine Ci.of (cc := cJ1_indexOf_4cfef) (maxL := 4) (ret := (some .int)) (by decide) rfl (Nat.le_of_ble_eq_true rfl) ?_
  intro p e s m args below meth c A S hr hlocks hin hA hK
  have hx := S.1
  have hb := S.2.1
  obtain ⟨hO, hco, hva, hT, hZ⟩ := id hK
  generalize hFe : fJ1_indexOf_4cfef_t0 q v1 v2 v3 = F
  have hF : F = fJ1_indexOf_4cfef_t0 q v1 v2 v3 := hFe.symm
  refine z_iload_n (j := 1) hx hb dJ1_indexOf_4cfef_0 rfl rfl ?_
  have h1 := And.left hok
  have hok := And.right hok
  refine z_callSi (As := [.int v1]) S (ctJ1_canEncode_9a6ad_t0 l G a bv q v1 h1) (va_cwS 1 S.2.2.2.2 (gS q3_176 q3_177 q1_20 q3_178) rfl rfl rfl hJ1_canEncode_9a6ad ⟨Nat.le_of_ble_eq_true rfl, Nat.le_of_ble_eq_true rfl⟩) hA (pbJ a bv 0) (psJ hK) rfl rfl (Nat.le_of_ble_eq_true rfl) dJ1_indexOf_4cfef_1 ⟨Nat.le_of_ble_eq_true rfl, Nat.le_of_ble_eq_true rfl⟩ ?_
  refine z_if_ne (tgt := 9) hx hb dJ1_indexOf_4cfef_4 (by decide) (fun g4 => ?_) (fun g4 => ?_)
  · have hF := hF.trans (if_neg g4)
    have hok := And.right hok g4
    refine z_iload_n (j := 2) hx hb dJ1_indexOf_4cfef_9 rfl rfl ?_
    refine z_iconst (v := 0) hx hb dJ1_indexOf_4cfef_10 (by decide) ?_
    refine z_mmax S q3_179 q3_180 q1_21 q3_181 (Nat.le_of_ble_eq_true rfl) (Nat.le_of_ble_eq_true rfl) (Nat.le_of_ble_eq_true rfl) (Nat.le_of_ble_eq_true rfl) dJ1_indexOf_4cfef_11 ?_
    refine z_istore_n (lv' := [(2, .int (if v2 < 0 then 0 else v2)), (0, .ref bv), (1, .int v1), (3, .int v3)]) hx hb dJ1_indexOf_4cfef_14 rfl (by decide) rfl ?_
    refine z_iload_n (j := 3) hx hb dJ1_indexOf_4cfef_15 rfl rfl ?_
    refine z_aload_n (j := 1) hx hb dJ1_indexOf_4cfef_16 rfl rfl ?_
    refine z_alenT (v := 11) S hT (by decide) dJ1_indexOf_4cfef_17 ?_
    refine z_mmin S q3_182 q3_183 q1_21 q3_184 (Nat.le_of_ble_eq_true rfl) (Nat.le_of_ble_eq_true rfl) (Nat.le_of_ble_eq_true rfl) (Nat.le_of_ble_eq_true rfl) dJ1_indexOf_4cfef_18 ?_
    refine z_istore_n (lv' := [(3, .int (if 11 < v3 then 11 else v3)), (2, .int (if v2 < 0 then 0 else v2)), (0, .ref bv), (1, .int v1)]) hx hb dJ1_indexOf_4cfef_21 rfl (by decide) rfl ?_
    refine z_iload_n (j := 1) hx hb dJ1_indexOf_4cfef_22 rfl rfl ?_
    refine z_iload_n (j := 0) hx hb dJ1_indexOf_4cfef_23 rfl rfl ?_
    refine z_icmp_lt (tgt := 29) hx hb dJ1_indexOf_4cfef_24 (by decide) (fun g24 => ?_) (fun g24 => ?_)
    · have hF := hF.trans (if_pos g24)
      have hok := And.left hok g24
      refine z_aload_n (j := 2) hx hb dJ1_indexOf_4cfef_29 rfl rfl ?_
      refine z_iload_n (j := 3) hx hb dJ1_indexOf_4cfef_30 rfl rfl ?_
      refine z_iload_n (j := 1) hx hb dJ1_indexOf_4cfef_31 rfl rfl ?_
      refine z_iload_n (j := 0) hx hb dJ1_indexOf_4cfef_32 rfl rfl ?_
      have h33 := And.left hok
      have hok := And.right hok
      refine z_callSi (As := [.ref bv, .int v1, .int (if v2 < 0 then 0 else v2), .int (if 11 < v3 then 11 else v3)]) S (ctJ1_indexOfChar_4cfef_t0 l G a bv (fJ1_canEncode_9a6ad_t0 q v1).2 v1 (if v2 < 0 then 0 else v2) (if 11 < v3 then 11 else v3) h33) (va_cwS 4 S.2.2.2.2 (gS q3_185 q3_186 q1_20 q3_187) rfl rfl rfl hJ1_indexOfChar_4cfef ⟨Nat.le_of_ble_eq_true rfl, Nat.le_of_ble_eq_true rfl⟩) hA (pbJ a bv 0) (psJ hK) rfl rfl (Nat.le_of_ble_eq_true rfl) dJ1_indexOf_4cfef_33 ⟨Nat.le_of_ble_eq_true rfl, Nat.le_of_ble_eq_true rfl⟩ ?_
      exact z_iret hx hb hlocks hr rfl hF dJ1_indexOf_4cfef_36
    · have hF := hF.trans (if_neg g24)
      have hok := And.right hok g24
      refine z_iconst (v := (-1)) hx hb dJ1_indexOf_4cfef_27 (by decide) ?_
      exact z_iret hx hb hlocks hr rfl hF dJ1_indexOf_4cfef_28
  · have hF := hF.trans (if_pos g4)
    have hok := And.left hok g4
    refine z_iconst (v := (-1)) hx hb dJ1_indexOf_4cfef_7 (by decide) ?_
    exact z_iret hx hb hlocks hr rfl hF dJ1_indexOf_4cfef_8
theorem hJ1_indexOf_4cfef : yJ1_indexOf_4cfef.cls ≠ "java/lang/invoke/MethodHandle" ∧ yJ1_indexOf_4cfef.cls ≠ "java/lang/invoke/VarHandle" ∧ (parseMethodDescriptor yJ1_indexOf_4cfef.desc).map (fun d => d.parameters.length) = some 4 := by decide +kernel
def fJ0_indexOf_7cf53_t0 (q : SS) (v1 : Int32) (v2 : Int32) : Int32 × SS := ((fJ1_indexOf_4cfef_t0 (fJ0_length_8abf5_t0 q).2 v1 v2 (fJ0_length_8abf5_t0 q).1).1, (fJ1_indexOf_4cfef_t0 (fJ0_length_8abf5_t0 q).2 v1 v2 (fJ0_length_8abf5_t0 q).1).2)
def kJ0_indexOf_7cf53_t0 (q : SS) (v1 : Int32) (v2 : Int32) : Prop := kJ0_isLatin1_aae02_t0 q ∧ kJ0_length_8abf5_t0 q ∧ kJ1_indexOf_4cfef_t0 (fJ0_length_8abf5_t0 q).2 v1 v2 (fJ0_length_8abf5_t0 q).1 ∧ True
set_option maxHeartbeats 4000000 in
set_option maxRecDepth 100000 in
theorem ctJ0_indexOf_7cf53_t0 (l : Launch) (G : GH) (a bv : Nat) (q : SS) (v1 : Int32) (v2 : Int32) (hok : kJ0_indexOf_7cf53_t0 q v1 v2) : Ci l yJ0_indexOf_7cf53 (Cond.code yJ0_indexOf_7cf53 cJ0_indexOf_7cf53 3 (some .int) :: lw_G) (zr 2 0 0) 0 0 (PJ a bv 0) G G [.ref a, .int v1, .int v2] q (fJ0_indexOf_7cf53_t0 q v1 v2) := by
  refine Ci.of (cc := cJ0_indexOf_7cf53) (maxL := 3) (ret := (some .int)) (by decide) rfl (Nat.le_of_ble_eq_true rfl) ?_
  intro p e s m args below meth c A S hr hlocks hin hA hK
  have hx := S.1
  have hb := S.2.1
  obtain ⟨hO, hco, hva, hT, hZ⟩ := id hK
  generalize hFe : fJ0_indexOf_7cf53_t0 q v1 v2 = F
  have hF : F = fJ0_indexOf_7cf53_t0 q v1 v2 := hFe.symm
  refine z_aload_n (j := 0) hx hb dJ0_indexOf_7cf53_0 rfl rfl ?_
  have h1 := And.left hok
  have hok := And.right hok
  refine z_callVi_ (As := []) S (ctJ0_isLatin1_aae02_t0 l G a bv q h1) (cwV 0 S.2.2.2.2 (gV q3_159 q3_160 q3_161 q1_18 q3_162) rfl rfl rfl hJ0_isLatin1_aae02 ⟨Nat.le_of_ble_eq_true rfl, Nat.le_of_ble_eq_true rfl⟩) hA (pbJ a bv 0) (psJ hK) (rvJ hO) rfl rfl (Nat.le_of_ble_eq_true rfl) dJ0_indexOf_7cf53_1 ⟨Nat.le_of_ble_eq_true rfl, Nat.le_of_ble_eq_true rfl⟩ ?_
  refine z_if_eq (tgt := 23) hx hb dJ0_indexOf_7cf53_4 (by decide) (fun g4 => absurd g4 (show ¬ (1 : Int32) = 0 by decide)) (fun _ => ?_)
  refine z_aload_n (j := 0) hx hb dJ0_indexOf_7cf53_7 rfl rfl ?_
  refine z_getS (v := .ref bv) S hva q8_87 rfl dJ0_indexOf_7cf53_8 ?_
  refine z_iload_n (j := 1) hx hb dJ0_indexOf_7cf53_11 rfl rfl ?_
  refine z_iload_n (j := 2) hx hb dJ0_indexOf_7cf53_12 rfl rfl ?_
  refine z_aload_n (j := 0) hx hb dJ0_indexOf_7cf53_13 rfl rfl ?_
  have h14 := And.left hok
  have hok := And.right hok
  refine z_callVi_ (As := []) S (ctJ0_length_8abf5_t0 l G a bv q h14) (cwV 0 S.2.2.2.2 (gV q3_165 q3_166 q3_167 q1_18 q3_168) rfl rfl rfl hJ0_length_8abf5 ⟨Nat.le_of_ble_eq_true rfl, Nat.le_of_ble_eq_true rfl⟩) hA (pbJ a bv 0) (psJ hK) (rvJ hO) rfl rfl (Nat.le_of_ble_eq_true rfl) dJ0_indexOf_7cf53_14 ⟨Nat.le_of_ble_eq_true rfl, Nat.le_of_ble_eq_true rfl⟩ ?_
  have h17 := And.left hok
  have hok := And.right hok
  refine z_callSi (As := [.ref bv, .int v1, .int v2, .int (fJ0_length_8abf5_t0 q).1]) S (ctJ1_indexOf_4cfef_t0 l G a bv (fJ0_length_8abf5_t0 q).2 v1 v2 (fJ0_length_8abf5_t0 q).1 h17) (va_cwS 4 S.2.2.2.2 (gS q3_173 q3_174 q1_20 q3_175) rfl rfl rfl hJ1_indexOf_4cfef ⟨Nat.le_of_ble_eq_true rfl, Nat.le_of_ble_eq_true rfl⟩) hA (pbJ a bv 0) (psJ hK) rfl rfl (Nat.le_of_ble_eq_true rfl) dJ0_indexOf_7cf53_17 ⟨Nat.le_of_ble_eq_true rfl, Nat.le_of_ble_eq_true rfl⟩ ?_
  refine z_goto (tgt := 36) hx hb dJ0_indexOf_7cf53_20 (by decide) ?_
  exact z_iret hx hb hlocks hr rfl hF dJ0_indexOf_7cf53_36
theorem hJ0_indexOf_7cf53 : yJ0_indexOf_7cf53.cls = RJ0 ∧ yJ0_indexOf_7cf53.cls ≠ "java/lang/invoke/MethodHandle" ∧ yJ0_indexOf_7cf53.cls ≠ "java/lang/invoke/VarHandle" ∧ (parseMethodDescriptor yJ0_indexOf_7cf53.desc).map (fun d => d.parameters.length) = some 2 := by decide +kernel
def fJ0_indexOf_0f7a4_t0 (q : SS) (v1 : Int32) : Int32 × SS := ((fJ0_indexOf_7cf53_t0 q v1 0).1, (fJ0_indexOf_7cf53_t0 q v1 0).2)
def kJ0_indexOf_0f7a4_t0 (q : SS) (v1 : Int32) : Prop := kJ0_indexOf_7cf53_t0 q v1 0 ∧ True
set_option maxHeartbeats 4000000 in
set_option maxRecDepth 100000 in
theorem ctJ0_indexOf_0f7a4_t0 (l : Launch) (G : GH) (a bv : Nat) (q : SS) (v1 : Int32) (hok : kJ0_indexOf_0f7a4_t0 q v1) : Ci l yJ0_indexOf_0f7a4 (Cond.code yJ0_indexOf_0f7a4 cJ0_indexOf_0f7a4 2 (some .int) :: lw_G) (zr 3 0 0) 0 0 (PJ a bv 0) G G [.ref a, .int v1] q (fJ0_indexOf_0f7a4_t0 q v1) := by
  refine Ci.of (cc := cJ0_indexOf_0f7a4) (maxL := 2) (ret := (some .int)) (by decide) rfl (Nat.le_of_ble_eq_true rfl) ?_
  intro p e s m args below meth c A S hr hlocks hin hA hK
  have hx := S.1
  have hb := S.2.1
  obtain ⟨hO, hco, hva, hT, hZ⟩ := id hK
  generalize hFe : fJ0_indexOf_0f7a4_t0 q v1 = F
  have hF : F = fJ0_indexOf_0f7a4_t0 q v1 := hFe.symm
  refine z_aload_n (j := 0) hx hb dJ0_indexOf_0f7a4_0 rfl rfl ?_
  refine z_iload_n (j := 1) hx hb dJ0_indexOf_0f7a4_1 rfl rfl ?_
  refine z_iconst (v := 0) hx hb dJ0_indexOf_0f7a4_2 (by decide) ?_
  have h3 := And.left hok
  have hok := And.right hok
  refine z_callVi_ (As := [.int v1, .int 0]) S (ctJ0_indexOf_7cf53_t0 l G a bv q v1 0 h3) (cwV 2 S.2.2.2.2 (gV q3_155 q3_156 q3_157 q1_18 q3_158) rfl rfl rfl hJ0_indexOf_7cf53 ⟨Nat.le_of_ble_eq_true rfl, Nat.le_of_ble_eq_true rfl⟩) hA (pbJ a bv 0) (psJ hK) (rvJ hO) rfl rfl (Nat.le_of_ble_eq_true rfl) dJ0_indexOf_0f7a4_3 ⟨Nat.le_of_ble_eq_true rfl, Nat.le_of_ble_eq_true rfl⟩ ?_
  exact z_iret hx hb hlocks hr rfl hF dJ0_indexOf_0f7a4_6
theorem hJ0_indexOf_0f7a4 : yJ0_indexOf_0f7a4.cls = RJ0 ∧ yJ0_indexOf_0f7a4.cls ≠ "java/lang/invoke/MethodHandle" ∧ yJ0_indexOf_0f7a4.cls ≠ "java/lang/invoke/VarHandle" ∧ (parseMethodDescriptor yJ0_indexOf_0f7a4.desc).map (fun d => d.parameters.length) = some 1 := by decide +kernel
def fJ0_coder_7d493_t1 (q : SS) : Int32 × SS := (0, q)
def kJ0_coder_7d493_t1 (q : SS) : Prop := True
set_option maxHeartbeats 4000000 in
set_option maxRecDepth 100000 in
theorem ctJ0_coder_7d493_t1 (l : Launch) (G : GH) (a bv : Nat) (q : SS) (hok : kJ0_coder_7d493_t1 q) : Ci l yJ0_coder_7d493 (Cond.code yJ0_coder_7d493 cJ0_coder_7d493 1 (some .byte) :: lw_G) (zr 0 0 0) 0 0 (PJ a bv 1) G G [.ref a] q (fJ0_coder_7d493_t1 q) := by
  refine Ci.of (cc := cJ0_coder_7d493) (maxL := 1) (ret := (some .byte)) (by decide) rfl (Nat.le_of_ble_eq_true rfl) ?_
  intro p e s m args below meth c A S hr hlocks hin hA hK
  have hx := S.1
  have hb := S.2.1
  obtain ⟨hO, hco, hva, hT, hZ⟩ := id hK
  generalize hFe : fJ0_coder_7d493_t1 q = F
  have hF : F = fJ0_coder_7d493_t1 q := hFe.symm
  refine z_gets (v := .int 1) S hZ q3_163 rfl dJ0_coder_7d493_0 ?_
  refine z_if_eq (tgt := 13) hx hb dJ0_coder_7d493_3 (by decide) (fun g3 => absurd g3 (show ¬ (1 : Int32) = 0 by decide)) (fun _ => ?_)
  refine z_aload_n (j := 0) hx hb dJ0_coder_7d493_6 rfl rfl ?_
  refine z_getS (v := .int 0) S hco q8_86 rfl dJ0_coder_7d493_7 ?_
  refine z_goto (tgt := 14) hx hb dJ0_coder_7d493_10 (by decide) ?_
  exact z_iret hx hb hlocks hr (by decide) hF dJ0_coder_7d493_14
def fJ0_isLatin1_aae02_t1 (q : SS) : Int32 × SS := (1, q)
def kJ0_isLatin1_aae02_t1 (q : SS) : Prop := True
set_option maxHeartbeats 4000000 in
set_option maxRecDepth 100000 in
theorem ctJ0_isLatin1_aae02_t1 (l : Launch) (G : GH) (a bv : Nat) (q : SS) (hok : kJ0_isLatin1_aae02_t1 q) : Ci l yJ0_isLatin1_aae02 (Cond.code yJ0_isLatin1_aae02 cJ0_isLatin1_aae02 1 (some .boolean) :: lw_G) (zr 0 0 0) 0 0 (PJ a bv 1) G G [.ref a] q (fJ0_isLatin1_aae02_t1 q) := by
  refine Ci.of (cc := cJ0_isLatin1_aae02) (maxL := 1) (ret := (some .boolean)) (by decide) rfl (Nat.le_of_ble_eq_true rfl) ?_
  intro p e s m args below meth c A S hr hlocks hin hA hK
  have hx := S.1
  have hb := S.2.1
  obtain ⟨hO, hco, hva, hT, hZ⟩ := id hK
  generalize hFe : fJ0_isLatin1_aae02_t1 q = F
  have hF : F = fJ0_isLatin1_aae02_t1 q := hFe.symm
  refine z_gets (v := .int 1) S hZ q3_163 rfl dJ0_isLatin1_aae02_0 ?_
  refine z_if_eq (tgt := 17) hx hb dJ0_isLatin1_aae02_3 (by decide) (fun g3 => absurd g3 (show ¬ (1 : Int32) = 0 by decide)) (fun _ => ?_)
  refine z_aload_n (j := 0) hx hb dJ0_isLatin1_aae02_6 rfl rfl ?_
  refine z_getS (v := .int 0) S hco q8_86 rfl dJ0_isLatin1_aae02_7 ?_
  refine z_if_ne (tgt := 17) hx hb dJ0_isLatin1_aae02_10 (by decide) (fun g10 => absurd g10 (show ¬ (¬ (0 : Int32) = 0) by decide)) (fun _ => ?_)
  refine z_iconst (v := 1) hx hb dJ0_isLatin1_aae02_13 (by decide) ?_
  refine z_goto (tgt := 18) hx hb dJ0_isLatin1_aae02_14 (by decide) ?_
  exact z_iret hx hb hlocks hr (by decide) hF dJ0_isLatin1_aae02_18
def fJ0_length_8abf5_t1 (q : SS) : Int32 × SS := (((4 : Int32) >>> (0 &&& 31)), q)
def kJ0_length_8abf5_t1 (q : SS) : Prop := kJ0_coder_7d493_t1 q ∧ True
set_option maxHeartbeats 4000000 in
set_option maxRecDepth 100000 in
theorem ctJ0_length_8abf5_t1 (l : Launch) (G : GH) (a bv : Nat) (q : SS) (hok : kJ0_length_8abf5_t1 q) : Ci l yJ0_length_8abf5 (Cond.code yJ0_length_8abf5 cJ0_length_8abf5 1 (some .int) :: lw_G) (zr 1 0 0) 0 0 (PJ a bv 1) G G [.ref a] q (fJ0_length_8abf5_t1 q) := by
  refine Ci.of (cc := cJ0_length_8abf5) (maxL := 1) (ret := (some .int)) (by decide) rfl (Nat.le_of_ble_eq_true rfl) ?_
  intro p e s m args below meth c A S hr hlocks hin hA hK
  have hx := S.1
  have hb := S.2.1
  obtain ⟨hO, hco, hva, hT, hZ⟩ := id hK
  generalize hFe : fJ0_length_8abf5_t1 q = F
  have hF : F = fJ0_length_8abf5_t1 q := hFe.symm
  refine z_aload_n (j := 0) hx hb dJ0_length_8abf5_0 rfl rfl ?_
  refine z_getS (v := .ref bv) S hva q8_87 rfl dJ0_length_8abf5_1 ?_
  refine z_alenT (v := 4) S hT (by decide) dJ0_length_8abf5_4 ?_
  refine z_aload_n (j := 0) hx hb dJ0_length_8abf5_5 rfl rfl ?_
  have h6 := And.left hok
  have hok := And.right hok
  refine z_callVi_ (As := []) S (ctJ0_coder_7d493_t1 l G a bv q h6) (cwV 0 S.2.2.2.2 (gV q3_169 q3_170 q3_171 q1_18 q3_172) rfl rfl rfl hJ0_coder_7d493 ⟨Nat.le_of_ble_eq_true rfl, Nat.le_of_ble_eq_true rfl⟩) hA (pbJ a bv 1) (psJ hK) (rvJ hO) rfl rfl (Nat.le_of_ble_eq_true rfl) dJ0_length_8abf5_6 ⟨Nat.le_of_ble_eq_true rfl, Nat.le_of_ble_eq_true rfl⟩ ?_
  refine z_ishr hx hb dJ0_length_8abf5_9 ?_
  exact z_iret hx hb hlocks hr rfl hF dJ0_length_8abf5_10
def fJ1_canEncode_9a6ad_t1_16 (q : SS) (s0 : Int32) : Int32 × SS := (s0, q)
def kJ1_canEncode_9a6ad_t1_16 (q : SS) (s0 : Int32) : Prop := narrow .boolean (.int s0) = .int s0 ∧ True
def fJ1_canEncode_9a6ad_t1_15 (q : SS) : Int32 × SS := fJ1_canEncode_9a6ad_t1_16 q 0
def kJ1_canEncode_9a6ad_t1_15 (q : SS) : Prop := kJ1_canEncode_9a6ad_t1_16 q 0
def fJ1_canEncode_9a6ad_t1 (q : SS) (v0 : Int32) : Int32 × SS := (if v0 < 0 then fJ1_canEncode_9a6ad_t1_15 q else (if 255 < v0 then fJ1_canEncode_9a6ad_t1_15 q else fJ1_canEncode_9a6ad_t1_16 q 1))
def kJ1_canEncode_9a6ad_t1 (q : SS) (v0 : Int32) : Prop := ((v0 < 0 → kJ1_canEncode_9a6ad_t1_15 q) ∧ (¬ v0 < 0 → ((255 < v0 → kJ1_canEncode_9a6ad_t1_15 q) ∧ (¬ 255 < v0 → kJ1_canEncode_9a6ad_t1_16 q 1))))
set_option maxHeartbeats 4000000 in
set_option maxRecDepth 100000 in
theorem ctJ1_canEncode_9a6ad_t1 (l : Launch) (G : GH) (a bv : Nat) (q : SS) (v0 : Int32) (hok : kJ1_canEncode_9a6ad_t1 q v0) : Ci l yJ1_canEncode_9a6ad (Cond.code yJ1_canEncode_9a6ad cJ1_canEncode_9a6ad 1 (some .boolean) :: lw_G) (zr 0 0 0) 0 0 (PJ a bv 1) G G [.int v0] q (fJ1_canEncode_9a6ad_t1 q v0) := by
  refine Ci.of (cc := cJ1_canEncode_9a6ad) (maxL := 1) (ret := (some .boolean)) (by decide) rfl (Nat.le_of_ble_eq_true rfl) ?_
  intro p e s m args below meth c A S hr hlocks hin hA hK
  have hx := S.1
  have hb := S.2.1
  obtain ⟨hO, hco, hva, hT, hZ⟩ := id hK
  generalize hFe : fJ1_canEncode_9a6ad_t1 q v0 = F
  have hF : F = fJ1_canEncode_9a6ad_t1 q v0 := hFe.symm
  have b16 : ∀ (q : SS) (s0 : Int32), kJ1_canEncode_9a6ad_t1_16 q s0 → F = fJ1_canEncode_9a6ad_t1_16 q s0 → Z p l e (zr 0 0 0) s m args below meth c 0 0 (MQ below (va_Qi (fun (x : Int32) (_ : Unit) => x = F.1) (fun _ t => G A F.2 t.heap) A) args s 0 0 A) 1 A (G A) q 16 [] [.int s0] := by
    intro q s0 hok hF
    have h16 := And.left hok
    have hok := And.right hok
    exact z_iret hx hb hlocks hr h16 hF dJ1_canEncode_9a6ad_16
  have b15 : ∀ (q : SS), kJ1_canEncode_9a6ad_t1_15 q → F = fJ1_canEncode_9a6ad_t1_15 q → Z p l e (zr 0 0 0) s m args below meth c 0 0 (MQ below (va_Qi (fun (x : Int32) (_ : Unit) => x = F.1) (fun _ t => G A F.2 t.heap) A) args s 0 0 A) 1 A (G A) q 15 [] [] := by
    intro q hok hF
    refine z_iconst (v := 0) hx hb dJ1_canEncode_9a6ad_15 (by decide) ?_
    exact b16 q 0 hok hF
  refine z_iload_n (j := 0) hx hb dJ1_canEncode_9a6ad_0 rfl rfl ?_
  refine z_if_lt (tgt := 15) hx hb dJ1_canEncode_9a6ad_1 (by decide) (fun g1 => ?_) (fun g1 => ?_)
  · have hF := hF.trans (if_pos g1)
    have hok := And.left hok g1
    refine z_sub [] rfl ?_
    exact b15 q hok hF
  · have hF := hF.trans (if_neg g1)
    have hok := And.right hok g1
    refine z_iload_n (j := 0) hx hb dJ1_canEncode_9a6ad_4 rfl rfl ?_
    refine z_sipush (v := 255) hx hb dJ1_canEncode_9a6ad_5 (by decide) ?_
    refine z_icmp_gt (tgt := 15) hx hb dJ1_canEncode_9a6ad_8 (by decide) (fun g8 => ?_) (fun g8 => ?_)
    · have hF := hF.trans (if_pos g8)
      have hok := And.left hok g8
      refine z_sub [] rfl ?_
      exact b15 q hok hF
    · have hF := hF.trans (if_neg g8)
      have hok := And.right hok g8
      refine z_iconst (v := 1) hx hb dJ1_canEncode_9a6ad_11 (by decide) ?_
      refine z_goto (tgt := 16) hx hb dJ1_canEncode_9a6ad_12 (by decide) ?_
      refine z_sub [] rfl ?_
      exact b16 q 1 hok hF
def fJ1_indexOfChar_4cfef_t1_7 : Nat → SS → Int32 → Int32 → Int32 → Int32 × SS
  | 0, q, _, _, _ => (0, q)
  | n + 1, q, v3, v4, v5 => (if v3 ≤ v5 then ((-1), q) else (if (bytf 1 (v5 : Int32).toNatClampNeg) = v4 then (v5, q) else fJ1_indexOfChar_4cfef_t1_7 n q v3 v4 (v5 + 1)))
def kJ1_indexOfChar_4cfef_t1_7 : Nat → SS → Int32 → Int32 → Int32 → Prop
  | 0, _, _, _, _ => False
  | n + 1, q, v3, v4, v5 => ((v3 ≤ v5 → True) ∧ (¬ v3 ≤ v5 → vp_in v5 4 ∧ (((bytf 1 (v5 : Int32).toNatClampNeg) = v4 → True) ∧ (¬ (bytf 1 (v5 : Int32).toNatClampNeg) = v4 → kJ1_indexOfChar_4cfef_t1_7 n q v3 v4 (v5 + 1)))))
def fJ1_indexOfChar_4cfef_t1 (q : SS) (v1 : Int32) (v2 : Int32) (v3 : Int32) : Int32 × SS := fJ1_indexOfChar_4cfef_t1_7 20 q v3 ((v1 : Int32).toInt8.toInt32) v2
def kJ1_indexOfChar_4cfef_t1 (q : SS) (v1 : Int32) (v2 : Int32) (v3 : Int32) : Prop := kJ1_indexOfChar_4cfef_t1_7 20 q v3 ((v1 : Int32).toInt8.toInt32) v2
set_option maxHeartbeats 4000000 in
set_option maxRecDepth 100000 in
theorem ctJ1_indexOfChar_4cfef_t1 (l : Launch) (G : GH) (a bv : Nat) (q : SS) (v1 : Int32) (v2 : Int32) (v3 : Int32) (hok : kJ1_indexOfChar_4cfef_t1 q v1 v2 v3) : Ci l yJ1_indexOfChar_4cfef (Cond.code yJ1_indexOfChar_4cfef cJ1_indexOfChar_4cfef 6 (some .int) :: lw_G) (zr 0 0 0) 0 0 (PJ a bv 1) G G [.ref bv, .int v1, .int v2, .int v3] q (fJ1_indexOfChar_4cfef_t1 q v1 v2 v3) := by
  refine Ci.of (cc := cJ1_indexOfChar_4cfef) (maxL := 6) (ret := (some .int)) (by decide) rfl (Nat.le_of_ble_eq_true rfl) ?_
  intro p e s m args below meth c A S hr hlocks hin hA hK
  have hx := S.1
  have hb := S.2.1
  obtain ⟨hO, hco, hva, hT, hZ⟩ := id hK
  generalize hFe : fJ1_indexOfChar_4cfef_t1 q v1 v2 v3 = F
  have hF : F = fJ1_indexOfChar_4cfef_t1 q v1 v2 v3 := hFe.symm
  have b7 : ∀ (n : Nat) (q : SS) (v3 : Int32) (v4 : Int32) (v5 : Int32), kJ1_indexOfChar_4cfef_t1_7 n q v3 v4 v5 → F = fJ1_indexOfChar_4cfef_t1_7 n q v3 v4 v5 → Z p l e (zr 0 0 0) s m args below meth c 0 0 (MQ below (va_Qi (fun (x : Int32) (_ : Unit) => x = F.1) (fun _ t => G A F.2 t.heap) A) args s 0 0 A) 6 A (G A) q 7 [(0, .ref bv), (3, .int v3), (4, .int v4), (5, .int v5)] [] := by
    intro n
    induction n with
    | zero => intro q v3 v4 v5 hok hF; exact False.elim hok
    | succ n ih =>
      intro q v3 v4 v5 hok hF
      refine z_iload (j := 3) hx hb dJ1_indexOfChar_4cfef_7 rfl ?_
      refine z_iload_n (j := 1) hx hb dJ1_indexOfChar_4cfef_9 rfl rfl ?_
      refine z_icmp_ge (tgt := 31) hx hb dJ1_indexOfChar_4cfef_10 (by decide) (fun g10 => ?_) (fun g10 => ?_)
      · have hF := hF.trans (if_pos g10)
        have hok := And.left hok g10
        refine z_iconst (v := (-1)) hx hb dJ1_indexOfChar_4cfef_31 (by decide) ?_
        exact z_iret hx hb hlocks hr rfl hF dJ1_indexOfChar_4cfef_32
      · have hF := hF.trans (if_neg g10)
        have hok := And.right hok g10
        refine z_aload_n (j := 0) hx hb dJ1_indexOfChar_4cfef_13 rfl rfl ?_
        refine z_iload (j := 3) hx hb dJ1_indexOfChar_4cfef_14 rfl ?_
        have h16 := And.left hok
        have hok := And.right hok
        refine z_ldT (v := .int (bytf 1 (v5 : Int32).toNatClampNeg)) S hT h16 rfl dJ1_indexOfChar_4cfef_16 ?_
        refine z_iload (j := 2) hx hb dJ1_indexOfChar_4cfef_17 rfl ?_
        refine z_icmp_ne (tgt := 25) hx hb dJ1_indexOfChar_4cfef_19 (by decide) (fun g19 => ?_) (fun g19 => ?_)
        · have hF := hF.trans (if_neg g19)
          have hok := And.right hok g19
          refine z_iinc (k := 3) (v := (v5 + 1)) (lv' := [(5, .int (v5 + 1)), (0, .ref bv), (3, .int v3), (4, .int v4)]) hx hb dJ1_indexOfChar_4cfef_25 rfl rfl (by decide) rfl ?_
          refine z_goto (tgt := 7) hx hb dJ1_indexOfChar_4cfef_28 (by decide) ?_
          refine z_sub [1, 2, 3, 0] rfl ?_
          exact ih q v3 v4 (v5 + 1) hok hF
        · have hF := hF.trans (if_pos g19)
          have hok := And.left hok g19
          refine z_iload (j := 3) hx hb dJ1_indexOfChar_4cfef_22 rfl ?_
          exact z_iret hx hb hlocks hr rfl hF dJ1_indexOfChar_4cfef_24
  refine z_iload_n (j := 1) hx hb dJ1_indexOfChar_4cfef_0 rfl rfl ?_
  refine z_i2b hx hb dJ1_indexOfChar_4cfef_1 ?_
  refine z_istore (lv' := [(4, .int ((v1 : Int32).toInt8.toInt32)), (0, .ref bv), (1, .int v1), (2, .int v2), (3, .int v3)]) hx hb dJ1_indexOfChar_4cfef_2 (by decide) rfl ?_
  refine z_iload_n (j := 3) hx hb dJ1_indexOfChar_4cfef_4 rfl rfl ?_
  refine z_istore (lv' := [(5, .int v2), (4, .int ((v1 : Int32).toInt8.toInt32)), (0, .ref bv), (1, .int v1), (2, .int v2), (3, .int v3)]) hx hb dJ1_indexOfChar_4cfef_5 (by decide) rfl ?_
  refine z_sub [2, 5, 1, 0] rfl ?_
  exact b7 20 q v3 ((v1 : Int32).toInt8.toInt32) v2 hok hF
def fJ1_indexOf_4cfef_t1 (q : SS) (v1 : Int32) (v2 : Int32) (v3 : Int32) : Int32 × SS := (if (fJ1_canEncode_9a6ad_t1 q v1).1 = 0 then ((-1), (fJ1_canEncode_9a6ad_t1 q v1).2) else (if (if v2 < 0 then 0 else v2) < (if 4 < v3 then 4 else v3) then ((fJ1_indexOfChar_4cfef_t1 (fJ1_canEncode_9a6ad_t1 q v1).2 v1 (if v2 < 0 then 0 else v2) (if 4 < v3 then 4 else v3)).1, (fJ1_indexOfChar_4cfef_t1 (fJ1_canEncode_9a6ad_t1 q v1).2 v1 (if v2 < 0 then 0 else v2) (if 4 < v3 then 4 else v3)).2) else ((-1), (fJ1_canEncode_9a6ad_t1 q v1).2)))
def kJ1_indexOf_4cfef_t1 (q : SS) (v1 : Int32) (v2 : Int32) (v3 : Int32) : Prop := kJ1_canEncode_9a6ad_t1 q v1 ∧ (((fJ1_canEncode_9a6ad_t1 q v1).1 = 0 → True) ∧ (¬ (fJ1_canEncode_9a6ad_t1 q v1).1 = 0 → (((if v2 < 0 then 0 else v2) < (if 4 < v3 then 4 else v3) → kJ1_indexOfChar_4cfef_t1 (fJ1_canEncode_9a6ad_t1 q v1).2 v1 (if v2 < 0 then 0 else v2) (if 4 < v3 then 4 else v3) ∧ True) ∧ (¬ (if v2 < 0 then 0 else v2) < (if 4 < v3 then 4 else v3) → True))))
set_option maxHeartbeats 4000000 in
set_option maxRecDepth 100000 in
theorem ctJ1_indexOf_4cfef_t1 (l : Launch) (G : GH) (a bv : Nat) (q : SS) (v1 : Int32) (v2 : Int32) (v3 : Int32) (hok : kJ1_indexOf_4cfef_t1 q v1 v2 v3) : Ci l yJ1_indexOf_4cfef (Cond.code yJ1_indexOf_4cfef cJ1_indexOf_4cfef 4 (some .int) :: lw_G) (zr 1 0 0) 0 0 (PJ a bv 1) G G [.ref bv, .int v1, .int v2, .int v3] q (fJ1_indexOf_4cfef_t1 q v1 v2 v3) := by
  refine Ci.of (cc := cJ1_indexOf_4cfef) (maxL := 4) (ret := (some .int)) (by decide) rfl (Nat.le_of_ble_eq_true rfl) ?_
  intro p e s m args below meth c A S hr hlocks hin hA hK
  have hx := S.1
  have hb := S.2.1
  obtain ⟨hO, hco, hva, hT, hZ⟩ := id hK
  generalize hFe : fJ1_indexOf_4cfef_t1 q v1 v2 v3 = F
  have hF : F = fJ1_indexOf_4cfef_t1 q v1 v2 v3 := hFe.symm
  refine z_iload_n (j := 1) hx hb dJ1_indexOf_4cfef_0 rfl rfl ?_
  have h1 := And.left hok
  have hok := And.right hok
  refine z_callSi (As := [.int v1]) S (ctJ1_canEncode_9a6ad_t1 l G a bv q v1 h1) (va_cwS 1 S.2.2.2.2 (gS q3_176 q3_177 q1_20 q3_178) rfl rfl rfl hJ1_canEncode_9a6ad ⟨Nat.le_of_ble_eq_true rfl, Nat.le_of_ble_eq_true rfl⟩) hA (pbJ a bv 1) (psJ hK) rfl rfl (Nat.le_of_ble_eq_true rfl) dJ1_indexOf_4cfef_1 ⟨Nat.le_of_ble_eq_true rfl, Nat.le_of_ble_eq_true rfl⟩ ?_
  refine z_if_ne (tgt := 9) hx hb dJ1_indexOf_4cfef_4 (by decide) (fun g4 => ?_) (fun g4 => ?_)
  · have hF := hF.trans (if_neg g4)
    have hok := And.right hok g4
    refine z_iload_n (j := 2) hx hb dJ1_indexOf_4cfef_9 rfl rfl ?_
    refine z_iconst (v := 0) hx hb dJ1_indexOf_4cfef_10 (by decide) ?_
    refine z_mmax S q3_179 q3_180 q1_21 q3_181 (Nat.le_of_ble_eq_true rfl) (Nat.le_of_ble_eq_true rfl) (Nat.le_of_ble_eq_true rfl) (Nat.le_of_ble_eq_true rfl) dJ1_indexOf_4cfef_11 ?_
    refine z_istore_n (lv' := [(2, .int (if v2 < 0 then 0 else v2)), (0, .ref bv), (1, .int v1), (3, .int v3)]) hx hb dJ1_indexOf_4cfef_14 rfl (by decide) rfl ?_
    refine z_iload_n (j := 3) hx hb dJ1_indexOf_4cfef_15 rfl rfl ?_
    refine z_aload_n (j := 1) hx hb dJ1_indexOf_4cfef_16 rfl rfl ?_
    refine z_alenT (v := 4) S hT (by decide) dJ1_indexOf_4cfef_17 ?_
    refine z_mmin S q3_182 q3_183 q1_21 q3_184 (Nat.le_of_ble_eq_true rfl) (Nat.le_of_ble_eq_true rfl) (Nat.le_of_ble_eq_true rfl) (Nat.le_of_ble_eq_true rfl) dJ1_indexOf_4cfef_18 ?_
    refine z_istore_n (lv' := [(3, .int (if 4 < v3 then 4 else v3)), (2, .int (if v2 < 0 then 0 else v2)), (0, .ref bv), (1, .int v1)]) hx hb dJ1_indexOf_4cfef_21 rfl (by decide) rfl ?_
    refine z_iload_n (j := 1) hx hb dJ1_indexOf_4cfef_22 rfl rfl ?_
    refine z_iload_n (j := 0) hx hb dJ1_indexOf_4cfef_23 rfl rfl ?_
    refine z_icmp_lt (tgt := 29) hx hb dJ1_indexOf_4cfef_24 (by decide) (fun g24 => ?_) (fun g24 => ?_)
    · have hF := hF.trans (if_pos g24)
      have hok := And.left hok g24
      refine z_aload_n (j := 2) hx hb dJ1_indexOf_4cfef_29 rfl rfl ?_
      refine z_iload_n (j := 3) hx hb dJ1_indexOf_4cfef_30 rfl rfl ?_
      refine z_iload_n (j := 1) hx hb dJ1_indexOf_4cfef_31 rfl rfl ?_
      refine z_iload_n (j := 0) hx hb dJ1_indexOf_4cfef_32 rfl rfl ?_
      have h33 := And.left hok
      have hok := And.right hok
      refine z_callSi (As := [.ref bv, .int v1, .int (if v2 < 0 then 0 else v2), .int (if 4 < v3 then 4 else v3)]) S (ctJ1_indexOfChar_4cfef_t1 l G a bv (fJ1_canEncode_9a6ad_t1 q v1).2 v1 (if v2 < 0 then 0 else v2) (if 4 < v3 then 4 else v3) h33) (va_cwS 4 S.2.2.2.2 (gS q3_185 q3_186 q1_20 q3_187) rfl rfl rfl hJ1_indexOfChar_4cfef ⟨Nat.le_of_ble_eq_true rfl, Nat.le_of_ble_eq_true rfl⟩) hA (pbJ a bv 1) (psJ hK) rfl rfl (Nat.le_of_ble_eq_true rfl) dJ1_indexOf_4cfef_33 ⟨Nat.le_of_ble_eq_true rfl, Nat.le_of_ble_eq_true rfl⟩ ?_
      exact z_iret hx hb hlocks hr rfl hF dJ1_indexOf_4cfef_36
    · have hF := hF.trans (if_neg g24)
      have hok := And.right hok g24
      refine z_iconst (v := (-1)) hx hb dJ1_indexOf_4cfef_27 (by decide) ?_
      exact z_iret hx hb hlocks hr rfl hF dJ1_indexOf_4cfef_28
  · have hF := hF.trans (if_pos g4)
    have hok := And.left hok g4
    refine z_iconst (v := (-1)) hx hb dJ1_indexOf_4cfef_7 (by decide) ?_
    exact z_iret hx hb hlocks hr rfl hF dJ1_indexOf_4cfef_8
def fJ0_indexOf_7cf53_t1 (q : SS) (v1 : Int32) (v2 : Int32) : Int32 × SS := ((fJ1_indexOf_4cfef_t1 (fJ0_length_8abf5_t1 q).2 v1 v2 (fJ0_length_8abf5_t1 q).1).1, (fJ1_indexOf_4cfef_t1 (fJ0_length_8abf5_t1 q).2 v1 v2 (fJ0_length_8abf5_t1 q).1).2)
def kJ0_indexOf_7cf53_t1 (q : SS) (v1 : Int32) (v2 : Int32) : Prop := kJ0_isLatin1_aae02_t1 q ∧ kJ0_length_8abf5_t1 q ∧ kJ1_indexOf_4cfef_t1 (fJ0_length_8abf5_t1 q).2 v1 v2 (fJ0_length_8abf5_t1 q).1 ∧ True
set_option maxHeartbeats 4000000 in
set_option maxRecDepth 100000 in
theorem ctJ0_indexOf_7cf53_t1 (l : Launch) (G : GH) (a bv : Nat) (q : SS) (v1 : Int32) (v2 : Int32) (hok : kJ0_indexOf_7cf53_t1 q v1 v2) : Ci l yJ0_indexOf_7cf53 (Cond.code yJ0_indexOf_7cf53 cJ0_indexOf_7cf53 3 (some .int) :: lw_G) (zr 2 0 0) 0 0 (PJ a bv 1) G G [.ref a, .int v1, .int v2] q (fJ0_indexOf_7cf53_t1 q v1 v2) := by
  refine Ci.of (cc := cJ0_indexOf_7cf53) (maxL := 3) (ret := (some .int)) (by decide) rfl (Nat.le_of_ble_eq_true rfl) ?_
  intro p e s m args below meth c A S hr hlocks hin hA hK
  have hx := S.1
  have hb := S.2.1
  obtain ⟨hO, hco, hva, hT, hZ⟩ := id hK
  generalize hFe : fJ0_indexOf_7cf53_t1 q v1 v2 = F
  have hF : F = fJ0_indexOf_7cf53_t1 q v1 v2 := hFe.symm
  refine z_aload_n (j := 0) hx hb dJ0_indexOf_7cf53_0 rfl rfl ?_
  have h1 := And.left hok
  have hok := And.right hok
  refine z_callVi_ (As := []) S (ctJ0_isLatin1_aae02_t1 l G a bv q h1) (cwV 0 S.2.2.2.2 (gV q3_159 q3_160 q3_161 q1_18 q3_162) rfl rfl rfl hJ0_isLatin1_aae02 ⟨Nat.le_of_ble_eq_true rfl, Nat.le_of_ble_eq_true rfl⟩) hA (pbJ a bv 1) (psJ hK) (rvJ hO) rfl rfl (Nat.le_of_ble_eq_true rfl) dJ0_indexOf_7cf53_1 ⟨Nat.le_of_ble_eq_true rfl, Nat.le_of_ble_eq_true rfl⟩ ?_
  refine z_if_eq (tgt := 23) hx hb dJ0_indexOf_7cf53_4 (by decide) (fun g4 => absurd g4 (show ¬ (1 : Int32) = 0 by decide)) (fun _ => ?_)
  refine z_aload_n (j := 0) hx hb dJ0_indexOf_7cf53_7 rfl rfl ?_
  refine z_getS (v := .ref bv) S hva q8_87 rfl dJ0_indexOf_7cf53_8 ?_
  refine z_iload_n (j := 1) hx hb dJ0_indexOf_7cf53_11 rfl rfl ?_
  refine z_iload_n (j := 2) hx hb dJ0_indexOf_7cf53_12 rfl rfl ?_
  refine z_aload_n (j := 0) hx hb dJ0_indexOf_7cf53_13 rfl rfl ?_
  have h14 := And.left hok
  have hok := And.right hok
  refine z_callVi_ (As := []) S (ctJ0_length_8abf5_t1 l G a bv q h14) (cwV 0 S.2.2.2.2 (gV q3_165 q3_166 q3_167 q1_18 q3_168) rfl rfl rfl hJ0_length_8abf5 ⟨Nat.le_of_ble_eq_true rfl, Nat.le_of_ble_eq_true rfl⟩) hA (pbJ a bv 1) (psJ hK) (rvJ hO) rfl rfl (Nat.le_of_ble_eq_true rfl) dJ0_indexOf_7cf53_14 ⟨Nat.le_of_ble_eq_true rfl, Nat.le_of_ble_eq_true rfl⟩ ?_
  have h17 := And.left hok
  have hok := And.right hok
  refine z_callSi (As := [.ref bv, .int v1, .int v2, .int (fJ0_length_8abf5_t1 q).1]) S (ctJ1_indexOf_4cfef_t1 l G a bv (fJ0_length_8abf5_t1 q).2 v1 v2 (fJ0_length_8abf5_t1 q).1 h17) (va_cwS 4 S.2.2.2.2 (gS q3_173 q3_174 q1_20 q3_175) rfl rfl rfl hJ1_indexOf_4cfef ⟨Nat.le_of_ble_eq_true rfl, Nat.le_of_ble_eq_true rfl⟩) hA (pbJ a bv 1) (psJ hK) rfl rfl (Nat.le_of_ble_eq_true rfl) dJ0_indexOf_7cf53_17 ⟨Nat.le_of_ble_eq_true rfl, Nat.le_of_ble_eq_true rfl⟩ ?_
  refine z_goto (tgt := 36) hx hb dJ0_indexOf_7cf53_20 (by decide) ?_
  exact z_iret hx hb hlocks hr rfl hF dJ0_indexOf_7cf53_36
def fJ0_indexOf_0f7a4_t1 (q : SS) (v1 : Int32) : Int32 × SS := ((fJ0_indexOf_7cf53_t1 q v1 0).1, (fJ0_indexOf_7cf53_t1 q v1 0).2)
def kJ0_indexOf_0f7a4_t1 (q : SS) (v1 : Int32) : Prop := kJ0_indexOf_7cf53_t1 q v1 0 ∧ True
set_option maxHeartbeats 4000000 in
set_option maxRecDepth 100000 in
theorem ctJ0_indexOf_0f7a4_t1 (l : Launch) (G : GH) (a bv : Nat) (q : SS) (v1 : Int32) (hok : kJ0_indexOf_0f7a4_t1 q v1) : Ci l yJ0_indexOf_0f7a4 (Cond.code yJ0_indexOf_0f7a4 cJ0_indexOf_0f7a4 2 (some .int) :: lw_G) (zr 3 0 0) 0 0 (PJ a bv 1) G G [.ref a, .int v1] q (fJ0_indexOf_0f7a4_t1 q v1) := by
  refine Ci.of (cc := cJ0_indexOf_0f7a4) (maxL := 2) (ret := (some .int)) (by decide) rfl (Nat.le_of_ble_eq_true rfl) ?_
  intro p e s m args below meth c A S hr hlocks hin hA hK
  have hx := S.1
  have hb := S.2.1
  obtain ⟨hO, hco, hva, hT, hZ⟩ := id hK
  generalize hFe : fJ0_indexOf_0f7a4_t1 q v1 = F
  have hF : F = fJ0_indexOf_0f7a4_t1 q v1 := hFe.symm
  refine z_aload_n (j := 0) hx hb dJ0_indexOf_0f7a4_0 rfl rfl ?_
  refine z_iload_n (j := 1) hx hb dJ0_indexOf_0f7a4_1 rfl rfl ?_
  refine z_iconst (v := 0) hx hb dJ0_indexOf_0f7a4_2 (by decide) ?_
  have h3 := And.left hok
  have hok := And.right hok
  refine z_callVi_ (As := [.int v1, .int 0]) S (ctJ0_indexOf_7cf53_t1 l G a bv q v1 0 h3) (cwV 2 S.2.2.2.2 (gV q3_155 q3_156 q3_157 q1_18 q3_158) rfl rfl rfl hJ0_indexOf_7cf53 ⟨Nat.le_of_ble_eq_true rfl, Nat.le_of_ble_eq_true rfl⟩) hA (pbJ a bv 1) (psJ hK) (rvJ hO) rfl rfl (Nat.le_of_ble_eq_true rfl) dJ0_indexOf_0f7a4_3 ⟨Nat.le_of_ble_eq_true rfl, Nat.le_of_ble_eq_true rfl⟩ ?_
  exact z_iret hx hb hlocks hr rfl hF dJ0_indexOf_0f7a4_6
def fJ0_coder_7d493_t2 (q : SS) : Int32 × SS := (0, q)
def kJ0_coder_7d493_t2 (q : SS) : Prop := True
set_option maxHeartbeats 4000000 in
set_option maxRecDepth 100000 in
theorem ctJ0_coder_7d493_t2 (l : Launch) (G : GH) (a bv : Nat) (q : SS) (hok : kJ0_coder_7d493_t2 q) : Ci l yJ0_coder_7d493 (Cond.code yJ0_coder_7d493 cJ0_coder_7d493 1 (some .byte) :: lw_G) (zr 0 0 0) 0 0 (PJ a bv 2) G G [.ref a] q (fJ0_coder_7d493_t2 q) := by
  refine Ci.of (cc := cJ0_coder_7d493) (maxL := 1) (ret := (some .byte)) (by decide) rfl (Nat.le_of_ble_eq_true rfl) ?_
  intro p e s m args below meth c A S hr hlocks hin hA hK
  have hx := S.1
  have hb := S.2.1
  obtain ⟨hO, hco, hva, hT, hZ⟩ := id hK
  generalize hFe : fJ0_coder_7d493_t2 q = F
  have hF : F = fJ0_coder_7d493_t2 q := hFe.symm
  refine z_gets (v := .int 1) S hZ q3_163 rfl dJ0_coder_7d493_0 ?_
  refine z_if_eq (tgt := 13) hx hb dJ0_coder_7d493_3 (by decide) (fun g3 => absurd g3 (show ¬ (1 : Int32) = 0 by decide)) (fun _ => ?_)
  refine z_aload_n (j := 0) hx hb dJ0_coder_7d493_6 rfl rfl ?_
  refine z_getS (v := .int 0) S hco q8_86 rfl dJ0_coder_7d493_7 ?_
  refine z_goto (tgt := 14) hx hb dJ0_coder_7d493_10 (by decide) ?_
  exact z_iret hx hb hlocks hr (by decide) hF dJ0_coder_7d493_14
def fJ0_isLatin1_aae02_t2 (q : SS) : Int32 × SS := (1, q)
def kJ0_isLatin1_aae02_t2 (q : SS) : Prop := True
set_option maxHeartbeats 4000000 in
set_option maxRecDepth 100000 in
theorem ctJ0_isLatin1_aae02_t2 (l : Launch) (G : GH) (a bv : Nat) (q : SS) (hok : kJ0_isLatin1_aae02_t2 q) : Ci l yJ0_isLatin1_aae02 (Cond.code yJ0_isLatin1_aae02 cJ0_isLatin1_aae02 1 (some .boolean) :: lw_G) (zr 0 0 0) 0 0 (PJ a bv 2) G G [.ref a] q (fJ0_isLatin1_aae02_t2 q) := by
  refine Ci.of (cc := cJ0_isLatin1_aae02) (maxL := 1) (ret := (some .boolean)) (by decide) rfl (Nat.le_of_ble_eq_true rfl) ?_
  intro p e s m args below meth c A S hr hlocks hin hA hK
  have hx := S.1
  have hb := S.2.1
  obtain ⟨hO, hco, hva, hT, hZ⟩ := id hK
  generalize hFe : fJ0_isLatin1_aae02_t2 q = F
  have hF : F = fJ0_isLatin1_aae02_t2 q := hFe.symm
  refine z_gets (v := .int 1) S hZ q3_163 rfl dJ0_isLatin1_aae02_0 ?_
  refine z_if_eq (tgt := 17) hx hb dJ0_isLatin1_aae02_3 (by decide) (fun g3 => absurd g3 (show ¬ (1 : Int32) = 0 by decide)) (fun _ => ?_)
  refine z_aload_n (j := 0) hx hb dJ0_isLatin1_aae02_6 rfl rfl ?_
  refine z_getS (v := .int 0) S hco q8_86 rfl dJ0_isLatin1_aae02_7 ?_
  refine z_if_ne (tgt := 17) hx hb dJ0_isLatin1_aae02_10 (by decide) (fun g10 => absurd g10 (show ¬ (¬ (0 : Int32) = 0) by decide)) (fun _ => ?_)
  refine z_iconst (v := 1) hx hb dJ0_isLatin1_aae02_13 (by decide) ?_
  refine z_goto (tgt := 18) hx hb dJ0_isLatin1_aae02_14 (by decide) ?_
  exact z_iret hx hb hlocks hr (by decide) hF dJ0_isLatin1_aae02_18
def fJ0_length_8abf5_t2 (q : SS) : Int32 × SS := (((12 : Int32) >>> (0 &&& 31)), q)
def kJ0_length_8abf5_t2 (q : SS) : Prop := kJ0_coder_7d493_t2 q ∧ True
set_option maxHeartbeats 4000000 in
set_option maxRecDepth 100000 in
theorem ctJ0_length_8abf5_t2 (l : Launch) (G : GH) (a bv : Nat) (q : SS) (hok : kJ0_length_8abf5_t2 q) : Ci l yJ0_length_8abf5 (Cond.code yJ0_length_8abf5 cJ0_length_8abf5 1 (some .int) :: lw_G) (zr 1 0 0) 0 0 (PJ a bv 2) G G [.ref a] q (fJ0_length_8abf5_t2 q) := by
  refine Ci.of (cc := cJ0_length_8abf5) (maxL := 1) (ret := (some .int)) (by decide) rfl (Nat.le_of_ble_eq_true rfl) ?_
  intro p e s m args below meth c A S hr hlocks hin hA hK
  have hx := S.1
  have hb := S.2.1
  obtain ⟨hO, hco, hva, hT, hZ⟩ := id hK
  generalize hFe : fJ0_length_8abf5_t2 q = F
  have hF : F = fJ0_length_8abf5_t2 q := hFe.symm
  refine z_aload_n (j := 0) hx hb dJ0_length_8abf5_0 rfl rfl ?_
  refine z_getS (v := .ref bv) S hva q8_87 rfl dJ0_length_8abf5_1 ?_
  refine z_alenT (v := 12) S hT (by decide) dJ0_length_8abf5_4 ?_
  refine z_aload_n (j := 0) hx hb dJ0_length_8abf5_5 rfl rfl ?_
  have h6 := And.left hok
  have hok := And.right hok
  refine z_callVi_ (As := []) S (ctJ0_coder_7d493_t2 l G a bv q h6) (cwV 0 S.2.2.2.2 (gV q3_169 q3_170 q3_171 q1_18 q3_172) rfl rfl rfl hJ0_coder_7d493 ⟨Nat.le_of_ble_eq_true rfl, Nat.le_of_ble_eq_true rfl⟩) hA (pbJ a bv 2) (psJ hK) (rvJ hO) rfl rfl (Nat.le_of_ble_eq_true rfl) dJ0_length_8abf5_6 ⟨Nat.le_of_ble_eq_true rfl, Nat.le_of_ble_eq_true rfl⟩ ?_
  refine z_ishr hx hb dJ0_length_8abf5_9 ?_
  exact z_iret hx hb hlocks hr rfl hF dJ0_length_8abf5_10
def fJ1_canEncode_9a6ad_t2_16 (q : SS) (s0 : Int32) : Int32 × SS := (s0, q)
def kJ1_canEncode_9a6ad_t2_16 (q : SS) (s0 : Int32) : Prop := narrow .boolean (.int s0) = .int s0 ∧ True
def fJ1_canEncode_9a6ad_t2_15 (q : SS) : Int32 × SS := fJ1_canEncode_9a6ad_t2_16 q 0
def kJ1_canEncode_9a6ad_t2_15 (q : SS) : Prop := kJ1_canEncode_9a6ad_t2_16 q 0
def fJ1_canEncode_9a6ad_t2 (q : SS) (v0 : Int32) : Int32 × SS := (if v0 < 0 then fJ1_canEncode_9a6ad_t2_15 q else (if 255 < v0 then fJ1_canEncode_9a6ad_t2_15 q else fJ1_canEncode_9a6ad_t2_16 q 1))
def kJ1_canEncode_9a6ad_t2 (q : SS) (v0 : Int32) : Prop := ((v0 < 0 → kJ1_canEncode_9a6ad_t2_15 q) ∧ (¬ v0 < 0 → ((255 < v0 → kJ1_canEncode_9a6ad_t2_15 q) ∧ (¬ 255 < v0 → kJ1_canEncode_9a6ad_t2_16 q 1))))
set_option maxHeartbeats 4000000 in
set_option maxRecDepth 100000 in
theorem ctJ1_canEncode_9a6ad_t2 (l : Launch) (G : GH) (a bv : Nat) (q : SS) (v0 : Int32) (hok : kJ1_canEncode_9a6ad_t2 q v0) : Ci l yJ1_canEncode_9a6ad (Cond.code yJ1_canEncode_9a6ad cJ1_canEncode_9a6ad 1 (some .boolean) :: lw_G) (zr 0 0 0) 0 0 (PJ a bv 2) G G [.int v0] q (fJ1_canEncode_9a6ad_t2 q v0) := by
  refine Ci.of (cc := cJ1_canEncode_9a6ad) (maxL := 1) (ret := (some .boolean)) (by decide) rfl (Nat.le_of_ble_eq_true rfl) ?_
  intro p e s m args below meth c A S hr hlocks hin hA hK
  have hx := S.1
  have hb := S.2.1
  obtain ⟨hO, hco, hva, hT, hZ⟩ := id hK
  generalize hFe : fJ1_canEncode_9a6ad_t2 q v0 = F
  have hF : F = fJ1_canEncode_9a6ad_t2 q v0 := hFe.symm
  have b16 : ∀ (q : SS) (s0 : Int32), kJ1_canEncode_9a6ad_t2_16 q s0 → F = fJ1_canEncode_9a6ad_t2_16 q s0 → Z p l e (zr 0 0 0) s m args below meth c 0 0 (MQ below (va_Qi (fun (x : Int32) (_ : Unit) => x = F.1) (fun _ t => G A F.2 t.heap) A) args s 0 0 A) 1 A (G A) q 16 [] [.int s0] := by
    intro q s0 hok hF
    have h16 := And.left hok
    have hok := And.right hok
    exact z_iret hx hb hlocks hr h16 hF dJ1_canEncode_9a6ad_16
  have b15 : ∀ (q : SS), kJ1_canEncode_9a6ad_t2_15 q → F = fJ1_canEncode_9a6ad_t2_15 q → Z p l e (zr 0 0 0) s m args below meth c 0 0 (MQ below (va_Qi (fun (x : Int32) (_ : Unit) => x = F.1) (fun _ t => G A F.2 t.heap) A) args s 0 0 A) 1 A (G A) q 15 [] [] := by
    intro q hok hF
    refine z_iconst (v := 0) hx hb dJ1_canEncode_9a6ad_15 (by decide) ?_
    exact b16 q 0 hok hF
  refine z_iload_n (j := 0) hx hb dJ1_canEncode_9a6ad_0 rfl rfl ?_
  refine z_if_lt (tgt := 15) hx hb dJ1_canEncode_9a6ad_1 (by decide) (fun g1 => ?_) (fun g1 => ?_)
  · have hF := hF.trans (if_pos g1)
    have hok := And.left hok g1
    refine z_sub [] rfl ?_
    exact b15 q hok hF
  · have hF := hF.trans (if_neg g1)
    have hok := And.right hok g1
    refine z_iload_n (j := 0) hx hb dJ1_canEncode_9a6ad_4 rfl rfl ?_
    refine z_sipush (v := 255) hx hb dJ1_canEncode_9a6ad_5 (by decide) ?_
    refine z_icmp_gt (tgt := 15) hx hb dJ1_canEncode_9a6ad_8 (by decide) (fun g8 => ?_) (fun g8 => ?_)
    · have hF := hF.trans (if_pos g8)
      have hok := And.left hok g8
      refine z_sub [] rfl ?_
      exact b15 q hok hF
    · have hF := hF.trans (if_neg g8)
      have hok := And.right hok g8
      refine z_iconst (v := 1) hx hb dJ1_canEncode_9a6ad_11 (by decide) ?_
      refine z_goto (tgt := 16) hx hb dJ1_canEncode_9a6ad_12 (by decide) ?_
      refine z_sub [] rfl ?_
      exact b16 q 1 hok hF
def fJ1_indexOfChar_4cfef_t2_7 : Nat → SS → Int32 → Int32 → Int32 → Int32 × SS
  | 0, q, _, _, _ => (0, q)
  | n + 1, q, v3, v4, v5 => (if v3 ≤ v5 then ((-1), q) else (if (bytf 2 (v5 : Int32).toNatClampNeg) = v4 then (v5, q) else fJ1_indexOfChar_4cfef_t2_7 n q v3 v4 (v5 + 1)))
def kJ1_indexOfChar_4cfef_t2_7 : Nat → SS → Int32 → Int32 → Int32 → Prop
  | 0, _, _, _, _ => False
  | n + 1, q, v3, v4, v5 => ((v3 ≤ v5 → True) ∧ (¬ v3 ≤ v5 → vp_in v5 12 ∧ (((bytf 2 (v5 : Int32).toNatClampNeg) = v4 → True) ∧ (¬ (bytf 2 (v5 : Int32).toNatClampNeg) = v4 → kJ1_indexOfChar_4cfef_t2_7 n q v3 v4 (v5 + 1)))))
def fJ1_indexOfChar_4cfef_t2 (q : SS) (v1 : Int32) (v2 : Int32) (v3 : Int32) : Int32 × SS := fJ1_indexOfChar_4cfef_t2_7 20 q v3 ((v1 : Int32).toInt8.toInt32) v2
def kJ1_indexOfChar_4cfef_t2 (q : SS) (v1 : Int32) (v2 : Int32) (v3 : Int32) : Prop := kJ1_indexOfChar_4cfef_t2_7 20 q v3 ((v1 : Int32).toInt8.toInt32) v2
set_option maxHeartbeats 4000000 in
set_option maxRecDepth 100000 in
theorem ctJ1_indexOfChar_4cfef_t2 (l : Launch) (G : GH) (a bv : Nat) (q : SS) (v1 : Int32) (v2 : Int32) (v3 : Int32) (hok : kJ1_indexOfChar_4cfef_t2 q v1 v2 v3) : Ci l yJ1_indexOfChar_4cfef (Cond.code yJ1_indexOfChar_4cfef cJ1_indexOfChar_4cfef 6 (some .int) :: lw_G) (zr 0 0 0) 0 0 (PJ a bv 2) G G [.ref bv, .int v1, .int v2, .int v3] q (fJ1_indexOfChar_4cfef_t2 q v1 v2 v3) := by
  refine Ci.of (cc := cJ1_indexOfChar_4cfef) (maxL := 6) (ret := (some .int)) (by decide) rfl (Nat.le_of_ble_eq_true rfl) ?_
  intro p e s m args below meth c A S hr hlocks hin hA hK
  have hx := S.1
  have hb := S.2.1
  obtain ⟨hO, hco, hva, hT, hZ⟩ := id hK
  generalize hFe : fJ1_indexOfChar_4cfef_t2 q v1 v2 v3 = F
  have hF : F = fJ1_indexOfChar_4cfef_t2 q v1 v2 v3 := hFe.symm
  have b7 : ∀ (n : Nat) (q : SS) (v3 : Int32) (v4 : Int32) (v5 : Int32), kJ1_indexOfChar_4cfef_t2_7 n q v3 v4 v5 → F = fJ1_indexOfChar_4cfef_t2_7 n q v3 v4 v5 → Z p l e (zr 0 0 0) s m args below meth c 0 0 (MQ below (va_Qi (fun (x : Int32) (_ : Unit) => x = F.1) (fun _ t => G A F.2 t.heap) A) args s 0 0 A) 6 A (G A) q 7 [(0, .ref bv), (3, .int v3), (4, .int v4), (5, .int v5)] [] := by
    intro n
    induction n with
    | zero => intro q v3 v4 v5 hok hF; exact False.elim hok
    | succ n ih =>
      intro q v3 v4 v5 hok hF
      refine z_iload (j := 3) hx hb dJ1_indexOfChar_4cfef_7 rfl ?_
      refine z_iload_n (j := 1) hx hb dJ1_indexOfChar_4cfef_9 rfl rfl ?_
      refine z_icmp_ge (tgt := 31) hx hb dJ1_indexOfChar_4cfef_10 (by decide) (fun g10 => ?_) (fun g10 => ?_)
      · have hF := hF.trans (if_pos g10)
        have hok := And.left hok g10
        refine z_iconst (v := (-1)) hx hb dJ1_indexOfChar_4cfef_31 (by decide) ?_
        exact z_iret hx hb hlocks hr rfl hF dJ1_indexOfChar_4cfef_32
      · have hF := hF.trans (if_neg g10)
        have hok := And.right hok g10
        refine z_aload_n (j := 0) hx hb dJ1_indexOfChar_4cfef_13 rfl rfl ?_
        refine z_iload (j := 3) hx hb dJ1_indexOfChar_4cfef_14 rfl ?_
        have h16 := And.left hok
        have hok := And.right hok
        refine z_ldT (v := .int (bytf 2 (v5 : Int32).toNatClampNeg)) S hT h16 rfl dJ1_indexOfChar_4cfef_16 ?_
        refine z_iload (j := 2) hx hb dJ1_indexOfChar_4cfef_17 rfl ?_
        refine z_icmp_ne (tgt := 25) hx hb dJ1_indexOfChar_4cfef_19 (by decide) (fun g19 => ?_) (fun g19 => ?_)
        · have hF := hF.trans (if_neg g19)
          have hok := And.right hok g19
          refine z_iinc (k := 3) (v := (v5 + 1)) (lv' := [(5, .int (v5 + 1)), (0, .ref bv), (3, .int v3), (4, .int v4)]) hx hb dJ1_indexOfChar_4cfef_25 rfl rfl (by decide) rfl ?_
          refine z_goto (tgt := 7) hx hb dJ1_indexOfChar_4cfef_28 (by decide) ?_
          refine z_sub [1, 2, 3, 0] rfl ?_
          exact ih q v3 v4 (v5 + 1) hok hF
        · have hF := hF.trans (if_pos g19)
          have hok := And.left hok g19
          refine z_iload (j := 3) hx hb dJ1_indexOfChar_4cfef_22 rfl ?_
          exact z_iret hx hb hlocks hr rfl hF dJ1_indexOfChar_4cfef_24
  refine z_iload_n (j := 1) hx hb dJ1_indexOfChar_4cfef_0 rfl rfl ?_
  refine z_i2b hx hb dJ1_indexOfChar_4cfef_1 ?_
  refine z_istore (lv' := [(4, .int ((v1 : Int32).toInt8.toInt32)), (0, .ref bv), (1, .int v1), (2, .int v2), (3, .int v3)]) hx hb dJ1_indexOfChar_4cfef_2 (by decide) rfl ?_
  refine z_iload_n (j := 3) hx hb dJ1_indexOfChar_4cfef_4 rfl rfl ?_
  refine z_istore (lv' := [(5, .int v2), (4, .int ((v1 : Int32).toInt8.toInt32)), (0, .ref bv), (1, .int v1), (2, .int v2), (3, .int v3)]) hx hb dJ1_indexOfChar_4cfef_5 (by decide) rfl ?_
  refine z_sub [2, 5, 1, 0] rfl ?_
  exact b7 20 q v3 ((v1 : Int32).toInt8.toInt32) v2 hok hF
def fJ1_indexOf_4cfef_t2 (q : SS) (v1 : Int32) (v2 : Int32) (v3 : Int32) : Int32 × SS := (if (fJ1_canEncode_9a6ad_t2 q v1).1 = 0 then ((-1), (fJ1_canEncode_9a6ad_t2 q v1).2) else (if (if v2 < 0 then 0 else v2) < (if 12 < v3 then 12 else v3) then ((fJ1_indexOfChar_4cfef_t2 (fJ1_canEncode_9a6ad_t2 q v1).2 v1 (if v2 < 0 then 0 else v2) (if 12 < v3 then 12 else v3)).1, (fJ1_indexOfChar_4cfef_t2 (fJ1_canEncode_9a6ad_t2 q v1).2 v1 (if v2 < 0 then 0 else v2) (if 12 < v3 then 12 else v3)).2) else ((-1), (fJ1_canEncode_9a6ad_t2 q v1).2)))
def kJ1_indexOf_4cfef_t2 (q : SS) (v1 : Int32) (v2 : Int32) (v3 : Int32) : Prop := kJ1_canEncode_9a6ad_t2 q v1 ∧ (((fJ1_canEncode_9a6ad_t2 q v1).1 = 0 → True) ∧ (¬ (fJ1_canEncode_9a6ad_t2 q v1).1 = 0 → (((if v2 < 0 then 0 else v2) < (if 12 < v3 then 12 else v3) → kJ1_indexOfChar_4cfef_t2 (fJ1_canEncode_9a6ad_t2 q v1).2 v1 (if v2 < 0 then 0 else v2) (if 12 < v3 then 12 else v3) ∧ True) ∧ (¬ (if v2 < 0 then 0 else v2) < (if 12 < v3 then 12 else v3) → True))))
set_option maxHeartbeats 4000000 in
set_option maxRecDepth 100000 in
theorem ctJ1_indexOf_4cfef_t2 (l : Launch) (G : GH) (a bv : Nat) (q : SS) (v1 : Int32) (v2 : Int32) (v3 : Int32) (hok : kJ1_indexOf_4cfef_t2 q v1 v2 v3) : Ci l yJ1_indexOf_4cfef (Cond.code yJ1_indexOf_4cfef cJ1_indexOf_4cfef 4 (some .int) :: lw_G) (zr 1 0 0) 0 0 (PJ a bv 2) G G [.ref bv, .int v1, .int v2, .int v3] q (fJ1_indexOf_4cfef_t2 q v1 v2 v3) := by
  refine Ci.of (cc := cJ1_indexOf_4cfef) (maxL := 4) (ret := (some .int)) (by decide) rfl (Nat.le_of_ble_eq_true rfl) ?_
  intro p e s m args below meth c A S hr hlocks hin hA hK
  have hx := S.1
  have hb := S.2.1
  obtain ⟨hO, hco, hva, hT, hZ⟩ := id hK
  generalize hFe : fJ1_indexOf_4cfef_t2 q v1 v2 v3 = F
  have hF : F = fJ1_indexOf_4cfef_t2 q v1 v2 v3 := hFe.symm
  refine z_iload_n (j := 1) hx hb dJ1_indexOf_4cfef_0 rfl rfl ?_
  have h1 := And.left hok
  have hok := And.right hok
  refine z_callSi (As := [.int v1]) S (ctJ1_canEncode_9a6ad_t2 l G a bv q v1 h1) (va_cwS 1 S.2.2.2.2 (gS q3_176 q3_177 q1_20 q3_178) rfl rfl rfl hJ1_canEncode_9a6ad ⟨Nat.le_of_ble_eq_true rfl, Nat.le_of_ble_eq_true rfl⟩) hA (pbJ a bv 2) (psJ hK) rfl rfl (Nat.le_of_ble_eq_true rfl) dJ1_indexOf_4cfef_1 ⟨Nat.le_of_ble_eq_true rfl, Nat.le_of_ble_eq_true rfl⟩ ?_
  refine z_if_ne (tgt := 9) hx hb dJ1_indexOf_4cfef_4 (by decide) (fun g4 => ?_) (fun g4 => ?_)
  · have hF := hF.trans (if_neg g4)
    have hok := And.right hok g4
    refine z_iload_n (j := 2) hx hb dJ1_indexOf_4cfef_9 rfl rfl ?_
    refine z_iconst (v := 0) hx hb dJ1_indexOf_4cfef_10 (by decide) ?_
    refine z_mmax S q3_179 q3_180 q1_21 q3_181 (Nat.le_of_ble_eq_true rfl) (Nat.le_of_ble_eq_true rfl) (Nat.le_of_ble_eq_true rfl) (Nat.le_of_ble_eq_true rfl) dJ1_indexOf_4cfef_11 ?_
    refine z_istore_n (lv' := [(2, .int (if v2 < 0 then 0 else v2)), (0, .ref bv), (1, .int v1), (3, .int v3)]) hx hb dJ1_indexOf_4cfef_14 rfl (by decide) rfl ?_
    refine z_iload_n (j := 3) hx hb dJ1_indexOf_4cfef_15 rfl rfl ?_
    refine z_aload_n (j := 1) hx hb dJ1_indexOf_4cfef_16 rfl rfl ?_
    refine z_alenT (v := 12) S hT (by decide) dJ1_indexOf_4cfef_17 ?_
    refine z_mmin S q3_182 q3_183 q1_21 q3_184 (Nat.le_of_ble_eq_true rfl) (Nat.le_of_ble_eq_true rfl) (Nat.le_of_ble_eq_true rfl) (Nat.le_of_ble_eq_true rfl) dJ1_indexOf_4cfef_18 ?_
    refine z_istore_n (lv' := [(3, .int (if 12 < v3 then 12 else v3)), (2, .int (if v2 < 0 then 0 else v2)), (0, .ref bv), (1, .int v1)]) hx hb dJ1_indexOf_4cfef_21 rfl (by decide) rfl ?_
    refine z_iload_n (j := 1) hx hb dJ1_indexOf_4cfef_22 rfl rfl ?_
    refine z_iload_n (j := 0) hx hb dJ1_indexOf_4cfef_23 rfl rfl ?_
    refine z_icmp_lt (tgt := 29) hx hb dJ1_indexOf_4cfef_24 (by decide) (fun g24 => ?_) (fun g24 => ?_)
    · have hF := hF.trans (if_pos g24)
      have hok := And.left hok g24
      refine z_aload_n (j := 2) hx hb dJ1_indexOf_4cfef_29 rfl rfl ?_
      refine z_iload_n (j := 3) hx hb dJ1_indexOf_4cfef_30 rfl rfl ?_
      refine z_iload_n (j := 1) hx hb dJ1_indexOf_4cfef_31 rfl rfl ?_
      refine z_iload_n (j := 0) hx hb dJ1_indexOf_4cfef_32 rfl rfl ?_
      have h33 := And.left hok
      have hok := And.right hok
      refine z_callSi (As := [.ref bv, .int v1, .int (if v2 < 0 then 0 else v2), .int (if 12 < v3 then 12 else v3)]) S (ctJ1_indexOfChar_4cfef_t2 l G a bv (fJ1_canEncode_9a6ad_t2 q v1).2 v1 (if v2 < 0 then 0 else v2) (if 12 < v3 then 12 else v3) h33) (va_cwS 4 S.2.2.2.2 (gS q3_185 q3_186 q1_20 q3_187) rfl rfl rfl hJ1_indexOfChar_4cfef ⟨Nat.le_of_ble_eq_true rfl, Nat.le_of_ble_eq_true rfl⟩) hA (pbJ a bv 2) (psJ hK) rfl rfl (Nat.le_of_ble_eq_true rfl) dJ1_indexOf_4cfef_33 ⟨Nat.le_of_ble_eq_true rfl, Nat.le_of_ble_eq_true rfl⟩ ?_
      exact z_iret hx hb hlocks hr rfl hF dJ1_indexOf_4cfef_36
    · have hF := hF.trans (if_neg g24)
      have hok := And.right hok g24
      refine z_iconst (v := (-1)) hx hb dJ1_indexOf_4cfef_27 (by decide) ?_
      exact z_iret hx hb hlocks hr rfl hF dJ1_indexOf_4cfef_28
  · have hF := hF.trans (if_pos g4)
    have hok := And.left hok g4
    refine z_iconst (v := (-1)) hx hb dJ1_indexOf_4cfef_7 (by decide) ?_
    exact z_iret hx hb hlocks hr rfl hF dJ1_indexOf_4cfef_8
def fJ0_indexOf_7cf53_t2 (q : SS) (v1 : Int32) (v2 : Int32) : Int32 × SS := ((fJ1_indexOf_4cfef_t2 (fJ0_length_8abf5_t2 q).2 v1 v2 (fJ0_length_8abf5_t2 q).1).1, (fJ1_indexOf_4cfef_t2 (fJ0_length_8abf5_t2 q).2 v1 v2 (fJ0_length_8abf5_t2 q).1).2)
def kJ0_indexOf_7cf53_t2 (q : SS) (v1 : Int32) (v2 : Int32) : Prop := kJ0_isLatin1_aae02_t2 q ∧ kJ0_length_8abf5_t2 q ∧ kJ1_indexOf_4cfef_t2 (fJ0_length_8abf5_t2 q).2 v1 v2 (fJ0_length_8abf5_t2 q).1 ∧ True
set_option maxHeartbeats 4000000 in
set_option maxRecDepth 100000 in
theorem ctJ0_indexOf_7cf53_t2 (l : Launch) (G : GH) (a bv : Nat) (q : SS) (v1 : Int32) (v2 : Int32) (hok : kJ0_indexOf_7cf53_t2 q v1 v2) : Ci l yJ0_indexOf_7cf53 (Cond.code yJ0_indexOf_7cf53 cJ0_indexOf_7cf53 3 (some .int) :: lw_G) (zr 2 0 0) 0 0 (PJ a bv 2) G G [.ref a, .int v1, .int v2] q (fJ0_indexOf_7cf53_t2 q v1 v2) := by
  refine Ci.of (cc := cJ0_indexOf_7cf53) (maxL := 3) (ret := (some .int)) (by decide) rfl (Nat.le_of_ble_eq_true rfl) ?_
  intro p e s m args below meth c A S hr hlocks hin hA hK
  have hx := S.1
  have hb := S.2.1
  obtain ⟨hO, hco, hva, hT, hZ⟩ := id hK
  generalize hFe : fJ0_indexOf_7cf53_t2 q v1 v2 = F
  have hF : F = fJ0_indexOf_7cf53_t2 q v1 v2 := hFe.symm
  refine z_aload_n (j := 0) hx hb dJ0_indexOf_7cf53_0 rfl rfl ?_
  have h1 := And.left hok
  have hok := And.right hok
  refine z_callVi_ (As := []) S (ctJ0_isLatin1_aae02_t2 l G a bv q h1) (cwV 0 S.2.2.2.2 (gV q3_159 q3_160 q3_161 q1_18 q3_162) rfl rfl rfl hJ0_isLatin1_aae02 ⟨Nat.le_of_ble_eq_true rfl, Nat.le_of_ble_eq_true rfl⟩) hA (pbJ a bv 2) (psJ hK) (rvJ hO) rfl rfl (Nat.le_of_ble_eq_true rfl) dJ0_indexOf_7cf53_1 ⟨Nat.le_of_ble_eq_true rfl, Nat.le_of_ble_eq_true rfl⟩ ?_
  refine z_if_eq (tgt := 23) hx hb dJ0_indexOf_7cf53_4 (by decide) (fun g4 => absurd g4 (show ¬ (1 : Int32) = 0 by decide)) (fun _ => ?_)
  refine z_aload_n (j := 0) hx hb dJ0_indexOf_7cf53_7 rfl rfl ?_
  refine z_getS (v := .ref bv) S hva q8_87 rfl dJ0_indexOf_7cf53_8 ?_
  refine z_iload_n (j := 1) hx hb dJ0_indexOf_7cf53_11 rfl rfl ?_
  refine z_iload_n (j := 2) hx hb dJ0_indexOf_7cf53_12 rfl rfl ?_
  refine z_aload_n (j := 0) hx hb dJ0_indexOf_7cf53_13 rfl rfl ?_
  have h14 := And.left hok
  have hok := And.right hok
  refine z_callVi_ (As := []) S (ctJ0_length_8abf5_t2 l G a bv q h14) (cwV 0 S.2.2.2.2 (gV q3_165 q3_166 q3_167 q1_18 q3_168) rfl rfl rfl hJ0_length_8abf5 ⟨Nat.le_of_ble_eq_true rfl, Nat.le_of_ble_eq_true rfl⟩) hA (pbJ a bv 2) (psJ hK) (rvJ hO) rfl rfl (Nat.le_of_ble_eq_true rfl) dJ0_indexOf_7cf53_14 ⟨Nat.le_of_ble_eq_true rfl, Nat.le_of_ble_eq_true rfl⟩ ?_
  have h17 := And.left hok
  have hok := And.right hok
  refine z_callSi (As := [.ref bv, .int v1, .int v2, .int (fJ0_length_8abf5_t2 q).1]) S (ctJ1_indexOf_4cfef_t2 l G a bv (fJ0_length_8abf5_t2 q).2 v1 v2 (fJ0_length_8abf5_t2 q).1 h17) (va_cwS 4 S.2.2.2.2 (gS q3_173 q3_174 q1_20 q3_175) rfl rfl rfl hJ1_indexOf_4cfef ⟨Nat.le_of_ble_eq_true rfl, Nat.le_of_ble_eq_true rfl⟩) hA (pbJ a bv 2) (psJ hK) rfl rfl (Nat.le_of_ble_eq_true rfl) dJ0_indexOf_7cf53_17 ⟨Nat.le_of_ble_eq_true rfl, Nat.le_of_ble_eq_true rfl⟩ ?_
  refine z_goto (tgt := 36) hx hb dJ0_indexOf_7cf53_20 (by decide) ?_
  exact z_iret hx hb hlocks hr rfl hF dJ0_indexOf_7cf53_36
def fJ0_indexOf_0f7a4_t2 (q : SS) (v1 : Int32) : Int32 × SS := ((fJ0_indexOf_7cf53_t2 q v1 0).1, (fJ0_indexOf_7cf53_t2 q v1 0).2)
def kJ0_indexOf_0f7a4_t2 (q : SS) (v1 : Int32) : Prop := kJ0_indexOf_7cf53_t2 q v1 0 ∧ True
set_option maxHeartbeats 4000000 in
set_option maxRecDepth 100000 in
theorem ctJ0_indexOf_0f7a4_t2 (l : Launch) (G : GH) (a bv : Nat) (q : SS) (v1 : Int32) (hok : kJ0_indexOf_0f7a4_t2 q v1) : Ci l yJ0_indexOf_0f7a4 (Cond.code yJ0_indexOf_0f7a4 cJ0_indexOf_0f7a4 2 (some .int) :: lw_G) (zr 3 0 0) 0 0 (PJ a bv 2) G G [.ref a, .int v1] q (fJ0_indexOf_0f7a4_t2 q v1) := by
  refine Ci.of (cc := cJ0_indexOf_0f7a4) (maxL := 2) (ret := (some .int)) (by decide) rfl (Nat.le_of_ble_eq_true rfl) ?_
  intro p e s m args below meth c A S hr hlocks hin hA hK
  have hx := S.1
  have hb := S.2.1
  obtain ⟨hO, hco, hva, hT, hZ⟩ := id hK
  generalize hFe : fJ0_indexOf_0f7a4_t2 q v1 = F
  have hF : F = fJ0_indexOf_0f7a4_t2 q v1 := hFe.symm
  refine z_aload_n (j := 0) hx hb dJ0_indexOf_0f7a4_0 rfl rfl ?_
  refine z_iload_n (j := 1) hx hb dJ0_indexOf_0f7a4_1 rfl rfl ?_
  refine z_iconst (v := 0) hx hb dJ0_indexOf_0f7a4_2 (by decide) ?_
  have h3 := And.left hok
  have hok := And.right hok
  refine z_callVi_ (As := [.int v1, .int 0]) S (ctJ0_indexOf_7cf53_t2 l G a bv q v1 0 h3) (cwV 2 S.2.2.2.2 (gV q3_155 q3_156 q3_157 q1_18 q3_158) rfl rfl rfl hJ0_indexOf_7cf53 ⟨Nat.le_of_ble_eq_true rfl, Nat.le_of_ble_eq_true rfl⟩) hA (pbJ a bv 2) (psJ hK) (rvJ hO) rfl rfl (Nat.le_of_ble_eq_true rfl) dJ0_indexOf_0f7a4_3 ⟨Nat.le_of_ble_eq_true rfl, Nat.le_of_ble_eq_true rfl⟩ ?_
  exact z_iret hx hb hlocks hr rfl hF dJ0_indexOf_0f7a4_6
def fJ0_coder_7d493_t3 (q : SS) : Int32 × SS := (0, q)
def kJ0_coder_7d493_t3 (q : SS) : Prop := True
set_option maxHeartbeats 4000000 in
set_option maxRecDepth 100000 in
theorem ctJ0_coder_7d493_t3 (l : Launch) (G : GH) (a bv : Nat) (q : SS) (hok : kJ0_coder_7d493_t3 q) : Ci l yJ0_coder_7d493 (Cond.code yJ0_coder_7d493 cJ0_coder_7d493 1 (some .byte) :: lw_G) (zr 0 0 0) 0 0 (PJ a bv 3) G G [.ref a] q (fJ0_coder_7d493_t3 q) := by
  refine Ci.of (cc := cJ0_coder_7d493) (maxL := 1) (ret := (some .byte)) (by decide) rfl (Nat.le_of_ble_eq_true rfl) ?_
  intro p e s m args below meth c A S hr hlocks hin hA hK
  have hx := S.1
  have hb := S.2.1
  obtain ⟨hO, hco, hva, hT, hZ⟩ := id hK
  generalize hFe : fJ0_coder_7d493_t3 q = F
  have hF : F = fJ0_coder_7d493_t3 q := hFe.symm
  refine z_gets (v := .int 1) S hZ q3_163 rfl dJ0_coder_7d493_0 ?_
  refine z_if_eq (tgt := 13) hx hb dJ0_coder_7d493_3 (by decide) (fun g3 => absurd g3 (show ¬ (1 : Int32) = 0 by decide)) (fun _ => ?_)
  refine z_aload_n (j := 0) hx hb dJ0_coder_7d493_6 rfl rfl ?_
  refine z_getS (v := .int 0) S hco q8_86 rfl dJ0_coder_7d493_7 ?_
  refine z_goto (tgt := 14) hx hb dJ0_coder_7d493_10 (by decide) ?_
  exact z_iret hx hb hlocks hr (by decide) hF dJ0_coder_7d493_14
def fJ0_isLatin1_aae02_t3 (q : SS) : Int32 × SS := (1, q)
def kJ0_isLatin1_aae02_t3 (q : SS) : Prop := True
set_option maxHeartbeats 4000000 in
set_option maxRecDepth 100000 in
theorem ctJ0_isLatin1_aae02_t3 (l : Launch) (G : GH) (a bv : Nat) (q : SS) (hok : kJ0_isLatin1_aae02_t3 q) : Ci l yJ0_isLatin1_aae02 (Cond.code yJ0_isLatin1_aae02 cJ0_isLatin1_aae02 1 (some .boolean) :: lw_G) (zr 0 0 0) 0 0 (PJ a bv 3) G G [.ref a] q (fJ0_isLatin1_aae02_t3 q) := by
  refine Ci.of (cc := cJ0_isLatin1_aae02) (maxL := 1) (ret := (some .boolean)) (by decide) rfl (Nat.le_of_ble_eq_true rfl) ?_
  intro p e s m args below meth c A S hr hlocks hin hA hK
  have hx := S.1
  have hb := S.2.1
  obtain ⟨hO, hco, hva, hT, hZ⟩ := id hK
  generalize hFe : fJ0_isLatin1_aae02_t3 q = F
  have hF : F = fJ0_isLatin1_aae02_t3 q := hFe.symm
  refine z_gets (v := .int 1) S hZ q3_163 rfl dJ0_isLatin1_aae02_0 ?_
  refine z_if_eq (tgt := 17) hx hb dJ0_isLatin1_aae02_3 (by decide) (fun g3 => absurd g3 (show ¬ (1 : Int32) = 0 by decide)) (fun _ => ?_)
  refine z_aload_n (j := 0) hx hb dJ0_isLatin1_aae02_6 rfl rfl ?_
  refine z_getS (v := .int 0) S hco q8_86 rfl dJ0_isLatin1_aae02_7 ?_
  refine z_if_ne (tgt := 17) hx hb dJ0_isLatin1_aae02_10 (by decide) (fun g10 => absurd g10 (show ¬ (¬ (0 : Int32) = 0) by decide)) (fun _ => ?_)
  refine z_iconst (v := 1) hx hb dJ0_isLatin1_aae02_13 (by decide) ?_
  refine z_goto (tgt := 18) hx hb dJ0_isLatin1_aae02_14 (by decide) ?_
  exact z_iret hx hb hlocks hr (by decide) hF dJ0_isLatin1_aae02_18
def fJ0_length_8abf5_t3 (q : SS) : Int32 × SS := (((10 : Int32) >>> (0 &&& 31)), q)
def kJ0_length_8abf5_t3 (q : SS) : Prop := kJ0_coder_7d493_t3 q ∧ True
set_option maxHeartbeats 4000000 in
set_option maxRecDepth 100000 in
theorem ctJ0_length_8abf5_t3 (l : Launch) (G : GH) (a bv : Nat) (q : SS) (hok : kJ0_length_8abf5_t3 q) : Ci l yJ0_length_8abf5 (Cond.code yJ0_length_8abf5 cJ0_length_8abf5 1 (some .int) :: lw_G) (zr 1 0 0) 0 0 (PJ a bv 3) G G [.ref a] q (fJ0_length_8abf5_t3 q) := by
  refine Ci.of (cc := cJ0_length_8abf5) (maxL := 1) (ret := (some .int)) (by decide) rfl (Nat.le_of_ble_eq_true rfl) ?_
  intro p e s m args below meth c A S hr hlocks hin hA hK
  have hx := S.1
  have hb := S.2.1
  obtain ⟨hO, hco, hva, hT, hZ⟩ := id hK
  generalize hFe : fJ0_length_8abf5_t3 q = F
  have hF : F = fJ0_length_8abf5_t3 q := hFe.symm
  refine z_aload_n (j := 0) hx hb dJ0_length_8abf5_0 rfl rfl ?_
  refine z_getS (v := .ref bv) S hva q8_87 rfl dJ0_length_8abf5_1 ?_
  refine z_alenT (v := 10) S hT (by decide) dJ0_length_8abf5_4 ?_
  refine z_aload_n (j := 0) hx hb dJ0_length_8abf5_5 rfl rfl ?_
  have h6 := And.left hok
  have hok := And.right hok
  refine z_callVi_ (As := []) S (ctJ0_coder_7d493_t3 l G a bv q h6) (cwV 0 S.2.2.2.2 (gV q3_169 q3_170 q3_171 q1_18 q3_172) rfl rfl rfl hJ0_coder_7d493 ⟨Nat.le_of_ble_eq_true rfl, Nat.le_of_ble_eq_true rfl⟩) hA (pbJ a bv 3) (psJ hK) (rvJ hO) rfl rfl (Nat.le_of_ble_eq_true rfl) dJ0_length_8abf5_6 ⟨Nat.le_of_ble_eq_true rfl, Nat.le_of_ble_eq_true rfl⟩ ?_
  refine z_ishr hx hb dJ0_length_8abf5_9 ?_
  exact z_iret hx hb hlocks hr rfl hF dJ0_length_8abf5_10
def fJ1_canEncode_9a6ad_t3_16 (q : SS) (s0 : Int32) : Int32 × SS := (s0, q)
def kJ1_canEncode_9a6ad_t3_16 (q : SS) (s0 : Int32) : Prop := narrow .boolean (.int s0) = .int s0 ∧ True
def fJ1_canEncode_9a6ad_t3_15 (q : SS) : Int32 × SS := fJ1_canEncode_9a6ad_t3_16 q 0
def kJ1_canEncode_9a6ad_t3_15 (q : SS) : Prop := kJ1_canEncode_9a6ad_t3_16 q 0
def fJ1_canEncode_9a6ad_t3 (q : SS) (v0 : Int32) : Int32 × SS := (if v0 < 0 then fJ1_canEncode_9a6ad_t3_15 q else (if 255 < v0 then fJ1_canEncode_9a6ad_t3_15 q else fJ1_canEncode_9a6ad_t3_16 q 1))
def kJ1_canEncode_9a6ad_t3 (q : SS) (v0 : Int32) : Prop := ((v0 < 0 → kJ1_canEncode_9a6ad_t3_15 q) ∧ (¬ v0 < 0 → ((255 < v0 → kJ1_canEncode_9a6ad_t3_15 q) ∧ (¬ 255 < v0 → kJ1_canEncode_9a6ad_t3_16 q 1))))
set_option maxHeartbeats 4000000 in
set_option maxRecDepth 100000 in
theorem ctJ1_canEncode_9a6ad_t3 (l : Launch) (G : GH) (a bv : Nat) (q : SS) (v0 : Int32) (hok : kJ1_canEncode_9a6ad_t3 q v0) : Ci l yJ1_canEncode_9a6ad (Cond.code yJ1_canEncode_9a6ad cJ1_canEncode_9a6ad 1 (some .boolean) :: lw_G) (zr 0 0 0) 0 0 (PJ a bv 3) G G [.int v0] q (fJ1_canEncode_9a6ad_t3 q v0) := by
  refine Ci.of (cc := cJ1_canEncode_9a6ad) (maxL := 1) (ret := (some .boolean)) (by decide) rfl (Nat.le_of_ble_eq_true rfl) ?_
  intro p e s m args below meth c A S hr hlocks hin hA hK
  have hx := S.1
  have hb := S.2.1
  obtain ⟨hO, hco, hva, hT, hZ⟩ := id hK
  generalize hFe : fJ1_canEncode_9a6ad_t3 q v0 = F
  have hF : F = fJ1_canEncode_9a6ad_t3 q v0 := hFe.symm
  have b16 : ∀ (q : SS) (s0 : Int32), kJ1_canEncode_9a6ad_t3_16 q s0 → F = fJ1_canEncode_9a6ad_t3_16 q s0 → Z p l e (zr 0 0 0) s m args below meth c 0 0 (MQ below (va_Qi (fun (x : Int32) (_ : Unit) => x = F.1) (fun _ t => G A F.2 t.heap) A) args s 0 0 A) 1 A (G A) q 16 [] [.int s0] := by
    intro q s0 hok hF
    have h16 := And.left hok
    have hok := And.right hok
    exact z_iret hx hb hlocks hr h16 hF dJ1_canEncode_9a6ad_16
  have b15 : ∀ (q : SS), kJ1_canEncode_9a6ad_t3_15 q → F = fJ1_canEncode_9a6ad_t3_15 q → Z p l e (zr 0 0 0) s m args below meth c 0 0 (MQ below (va_Qi (fun (x : Int32) (_ : Unit) => x = F.1) (fun _ t => G A F.2 t.heap) A) args s 0 0 A) 1 A (G A) q 15 [] [] := by
    intro q hok hF
    refine z_iconst (v := 0) hx hb dJ1_canEncode_9a6ad_15 (by decide) ?_
    exact b16 q 0 hok hF
  refine z_iload_n (j := 0) hx hb dJ1_canEncode_9a6ad_0 rfl rfl ?_
  refine z_if_lt (tgt := 15) hx hb dJ1_canEncode_9a6ad_1 (by decide) (fun g1 => ?_) (fun g1 => ?_)
  · have hF := hF.trans (if_pos g1)
    have hok := And.left hok g1
    refine z_sub [] rfl ?_
    exact b15 q hok hF
  · have hF := hF.trans (if_neg g1)
    have hok := And.right hok g1
    refine z_iload_n (j := 0) hx hb dJ1_canEncode_9a6ad_4 rfl rfl ?_
    refine z_sipush (v := 255) hx hb dJ1_canEncode_9a6ad_5 (by decide) ?_
    refine z_icmp_gt (tgt := 15) hx hb dJ1_canEncode_9a6ad_8 (by decide) (fun g8 => ?_) (fun g8 => ?_)
    · have hF := hF.trans (if_pos g8)
      have hok := And.left hok g8
      refine z_sub [] rfl ?_
      exact b15 q hok hF
    · have hF := hF.trans (if_neg g8)
      have hok := And.right hok g8
      refine z_iconst (v := 1) hx hb dJ1_canEncode_9a6ad_11 (by decide) ?_
      refine z_goto (tgt := 16) hx hb dJ1_canEncode_9a6ad_12 (by decide) ?_
      refine z_sub [] rfl ?_
      exact b16 q 1 hok hF
def fJ1_indexOfChar_4cfef_t3_7 : Nat → SS → Int32 → Int32 → Int32 → Int32 × SS
  | 0, q, _, _, _ => (0, q)
  | n + 1, q, v3, v4, v5 => (if v3 ≤ v5 then ((-1), q) else (if (bytf 3 (v5 : Int32).toNatClampNeg) = v4 then (v5, q) else fJ1_indexOfChar_4cfef_t3_7 n q v3 v4 (v5 + 1)))
def kJ1_indexOfChar_4cfef_t3_7 : Nat → SS → Int32 → Int32 → Int32 → Prop
  | 0, _, _, _, _ => False
  | n + 1, q, v3, v4, v5 => ((v3 ≤ v5 → True) ∧ (¬ v3 ≤ v5 → vp_in v5 10 ∧ (((bytf 3 (v5 : Int32).toNatClampNeg) = v4 → True) ∧ (¬ (bytf 3 (v5 : Int32).toNatClampNeg) = v4 → kJ1_indexOfChar_4cfef_t3_7 n q v3 v4 (v5 + 1)))))
def fJ1_indexOfChar_4cfef_t3 (q : SS) (v1 : Int32) (v2 : Int32) (v3 : Int32) : Int32 × SS := fJ1_indexOfChar_4cfef_t3_7 20 q v3 ((v1 : Int32).toInt8.toInt32) v2
def kJ1_indexOfChar_4cfef_t3 (q : SS) (v1 : Int32) (v2 : Int32) (v3 : Int32) : Prop := kJ1_indexOfChar_4cfef_t3_7 20 q v3 ((v1 : Int32).toInt8.toInt32) v2
set_option maxHeartbeats 4000000 in
set_option maxRecDepth 100000 in
theorem ctJ1_indexOfChar_4cfef_t3 (l : Launch) (G : GH) (a bv : Nat) (q : SS) (v1 : Int32) (v2 : Int32) (v3 : Int32) (hok : kJ1_indexOfChar_4cfef_t3 q v1 v2 v3) : Ci l yJ1_indexOfChar_4cfef (Cond.code yJ1_indexOfChar_4cfef cJ1_indexOfChar_4cfef 6 (some .int) :: lw_G) (zr 0 0 0) 0 0 (PJ a bv 3) G G [.ref bv, .int v1, .int v2, .int v3] q (fJ1_indexOfChar_4cfef_t3 q v1 v2 v3) := by
  refine Ci.of (cc := cJ1_indexOfChar_4cfef) (maxL := 6) (ret := (some .int)) (by decide) rfl (Nat.le_of_ble_eq_true rfl) ?_
  intro p e s m args below meth c A S hr hlocks hin hA hK
  have hx := S.1
  have hb := S.2.1
  obtain ⟨hO, hco, hva, hT, hZ⟩ := id hK
  generalize hFe : fJ1_indexOfChar_4cfef_t3 q v1 v2 v3 = F
  have hF : F = fJ1_indexOfChar_4cfef_t3 q v1 v2 v3 := hFe.symm
  have b7 : ∀ (n : Nat) (q : SS) (v3 : Int32) (v4 : Int32) (v5 : Int32), kJ1_indexOfChar_4cfef_t3_7 n q v3 v4 v5 → F = fJ1_indexOfChar_4cfef_t3_7 n q v3 v4 v5 → Z p l e (zr 0 0 0) s m args below meth c 0 0 (MQ below (va_Qi (fun (x : Int32) (_ : Unit) => x = F.1) (fun _ t => G A F.2 t.heap) A) args s 0 0 A) 6 A (G A) q 7 [(0, .ref bv), (3, .int v3), (4, .int v4), (5, .int v5)] [] := by
    intro n
    induction n with
    | zero => intro q v3 v4 v5 hok hF; exact False.elim hok
    | succ n ih =>
      intro q v3 v4 v5 hok hF
      refine z_iload (j := 3) hx hb dJ1_indexOfChar_4cfef_7 rfl ?_
      refine z_iload_n (j := 1) hx hb dJ1_indexOfChar_4cfef_9 rfl rfl ?_
      refine z_icmp_ge (tgt := 31) hx hb dJ1_indexOfChar_4cfef_10 (by decide) (fun g10 => ?_) (fun g10 => ?_)
      · have hF := hF.trans (if_pos g10)
        have hok := And.left hok g10
        refine z_iconst (v := (-1)) hx hb dJ1_indexOfChar_4cfef_31 (by decide) ?_
        exact z_iret hx hb hlocks hr rfl hF dJ1_indexOfChar_4cfef_32
      · have hF := hF.trans (if_neg g10)
        have hok := And.right hok g10
        refine z_aload_n (j := 0) hx hb dJ1_indexOfChar_4cfef_13 rfl rfl ?_
        refine z_iload (j := 3) hx hb dJ1_indexOfChar_4cfef_14 rfl ?_
        have h16 := And.left hok
        have hok := And.right hok
        refine z_ldT (v := .int (bytf 3 (v5 : Int32).toNatClampNeg)) S hT h16 rfl dJ1_indexOfChar_4cfef_16 ?_
        refine z_iload (j := 2) hx hb dJ1_indexOfChar_4cfef_17 rfl ?_
        refine z_icmp_ne (tgt := 25) hx hb dJ1_indexOfChar_4cfef_19 (by decide) (fun g19 => ?_) (fun g19 => ?_)
        · have hF := hF.trans (if_neg g19)
          have hok := And.right hok g19
          refine z_iinc (k := 3) (v := (v5 + 1)) (lv' := [(5, .int (v5 + 1)), (0, .ref bv), (3, .int v3), (4, .int v4)]) hx hb dJ1_indexOfChar_4cfef_25 rfl rfl (by decide) rfl ?_
          refine z_goto (tgt := 7) hx hb dJ1_indexOfChar_4cfef_28 (by decide) ?_
          refine z_sub [1, 2, 3, 0] rfl ?_
          exact ih q v3 v4 (v5 + 1) hok hF
        · have hF := hF.trans (if_pos g19)
          have hok := And.left hok g19
          refine z_iload (j := 3) hx hb dJ1_indexOfChar_4cfef_22 rfl ?_
          exact z_iret hx hb hlocks hr rfl hF dJ1_indexOfChar_4cfef_24
  refine z_iload_n (j := 1) hx hb dJ1_indexOfChar_4cfef_0 rfl rfl ?_
  refine z_i2b hx hb dJ1_indexOfChar_4cfef_1 ?_
  refine z_istore (lv' := [(4, .int ((v1 : Int32).toInt8.toInt32)), (0, .ref bv), (1, .int v1), (2, .int v2), (3, .int v3)]) hx hb dJ1_indexOfChar_4cfef_2 (by decide) rfl ?_
  refine z_iload_n (j := 3) hx hb dJ1_indexOfChar_4cfef_4 rfl rfl ?_
  refine z_istore (lv' := [(5, .int v2), (4, .int ((v1 : Int32).toInt8.toInt32)), (0, .ref bv), (1, .int v1), (2, .int v2), (3, .int v3)]) hx hb dJ1_indexOfChar_4cfef_5 (by decide) rfl ?_
  refine z_sub [2, 5, 1, 0] rfl ?_
  exact b7 20 q v3 ((v1 : Int32).toInt8.toInt32) v2 hok hF
def fJ1_indexOf_4cfef_t3 (q : SS) (v1 : Int32) (v2 : Int32) (v3 : Int32) : Int32 × SS := (if (fJ1_canEncode_9a6ad_t3 q v1).1 = 0 then ((-1), (fJ1_canEncode_9a6ad_t3 q v1).2) else (if (if v2 < 0 then 0 else v2) < (if 10 < v3 then 10 else v3) then ((fJ1_indexOfChar_4cfef_t3 (fJ1_canEncode_9a6ad_t3 q v1).2 v1 (if v2 < 0 then 0 else v2) (if 10 < v3 then 10 else v3)).1, (fJ1_indexOfChar_4cfef_t3 (fJ1_canEncode_9a6ad_t3 q v1).2 v1 (if v2 < 0 then 0 else v2) (if 10 < v3 then 10 else v3)).2) else ((-1), (fJ1_canEncode_9a6ad_t3 q v1).2)))
def kJ1_indexOf_4cfef_t3 (q : SS) (v1 : Int32) (v2 : Int32) (v3 : Int32) : Prop := kJ1_canEncode_9a6ad_t3 q v1 ∧ (((fJ1_canEncode_9a6ad_t3 q v1).1 = 0 → True) ∧ (¬ (fJ1_canEncode_9a6ad_t3 q v1).1 = 0 → (((if v2 < 0 then 0 else v2) < (if 10 < v3 then 10 else v3) → kJ1_indexOfChar_4cfef_t3 (fJ1_canEncode_9a6ad_t3 q v1).2 v1 (if v2 < 0 then 0 else v2) (if 10 < v3 then 10 else v3) ∧ True) ∧ (¬ (if v2 < 0 then 0 else v2) < (if 10 < v3 then 10 else v3) → True))))
set_option maxHeartbeats 4000000 in
set_option maxRecDepth 100000 in
theorem ctJ1_indexOf_4cfef_t3 (l : Launch) (G : GH) (a bv : Nat) (q : SS) (v1 : Int32) (v2 : Int32) (v3 : Int32) (hok : kJ1_indexOf_4cfef_t3 q v1 v2 v3) : Ci l yJ1_indexOf_4cfef (Cond.code yJ1_indexOf_4cfef cJ1_indexOf_4cfef 4 (some .int) :: lw_G) (zr 1 0 0) 0 0 (PJ a bv 3) G G [.ref bv, .int v1, .int v2, .int v3] q (fJ1_indexOf_4cfef_t3 q v1 v2 v3) := by
  refine Ci.of (cc := cJ1_indexOf_4cfef) (maxL := 4) (ret := (some .int)) (by decide) rfl (Nat.le_of_ble_eq_true rfl) ?_
  intro p e s m args below meth c A S hr hlocks hin hA hK
  have hx := S.1
  have hb := S.2.1
  obtain ⟨hO, hco, hva, hT, hZ⟩ := id hK
  generalize hFe : fJ1_indexOf_4cfef_t3 q v1 v2 v3 = F
  have hF : F = fJ1_indexOf_4cfef_t3 q v1 v2 v3 := hFe.symm
  refine z_iload_n (j := 1) hx hb dJ1_indexOf_4cfef_0 rfl rfl ?_
  have h1 := And.left hok
  have hok := And.right hok
  refine z_callSi (As := [.int v1]) S (ctJ1_canEncode_9a6ad_t3 l G a bv q v1 h1) (va_cwS 1 S.2.2.2.2 (gS q3_176 q3_177 q1_20 q3_178) rfl rfl rfl hJ1_canEncode_9a6ad ⟨Nat.le_of_ble_eq_true rfl, Nat.le_of_ble_eq_true rfl⟩) hA (pbJ a bv 3) (psJ hK) rfl rfl (Nat.le_of_ble_eq_true rfl) dJ1_indexOf_4cfef_1 ⟨Nat.le_of_ble_eq_true rfl, Nat.le_of_ble_eq_true rfl⟩ ?_
  refine z_if_ne (tgt := 9) hx hb dJ1_indexOf_4cfef_4 (by decide) (fun g4 => ?_) (fun g4 => ?_)
  · have hF := hF.trans (if_neg g4)
    have hok := And.right hok g4
    refine z_iload_n (j := 2) hx hb dJ1_indexOf_4cfef_9 rfl rfl ?_
    refine z_iconst (v := 0) hx hb dJ1_indexOf_4cfef_10 (by decide) ?_
    refine z_mmax S q3_179 q3_180 q1_21 q3_181 (Nat.le_of_ble_eq_true rfl) (Nat.le_of_ble_eq_true rfl) (Nat.le_of_ble_eq_true rfl) (Nat.le_of_ble_eq_true rfl) dJ1_indexOf_4cfef_11 ?_
    refine z_istore_n (lv' := [(2, .int (if v2 < 0 then 0 else v2)), (0, .ref bv), (1, .int v1), (3, .int v3)]) hx hb dJ1_indexOf_4cfef_14 rfl (by decide) rfl ?_
    refine z_iload_n (j := 3) hx hb dJ1_indexOf_4cfef_15 rfl rfl ?_
    refine z_aload_n (j := 1) hx hb dJ1_indexOf_4cfef_16 rfl rfl ?_
    refine z_alenT (v := 10) S hT (by decide) dJ1_indexOf_4cfef_17 ?_
    refine z_mmin S q3_182 q3_183 q1_21 q3_184 (Nat.le_of_ble_eq_true rfl) (Nat.le_of_ble_eq_true rfl) (Nat.le_of_ble_eq_true rfl) (Nat.le_of_ble_eq_true rfl) dJ1_indexOf_4cfef_18 ?_
    refine z_istore_n (lv' := [(3, .int (if 10 < v3 then 10 else v3)), (2, .int (if v2 < 0 then 0 else v2)), (0, .ref bv), (1, .int v1)]) hx hb dJ1_indexOf_4cfef_21 rfl (by decide) rfl ?_
    refine z_iload_n (j := 1) hx hb dJ1_indexOf_4cfef_22 rfl rfl ?_
    refine z_iload_n (j := 0) hx hb dJ1_indexOf_4cfef_23 rfl rfl ?_
    refine z_icmp_lt (tgt := 29) hx hb dJ1_indexOf_4cfef_24 (by decide) (fun g24 => ?_) (fun g24 => ?_)
    · have hF := hF.trans (if_pos g24)
      have hok := And.left hok g24
      refine z_aload_n (j := 2) hx hb dJ1_indexOf_4cfef_29 rfl rfl ?_
      refine z_iload_n (j := 3) hx hb dJ1_indexOf_4cfef_30 rfl rfl ?_
      refine z_iload_n (j := 1) hx hb dJ1_indexOf_4cfef_31 rfl rfl ?_
      refine z_iload_n (j := 0) hx hb dJ1_indexOf_4cfef_32 rfl rfl ?_
      have h33 := And.left hok
      have hok := And.right hok
      refine z_callSi (As := [.ref bv, .int v1, .int (if v2 < 0 then 0 else v2), .int (if 10 < v3 then 10 else v3)]) S (ctJ1_indexOfChar_4cfef_t3 l G a bv (fJ1_canEncode_9a6ad_t3 q v1).2 v1 (if v2 < 0 then 0 else v2) (if 10 < v3 then 10 else v3) h33) (va_cwS 4 S.2.2.2.2 (gS q3_185 q3_186 q1_20 q3_187) rfl rfl rfl hJ1_indexOfChar_4cfef ⟨Nat.le_of_ble_eq_true rfl, Nat.le_of_ble_eq_true rfl⟩) hA (pbJ a bv 3) (psJ hK) rfl rfl (Nat.le_of_ble_eq_true rfl) dJ1_indexOf_4cfef_33 ⟨Nat.le_of_ble_eq_true rfl, Nat.le_of_ble_eq_true rfl⟩ ?_
      exact z_iret hx hb hlocks hr rfl hF dJ1_indexOf_4cfef_36
    · have hF := hF.trans (if_neg g24)
      have hok := And.right hok g24
      refine z_iconst (v := (-1)) hx hb dJ1_indexOf_4cfef_27 (by decide) ?_
      exact z_iret hx hb hlocks hr rfl hF dJ1_indexOf_4cfef_28
  · have hF := hF.trans (if_pos g4)
    have hok := And.left hok g4
    refine z_iconst (v := (-1)) hx hb dJ1_indexOf_4cfef_7 (by decide) ?_
    exact z_iret hx hb hlocks hr rfl hF dJ1_indexOf_4cfef_8
def fJ0_indexOf_7cf53_t3 (q : SS) (v1 : Int32) (v2 : Int32) : Int32 × SS := ((fJ1_indexOf_4cfef_t3 (fJ0_length_8abf5_t3 q).2 v1 v2 (fJ0_length_8abf5_t3 q).1).1, (fJ1_indexOf_4cfef_t3 (fJ0_length_8abf5_t3 q).2 v1 v2 (fJ0_length_8abf5_t3 q).1).2)
def kJ0_indexOf_7cf53_t3 (q : SS) (v1 : Int32) (v2 : Int32) : Prop := kJ0_isLatin1_aae02_t3 q ∧ kJ0_length_8abf5_t3 q ∧ kJ1_indexOf_4cfef_t3 (fJ0_length_8abf5_t3 q).2 v1 v2 (fJ0_length_8abf5_t3 q).1 ∧ True
set_option maxHeartbeats 4000000 in
set_option maxRecDepth 100000 in
theorem ctJ0_indexOf_7cf53_t3 (l : Launch) (G : GH) (a bv : Nat) (q : SS) (v1 : Int32) (v2 : Int32) (hok : kJ0_indexOf_7cf53_t3 q v1 v2) : Ci l yJ0_indexOf_7cf53 (Cond.code yJ0_indexOf_7cf53 cJ0_indexOf_7cf53 3 (some .int) :: lw_G) (zr 2 0 0) 0 0 (PJ a bv 3) G G [.ref a, .int v1, .int v2] q (fJ0_indexOf_7cf53_t3 q v1 v2) := by
  refine Ci.of (cc := cJ0_indexOf_7cf53) (maxL := 3) (ret := (some .int)) (by decide) rfl (Nat.le_of_ble_eq_true rfl) ?_
  intro p e s m args below meth c A S hr hlocks hin hA hK
  have hx := S.1
  have hb := S.2.1
  obtain ⟨hO, hco, hva, hT, hZ⟩ := id hK
  generalize hFe : fJ0_indexOf_7cf53_t3 q v1 v2 = F
  have hF : F = fJ0_indexOf_7cf53_t3 q v1 v2 := hFe.symm
  refine z_aload_n (j := 0) hx hb dJ0_indexOf_7cf53_0 rfl rfl ?_
  have h1 := And.left hok
  have hok := And.right hok
  refine z_callVi_ (As := []) S (ctJ0_isLatin1_aae02_t3 l G a bv q h1) (cwV 0 S.2.2.2.2 (gV q3_159 q3_160 q3_161 q1_18 q3_162) rfl rfl rfl hJ0_isLatin1_aae02 ⟨Nat.le_of_ble_eq_true rfl, Nat.le_of_ble_eq_true rfl⟩) hA (pbJ a bv 3) (psJ hK) (rvJ hO) rfl rfl (Nat.le_of_ble_eq_true rfl) dJ0_indexOf_7cf53_1 ⟨Nat.le_of_ble_eq_true rfl, Nat.le_of_ble_eq_true rfl⟩ ?_
  refine z_if_eq (tgt := 23) hx hb dJ0_indexOf_7cf53_4 (by decide) (fun g4 => absurd g4 (show ¬ (1 : Int32) = 0 by decide)) (fun _ => ?_)
  refine z_aload_n (j := 0) hx hb dJ0_indexOf_7cf53_7 rfl rfl ?_
  refine z_getS (v := .ref bv) S hva q8_87 rfl dJ0_indexOf_7cf53_8 ?_
  refine z_iload_n (j := 1) hx hb dJ0_indexOf_7cf53_11 rfl rfl ?_
  refine z_iload_n (j := 2) hx hb dJ0_indexOf_7cf53_12 rfl rfl ?_
  refine z_aload_n (j := 0) hx hb dJ0_indexOf_7cf53_13 rfl rfl ?_
  have h14 := And.left hok
  have hok := And.right hok
  refine z_callVi_ (As := []) S (ctJ0_length_8abf5_t3 l G a bv q h14) (cwV 0 S.2.2.2.2 (gV q3_165 q3_166 q3_167 q1_18 q3_168) rfl rfl rfl hJ0_length_8abf5 ⟨Nat.le_of_ble_eq_true rfl, Nat.le_of_ble_eq_true rfl⟩) hA (pbJ a bv 3) (psJ hK) (rvJ hO) rfl rfl (Nat.le_of_ble_eq_true rfl) dJ0_indexOf_7cf53_14 ⟨Nat.le_of_ble_eq_true rfl, Nat.le_of_ble_eq_true rfl⟩ ?_
  have h17 := And.left hok
  have hok := And.right hok
  refine z_callSi (As := [.ref bv, .int v1, .int v2, .int (fJ0_length_8abf5_t3 q).1]) S (ctJ1_indexOf_4cfef_t3 l G a bv (fJ0_length_8abf5_t3 q).2 v1 v2 (fJ0_length_8abf5_t3 q).1 h17) (va_cwS 4 S.2.2.2.2 (gS q3_173 q3_174 q1_20 q3_175) rfl rfl rfl hJ1_indexOf_4cfef ⟨Nat.le_of_ble_eq_true rfl, Nat.le_of_ble_eq_true rfl⟩) hA (pbJ a bv 3) (psJ hK) rfl rfl (Nat.le_of_ble_eq_true rfl) dJ0_indexOf_7cf53_17 ⟨Nat.le_of_ble_eq_true rfl, Nat.le_of_ble_eq_true rfl⟩ ?_
  refine z_goto (tgt := 36) hx hb dJ0_indexOf_7cf53_20 (by decide) ?_
  exact z_iret hx hb hlocks hr rfl hF dJ0_indexOf_7cf53_36
def fJ0_indexOf_0f7a4_t3 (q : SS) (v1 : Int32) : Int32 × SS := ((fJ0_indexOf_7cf53_t3 q v1 0).1, (fJ0_indexOf_7cf53_t3 q v1 0).2)
def kJ0_indexOf_0f7a4_t3 (q : SS) (v1 : Int32) : Prop := kJ0_indexOf_7cf53_t3 q v1 0 ∧ True
set_option maxHeartbeats 4000000 in
set_option maxRecDepth 100000 in
theorem ctJ0_indexOf_0f7a4_t3 (l : Launch) (G : GH) (a bv : Nat) (q : SS) (v1 : Int32) (hok : kJ0_indexOf_0f7a4_t3 q v1) : Ci l yJ0_indexOf_0f7a4 (Cond.code yJ0_indexOf_0f7a4 cJ0_indexOf_0f7a4 2 (some .int) :: lw_G) (zr 3 0 0) 0 0 (PJ a bv 3) G G [.ref a, .int v1] q (fJ0_indexOf_0f7a4_t3 q v1) := by
  refine Ci.of (cc := cJ0_indexOf_0f7a4) (maxL := 2) (ret := (some .int)) (by decide) rfl (Nat.le_of_ble_eq_true rfl) ?_
  intro p e s m args below meth c A S hr hlocks hin hA hK
  have hx := S.1
  have hb := S.2.1
  obtain ⟨hO, hco, hva, hT, hZ⟩ := id hK
  generalize hFe : fJ0_indexOf_0f7a4_t3 q v1 = F
  have hF : F = fJ0_indexOf_0f7a4_t3 q v1 := hFe.symm
  refine z_aload_n (j := 0) hx hb dJ0_indexOf_0f7a4_0 rfl rfl ?_
  refine z_iload_n (j := 1) hx hb dJ0_indexOf_0f7a4_1 rfl rfl ?_
  refine z_iconst (v := 0) hx hb dJ0_indexOf_0f7a4_2 (by decide) ?_
  have h3 := And.left hok
  have hok := And.right hok
  refine z_callVi_ (As := [.int v1, .int 0]) S (ctJ0_indexOf_7cf53_t3 l G a bv q v1 0 h3) (cwV 2 S.2.2.2.2 (gV q3_155 q3_156 q3_157 q1_18 q3_158) rfl rfl rfl hJ0_indexOf_7cf53 ⟨Nat.le_of_ble_eq_true rfl, Nat.le_of_ble_eq_true rfl⟩) hA (pbJ a bv 3) (psJ hK) (rvJ hO) rfl rfl (Nat.le_of_ble_eq_true rfl) dJ0_indexOf_0f7a4_3 ⟨Nat.le_of_ble_eq_true rfl, Nat.le_of_ble_eq_true rfl⟩ ?_
  exact z_iret hx hb hlocks hr rfl hF dJ0_indexOf_0f7a4_6
