/-! ===== THE STATE AS FUNCTIONS, AND THE WALK OVER IT: Z says 'from here, whatever heap holds the picture of the state' ===== -/
abbrev SS : Type := (Nat → Int32) × (Nat → Int64) × (Nat → Nat → Int32) × (Nat → Nat → Int64)
def gI (q : SS) (k : Nat) : Int32 := q.1 k
def gL (q : SS) (k : Nat) : Int64 := q.2.1 k
def gA (q : SS) (k : Nat) : Nat → Int32 := q.2.2.1 k
def gB (q : SS) (k : Nat) : Nat → Int64 := q.2.2.2 k
def sI (q : SS) (k : Nat) (v : Int32) : SS := (upd q.1 k v, q.2)
def sL (q : SS) (k : Nat) (v : Int64) : SS := (q.1, vp_updL q.2.1 k v, q.2.2)
def sA (q : SS) (k : Nat) (f : Nat → Int32) : SS := (q.1, q.2.1, va_up q.2.2.1 k f, q.2.2.2)
def sB (q : SS) (k : Nat) (f : Nat → Int64) : SS := (q.1, q.2.1, q.2.2.1, va_up q.2.2.2 k f)
/-- what a field or an answer of a narrow type takes -/
def nf (ty : FieldType) (v : Int32) : Prop := narrow ty (.int v) = .int v ∧ fits ty (.int v) = true
/-- the picture: the world that the state tells, a tail behind it, a fact about the tail -/
def ZG (D : va_G) (cl : List vw_C) (w : SS → va_W) (PL : SS → va_W → Prop) (A : Nat → Prop) (q : SS) (H : Heap) : Prop := ∃ tl : va_W, va_P D cl (w q ++ tl) H ∧ va_D A (w q ++ tl) ∧ PL q tl
def Z (p : Program) (l : Launch) (e : Env) (R : Room) (s : State) (m : MethodId) (args : Array Value) (below : List Frame) (meth : Method) (c : Code) (cells slots : Nat) (Q : State → Prop) (nL : Nat) (A : Nat → Prop) (G : SS → Heap → Prop) (q : SS) (pc : Nat) (lv : List (Nat × Value)) (st : List Value) : Prop :=
  ∀ (H : Heap) (locs : List Loc) (ls : Array Slot), G q H → va_S A s.heap H locs → lv_has ls nL lv → W p l e R s m args below meth c H locs cells slots Q (F0 m pc ls st)
section ZA
variable {p : Program} {l : Launch} {e : Env} {R : Room} {s : State} {m : MethodId} {args : Array Value} {below : List Frame} {meth : Method} {c : Code} {cells slots : Nat} {Q : State → Prop} {nL : Nat} {A : Nat → Prop} {G : SS → Heap → Prop} {q : SS} {pc : Nat} {lv : List (Nat × Value)} {rest : List Value} {cc : ByteArray}
theorem z_iconst (hx : p.tables.exec = Jvm.exec) (hb : c.code = cc) {n : Int} {v : Int32} (hdg : decode cc pc = .ok (.iconst n, 1)) (hv : Int32.ofInt n = v) (k : Z p l e R s m args below meth c cells slots Q nL A G q (pc + 1) lv (.int v :: rest)) : Z p l e R s m args below meth c cells slots Q nL A G q pc lv rest :=
  fun H locs ls h1 h2 h3 => lv_iconst hx hb hdg hv (k H locs ls h1 h2 h3)
theorem z_bipush (hx : p.tables.exec = Jvm.exec) (hb : c.code = cc) {n : Int} {v : Int32} (hdg : decode cc pc = .ok (.bipush n, 2)) (hv : (Int8.ofInt n).toInt32 = v) (k : Z p l e R s m args below meth c cells slots Q nL A G q (pc + 2) lv (.int v :: rest)) : Z p l e R s m args below meth c cells slots Q nL A G q pc lv rest :=
  fun H locs ls h1 h2 h3 => lv_bipush hx hb hdg hv (k H locs ls h1 h2 h3)
theorem z_sipush (hx : p.tables.exec = Jvm.exec) (hb : c.code = cc) {n : Int} {v : Int32} (hdg : decode cc pc = .ok (.sipush n, 3)) (hv : (Int16.ofInt n).toInt32 = v) (k : Z p l e R s m args below meth c cells slots Q nL A G q (pc + 3) lv (.int v :: rest)) : Z p l e R s m args below meth c cells slots Q nL A G q pc lv rest :=
  fun H locs ls h1 h2 h3 => lv_sipush hx hb hdg hv (k H locs ls h1 h2 h3)
theorem z_lconst (hx : p.tables.exec = Jvm.exec) (hb : c.code = cc) {n : Fin 2} {v : Int64} (hdg : decode cc pc = .ok (.lconst n, 1)) (hv : Int64.ofNat (n : Nat) = v) (k : Z p l e R s m args below meth c cells slots Q nL A G q (pc + 1) lv (.long v :: rest)) : Z p l e R s m args below meth c cells slots Q nL A G q pc lv rest :=
  fun H locs ls h1 h2 h3 => lv_lconst hx hb hdg hv (k H locs ls h1 h2 h3)
theorem z_ldc (hx : p.tables.exec = Jvm.exec) (hb : c.code = cc) {own : String} {index : Nat} {v : Int32} (hown : s.vm.findClass own = some m.cls) (hconst : (Jvm.Cond.constant own index v).before args s = true) (hdg : decode cc pc = .ok (.ldc index, 2)) (k : Z p l e R s m args below meth c cells slots Q nL A G q (pc + 2) lv (.int v :: rest)) : Z p l e R s m args below meth c cells slots Q nL A G q pc lv rest :=
  fun H locs ls h1 h2 h3 => lv_ldc hx hb hown hconst hdg (k H locs ls h1 h2 h3)
/-- loads, by place in the list of locals -/
theorem z_iload_n (hx : p.tables.exec = Jvm.exec) (hb : c.code = cc) {k : Fin 4} {i j : Nat} {x : Int32} (hdg : decode cc pc = .ok (.iload_n k, 1)) (hi : (k : Nat) = i) (hj : lv[j]? = some (i, .int x)) (kk : Z p l e R s m args below meth c cells slots Q nL A G q (pc + 1) lv (.int x :: rest)) : Z p l e R s m args below meth c cells slots Q nL A G q pc lv rest :=
  fun H locs ls h1 h2 h3 => lv_iload_n hx hb hdg hi (lv_at h3 j hj) (kk H locs ls h1 h2 h3)
theorem z_iload (hx : p.tables.exec = Jvm.exec) (hb : c.code = cc) {i j : Nat} {x : Int32} (hdg : decode cc pc = .ok (.iload i, 2)) (hj : lv[j]? = some (i, .int x)) (kk : Z p l e R s m args below meth c cells slots Q nL A G q (pc + 2) lv (.int x :: rest)) : Z p l e R s m args below meth c cells slots Q nL A G q pc lv rest :=
  fun H locs ls h1 h2 h3 => lv_iload hx hb hdg (lv_at h3 j hj) (kk H locs ls h1 h2 h3)
theorem z_lload_n (hx : p.tables.exec = Jvm.exec) (hb : c.code = cc) {k : Fin 4} {i j : Nat} {x : Int64} (hdg : decode cc pc = .ok (.lload_n k, 1)) (hi : (k : Nat) = i) (hj : lv[j]? = some (i, .long x)) (kk : Z p l e R s m args below meth c cells slots Q nL A G q (pc + 1) lv (.long x :: rest)) : Z p l e R s m args below meth c cells slots Q nL A G q pc lv rest :=
  fun H locs ls h1 h2 h3 => lv_lload_n hx hb hdg hi (lv_at h3 j hj) (kk H locs ls h1 h2 h3)
theorem z_lload (hx : p.tables.exec = Jvm.exec) (hb : c.code = cc) {i j : Nat} {x : Int64} (hdg : decode cc pc = .ok (.lload i, 2)) (hj : lv[j]? = some (i, .long x)) (kk : Z p l e R s m args below meth c cells slots Q nL A G q (pc + 2) lv (.long x :: rest)) : Z p l e R s m args below meth c cells slots Q nL A G q pc lv rest :=
  fun H locs ls h1 h2 h3 => lv_lload hx hb hdg (lv_at h3 j hj) (kk H locs ls h1 h2 h3)
theorem z_aload_n (hx : p.tables.exec = Jvm.exec) (hb : c.code = cc) {k : Fin 4} {i j : Nat} {x : Nat} (hdg : decode cc pc = .ok (.aload_n k, 1)) (hi : (k : Nat) = i) (hj : lv[j]? = some (i, .ref x)) (kk : Z p l e R s m args below meth c cells slots Q nL A G q (pc + 1) lv (.ref x :: rest)) : Z p l e R s m args below meth c cells slots Q nL A G q pc lv rest :=
  fun H locs ls h1 h2 h3 => lv_aload_n hx hb hdg hi (lv_at h3 j hj) (kk H locs ls h1 h2 h3)
theorem z_aload (hx : p.tables.exec = Jvm.exec) (hb : c.code = cc) {i j : Nat} {x : Nat} (hdg : decode cc pc = .ok (.aload i, 2)) (hj : lv[j]? = some (i, .ref x)) (kk : Z p l e R s m args below meth c cells slots Q nL A G q (pc + 2) lv (.ref x :: rest)) : Z p l e R s m args below meth c cells slots Q nL A G q pc lv rest :=
  fun H locs ls h1 h2 h3 => lv_aload hx hb hdg (lv_at h3 j hj) (kk H locs ls h1 h2 h3)
/-- stores: the new list of locals is given -/
theorem z_istore_n (hx : p.tables.exec = Jvm.exec) (hb : c.code = cc) {k : Fin 4} {i : Nat} {x : Int32} {lv' : List (Nat × Value)} (hdg : decode cc pc = .ok (.istore_n k, 1)) (hi : (k : Nat) = i) (hn : i < nL) (hl : (i, Value.int x) :: lv.filter (fun q => !(q.1 == i) && !(q.1 + 1 == i && q.2.category == 2)) = lv') (kk : Z p l e R s m args below meth c cells slots Q nL A G q (pc + 1) lv' rest) : Z p l e R s m args below meth c cells slots Q nL A G q pc lv (.int x :: rest) :=
  fun H locs _ h1 h2 h3 => lv_istore_n hx hb hdg hi h3 hn hl (fun ls' h3 => kk H locs ls' h1 h2 h3)
theorem z_istore (hx : p.tables.exec = Jvm.exec) (hb : c.code = cc) {i : Nat} {x : Int32} {lv' : List (Nat × Value)} (hdg : decode cc pc = .ok (.istore i, 2)) (hn : i < nL) (hl : (i, Value.int x) :: lv.filter (fun q => !(q.1 == i) && !(q.1 + 1 == i && q.2.category == 2)) = lv') (kk : Z p l e R s m args below meth c cells slots Q nL A G q (pc + 2) lv' rest) : Z p l e R s m args below meth c cells slots Q nL A G q pc lv (.int x :: rest) :=
  fun H locs _ h1 h2 h3 => lv_istore hx hb hdg h3 hn hl (fun ls' h3 => kk H locs ls' h1 h2 h3)
theorem z_lstore_n (hx : p.tables.exec = Jvm.exec) (hb : c.code = cc) {k : Fin 4} {i : Nat} {x : Int64} {lv' : List (Nat × Value)} (hdg : decode cc pc = .ok (.lstore_n k, 1)) (hi : (k : Nat) = i) (hn : i + 1 < nL) (hl : (i, Value.long x) :: lv.filter (fun q => !(q.1 == i) && (!(q.1 == i + 1) && !(q.1 + 1 == i && q.2.category == 2))) = lv') (kk : Z p l e R s m args below meth c cells slots Q nL A G q (pc + 1) lv' rest) : Z p l e R s m args below meth c cells slots Q nL A G q pc lv (.long x :: rest) :=
  fun H locs _ h1 h2 h3 => lv_lstore_n hx hb hdg hi h3 hn hl (fun ls' h3 => kk H locs ls' h1 h2 h3)
theorem z_lstore (hx : p.tables.exec = Jvm.exec) (hb : c.code = cc) {i : Nat} {x : Int64} {lv' : List (Nat × Value)} (hdg : decode cc pc = .ok (.lstore i, 2)) (hn : i + 1 < nL) (hl : (i, Value.long x) :: lv.filter (fun q => !(q.1 == i) && (!(q.1 == i + 1) && !(q.1 + 1 == i && q.2.category == 2))) = lv') (kk : Z p l e R s m args below meth c cells slots Q nL A G q (pc + 2) lv' rest) : Z p l e R s m args below meth c cells slots Q nL A G q pc lv (.long x :: rest) :=
  fun H locs _ h1 h2 h3 => lv_lstore hx hb hdg h3 hn hl (fun ls' h3 => kk H locs ls' h1 h2 h3)
theorem z_astore_n (hx : p.tables.exec = Jvm.exec) (hb : c.code = cc) {k : Fin 4} {i : Nat} {x : Nat} {lv' : List (Nat × Value)} (hdg : decode cc pc = .ok (.astore_n k, 1)) (hi : (k : Nat) = i) (hn : i < nL) (hl : (i, Value.ref x) :: lv.filter (fun q => !(q.1 == i) && !(q.1 + 1 == i && q.2.category == 2)) = lv') (kk : Z p l e R s m args below meth c cells slots Q nL A G q (pc + 1) lv' rest) : Z p l e R s m args below meth c cells slots Q nL A G q pc lv (.ref x :: rest) :=
  fun H locs _ h1 h2 h3 => lv_astore_n hx hb hdg hi h3 hn hl (fun ls' h3 => kk H locs ls' h1 h2 h3)
theorem z_astore (hx : p.tables.exec = Jvm.exec) (hb : c.code = cc) {i : Nat} {x : Nat} {lv' : List (Nat × Value)} (hdg : decode cc pc = .ok (.astore i, 2)) (hn : i < nL) (hl : (i, Value.ref x) :: lv.filter (fun q => !(q.1 == i) && !(q.1 + 1 == i && q.2.category == 2)) = lv') (kk : Z p l e R s m args below meth c cells slots Q nL A G q (pc + 2) lv' rest) : Z p l e R s m args below meth c cells slots Q nL A G q pc lv (.ref x :: rest) :=
  fun H locs _ h1 h2 h3 => lv_astore hx hb hdg h3 hn hl (fun ls' h3 => kk H locs ls' h1 h2 h3)
theorem z_iinc (hx : p.tables.exec = Jvm.exec) (hb : c.code = cc) {i k : Nat} {n : Int} {x v : Int32} {lv' : List (Nat × Value)} (hdg : decode cc pc = .ok (.iinc i n, 3)) (hk : lv[k]? = some (i, .int x)) (hv : x + Int32.ofInt n = v) (hn : i < nL) (hl : (i, Value.int v) :: lv.filter (fun q => !(q.1 == i) && !(q.1 + 1 == i && q.2.category == 2)) = lv') (kk : Z p l e R s m args below meth c cells slots Q nL A G q (pc + 3) lv' rest) : Z p l e R s m args below meth c cells slots Q nL A G q pc lv rest :=
  fun H locs _ h1 h2 h3 => lv_iinc hx hb hdg h3 hk hv hn hl (fun ls' h3 => kk H locs ls' h1 h2 h3)
theorem z_iadd (hx : p.tables.exec = Jvm.exec) (hb : c.code = cc) {x y : Int32} (hdg : decode cc pc = .ok (.iadd, 1)) (k : Z p l e R s m args below meth c cells slots Q nL A G q (pc + 1) lv (.int (x + y) :: rest)) : Z p l e R s m args below meth c cells slots Q nL A G q pc lv (.int y :: .int x :: rest) :=
  fun H locs ls h1 h2 h3 => lv_iadd hx hb hdg (k H locs ls h1 h2 h3)
theorem z_isub (hx : p.tables.exec = Jvm.exec) (hb : c.code = cc) {x y : Int32} (hdg : decode cc pc = .ok (.isub, 1)) (k : Z p l e R s m args below meth c cells slots Q nL A G q (pc + 1) lv (.int (x - y) :: rest)) : Z p l e R s m args below meth c cells slots Q nL A G q pc lv (.int y :: .int x :: rest) :=
  fun H locs ls h1 h2 h3 => lv_isub hx hb hdg (k H locs ls h1 h2 h3)
theorem z_imul (hx : p.tables.exec = Jvm.exec) (hb : c.code = cc) {x y : Int32} (hdg : decode cc pc = .ok (.imul, 1)) (k : Z p l e R s m args below meth c cells slots Q nL A G q (pc + 1) lv (.int (x * y) :: rest)) : Z p l e R s m args below meth c cells slots Q nL A G q pc lv (.int y :: .int x :: rest) :=
  fun H locs ls h1 h2 h3 => lv_imul hx hb hdg (k H locs ls h1 h2 h3)
theorem z_iand (hx : p.tables.exec = Jvm.exec) (hb : c.code = cc) {x y : Int32} (hdg : decode cc pc = .ok (.iand, 1)) (k : Z p l e R s m args below meth c cells slots Q nL A G q (pc + 1) lv (.int (x &&& y) :: rest)) : Z p l e R s m args below meth c cells slots Q nL A G q pc lv (.int y :: .int x :: rest) :=
  fun H locs ls h1 h2 h3 => lv_iand hx hb hdg (k H locs ls h1 h2 h3)
theorem z_ior (hx : p.tables.exec = Jvm.exec) (hb : c.code = cc) {x y : Int32} (hdg : decode cc pc = .ok (.ior, 1)) (k : Z p l e R s m args below meth c cells slots Q nL A G q (pc + 1) lv (.int (x ||| y) :: rest)) : Z p l e R s m args below meth c cells slots Q nL A G q pc lv (.int y :: .int x :: rest) :=
  fun H locs ls h1 h2 h3 => lv_ior hx hb hdg (k H locs ls h1 h2 h3)
theorem z_ixor (hx : p.tables.exec = Jvm.exec) (hb : c.code = cc) {x y : Int32} (hdg : decode cc pc = .ok (.ixor, 1)) (k : Z p l e R s m args below meth c cells slots Q nL A G q (pc + 1) lv (.int (x ^^^ y) :: rest)) : Z p l e R s m args below meth c cells slots Q nL A G q pc lv (.int y :: .int x :: rest) :=
  fun H locs ls h1 h2 h3 => lv_ixor hx hb hdg (k H locs ls h1 h2 h3)
theorem z_idiv (hx : p.tables.exec = Jvm.exec) (hb : c.code = cc) {x y : Int32} (hdg : decode cc pc = .ok (.idiv, 1)) (hne : ¬ y = 0) (k : Z p l e R s m args below meth c cells slots Q nL A G q (pc + 1) lv (.int (x / y) :: rest)) : Z p l e R s m args below meth c cells slots Q nL A G q pc lv (.int y :: .int x :: rest) :=
  fun H locs ls h1 h2 h3 => lv_idiv hx hb hdg hne (k H locs ls h1 h2 h3)
theorem z_irem (hx : p.tables.exec = Jvm.exec) (hb : c.code = cc) {x y : Int32} (hdg : decode cc pc = .ok (.irem, 1)) (hne : ¬ y = 0) (k : Z p l e R s m args below meth c cells slots Q nL A G q (pc + 1) lv (.int (x - x / y * y) :: rest)) : Z p l e R s m args below meth c cells slots Q nL A G q pc lv (.int y :: .int x :: rest) :=
  fun H locs ls h1 h2 h3 => lv_irem hx hb hdg hne (k H locs ls h1 h2 h3)
theorem z_ishr (hx : p.tables.exec = Jvm.exec) (hb : c.code = cc) {x y : Int32} (hdg : decode cc pc = .ok (.ishr, 1)) (k : Z p l e R s m args below meth c cells slots Q nL A G q (pc + 1) lv (.int (x >>> (y &&& 31)) :: rest)) : Z p l e R s m args below meth c cells slots Q nL A G q pc lv (.int y :: .int x :: rest) :=
  fun H locs ls h1 h2 h3 => lv_ishr hx hb hdg (k H locs ls h1 h2 h3)
theorem z_iushr (hx : p.tables.exec = Jvm.exec) (hb : c.code = cc) {x y : Int32} (hdg : decode cc pc = .ok (.iushr, 1)) (k : Z p l e R s m args below meth c cells slots Q nL A G q (pc + 1) lv (.int ((x.toUInt32 >>> (y.toUInt32 &&& Int32.toUInt32 31)).toInt32) :: rest)) : Z p l e R s m args below meth c cells slots Q nL A G q pc lv (.int y :: .int x :: rest) :=
  fun H locs ls h1 h2 h3 => lv_iushr hx hb hdg rfl (k H locs ls h1 h2 h3)
theorem z_ladd (hx : p.tables.exec = Jvm.exec) (hb : c.code = cc) {x y : Int64} (hdg : decode cc pc = .ok (.ladd, 1)) (k : Z p l e R s m args below meth c cells slots Q nL A G q (pc + 1) lv (.long (x + y) :: rest)) : Z p l e R s m args below meth c cells slots Q nL A G q pc lv (.long y :: .long x :: rest) :=
  fun H locs ls h1 h2 h3 => lv_ladd hx hb hdg (k H locs ls h1 h2 h3)
theorem z_lsub (hx : p.tables.exec = Jvm.exec) (hb : c.code = cc) {x y : Int64} (hdg : decode cc pc = .ok (.lsub, 1)) (k : Z p l e R s m args below meth c cells slots Q nL A G q (pc + 1) lv (.long (x - y) :: rest)) : Z p l e R s m args below meth c cells slots Q nL A G q pc lv (.long y :: .long x :: rest) :=
  fun H locs ls h1 h2 h3 => lv_lsub hx hb hdg (k H locs ls h1 h2 h3)
theorem z_i2l (hx : p.tables.exec = Jvm.exec) (hb : c.code = cc) {x : Int32} (hdg : decode cc pc = .ok (.i2l, 1)) (k : Z p l e R s m args below meth c cells slots Q nL A G q (pc + 1) lv (.long x.toInt64 :: rest)) : Z p l e R s m args below meth c cells slots Q nL A G q pc lv (.int x :: rest) :=
  fun H locs ls h1 h2 h3 => lv_i2l hx hb hdg rfl (k H locs ls h1 h2 h3)
theorem z_i2c (hx : p.tables.exec = Jvm.exec) (hb : c.code = cc) {x : Int32} (hdg : decode cc pc = .ok (.i2c, 1)) (k : Z p l e R s m args below meth c cells slots Q nL A G q (pc + 1) lv (.int ((x.toUInt32 % 65536).toInt32) :: rest)) : Z p l e R s m args below meth c cells slots Q nL A G q pc lv (.int x :: rest) :=
  fun H locs ls h1 h2 h3 => lv_i2c hx hb hdg rfl (k H locs ls h1 h2 h3)
theorem z_lcmp (hx : p.tables.exec = Jvm.exec) (hb : c.code = cc) {x y : Int64} (hdg : decode cc pc = .ok (.lcmp, 1)) (k : Z p l e R s m args below meth c cells slots Q nL A G q (pc + 1) lv (.int (lg_cmp x y) :: rest)) : Z p l e R s m args below meth c cells slots Q nL A G q pc lv (.long y :: .long x :: rest) :=
  fun H locs ls h1 h2 h3 => W.lcmp hx hb hdg (k H locs ls h1 h2 h3)
theorem z_dup (hx : p.tables.exec = Jvm.exec) (hb : c.code = cc) {va : Value} (hdg : decode cc pc = .ok (.dup, 1)) (hva : va.category = 1) (k : Z p l e R s m args below meth c cells slots Q nL A G q (pc + 1) lv (va :: va :: rest)) : Z p l e R s m args below meth c cells slots Q nL A G q pc lv (va :: rest) :=
  fun H locs ls h1 h2 h3 => lv_dup hx hb hdg hva (k H locs ls h1 h2 h3)
theorem z_dup2_11 (hx : p.tables.exec = Jvm.exec) (hb : c.code = cc) {va vb : Value} (hdg : decode cc pc = .ok (.dup2, 1)) (hva : va.category = 1) (hvb : vb.category = 1) (k : Z p l e R s m args below meth c cells slots Q nL A G q (pc + 1) lv (va :: vb :: va :: vb :: rest)) : Z p l e R s m args below meth c cells slots Q nL A G q pc lv (va :: vb :: rest) :=
  fun H locs ls h1 h2 h3 => lv_dup2_11 hx hb hdg hva hvb (k H locs ls h1 h2 h3)
theorem z_pop (hx : p.tables.exec = Jvm.exec) (hb : c.code = cc) {va : Value} (hdg : decode cc pc = .ok (.pop, 1)) (hva : va.category = 1) (k : Z p l e R s m args below meth c cells slots Q nL A G q (pc + 1) lv rest) : Z p l e R s m args below meth c cells slots Q nL A G q pc lv (va :: rest) :=
  fun H locs ls h1 h2 h3 => lv_pop hx hb hdg hva (k H locs ls h1 h2 h3)
theorem z_goto (hx : p.tables.exec = Jvm.exec) (hb : c.code = cc) {off : Int} {tgt : Nat} (hdg : decode cc pc = .ok (.goto off, 3)) (ht : (pc : Int) + off = (tgt : Int)) (k : Z p l e R s m args below meth c cells slots Q nL A G q tgt lv rest) : Z p l e R s m args below meth c cells slots Q nL A G q pc lv rest :=
  fun H locs ls h1 h2 h3 => lv_goto hx hb hdg ht (k H locs ls h1 h2 h3)
theorem z_if_eq (hx : p.tables.exec = Jvm.exec) (hb : c.code = cc) {x : Int32} {off : Int} {tgt : Nat} (hdg : decode cc pc = .ok (.ifCond .eq off, 3)) (ht : (pc : Int) + off = (tgt : Int)) (kt : x = 0 → Z p l e R s m args below meth c cells slots Q nL A G q tgt lv rest) (kf : ¬ x = 0 → Z p l e R s m args below meth c cells slots Q nL A G q (pc + 3) lv rest) : Z p l e R s m args below meth c cells slots Q nL A G q pc lv (.int x :: rest) :=
  fun H locs ls h1 h2 h3 => lv_if_eq hx hb hdg ht (fun h => kt h H locs ls h1 h2 h3) (fun h => kf h H locs ls h1 h2 h3)
theorem z_icmp_eq (hx : p.tables.exec = Jvm.exec) (hb : c.code = cc) {x y : Int32} {off : Int} {tgt : Nat} (hdg : decode cc pc = .ok (.if_icmp .eq off, 3)) (ht : (pc : Int) + off = (tgt : Int)) (kt : x = y → Z p l e R s m args below meth c cells slots Q nL A G q tgt lv rest) (kf : ¬ x = y → Z p l e R s m args below meth c cells slots Q nL A G q (pc + 3) lv rest) : Z p l e R s m args below meth c cells slots Q nL A G q pc lv (.int y :: .int x :: rest) :=
  fun H locs ls h1 h2 h3 => lv_icmp_eq hx hb hdg ht (fun h => kt h H locs ls h1 h2 h3) (fun h => kf h H locs ls h1 h2 h3)
theorem z_if_ne (hx : p.tables.exec = Jvm.exec) (hb : c.code = cc) {x : Int32} {off : Int} {tgt : Nat} (hdg : decode cc pc = .ok (.ifCond .ne off, 3)) (ht : (pc : Int) + off = (tgt : Int)) (kt : ¬ x = 0 → Z p l e R s m args below meth c cells slots Q nL A G q tgt lv rest) (kf : x = 0 → Z p l e R s m args below meth c cells slots Q nL A G q (pc + 3) lv rest) : Z p l e R s m args below meth c cells slots Q nL A G q pc lv (.int x :: rest) :=
  fun H locs ls h1 h2 h3 => lv_if_ne hx hb hdg ht (fun h => kt h H locs ls h1 h2 h3) (fun h => kf h H locs ls h1 h2 h3)
theorem z_icmp_ne (hx : p.tables.exec = Jvm.exec) (hb : c.code = cc) {x y : Int32} {off : Int} {tgt : Nat} (hdg : decode cc pc = .ok (.if_icmp .ne off, 3)) (ht : (pc : Int) + off = (tgt : Int)) (kt : ¬ x = y → Z p l e R s m args below meth c cells slots Q nL A G q tgt lv rest) (kf : x = y → Z p l e R s m args below meth c cells slots Q nL A G q (pc + 3) lv rest) : Z p l e R s m args below meth c cells slots Q nL A G q pc lv (.int y :: .int x :: rest) :=
  fun H locs ls h1 h2 h3 => lv_icmp_ne hx hb hdg ht (fun h => kt h H locs ls h1 h2 h3) (fun h => kf h H locs ls h1 h2 h3)
theorem z_if_lt (hx : p.tables.exec = Jvm.exec) (hb : c.code = cc) {x : Int32} {off : Int} {tgt : Nat} (hdg : decode cc pc = .ok (.ifCond .lt off, 3)) (ht : (pc : Int) + off = (tgt : Int)) (kt : x < 0 → Z p l e R s m args below meth c cells slots Q nL A G q tgt lv rest) (kf : ¬ x < 0 → Z p l e R s m args below meth c cells slots Q nL A G q (pc + 3) lv rest) : Z p l e R s m args below meth c cells slots Q nL A G q pc lv (.int x :: rest) :=
  fun H locs ls h1 h2 h3 => lv_if_lt hx hb hdg ht (fun h => kt h H locs ls h1 h2 h3) (fun h => kf h H locs ls h1 h2 h3)
theorem z_icmp_lt (hx : p.tables.exec = Jvm.exec) (hb : c.code = cc) {x y : Int32} {off : Int} {tgt : Nat} (hdg : decode cc pc = .ok (.if_icmp .lt off, 3)) (ht : (pc : Int) + off = (tgt : Int)) (kt : x < y → Z p l e R s m args below meth c cells slots Q nL A G q tgt lv rest) (kf : ¬ x < y → Z p l e R s m args below meth c cells slots Q nL A G q (pc + 3) lv rest) : Z p l e R s m args below meth c cells slots Q nL A G q pc lv (.int y :: .int x :: rest) :=
  fun H locs ls h1 h2 h3 => lv_icmp_lt hx hb hdg ht (fun h => kt h H locs ls h1 h2 h3) (fun h => kf h H locs ls h1 h2 h3)
theorem z_if_ge (hx : p.tables.exec = Jvm.exec) (hb : c.code = cc) {x : Int32} {off : Int} {tgt : Nat} (hdg : decode cc pc = .ok (.ifCond .ge off, 3)) (ht : (pc : Int) + off = (tgt : Int)) (kt : 0 ≤ x → Z p l e R s m args below meth c cells slots Q nL A G q tgt lv rest) (kf : ¬ 0 ≤ x → Z p l e R s m args below meth c cells slots Q nL A G q (pc + 3) lv rest) : Z p l e R s m args below meth c cells slots Q nL A G q pc lv (.int x :: rest) :=
  fun H locs ls h1 h2 h3 => lv_if_ge hx hb hdg ht (fun h => kt h H locs ls h1 h2 h3) (fun h => kf h H locs ls h1 h2 h3)
theorem z_icmp_ge (hx : p.tables.exec = Jvm.exec) (hb : c.code = cc) {x y : Int32} {off : Int} {tgt : Nat} (hdg : decode cc pc = .ok (.if_icmp .ge off, 3)) (ht : (pc : Int) + off = (tgt : Int)) (kt : y ≤ x → Z p l e R s m args below meth c cells slots Q nL A G q tgt lv rest) (kf : ¬ y ≤ x → Z p l e R s m args below meth c cells slots Q nL A G q (pc + 3) lv rest) : Z p l e R s m args below meth c cells slots Q nL A G q pc lv (.int y :: .int x :: rest) :=
  fun H locs ls h1 h2 h3 => lv_icmp_ge hx hb hdg ht (fun h => kt h H locs ls h1 h2 h3) (fun h => kf h H locs ls h1 h2 h3)
theorem z_if_gt (hx : p.tables.exec = Jvm.exec) (hb : c.code = cc) {x : Int32} {off : Int} {tgt : Nat} (hdg : decode cc pc = .ok (.ifCond .gt off, 3)) (ht : (pc : Int) + off = (tgt : Int)) (kt : 0 < x → Z p l e R s m args below meth c cells slots Q nL A G q tgt lv rest) (kf : ¬ 0 < x → Z p l e R s m args below meth c cells slots Q nL A G q (pc + 3) lv rest) : Z p l e R s m args below meth c cells slots Q nL A G q pc lv (.int x :: rest) :=
  fun H locs ls h1 h2 h3 => lv_if_gt hx hb hdg ht (fun h => kt h H locs ls h1 h2 h3) (fun h => kf h H locs ls h1 h2 h3)
theorem z_icmp_gt (hx : p.tables.exec = Jvm.exec) (hb : c.code = cc) {x y : Int32} {off : Int} {tgt : Nat} (hdg : decode cc pc = .ok (.if_icmp .gt off, 3)) (ht : (pc : Int) + off = (tgt : Int)) (kt : y < x → Z p l e R s m args below meth c cells slots Q nL A G q tgt lv rest) (kf : ¬ y < x → Z p l e R s m args below meth c cells slots Q nL A G q (pc + 3) lv rest) : Z p l e R s m args below meth c cells slots Q nL A G q pc lv (.int y :: .int x :: rest) :=
  fun H locs ls h1 h2 h3 => lv_icmp_gt hx hb hdg ht (fun h => kt h H locs ls h1 h2 h3) (fun h => kf h H locs ls h1 h2 h3)
theorem z_if_le (hx : p.tables.exec = Jvm.exec) (hb : c.code = cc) {x : Int32} {off : Int} {tgt : Nat} (hdg : decode cc pc = .ok (.ifCond .le off, 3)) (ht : (pc : Int) + off = (tgt : Int)) (kt : x ≤ 0 → Z p l e R s m args below meth c cells slots Q nL A G q tgt lv rest) (kf : ¬ x ≤ 0 → Z p l e R s m args below meth c cells slots Q nL A G q (pc + 3) lv rest) : Z p l e R s m args below meth c cells slots Q nL A G q pc lv (.int x :: rest) :=
  fun H locs ls h1 h2 h3 => lv_if_le hx hb hdg ht (fun h => kt h H locs ls h1 h2 h3) (fun h => kf h H locs ls h1 h2 h3)
theorem z_icmp_le (hx : p.tables.exec = Jvm.exec) (hb : c.code = cc) {x y : Int32} {off : Int} {tgt : Nat} (hdg : decode cc pc = .ok (.if_icmp .le off, 3)) (ht : (pc : Int) + off = (tgt : Int)) (kt : x ≤ y → Z p l e R s m args below meth c cells slots Q nL A G q tgt lv rest) (kf : ¬ x ≤ y → Z p l e R s m args below meth c cells slots Q nL A G q (pc + 3) lv rest) : Z p l e R s m args below meth c cells slots Q nL A G q pc lv (.int y :: .int x :: rest) :=
  fun H locs ls h1 h2 h3 => lv_icmp_le hx hb hdg ht (fun h => kt h H locs ls h1 h2 h3) (fun h => kf h H locs ls h1 h2 h3)
theorem z_sub {lv' : List (Nat × Value)} (ks : List Nat) (hl : lv_pick lv ks = lv') (k : Z p l e R s m args below meth c cells slots Q nL A G q pc lv' rest) : Z p l e R s m args below meth c cells slots Q nL A G q pc lv rest :=
  fun H locs ls h1 h2 h3 => k H locs ls h1 h2 (lv_sub h3 ks hl)
theorem z_lookup (hx : p.tables.exec = Jvm.exec) (hb : c.code = cc) {dflt : Int} {ps : Array (Int × Int)} {len : Nat} {x : Int32} {off : Int} {tgt : Nat} (hdg : decode cc pc = .ok (.lookupswitch dflt ps, len)) (hp : (ps.toList.zip (ps.toList.drop 1)).all (fun (a, next) => a.1 < next.1) = true) (ho : Op.lookupswitch.offset ps.toList dflt x.toInt = off) (ht : (pc : Int) + off = (tgt : Int)) (k : Z p l e R s m args below meth c cells slots Q nL A G q tgt lv rest) : Z p l e R s m args below meth c cells slots Q nL A G q pc lv (.int x :: rest) :=
  fun H locs ls h1 h2 h3 => lv_lookup hx hb hdg hp ho ht (k H locs ls h1 h2 h3)
theorem z_tableOut (hx : p.tables.exec = Jvm.exec) (hb : c.code = cc) {dflt lo hi : Int} {offs : Array Int} {len : Nat} {x : Int32} {tgt : Nat} (hdg : decode cc pc = .ok (.tableswitch dflt lo hi offs, len)) (h : x.toInt < lo ∨ hi < x.toInt) (ht : (pc : Int) + dflt = (tgt : Int)) (k : Z p l e R s m args below meth c cells slots Q nL A G q tgt lv rest) : Z p l e R s m args below meth c cells slots Q nL A G q pc lv (.int x :: rest) :=
  fun H locs ls h1 h2 h3 => lv_tableOut hx hb hdg h ht (k H locs ls h1 h2 h3)
theorem z_tableIn (hx : p.tables.exec = Jvm.exec) (hb : c.code = cc) {dflt lo hi : Int} {offs : Array Int} {len : Nat} {x : Int32} {off : Int} {tgt : Nat} (hdg : decode cc pc = .ok (.tableswitch dflt lo hi offs, len)) (h1 : ¬ x.toInt < lo) (h2 : ¬ hi < x.toInt) (ho : offs[(x.toInt - lo).toNat]? = some off) (ht : (pc : Int) + off = (tgt : Int)) (k : Z p l e R s m args below meth c cells slots Q nL A G q tgt lv rest) : Z p l e R s m args below meth c cells slots Q nL A G q pc lv (.int x :: rest) :=
  fun H locs ls g1 g2 g3 => lv_tableIn hx hb hdg h1 h2 ho ht (k H locs ls g1 g2 g3)
theorem z_l2f (hx : p.tables.exec = Jvm.exec) (hb : c.code = cc) {x : Int64} (hdg : decode cc pc = .ok (.l2f, 1)) (k : Z p l e R s m args below meth c cells slots Q nL A G q (pc + 1) lv (.float (FP.l2f x) :: rest)) : Z p l e R s m args below meth c cells slots Q nL A G q pc lv (.long x :: rest) :=
  fun H locs ls h1 h2 h3 => lv_l2f hx hb hdg (k H locs ls h1 h2 h3)
theorem z_l2d (hx : p.tables.exec = Jvm.exec) (hb : c.code = cc) {x : Int64} (hdg : decode cc pc = .ok (.l2d, 1)) (k : Z p l e R s m args below meth c cells slots Q nL A G q (pc + 1) lv (.double (FP.l2d x) :: rest)) : Z p l e R s m args below meth c cells slots Q nL A G q pc lv (.long x :: rest) :=
  fun H locs ls h1 h2 h3 => lv_l2d hx hb hdg (k H locs ls h1 h2 h3)
theorem z_i2d (hx : p.tables.exec = Jvm.exec) (hb : c.code = cc) {x : Int32} (hdg : decode cc pc = .ok (.i2d, 1)) (k : Z p l e R s m args below meth c cells slots Q nL A G q (pc + 1) lv (.double (FP.i2d x) :: rest)) : Z p l e R s m args below meth c cells slots Q nL A G q pc lv (.int x :: rest) :=
  fun H locs ls h1 h2 h3 => lv_i2d hx hb hdg (k H locs ls h1 h2 h3)
theorem z_fdiv (hx : p.tables.exec = Jvm.exec) (hb : c.code = cc) {x y : UInt32} (hdg : decode cc pc = .ok (.fdiv, 1)) (hne : vf_n32 (FP.fdiv x y)) (k : Z p l e R s m args below meth c cells slots Q nL A G q (pc + 1) lv (.float (FP.fdiv x y) :: rest)) : Z p l e R s m args below meth c cells slots Q nL A G q pc lv (.float y :: .float x :: rest) :=
  fun H locs ls h1 h2 h3 => lv_fdiv hx hb hdg hne (k H locs ls h1 h2 h3)
theorem z_ddiv (hx : p.tables.exec = Jvm.exec) (hb : c.code = cc) {x y : UInt64} (hdg : decode cc pc = .ok (.ddiv, 1)) (hne : vf_n64 (FP.ddiv x y)) (k : Z p l e R s m args below meth c cells slots Q nL A G q (pc + 1) lv (.double (FP.ddiv x y) :: rest)) : Z p l e R s m args below meth c cells slots Q nL A G q pc lv (.double y :: .double x :: rest) :=
  fun H locs ls h1 h2 h3 => lv_ddiv hx hb hdg hne (k H locs ls h1 h2 h3)
theorem z_fconst0 (hx : p.tables.exec = Jvm.exec) (hb : c.code = cc) (hdg : decode cc pc = .ok (.fconst 0, 1)) (k : Z p l e R s m args below meth c cells slots Q nL A G q (pc + 1) lv (.float FP.fconst0 :: rest)) : Z p l e R s m args below meth c cells slots Q nL A G q pc lv rest :=
  fun H locs ls h1 h2 h3 => lv_fconst0 hx hb hdg (k H locs ls h1 h2 h3)
theorem z_dconst0 (hx : p.tables.exec = Jvm.exec) (hb : c.code = cc) (hdg : decode cc pc = .ok (.dconst 0, 1)) (k : Z p l e R s m args below meth c cells slots Q nL A G q (pc + 1) lv (.double FP.dconst0 :: rest)) : Z p l e R s m args below meth c cells slots Q nL A G q pc lv rest :=
  fun H locs ls h1 h2 h3 => lv_dconst0 hx hb hdg (k H locs ls h1 h2 h3)
theorem z_widen {ce sl : Nat} (h1 : cells ≤ ce) (h2 : slots ≤ sl) (k : Z p l e R s m args below meth c ce sl Q nL A G q pc lv rest) : Z p l e R s m args below meth c cells slots Q nL A G q pc lv rest :=
  fun H locs ls g1 g2 g3 => W.widen h1 h2 (k H locs ls g1 g2 g3)
end ZA
/-! fields and arrays of the world -/
section ZF
variable {p : Program} {l : Launch} {e : Env} {R : Room} {s : State} {m : MethodId} {args : Array Value} {below : List Frame} {meth : Method} {c : Code} {cells slots : Nat} {Q : State → Prop} {nL : Nat} {A : Nat → Prop} {D : va_G} {cl : List vw_C} {w : SS → va_W} {PL : SS → va_W → Prop} {q q' : SS} {pc : Nat} {lv : List (Nat × Value)} {rest : List Value} {cc : ByteArray} {a : Nat} {tys : List (ClassId × FieldType)} {Ts : List Cond} {own : String}
theorem z_get (S : CallFix p m c cc nL s args Ts own) (hK : va_K D cl tys s) {C ref : String} {T : u_T} {N ci index : Nat} (hin : ∀ x ∈ u_ws C T N, x ∈ Ts) (q0 : Nat) {fs : List Value} (he : ∀ tl, (w q ++ tl)[q0]? = some (a, .inr (ci, fs))) (hc : cl[ci]? = some (C, T, N)) (k : Nat) (hk : k < N) (hlink : Cond.fieldLink own index ref (T k).2.1 (T k).2.2.1 ∈ Ts) (href : (T k).1 = ref) {v : Value} (hv : fs[k]? = some v) (hdg : decode cc pc = .ok (.getfield index, 3)) (kk : Z p l e R s m args below meth c cells slots Q nL A (ZG D cl w PL A) q (pc + 3) lv (v :: rest)) : Z p l e R s m args below meth c cells slots Q nL A (ZG D cl w PL A) q pc lv (.ref a :: rest) := by
  obtain ⟨hx, hb, hml, hown, hts⟩ := S
  intro H locs ls h1 h2 h3
  obtain ⟨tl, hP, hD, hL⟩ := id h1
  exact va_get hx hb hts hin hown hK hP q0 (he tl) hc k hk (hts _ hlink) (fun _ h9 => href ▸ h9) hv hdg (kk H locs ls h1 h2 h3)
theorem z_put (S : CallFix p m c cc nL s args Ts own) (hK : va_K D cl tys s) {C ref : String} {T : u_T} {N ci index : Nat} (hin : ∀ x ∈ u_ws C T N, x ∈ Ts) (ty0 : Nat → FieldType) (hty : ∀ k, k < N → parseFieldDescriptor (T k).2.2.1 = some (ty0 k)) (hnm : ∀ a, a < N → ∀ b, b < N → a ≠ b → (T a).2.1 ≠ (T b).2.1) (q0 : Nat) {fs : List Value} (he : ∀ tl, (w q ++ tl)[q0]? = some (a, .inr (ci, fs))) (hc : cl[ci]? = some (C, T, N)) (k : Nat) (hk : k < N) (hlink : Cond.fieldLink own index ref (T k).2.1 (T k).2.2.1 ∈ Ts) (href : (T k).1 = ref) (hfin : (T k).2.2.2 = false) {v : Value} (hn : narrow (ty0 k) v = v) (hfit : fits (ty0 k) v = true) (hl : k < fs.length) (hdg : decode cc pc = .ok (.putfield index, 3)) (hset : ∀ tl, (w q ++ tl).set q0 (a, .inr (ci, fs.set k v)) = w q' ++ tl) (hpl : ∀ tl, PL q tl → PL q' tl) (kk : Z p l e R s m args below meth c cells slots Q nL A (ZG D cl w PL A) q' (pc + 3) lv rest) : Z p l e R s m args below meth c cells slots Q nL A (ZG D cl w PL A) q pc lv (v :: .ref a :: rest) := by
  obtain ⟨hx, hb, hml, hown, hts⟩ := S
  intro H locs ls h1 h2 h3
  obtain ⟨tl, hP, hD, hL⟩ := id h1
  refine va_put hx hb hts hin ty0 hty hnm hown hK hP hD h2 q0 (he tl) hc k hk (hts _ hlink) (fun _ h9 => href ▸ h9) hfin (hty k hk) hn hfit hl hdg (fun H1 locs1 hP1 hD1 hS1 => ?_)
  rw [hset] at hP1 hD1
  exact kk H1 locs1 ls ⟨tl, hP1, hD1, hpl tl hL⟩ hS1 h3
theorem z_iald (S : CallFix p m c cc nL s args Ts own) (hK : va_K D cl tys s) (q0 t0 : Nat) {cA : ClassId} {n : Nat} {f : Nat → Int32} (ha : ∀ tl, (w q ++ tl)[q0]? = some (a, .inl (cA, n, .inl f))) (ht : tys[t0]? = some (cA, .int)) {i : Int32} (hin : vp_in i n) (hdg : decode cc pc = .ok (.iaload, 1)) (kk : Z p l e R s m args below meth c cells slots Q nL A (ZG D cl w PL A) q (pc + 1) lv (.int (f i.toNatClampNeg) :: rest)) : Z p l e R s m args below meth c cells slots Q nL A (ZG D cl w PL A) q pc lv (.int i :: .ref a :: rest) := by
  obtain ⟨hx, hb, hml, hown, hts⟩ := S
  intro H locs ls h1 h2 h3
  obtain ⟨tl, hP, hD, hL⟩ := id h1
  exact va_iald hx hb hK hP q0 t0 (ha tl) ht hin hdg (kk H locs ls h1 h2 h3)
theorem z_zald (S : CallFix p m c cc nL s args Ts own) (hK : va_K D cl tys s) (q0 t0 : Nat) {cA : ClassId} {n : Nat} {f : Nat → Int32} (ha : ∀ tl, (w q ++ tl)[q0]? = some (a, .inl (cA, n, .inl f))) (ht : tys[t0]? = some (cA, .boolean)) {i : Int32} (hin : vp_in i n) (hdg : decode cc pc = .ok (.baload, 1)) (kk : Z p l e R s m args below meth c cells slots Q nL A (ZG D cl w PL A) q (pc + 1) lv (.int (f i.toNatClampNeg) :: rest)) : Z p l e R s m args below meth c cells slots Q nL A (ZG D cl w PL A) q pc lv (.int i :: .ref a :: rest) := by
  obtain ⟨hx, hb, hml, hown, hts⟩ := S
  intro H locs ls h1 h2 h3
  obtain ⟨tl, hP, hD, hL⟩ := id h1
  exact va_zald hx hb hK hP q0 t0 (ha tl) ht hin hdg (kk H locs ls h1 h2 h3)
theorem z_cald (S : CallFix p m c cc nL s args Ts own) (hK : va_K D cl tys s) (q0 t0 : Nat) {cA : ClassId} {n : Nat} {f : Nat → Int32} (ha : ∀ tl, (w q ++ tl)[q0]? = some (a, .inl (cA, n, .inl f))) (ht : tys[t0]? = some (cA, .char)) {i : Int32} (hin : vp_in i n) (hdg : decode cc pc = .ok (.caload, 1)) (kk : Z p l e R s m args below meth c cells slots Q nL A (ZG D cl w PL A) q (pc + 1) lv (.int (f i.toNatClampNeg) :: rest)) : Z p l e R s m args below meth c cells slots Q nL A (ZG D cl w PL A) q pc lv (.int i :: .ref a :: rest) := by
  obtain ⟨hx, hb, hml, hown, hts⟩ := S
  intro H locs ls h1 h2 h3
  obtain ⟨tl, hP, hD, hL⟩ := id h1
  exact va_cald hx hb hK hP q0 t0 (ha tl) ht hin hdg (kk H locs ls h1 h2 h3)
theorem z_lald (S : CallFix p m c cc nL s args Ts own) (hK : va_K D cl tys s) (q0 t0 : Nat) {cA : ClassId} {n : Nat} {f : Nat → Int64} (ha : ∀ tl, (w q ++ tl)[q0]? = some (a, .inl (cA, n, .inr (.inl f)))) (ht : tys[t0]? = some (cA, .long)) {i : Int32} (hin : vp_in i n) (hdg : decode cc pc = .ok (.laload, 1)) (kk : Z p l e R s m args below meth c cells slots Q nL A (ZG D cl w PL A) q (pc + 1) lv (.long (f i.toNatClampNeg) :: rest)) : Z p l e R s m args below meth c cells slots Q nL A (ZG D cl w PL A) q pc lv (.int i :: .ref a :: rest) := by
  obtain ⟨hx, hb, hml, hown, hts⟩ := S
  intro H locs ls h1 h2 h3
  obtain ⟨tl, hP, hD, hL⟩ := id h1
  exact va_lald hx hb hK hP q0 t0 (ha tl) ht hin hdg (kk H locs ls h1 h2 h3)
theorem z_iast (S : CallFix p m c cc nL s args Ts own) (hK : va_K D cl tys s) (q0 t0 : Nat) {cA : ClassId} {n : Nat} {f : Nat → Int32} (ha : ∀ tl, (w q ++ tl)[q0]? = some (a, .inl (cA, n, .inl f))) (ht : tys[t0]? = some (cA, .int)) {i x : Int32} (hin : vp_in i n) (hdg : decode cc pc = .ok (.iastore, 1)) (hset : ∀ tl, (w q ++ tl).set q0 (a, .inl (cA, n, .inl (upd f i.toNatClampNeg x))) = w q' ++ tl) (hpl : ∀ tl, PL q tl → PL q' tl) (kk : Z p l e R s m args below meth c cells slots Q nL A (ZG D cl w PL A) q' (pc + 1) lv rest) : Z p l e R s m args below meth c cells slots Q nL A (ZG D cl w PL A) q pc lv (.int x :: .int i :: .ref a :: rest) := by
  obtain ⟨hx, hb, hml, hown, hts⟩ := S
  intro H locs ls h1 h2 h3
  obtain ⟨tl, hP, hD, hL⟩ := id h1
  refine va_iast hx hb hK hP hD h2 q0 t0 (ha tl) ht hin hdg (fun H1 locs1 hP1 hD1 hS1 => ?_)
  rw [hset] at hP1 hD1
  exact kk H1 locs1 ls ⟨tl, hP1, hD1, hpl tl hL⟩ hS1 h3
theorem z_zast (S : CallFix p m c cc nL s args Ts own) (hK : va_K D cl tys s) (q0 t0 : Nat) {cA : ClassId} {n : Nat} {f : Nat → Int32} (ha : ∀ tl, (w q ++ tl)[q0]? = some (a, .inl (cA, n, .inl f))) (ht : tys[t0]? = some (cA, .boolean)) {i x : Int32} (hin : vp_in i n) (hdg : decode cc pc = .ok (.bastore, 1)) (hset : ∀ tl, (w q ++ tl).set q0 (a, .inl (cA, n, .inl (upd f i.toNatClampNeg (vp_nar .boolean x)))) = w q' ++ tl) (hpl : ∀ tl, PL q tl → PL q' tl) (kk : Z p l e R s m args below meth c cells slots Q nL A (ZG D cl w PL A) q' (pc + 1) lv rest) : Z p l e R s m args below meth c cells slots Q nL A (ZG D cl w PL A) q pc lv (.int x :: .int i :: .ref a :: rest) := by
  obtain ⟨hx, hb, hml, hown, hts⟩ := S
  intro H locs ls h1 h2 h3
  obtain ⟨tl, hP, hD, hL⟩ := id h1
  refine va_zast hx hb hK hP hD h2 q0 t0 (ha tl) ht hin hdg (fun H1 locs1 hP1 hD1 hS1 => ?_)
  rw [hset] at hP1 hD1
  exact kk H1 locs1 ls ⟨tl, hP1, hD1, hpl tl hL⟩ hS1 h3
theorem z_cast (S : CallFix p m c cc nL s args Ts own) (hK : va_K D cl tys s) (q0 t0 : Nat) {cA : ClassId} {n : Nat} {f : Nat → Int32} (ha : ∀ tl, (w q ++ tl)[q0]? = some (a, .inl (cA, n, .inl f))) (ht : tys[t0]? = some (cA, .char)) {i x : Int32} (hin : vp_in i n) (hdg : decode cc pc = .ok (.castore, 1)) (hset : ∀ tl, (w q ++ tl).set q0 (a, .inl (cA, n, .inl (upd f i.toNatClampNeg (vp_nar .char x)))) = w q' ++ tl) (hpl : ∀ tl, PL q tl → PL q' tl) (kk : Z p l e R s m args below meth c cells slots Q nL A (ZG D cl w PL A) q' (pc + 1) lv rest) : Z p l e R s m args below meth c cells slots Q nL A (ZG D cl w PL A) q pc lv (.int x :: .int i :: .ref a :: rest) := by
  obtain ⟨hx, hb, hml, hown, hts⟩ := S
  intro H locs ls h1 h2 h3
  obtain ⟨tl, hP, hD, hL⟩ := id h1
  refine va_cast hx hb hK hP hD h2 q0 t0 (ha tl) ht hin hdg (fun H1 locs1 hP1 hD1 hS1 => ?_)
  rw [hset] at hP1 hD1
  exact kk H1 locs1 ls ⟨tl, hP1, hD1, hpl tl hL⟩ hS1 h3
theorem z_last (S : CallFix p m c cc nL s args Ts own) (hK : va_K D cl tys s) (q0 t0 : Nat) {cA : ClassId} {n : Nat} {f : Nat → Int64} (ha : ∀ tl, (w q ++ tl)[q0]? = some (a, .inl (cA, n, .inr (.inl f)))) (ht : tys[t0]? = some (cA, .long)) {i : Int32} {x : Int64} (hin : vp_in i n) (hdg : decode cc pc = .ok (.lastore, 1)) (hset : ∀ tl, (w q ++ tl).set q0 (a, .inl (cA, n, .inr (.inl (vp_updL f i.toNatClampNeg x)))) = w q' ++ tl) (hpl : ∀ tl, PL q tl → PL q' tl) (kk : Z p l e R s m args below meth c cells slots Q nL A (ZG D cl w PL A) q' (pc + 1) lv rest) : Z p l e R s m args below meth c cells slots Q nL A (ZG D cl w PL A) q pc lv (.long x :: .int i :: .ref a :: rest) := by
  obtain ⟨hx, hb, hml, hown, hts⟩ := S
  intro H locs ls h1 h2 h3
  obtain ⟨tl, hP, hD, hL⟩ := id h1
  refine va_last hx hb hK hP hD h2 q0 t0 (ha tl) ht hin hdg (fun H1 locs1 hP1 hD1 hS1 => ?_)
  rw [hset] at hP1 hD1
  exact kk H1 locs1 ls ⟨tl, hP1, hD1, hpl tl hL⟩ hS1 h3
end ZF
