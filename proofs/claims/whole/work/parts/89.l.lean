/-! the law: rows of its body -/
section LROW2
variable {p : Program} {l : Launch} {e : Env} {R : Room} {s : State} {m : MethodId} {args : Array Value} {below : List Frame} {meth : Method} {c : Code} {cells slots : Nat} {Q : State → Prop} {nL : Nat} {A : Nat → Prop} {x mm : SS} {pc : Nat} {lv : List (Nat × Value)} {rest : List Value} {cc : ByteArray} {Ts : List Cond} {own : String}
variable {D : va_G} {kc : Nat → ClassId} {kd : ClassId} {ad am : Nat → Nat} {o1 o2 : Nat} {e1 e2 : va_E} {G : SS → Heap → Prop}
theorem zl_callXi (S : CallFix p m c cc nL s args Ts own) (hK : va_K D vwCl (tysK kc) s) (hE : EV A s s.heap) {y : MethodName} {bytes : ByteArray} {idx maxL mc ms n : Nat} {ret : Option FieldType} {ws : List Cond} {rm : Room} {As : List Value} {F : Int32 × SS} (hM : Ci l y ws rm mc ms (PX D kc) (GXe D kc ad) (GXe D kc ad) (.ref (ad 0) :: As) x F) (cw : CallW R s args own RX10 idx y bytes maxL ret ws rm mc ms n) (hA : ∀ z, s.heap.size ≤ z → A z) {st0 : List Value} (hn : As.length = n) (hst : st0 = As.reverse ++ .ref (ad 0) :: rest) (hW : (rest.map fun v => v.category).sum ≤ 8) (hdg : decode cc pc = .ok (.invokevirtual idx, 3)) (hf : cells + mc ≤ R.cells ∧ slots + ms ≤ R.slots)
    (kk : Z p l e R s m args below meth c (cells + mc) (slots + ms) Q nL A (LA D kc ad am o1 o2 e1 e2 mm A) F.2 (pc + 3) lv (.int F.1 :: rest)) : Z p l e R s m args below meth c cells slots Q nL A (LA D kc ad am o1 o2 e1 e2 mm A) x pc lv st0 := by
  intro H locs ls h1 h2 h3
  subst hst
  obtain ⟨A1, ha, hs, hG, hk⟩ := la_openX h1 (fun z hz => hA z (Nat.le_trans h2.1 hz))
  refine va_calli (va_runV (As := As) (rest := rest) S (hM A1 H.size ha) cw ⟨fun a U g mk z => ⟨z.1, z.2.1, pbX D kc _ _ _ _ _ z.2.2.1, z.2.2.2⟩, hG.elim (fun wad hg => z_recv hK 0 (fun _ => rfl) rfl H hg), fun U hU hW => ⟨rfl, by rw [hU], ⟨va_K.moved hW.alike hK, by rw [hU]; exact ((hE.kept h2.2.1).warm hW).narrow hs⟩, by rw [hU]; exact hG⟩⟩ rfl hn h3.1 rfl (lv_room hW) hdg hf) h2 (fun z _ h => hs z h) (fun z h => hs z h) (fun r u t H1 locs1 ht hvm hw hB hz hk1 hS1 => ?_)
  subst hw
  exact kk H1 locs1 ls (hk _ _ hz hk1 (by rw [← ht]; exact hB)) hS1 h3
theorem zl_callMi (S : CallFix p m c cc nL s args Ts own) (hK : va_K D vwCl (tysK kc) s) {y : MethodName} {bytes : ByteArray} {idx maxL mc ms n : Nat} {ret : Option FieldType} {ws : List Cond} {rm : Room} {As : List Value} {F : Int32 × SS} (hM : Ci l y ws rm mc ms (PM D kc) (GM D kc am) (GM D kc am) (.ref (am 0) :: As) mm F) (cw : CallW R s args own RX11 idx y bytes maxL ret ws rm mc ms n) (hA : ∀ z, s.heap.size ≤ z → A z) {st0 : List Value} (hn : As.length = n) (hst : st0 = As.reverse ++ .ref (am 0) :: rest) (hW : (rest.map fun v => v.category).sum ≤ 8) (hdg : decode cc pc = .ok (.invokevirtual idx, 3)) (hf : cells + mc ≤ R.cells ∧ slots + ms ≤ R.slots)
    (kk : Z p l e R s m args below meth c (cells + mc) (slots + ms) Q nL A (LA D kc ad am o1 o2 e1 e2 F.2 A) x (pc + 3) lv (.int F.1 :: rest)) : Z p l e R s m args below meth c cells slots Q nL A (LA D kc ad am o1 o2 e1 e2 mm A) x pc lv st0 := by
  intro H locs ls h1 h2 h3
  subst hst
  obtain ⟨A1, ha, hs, hG, hk⟩ := la_openM h1 (fun z hz => hA z (Nat.le_trans h2.1 hz))
  refine va_calli (va_runV (As := As) (rest := rest) S (hM A1 H.size ha) cw ⟨fun a U g mk z => ⟨z.1, z.2.1, pbM D kc _ _ _ _ _ z.2.2.1, z.2.2.2⟩, z_recv hK 0 (fun _ => rfl) rfl H hG, fun U hU hW => ⟨rfl, by rw [hU], va_K.moved hW.alike hK, by rw [hU]; exact hG⟩⟩ rfl hn h3.1 rfl (lv_room hW) hdg hf) h2 (fun z _ h => hs z h) (fun z h => hs z h) (fun r u t H1 locs1 ht hvm hw hB hz hk1 hS1 => ?_)
  subst hw
  exact kk H1 locs1 ls (hk _ _ hz hk1 (by rw [← ht]; exact hB)) hS1 h3
theorem zl_callW1 (S : CallFix p m c cc nL s args Ts own) (hK : va_K D vwCl (tysK kc) s) (hKd : va_K D vwCl [(kd, .double)] s) (hE : EV A s s.heap) {y : MethodName} {bytes : ByteArray} {idx maxL mc ms n : Nat} {ret : Option FieldType} {hh : List (Nat × Nat × Nat × Nat)} {ws : List Cond} {rm : Room} {As : List Value} {post : Int32 → SS × va_E → Prop} (hM : CWr D kc kd ad o1 l y ws rm mc ms As x e1 post) (cw : vx_CSW R s args own idx y bytes maxL ret hh ws rm mc ms n) (hA : ∀ z, s.heap.size ≤ z → A z) {st0 : List Value} (hn : As.length = n) (hst : st0 = As.reverse ++ rest) (hW : (rest.map fun v => v.category).sum ≤ 8) (hdg : decode cc pc = .ok (.invokestatic idx, 3)) (hf : cells + mc ≤ R.cells ∧ slots + ms ≤ R.slots)
    (kk : ∀ (r : Int32) (u : SS × va_E), post r u → Z p l e R s m args below meth c (cells + mc) (slots + ms) Q nL A (LA D kc ad am o1 o2 u.2 e2 mm A) u.1 (pc + 3) lv (.int r :: rest)) : Z p l e R s m args below meth c cells slots Q nL A (LA D kc ad am o1 o2 e1 e2 mm A) x pc lv st0 := by
  intro H locs ls h1 h2 h3
  subst hst
  obtain ⟨A1, ha, hs, hG, hk⟩ := la_open1 h1 (fun z hz => hA z (Nat.le_trans h2.1 hz))
  refine va_calli (vx_runSW (As := As) (rest := rest) S (hM A1 H.size ha) cw ⟨fun a U g mk z => ⟨z.1, z.2.1, pbL D kc kd _ _ _ _ _ z.2.2.1, z.2.2.2⟩, fun U hU hW => ⟨rfl, by rw [hU], ⟨⟨va_K.moved hW.alike hK, by rw [hU]; exact ((hE.kept h2.2.1).warm hW).narrow hs⟩, va_K.moved hW.alike hKd⟩, by rw [hU]; exact hG⟩⟩ rfl hn h3.1 rfl (lv_room hW) hdg hf) h2 (fun z _ h => hs z h) (fun z h => hs z h) (fun r u t H1 locs1 ht hvm hw hB hz hk1 hS1 => ?_)
  exact kk r u hw H1 locs1 ls (hk _ _ _ hz hk1 (by rw [← ht]; exact hB)) hS1 h3
/-- a value of the script -/
theorem zl_argI (S : CallFix p m c cc nL s args Ts own) {b L : Nat} {xs : Nat → Int32} (hX : va_X b L xs s s.heap) (hbl : b < s.heap.size) (hbA : ¬ A b) {i5 w : Int32} {n : Int} {k j0 j5 : Nat} (hv : Int32.ofInt n = Int32.ofNat k) (hj0 : lv[j0]? = some (0, .ref b)) (hj5 : lv[j5]? = some (5, .int i5)) (hin : vp_in (i5 + Int32.ofNat k) L) (hw : xs (i5 + Int32.ofNat k).toNatClampNeg = w) (d0 : decode cc pc = .ok (.aload_n 0, 1)) (d1 : decode cc (pc + 1) = .ok (.iload 5, 2)) (d3 : decode cc (pc + 3) = .ok (.iconst n, 1)) (d4 : decode cc (pc + 4) = .ok (.iadd, 1)) (d5 : decode cc (pc + 5) = .ok (.iaload, 1)) (kk : Z p l e R s m args below meth c cells slots Q nL A G x (pc + 6) lv (.int w :: rest)) : Z p l e R s m args below meth c cells slots Q nL A G x pc lv rest := by
  obtain ⟨hx, hb, hml, hown, hts⟩ := S
  subst hw
  refine z_aload_n hx hb d0 rfl hj0 ?_
  refine z_iload hx hb d1 hj5 ?_
  refine z_iconst hx hb d3 hv ?_
  refine z_iadd hx hb d4 ?_
  exact fun H locs ls h1 h2 h3 => va_sld hx hb hX hbl hbA h2 hin d5 (kk H locs ls h1 h2 h3)
theorem zl_argB (S : CallFix p m c cc nL s args Ts own) {b L : Nat} {xs : Nat → Int32} (hX : va_X b L xs s s.heap) (hbl : b < s.heap.size) (hbA : ¬ A b) {i5 w : Int32} {n : Int} {k j0 j5 : Nat} (hv : (Int8.ofInt n).toInt32 = Int32.ofNat k) (hj0 : lv[j0]? = some (0, .ref b)) (hj5 : lv[j5]? = some (5, .int i5)) (hin : vp_in (i5 + Int32.ofNat k) L) (hw : xs (i5 + Int32.ofNat k).toNatClampNeg = w) (d0 : decode cc pc = .ok (.aload_n 0, 1)) (d1 : decode cc (pc + 1) = .ok (.iload 5, 2)) (d3 : decode cc (pc + 3) = .ok (.bipush n, 2)) (d4 : decode cc (pc + 5) = .ok (.iadd, 1)) (d5 : decode cc (pc + 6) = .ok (.iaload, 1)) (kk : Z p l e R s m args below meth c cells slots Q nL A G x (pc + 7) lv (.int w :: rest)) : Z p l e R s m args below meth c cells slots Q nL A G x pc lv rest := by
  obtain ⟨hx, hb, hml, hown, hts⟩ := S
  subst hw
  refine z_aload_n hx hb d0 rfl hj0 ?_
  refine z_iload hx hb d1 hj5 ?_
  refine z_bipush hx hb d3 hv ?_
  refine z_iadd hx hb d4 ?_
  exact fun H locs ls h1 h2 h3 => va_sld hx hb hX hbl hbA h2 hin d5 (kk H locs ls h1 h2 h3)
theorem zl_lald (S : CallFix p m c cc nL s args Ts own) (hK : va_K D vwCl (tysK kc) s) {f : Nat → Int64} (hdg : decode cc pc = .ok (.laload, 1)) (kk : Z p l e R s m args below meth c cells slots Q nL A (LA D kc ad am o1 o2 (.inl (kc 2, 1, .inr (.inl f))) e2 mm A) x (pc + 1) lv (.long (f 0) :: rest)) : Z p l e R s m args below meth c cells slots Q nL A (LA D kc ad am o1 o2 (.inl (kc 2, 1, .inr (.inl f))) e2 mm A) x pc lv (.int 0 :: .ref o1 :: rest) := by
  obtain ⟨hx, hb, hml, hown, hts⟩ := S
  intro H locs ls h1 h2 h3
  obtain ⟨B1, B2, g1, g2, g3, g4, g5⟩ := id h1
  exact va_lald hx hb hK g3 0 2 rfl rfl (by show ¬ ((0 : Int32) < 0 ∨ 1 ≤ (0 : Int32).toNatClampNeg); decide) hdg (kk H locs ls h1 h2 h3)
theorem zl_dald (S : CallFix p m c cc nL s args Ts own) (hK : va_K D vwCl [(kd, .double)] s) {f : Nat → UInt64} (hdg : decode cc pc = .ok (.daload, 1)) (kk : Z p l e R s m args below meth c cells slots Q nL A (LA D kc ad am o1 o2 e1 (.inl (kd, 1, .inr (.inr (.inr (.inl f))))) mm A) x (pc + 1) lv (.double (f 0) :: rest)) : Z p l e R s m args below meth c cells slots Q nL A (LA D kc ad am o1 o2 e1 (.inl (kd, 1, .inr (.inr (.inr (.inl f))))) mm A) x pc lv (.int 0 :: .ref o2 :: rest) := by
  obtain ⟨hx, hb, hml, hown, hts⟩ := S
  intro H locs ls h1 h2 h3
  obtain ⟨B1, B2, g1, g2, g3, g4, g5⟩ := id h1
  exact va_dald hx hb hK g4 0 0 rfl rfl (by show ¬ ((0 : Int32) < 0 ∨ 1 ≤ (0 : Int32).toNatClampNeg); decide) hdg (kk H locs ls h1 h2 h3)
theorem zl_bool (hx : p.tables.exec = Jvm.exec) (hb : c.code = cc) {v : Int32} (d0 : decode cc pc = .ok (.ifCond .eq 7, 3)) (d3 : decode cc (pc + 3) = .ok (.iconst 1, 1)) (d4 : decode cc (pc + 4) = .ok (.goto 4, 3)) (d7 : decode cc (pc + 7) = .ok (.iconst 0, 1)) (kk : Z p l e R s m args below meth c cells slots Q nL A G x (pc + 8) lv (.int (if v = 0 then 0 else 1) :: rest)) : Z p l e R s m args below meth c cells slots Q nL A G x pc lv (.int v :: rest) := by
  refine z_if_eq (tgt := pc + 7) hx hb d0 (by push_cast; omega) (fun g => ?_) (fun g => ?_)
  · rw [if_pos g] at kk
    exact z_iconst (v := 0) hx hb d7 (by decide) kk
  · rw [if_neg g] at kk
    refine z_iconst (v := 1) hx hb d3 (by decide) ?_
    exact z_goto (tgt := pc + 8) hx hb d4 (by push_cast; omega) kk
theorem zl_boolL (hx : p.tables.exec = Jvm.exec) (hb : c.code = cc) {v : Int32} (d0 : decode cc pc = .ok (.ifCond .eq 7, 3)) (d3 : decode cc (pc + 3) = .ok (.lconst 1, 1)) (d4 : decode cc (pc + 4) = .ok (.goto 4, 3)) (d7 : decode cc (pc + 7) = .ok (.lconst 0, 1)) (kk : Z p l e R s m args below meth c cells slots Q nL A G x (pc + 8) lv (.long (if v = 0 then 0 else 1) :: rest)) : Z p l e R s m args below meth c cells slots Q nL A G x pc lv (.int v :: rest) := by
  refine z_if_eq (tgt := pc + 7) hx hb d0 (by push_cast; omega) (fun g => ?_) (fun g => ?_)
  · rw [if_pos g] at kk
    exact z_lconst (v := 0) hx hb d7 (by decide) kk
  · rw [if_neg g] at kk
    refine z_lconst (v := 1) hx hb d3 (by decide) ?_
    exact z_goto (tgt := pc + 8) hx hb d4 (by push_cast; omega) kk
theorem zl_callXl (S : CallFix p m c cc nL s args Ts own) (hK : va_K D vwCl (tysK kc) s) (hE : EV A s s.heap) {y : MethodName} {bytes : ByteArray} {idx maxL mc ms n : Nat} {ret : Option FieldType} {ws : List Cond} {rm : Room} {As : List Value} {F : Int64 × SS} (hM : Cl l y ws rm mc ms (PX D kc) (GXe D kc ad) (GXe D kc ad) (.ref (ad 0) :: As) x F) (cw : CallW R s args own RX10 idx y bytes maxL ret ws rm mc ms n) (hA : ∀ z, s.heap.size ≤ z → A z) {st0 : List Value} (hn : As.length = n) (hst : st0 = As.reverse ++ .ref (ad 0) :: rest) (hW : (rest.map fun v => v.category).sum ≤ 8) (hdg : decode cc pc = .ok (.invokevirtual idx, 3)) (hf : cells + mc ≤ R.cells ∧ slots + ms ≤ R.slots)
    (kk : Z p l e R s m args below meth c (cells + mc) (slots + ms) Q nL A (LA D kc ad am o1 o2 e1 e2 mm A) F.2 (pc + 3) lv (.long F.1 :: rest)) : Z p l e R s m args below meth c cells slots Q nL A (LA D kc ad am o1 o2 e1 e2 mm A) x pc lv st0 := by
  intro H locs ls h1 h2 h3
  subst hst
  obtain ⟨A1, ha, hs, hG, hk⟩ := la_openX h1 (fun z hz => hA z (Nat.le_trans h2.1 hz))
  refine va_calll (va_runV (As := As) (rest := rest) S (hM A1 H.size ha) cw ⟨fun a U g mk z => ⟨z.1, z.2.1, pbX D kc _ _ _ _ _ z.2.2.1, z.2.2.2⟩, hG.elim (fun wad hg => z_recv hK 0 (fun _ => rfl) rfl H hg), fun U hU hW => ⟨rfl, by rw [hU], ⟨va_K.moved hW.alike hK, by rw [hU]; exact ((hE.kept h2.2.1).warm hW).narrow hs⟩, by rw [hU]; exact hG⟩⟩ rfl hn h3.1 rfl (lv_room hW) hdg hf) h2 (fun z _ h => hs z h) (fun z h => hs z h) (fun r u t H1 locs1 ht hvm hw hB hz hk1 hS1 => ?_)
  subst hw
  exact kk H1 locs1 ls (hk _ _ hz hk1 (by rw [← ht]; exact hB)) hS1 h3
theorem zl_callMl (S : CallFix p m c cc nL s args Ts own) (hK : va_K D vwCl (tysK kc) s) {y : MethodName} {bytes : ByteArray} {idx maxL mc ms n : Nat} {ret : Option FieldType} {ws : List Cond} {rm : Room} {As : List Value} {F : Int64 × SS} (hM : Cl l y ws rm mc ms (PM D kc) (GM D kc am) (GM D kc am) (.ref (am 0) :: As) mm F) (cw : CallW R s args own RX11 idx y bytes maxL ret ws rm mc ms n) (hA : ∀ z, s.heap.size ≤ z → A z) {st0 : List Value} (hn : As.length = n) (hst : st0 = As.reverse ++ .ref (am 0) :: rest) (hW : (rest.map fun v => v.category).sum ≤ 8) (hdg : decode cc pc = .ok (.invokevirtual idx, 3)) (hf : cells + mc ≤ R.cells ∧ slots + ms ≤ R.slots)
    (kk : Z p l e R s m args below meth c (cells + mc) (slots + ms) Q nL A (LA D kc ad am o1 o2 e1 e2 F.2 A) x (pc + 3) lv (.long F.1 :: rest)) : Z p l e R s m args below meth c cells slots Q nL A (LA D kc ad am o1 o2 e1 e2 mm A) x pc lv st0 := by
  intro H locs ls h1 h2 h3
  subst hst
  obtain ⟨A1, ha, hs, hG, hk⟩ := la_openM h1 (fun z hz => hA z (Nat.le_trans h2.1 hz))
  refine va_calll (va_runV (As := As) (rest := rest) S (hM A1 H.size ha) cw ⟨fun a U g mk z => ⟨z.1, z.2.1, pbM D kc _ _ _ _ _ z.2.2.1, z.2.2.2⟩, z_recv hK 0 (fun _ => rfl) rfl H hG, fun U hU hW => ⟨rfl, by rw [hU], va_K.moved hW.alike hK, by rw [hU]; exact hG⟩⟩ rfl hn h3.1 rfl (lv_room hW) hdg hf) h2 (fun z _ h => hs z h) (fun z h => hs z h) (fun r u t H1 locs1 ht hvm hw hB hz hk1 hS1 => ?_)
  subst hw
  exact kk H1 locs1 ls (hk _ _ hz hk1 (by rw [← ht]; exact hB)) hS1 h3
theorem zl_callMf (S : CallFix p m c cc nL s args Ts own) (hK : va_K D vwCl (tysK kc) s) {y : MethodName} {bytes : ByteArray} {idx maxL mc ms n : Nat} {ret : Option FieldType} {ws : List Cond} {rm : Room} {As : List Value} {F : UInt32 × SS} (hM : Cf l y ws rm mc ms (PM D kc) (GM D kc am) (GM D kc am) (.ref (am 0) :: As) mm F) (cw : CallW R s args own RX11 idx y bytes maxL ret ws rm mc ms n) (hA : ∀ z, s.heap.size ≤ z → A z) {st0 : List Value} (hn : As.length = n) (hst : st0 = As.reverse ++ .ref (am 0) :: rest) (hW : (rest.map fun v => v.category).sum ≤ 8) (hdg : decode cc pc = .ok (.invokevirtual idx, 3)) (hf : cells + mc ≤ R.cells ∧ slots + ms ≤ R.slots)
    (kk : Z p l e R s m args below meth c (cells + mc) (slots + ms) Q nL A (LA D kc ad am o1 o2 e1 e2 F.2 A) x (pc + 3) lv (.float F.1 :: rest)) : Z p l e R s m args below meth c cells slots Q nL A (LA D kc ad am o1 o2 e1 e2 mm A) x pc lv st0 := by
  intro H locs ls h1 h2 h3
  subst hst
  obtain ⟨A1, ha, hs, hG, hk⟩ := la_openM h1 (fun z hz => hA z (Nat.le_trans h2.1 hz))
  refine va_callf (va_runV (As := As) (rest := rest) S (hM A1 H.size ha) cw ⟨fun a U g mk z => ⟨z.1, z.2.1, pbM D kc _ _ _ _ _ z.2.2.1, z.2.2.2⟩, z_recv hK 0 (fun _ => rfl) rfl H hG, fun U hU hW => ⟨rfl, by rw [hU], va_K.moved hW.alike hK, by rw [hU]; exact hG⟩⟩ rfl hn h3.1 rfl (lv_room hW) hdg hf) h2 (fun z _ h => hs z h) (fun z h => hs z h) (fun r u t H1 locs1 ht hvm hw hB hz hk1 hS1 => ?_)
  subst hw
  exact kk H1 locs1 ls (hk _ _ hz hk1 (by rw [← ht]; exact hB)) hS1 h3
theorem zl_callMd (S : CallFix p m c cc nL s args Ts own) (hK : va_K D vwCl (tysK kc) s) {y : MethodName} {bytes : ByteArray} {idx maxL mc ms n : Nat} {ret : Option FieldType} {ws : List Cond} {rm : Room} {As : List Value} {F : UInt64 × SS} (hM : Cd l y ws rm mc ms (PM D kc) (GM D kc am) (GM D kc am) (.ref (am 0) :: As) mm F) (cw : CallW R s args own RX11 idx y bytes maxL ret ws rm mc ms n) (hA : ∀ z, s.heap.size ≤ z → A z) {st0 : List Value} (hn : As.length = n) (hst : st0 = As.reverse ++ .ref (am 0) :: rest) (hW : (rest.map fun v => v.category).sum ≤ 8) (hdg : decode cc pc = .ok (.invokevirtual idx, 3)) (hf : cells + mc ≤ R.cells ∧ slots + ms ≤ R.slots)
    (kk : Z p l e R s m args below meth c (cells + mc) (slots + ms) Q nL A (LA D kc ad am o1 o2 e1 e2 F.2 A) x (pc + 3) lv (.double F.1 :: rest)) : Z p l e R s m args below meth c cells slots Q nL A (LA D kc ad am o1 o2 e1 e2 mm A) x pc lv st0 := by
  intro H locs ls h1 h2 h3
  subst hst
  obtain ⟨A1, ha, hs, hG, hk⟩ := la_openM h1 (fun z hz => hA z (Nat.le_trans h2.1 hz))
  refine va_calld (va_runV (As := As) (rest := rest) S (hM A1 H.size ha) cw ⟨fun a U g mk z => ⟨z.1, z.2.1, pbM D kc _ _ _ _ _ z.2.2.1, z.2.2.2⟩, z_recv hK 0 (fun _ => rfl) rfl H hG, fun U hU hW => ⟨rfl, by rw [hU], va_K.moved hW.alike hK, by rw [hU]; exact hG⟩⟩ rfl hn h3.1 rfl (lv_room hW) hdg hf) h2 (fun z _ h => hs z h) (fun z h => hs z h) (fun r u t H1 locs1 ht hvm hw hB hz hk1 hS1 => ?_)
  subst hw
  exact kk H1 locs1 ls (hk _ _ hz hk1 (by rw [← ht]; exact hB)) hS1 h3
theorem zl_callW2 (S : CallFix p m c cc nL s args Ts own) (hK : va_K D vwCl (tysK kc) s) (hKd : va_K D vwCl [(kd, .double)] s) (hE : EV A s s.heap) {y : MethodName} {bytes : ByteArray} {idx maxL mc ms n : Nat} {ret : Option FieldType} {hh : List (Nat × Nat × Nat × Nat)} {ws : List Cond} {rm : Room} {As : List Value} {post : Int32 → SS × va_E → Prop} (hM : CWr D kc kd ad o2 l y ws rm mc ms As x e2 post) (cw : vx_CSW R s args own idx y bytes maxL ret hh ws rm mc ms n) (hA : ∀ z, s.heap.size ≤ z → A z) {st0 : List Value} (hn : As.length = n) (hst : st0 = As.reverse ++ rest) (hW : (rest.map fun v => v.category).sum ≤ 8) (hdg : decode cc pc = .ok (.invokestatic idx, 3)) (hf : cells + mc ≤ R.cells ∧ slots + ms ≤ R.slots)
    (kk : ∀ (r : Int32) (u : SS × va_E), post r u → Z p l e R s m args below meth c (cells + mc) (slots + ms) Q nL A (LA D kc ad am o1 o2 e1 u.2 mm A) u.1 (pc + 3) lv (.int r :: rest)) : Z p l e R s m args below meth c cells slots Q nL A (LA D kc ad am o1 o2 e1 e2 mm A) x pc lv st0 := by
  intro H locs ls h1 h2 h3
  subst hst
  obtain ⟨A1, ha, hs, hG, hk⟩ := la_open2 h1 (fun z hz => hA z (Nat.le_trans h2.1 hz))
  refine va_calli (vx_runSW (As := As) (rest := rest) S (hM A1 H.size ha) cw ⟨fun a U g mk z => ⟨z.1, z.2.1, pbL D kc kd _ _ _ _ _ z.2.2.1, z.2.2.2⟩, fun U hU hW => ⟨rfl, by rw [hU], ⟨⟨va_K.moved hW.alike hK, by rw [hU]; exact ((hE.kept h2.2.1).warm hW).narrow hs⟩, va_K.moved hW.alike hKd⟩, by rw [hU]; exact hG⟩⟩ rfl hn h3.1 rfl (lv_room hW) hdg hf) h2 (fun z _ h => hs z h) (fun z h => hs z h) (fun r u t H1 locs1 ht hvm hw hB hz hk1 hS1 => ?_)
  exact kk r u hw H1 locs1 ls (hk _ _ _ hz hk1 (by rw [← ht]; exact hB)) hS1 h3
theorem z_fstore (hx : p.tables.exec = Jvm.exec) (hb : c.code = cc) {i : Nat} {a : UInt32} {lv' : List (Nat × Value)} (hdg : decode cc pc = .ok (.fstore i, 2)) (hn : i < nL) (hl : (i, Value.float a) :: lv.filter (fun q => !(q.1 == i) && !(q.1 + 1 == i && q.2.category == 2)) = lv') (kk : Z p l e R s m args below meth c cells slots Q nL A G x (pc + 2) lv' rest) : Z p l e R s m args below meth c cells slots Q nL A G x pc lv (.float a :: rest) :=
  fun H locs _ h1 h2 h3 => lv_fstore hx hb hdg h3 hn hl (fun ls' h3 => kk H locs ls' h1 h2 h3)
theorem z_dstore (hx : p.tables.exec = Jvm.exec) (hb : c.code = cc) {i : Nat} {a : UInt64} {lv' : List (Nat × Value)} (hdg : decode cc pc = .ok (.dstore i, 2)) (hn : i + 1 < nL) (hl : (i, Value.double a) :: lv.filter (fun q => !(q.1 == i) && (!(q.1 == i + 1) && !(q.1 + 1 == i && q.2.category == 2))) = lv') (kk : Z p l e R s m args below meth c cells slots Q nL A G x (pc + 2) lv' rest) : Z p l e R s m args below meth c cells slots Q nL A G x pc lv (.double a :: rest) :=
  fun H locs _ h1 h2 h3 => lv_dstore hx hb hdg h3 hn hl (fun ls' h3 => kk H locs ls' h1 h2 h3)
theorem z_fload (hx : p.tables.exec = Jvm.exec) (hb : c.code = cc) {i j : Nat} {a : UInt32} (hdg : decode cc pc = .ok (.fload i, 2)) (hj : lv[j]? = some (i, .float a)) (kk : Z p l e R s m args below meth c cells slots Q nL A G x (pc + 2) lv (.float a :: rest)) : Z p l e R s m args below meth c cells slots Q nL A G x pc lv rest :=
  fun H locs ls h1 h2 h3 => lv_fload hx hb hdg (lv_at h3 j hj) (kk H locs ls h1 h2 h3)
theorem z_dload (hx : p.tables.exec = Jvm.exec) (hb : c.code = cc) {i j : Nat} {a : UInt64} (hdg : decode cc pc = .ok (.dload i, 2)) (hj : lv[j]? = some (i, .double a)) (kk : Z p l e R s m args below meth c cells slots Q nL A G x (pc + 2) lv (.double a :: rest)) : Z p l e R s m args below meth c cells slots Q nL A G x pc lv rest :=
  fun H locs ls h1 h2 h3 => lv_dload hx hb hdg (lv_at h3 j hj) (kk H locs ls h1 h2 h3)
end LROW2
