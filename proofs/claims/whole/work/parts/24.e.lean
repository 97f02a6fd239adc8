/-! the reference's constructor (the straight part printed by gencon.py) -/
section ZKL
variable {p : Program} {l : Launch} {e : Env} {R : Room} {s : State} {m : MethodId} {args : Array Value} {below : List Frame} {meth : Method} {c : Code} {cells slots : Nat} {Q : State → Prop} {nL : Nat} {A : Nat → Prop} {q : SS} {cc : ByteArray} {Ts : List Cond} {D : va_G} {kc : Nat → ClassId}
theorem zk_loop (S : CallFix p m c cc nL s args Ts RX11) (hK : va_K D vwCl (tysK kc) s) (hnL : 1 < nL) {pc0 idx fi N q0 a h0 : Nat} {fs : List Value} {f : Nat → Int32} {W : va_W} (W' : va_W) (h0e : W[0]? = some (h0, .inr (13, fs))) (hfs : fs[fi]? = some (.ref a)) (ha : W[q0]? = some (a, .inl (kc 0, N, .inl f))) (hq : q0 ≠ 0) (hfl : fi < 50) (hlink : Cond.fieldLink RX11 idx RX11 (TX11 fi).2.1 (TX11 fi).2.2.1 ∈ Ts) (href : (TX11 fi).1 = RX11) (hin : ∀ x ∈ u_ws RX11 TX11 50, x ∈ Ts) (hN : N ≤ 1000) {nb : Int} (hnb : (Int8.ofInt nb).toInt32 = Int32.ofNat N)
    (d0 : decode cc pc0 = .ok (.iload_n 1, 1)) (d1 : decode cc (pc0 + 1) = .ok (.bipush nb, 2)) (d3 : decode cc (pc0 + 3) = .ok (.if_icmp .ge 16, 3)) (d6 : decode cc (pc0 + 6) = .ok (.aload_n 0, 1)) (d7 : decode cc (pc0 + 7) = .ok (.getfield idx, 3)) (d10 : decode cc (pc0 + 10) = .ok (.iload_n 1, 1)) (d11 : decode cc (pc0 + 11) = .ok (.iconst (-1), 1)) (d12 : decode cc (pc0 + 12) = .ok (.iastore, 1)) (d13 : decode cc (pc0 + 13) = .ok (.iinc 1 1, 3)) (d16 : decode cc (pc0 + 16) = .ok (.goto (-16), 3))
    (hW' : W.set q0 (a, .inl (kc 0, N, .inl (fun _ => -1))) = W')
    (k : Z p l e R s m args below meth c cells slots Q nL A (GK D W' A) q (pc0 + 19) [(1, .int (Int32.ofNat N)), (0, .ref h0)] []) : Z p l e R s m args below meth c cells slots Q nL A (GK D W A) q pc0 [(1, .int 0), (0, .ref h0)] [] := by
  have hx := S.1
  have hb := S.2.1
  subst hW'
  have hl := (List.getElem?_eq_some_iff.mp ha).1
  have es : ∀ f1 f2 : va_E, (W.set q0 (a, f1)).set q0 (a, f2) = W.set q0 (a, f2) := fun f1 f2 => List.set_set _
  have b : ∀ (d i : Nat) (g : Nat → Int32), i + d = N → (∀ k, k < i → g k = -1) → Z p l e R s m args below meth c cells slots Q nL A (GK D (W.set q0 (a, .inl (kc 0, N, .inl g))) A) q pc0 [(1, .int (Int32.ofNat i)), (0, .ref h0)] [] := by
    intro d
    induction d with
    | zero =>
      intro i g hd hg
      refine z_iload_n (j := 0) hx hb d0 rfl rfl ?_
      refine z_bipush hx hb d1 hnb ?_
      refine z_icmp_ge (tgt := pc0 + 19) hx hb d3 (by push_cast; omega) (fun g7 => ?_) (fun g7 => ?_)
      · refine z_wk (G2 := GK D (W.set q0 (a, .inl (kc 0, N, .inl (fun _ => -1)))) A) (fun H h => gk_arr ha (fun k hk => hg k (by omega)) h) ?_
        have e : i = N := by omega
        subst e
        exact k
      · exact absurd ((kle (by omega) (by omega)).mpr (by omega)) g7
    | succ d ih =>
      intro i g hd hg
      refine z_iload_n (j := 0) hx hb d0 rfl rfl ?_
      refine z_bipush hx hb d1 hnb ?_
      refine z_icmp_ge (tgt := pc0 + 19) hx hb d3 (by push_cast; omega) (fun g7 => ?_) (fun g7 => ?_)
      · exact absurd ((kle (by omega) (by omega)).mp g7) (by omega)
      · refine z_aload_n (j := 1) hx hb d6 rfl rfl ?_
        refine zk_get (N := 50) (T := TX11) (C := RX11) (ci := 13) S hK hin 0 (by rw [List.getElem?_set_ne hq]; exact h0e) rfl fi hfl hlink href hfs d7 ?_
        refine z_iload_n (j := 0) hx hb d10 rfl rfl ?_
        refine z_iconst (v := -1) hx hb d11 (by decide) ?_
        refine zk_iast (f := g) (W' := W.set q0 (a, .inl (kc 0, N, .inl (upd g i (-1))))) S hK q0 0 (List.getElem?_set_self hl) rfl (kIn (by omega) (by omega)) d12 (by rw [es, kNat (by omega)]) ?_
        refine z_iinc (k := 0) (v := Int32.ofNat (i + 1)) (lv' := [(1, .int (Int32.ofNat (i + 1))), (0, .ref h0)]) hx hb d13 rfl (ksucc i) hnL rfl ?_
        refine z_goto (tgt := pc0) hx hb d16 (by push_cast; omega) ?_
        exact ih (i + 1) (upd g i (-1)) (by omega) (fun k hk => by
          by_cases e : k = i
          · subst e; simp [upd]
          · simp [upd, e]; exact hg k (by omega))
  have := b N 0 f (by omega) (fun k hk => absurd hk (by omega))
  have e0 : W.set q0 (a, .inl (kc 0, N, .inl f)) = W := by
    apply List.ext_getElem?
    intro j
    by_cases e : q0 = j
    · subst e; rw [List.getElem?_set_self hl, ha]
    · rw [List.getElem?_set_ne e]
  rw [e0] at this
  exact this
end ZKL
