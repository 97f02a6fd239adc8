/-! the law: what an answer tells, numbers, the context of its loop -/
theorem ok_use1 {β : Type} {c : Int} {tab : List Nat} {F : (Nat × SS) ⊕ (β × SS)} {b : β} {m' : SS} {kl : ClassId} {f : Nat → Int64} {r : Int32} {u : SS × va_E} (cv : β → Int64) (h : okG c tab F b m') (hu : wpost (fun a => .inl (kl, 1, .inr (.inl (vp_updL f 0 (cv a))))) (.inl (kl, 1, .inr (.inl f))) (gI m' 0) F r u) (ht : ∀ i k, tab[i]? = some k → i < 5) : ∃ f' : Nat → Int64, u.2 = .inl (kl, 1, .inr (.inl f')) ∧ r = gI m' 0 ∧ R c u.1 m' ∧ (r = 0 → f' 0 = cv b) := by
  cases hF : F with
  | inl k =>
    rw [hF] at h
    obtain ⟨⟨i, h1, h2⟩, h3⟩ := h
    obtain ⟨g1, g2, g3⟩ := hu.1 k hF
    refine ⟨f, g3, g1, by rw [g2]; exact h3, fun hr => ?_⟩
    exfalso
    rw [g1, h2] at hr
    have hi := ht i _ h1
    rcases (show i = 0 ∨ i = 1 ∨ i = 2 ∨ i = 3 ∨ i = 4 by omega) with rfl | rfl | rfl | rfl | rfl <;> exact absurd hr (by decide)
  | inr v =>
    rw [hF] at h
    obtain ⟨h1, h2, h3⟩ := h
    obtain ⟨g1, g2, g3⟩ := hu.2 v hF
    refine ⟨_, g3, by rw [g1, h1], by rw [g2]; exact h3, fun _ => ?_⟩
    rw [h2]
    simp [vp_updL]
theorem ok_use2 {β : Type} {c : Int} {tab : List Nat} {F : (Nat × SS) ⊕ (β × SS)} {b : β} {m' : SS} {kl : ClassId} {f : Nat → UInt64} {r : Int32} {u : SS × va_E} (cv : β → UInt64) (h : okG c tab F b m') (hu : wpost (fun a => .inl (kl, 1, .inr (.inr (.inr (.inl (vf_upd f 0 (cv a))))))) (.inl (kl, 1, .inr (.inr (.inr (.inl f))))) (gI m' 0) F r u) (ht : ∀ i k, tab[i]? = some k → i < 5) : ∃ f' : Nat → UInt64, u.2 = .inl (kl, 1, .inr (.inr (.inr (.inl f')))) ∧ r = gI m' 0 ∧ R c u.1 m' ∧ (r = 0 → f' 0 = cv b ∧ ∃ x' : SS, F = .inr (b, x')) := by
  cases hF : F with
  | inl k =>
    rw [hF] at h
    obtain ⟨⟨i, h1, h2⟩, h3⟩ := h
    obtain ⟨g1, g2, g3⟩ := hu.1 k hF
    refine ⟨f, g3, g1, by rw [g2]; exact h3, fun hr => ?_⟩
    exfalso
    rw [g1, h2] at hr
    have hi := ht i _ h1
    rcases (show i = 0 ∨ i = 1 ∨ i = 2 ∨ i = 3 ∨ i = 4 by omega) with rfl | rfl | rfl | rfl | rfl <;> exact absurd hr (by decide)
  | inr v =>
    rw [hF] at h
    obtain ⟨h1, h2, h3⟩ := h
    obtain ⟨g1, g2, g3⟩ := hu.2 v hF
    refine ⟨_, g3, by rw [g1, h1], by rw [g2]; exact h3, fun _ => ⟨?_, v.2, ?_⟩⟩
    · rw [h2]
      simp [vf_upd]
    · rw [← h2]
theorem okI_G {c : Int} {tab : List Nat} {F : (Nat × SS) ⊕ (Int32 × SS)} {b : Int32} {m' : SS} (h : okI c tab F b m') : okG c tab F b m' := by cases F <;> exact h
theorem okL_G {c : Int} {tab : List Nat} {F : (Nat × SS) ⊕ (Int64 × SS)} {b : Int64} {m' : SS} (h : okL c tab F b m') : okG c tab F b m' := by cases F <;> exact h
theorem okG_l {β : Type} {c : Int} {tab : List Nat} {F : (Nat × SS) ⊕ (β × SS)} {b : β} {m' : SS} (h : okG c tab F b m') : ∀ k, F = .inl k → ∃ i : Nat, tab[i]? = some k.1 ∧ gI m' 0 = nI (i + 1) := by
  intro k hk
  rw [hk] at h
  exact h.1
theorem tb5 {tab : List Nat} (h : tab.length ≤ 5) : ∀ i k, tab[i]? = some k → i < 5 := fun _ _ hi => Nat.lt_of_lt_of_le (List.getElem?_eq_some_iff.mp hi).1 h
theorem lg_self (a : Int64) : lg_cmp a a = 0 := by simp [lg_cmp]
theorem rg_i2c (v : Int32) : rg 0 65535 ((v.toUInt32 % 65536).toInt32) := by
  have h : (v.toUInt32 % 65536).toNat < 65536 := by
    rw [UInt32.toNat_mod]
    exact Nat.mod_lt _ (by decide)
  generalize v.toUInt32 % 65536 = u at h
  have e : u.toInt32.toInt = (u.toNat : Int) := by
    show u.toBitVec.toInt = _
    rw [BitVec.toInt_eq_toNat_of_lt (by show 2 * u.toNat < 2 ^ 32; omega)]
    rfl
  exact ⟨by rw [e]; omega, by rw [e]; omega⟩
theorem us_fin {x u : SS} {v : UInt32} (h : fX10_usedShare x = .inr (v, u)) : FP.Core.fIsNaN v = false := by
  unfold fX10_usedShare at h
  split at h
  · cases h
  · rename_i h0
    cases h
    refine FP.Core.fdiv_out (fin_n32 (FP.Core.l2f_fin _)) (FP.Core.l2f_fin _) ?_
    intro z
    exact FP.Core.l2f_ne_zero (fun e => h0 (by rw [e]; rfl)) ((FP.Core.zero_bits232 _).mp z)
theorem mc_fin {x u : SS} {v : UInt64} (h : fX10_meanCycles x = .inr (v, u)) : FP.Core.dIsNaN v = false := by
  unfold fX10_meanCycles at h
  split at h
  · cases h
  · rename_i h0
    cases h
    refine FP.Core.ddiv_out (fin_n64 (FP.Core.l2d_fin _)) (FP.Core.i2d_fin _) ?_
    intro z
    exact FP.Core.i2d_ne_zero h0 ((FP.Core.zero_bits2 _).mp z)
theorem f2d_not {v : UInt32} (h : FP.Core.fIsNaN v = false) : FP.Core.dIsNaN (FP.f2d v) = false := by
  simp only [FP.f2d, h, Bool.false_eq_true, if_false]
  exact FP.Core.f2d_out h
theorem dc_self {v : UInt64} (h : FP.Core.dIsNaN v = false) (op : CmpOp) : Op.cmpValue (FP.dcmp v v) op = 0 := by
  have e : FP.dcmp v v = some .eq := FP.Core.dcmp_self ((FP.Core.notNaN_iff v).mp h)
  rw [e]
  rfl
def LC (p : Program) (l : Launch) (s : State) (m : MethodId) (b : Nat) (c : Code) (D : va_G) (kc : Nat → ClassId) (kd : ClassId) (L : Nat) (xs : Nat → Int32) : Prop :=
  CallFix p m c cL_law 9 s #[Value.ref b] (Cond.initialized RX10 :: lw_G) RL ∧ va_K D vwCl (tysK kc) s ∧ va_K D vwCl [(kd, .double)] s ∧ EV (fun z => s.heap.size ≤ z) s s.heap ∧ l.stackTraces = false ∧ va_X b L xs s s.heap ∧ b < s.heap.size
theorem LC.S {p : Program} {l : Launch} {s : State} {m : MethodId} {b : Nat} {c : Code} {D : va_G} {kc : Nat → ClassId} {kd : ClassId} {L : Nat} {xs : Nat → Int32} (C : LC p l s m b c D kc kd L xs) : CallFix p m c cL_law 9 s #[Value.ref b] (Cond.initialized RX10 :: lw_G) RL := C.1
theorem LC.hK {p : Program} {l : Launch} {s : State} {m : MethodId} {b : Nat} {c : Code} {D : va_G} {kc : Nat → ClassId} {kd : ClassId} {L : Nat} {xs : Nat → Int32} (C : LC p l s m b c D kc kd L xs) : va_K D vwCl (tysK kc) s := C.2.1
theorem LC.hKd {p : Program} {l : Launch} {s : State} {m : MethodId} {b : Nat} {c : Code} {D : va_G} {kc : Nat → ClassId} {kd : ClassId} {L : Nat} {xs : Nat → Int32} (C : LC p l s m b c D kc kd L xs) : va_K D vwCl [(kd, .double)] s := C.2.2.1
theorem LC.hE {p : Program} {l : Launch} {s : State} {m : MethodId} {b : Nat} {c : Code} {D : va_G} {kc : Nat → ClassId} {kd : ClassId} {L : Nat} {xs : Nat → Int32} (C : LC p l s m b c D kc kd L xs) : EV (fun z => s.heap.size ≤ z) s s.heap := C.2.2.2.1
theorem LC.hl {p : Program} {l : Launch} {s : State} {m : MethodId} {b : Nat} {c : Code} {D : va_G} {kc : Nat → ClassId} {kd : ClassId} {L : Nat} {xs : Nat → Int32} (C : LC p l s m b c D kc kd L xs) : l.stackTraces = false := C.2.2.2.2.1
theorem LC.hX {p : Program} {l : Launch} {s : State} {m : MethodId} {b : Nat} {c : Code} {D : va_G} {kc : Nat → ClassId} {kd : ClassId} {L : Nat} {xs : Nat → Int32} (C : LC p l s m b c D kc kd L xs) : va_X b L xs s s.heap := C.2.2.2.2.2.1
theorem LC.hbl {p : Program} {l : Launch} {s : State} {m : MethodId} {b : Nat} {c : Code} {D : va_G} {kc : Nat → ClassId} {kd : ClassId} {L : Nat} {xs : Nat → Int32} (C : LC p l s m b c D kc kd L xs) : b < s.heap.size := C.2.2.2.2.2.2
theorem LC.hbA {p : Program} {l : Launch} {s : State} {m : MethodId} {b : Nat} {c : Code} {D : va_G} {kc : Nat → ClassId} {kd : ClassId} {L : Nat} {xs : Nat → Int32} (C : LC p l s m b c D kc kd L xs) : ¬ (fun z => s.heap.size ≤ z) b := Nat.not_le.mpr C.hbl
abbrev LZ (p : Program) (l : Launch) (e : Env) (s : State) (m : MethodId) (b : Nat) (below : List Frame) (meth : Method) (c : Code) (D : va_G) (kc : Nat → ClassId) (kd : ClassId) (ad am : Nat → Nat) (o1 o2 : Nat) (Q : State → Prop) (cells slots : Nat) (f : Nat → Int64) (g : Nat → UInt64) (x mm : SS) (pc : Nat) (i5 : Int32) : Prop :=
  Z p l e room_1 s m #[Value.ref b] below meth c cells slots Q 9 (fun z => s.heap.size ≤ z) (LA D kc ad am o1 o2 (.inl (kc 2, 1, .inr (.inl f))) (.inl (kd, 1, .inr (.inr (.inr (.inl g))))) mm (fun z => s.heap.size ≤ z)) x pc [(0, .ref b), (1, .ref (ad 0)), (2, .ref (am 0)), (3, .ref o1), (4, .ref o2), (5, .int i5)] []
