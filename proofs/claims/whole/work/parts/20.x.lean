def fX_mw (ad : Nat → Nat) (q : SS) : List Value := [.ref (ad 1), .ref (ad 2), .ref (ad 3), .ref (ad 4), .ref (ad 5)]
def fX_store (ad : Nat → Nat) (q : SS) : List Value := [.ref (ad 12), .ref (ad 13), .ref (ad 14), .ref (ad 15), .int (gI q 204), .int (gI q 205)]
def fX_memory (ad : Nat → Nat) (q : SS) : List Value := [.ref (ad 16), .ref (ad 17), .ref (ad 18), .ref (ad 19), .ref (ad 20), .int (gI q 305)]
def fX_counts (ad : Nat → Nat) (q : SS) : List Value := [.ref (ad 21), .int (gI q 401), .int (gI q 402), .int (gI q 403), .int (gI q 404), .int (gI q 405), .int (gI q 406), .int (gI q 407), .long (gL q 408), .long (gL q 409)]
def fX_proc (ad : Nat → Nat) (q : SS) : List Value := [.ref (ad 1), .ref (ad 2), .ref (ad 3), .ref (ad 6), .ref (ad 7), .ref (ad 8), .ref (ad 9), .ref (ad 10), .ref (ad 22), .int (gI q 509), .int (gI q 510), .int (gI q 511), .int (gI q 512), .int (gI q 513), .int (gI q 514), .int (gI q 515), .int (gI q 516), .int (gI q 517), .int (gI q 518)]
def fX_checker (ad : Nat → Nat) (q : SS) : List Value := [.ref (ad 1), .ref (ad 23), .ref (ad 24), .int (gI q 603), .int (gI q 604), .int (gI q 605)]
def fX_now (ad : Nat → Nat) (q : SS) : List Value := [.ref (ad 25), .int (gI q 701), .int (gI q 702), .int (gI q 703), .int (gI q 704), .int (gI q 705), .int (gI q 706)]
def fX_keptv (ad : Nat → Nat) (q : SS) : List Value := [.ref (ad 26), .int (gI q 801), .int (gI q 802), .int (gI q 803), .int (gI q 804), .int (gI q 805), .int (gI q 806)]
def fX_hidden (ad : Nat → Nat) (q : SS) : List Value := [.int (gI q 900), .int (gI q 901), .int (gI q 902), .int (gI q 903), .int (gI q 904), .int (gI q 905)]
def fX_flags (ad : Nat → Nat) (q : SS) : List Value := [.int (gI q 1000), .int (gI q 1001), .int (gI q 1002), .int (gI q 1003)]
def fX_dfn (ad : Nat → Nat) (q : SS) : List Value := [.ref (ad 11), .int (gI q 1101), .int (gI q 1102), .int (gI q 1103), .int (gI q 1104), .int (gI q 1105), .int (gI q 1106)]
def fX_after (ad : Nat → Nat) (q : SS) : List Value := [.ref (ad 27), .int (gI q 1201), .int (gI q 1202), .int (gI q 1203), .int (gI q 1204), .int (gI q 1205), .int (gI q 1206)]
def wX (kc : Nat → ClassId) (ad wad : Nat → Nat) (q : SS) : va_W := [(ad 0, .inr (12, fX_mw ad q)),
  (ad 1, .inr (9, fX_store ad q)),
  (ad 2, .inr (7, fX_memory ad q)),
  (ad 3, .inr (3, fX_counts ad q)),
  (ad 4, .inr (8, fX_proc ad q)),
  (ad 5, .inr (2, fX_checker ad q)),
  (ad 6, .inr (10, fX_now ad q)),
  (ad 7, .inr (10, fX_keptv ad q)),
  (ad 8, .inr (5, fX_hidden ad q)),
  (ad 9, .inr (6, fX_flags ad q)),
  (ad 10, .inr (4, fX_dfn ad q)),
  (ad 11, .inr (10, fX_after ad q)),
  (ad 12, .inl (kc 4, 80, .inr (.inr (.inr (.inr (fun k => if gA q 39 k = 0 then none else some (wad k))))))),
  (ad 13, .inl (kc 1, 64, .inl (gA q 13))),
  (ad 14, .inl (kc 0, 32, .inl (gA q 14))),
  (ad 15, .inl (kc 0, 80, .inl (gA q 15))),
  (ad 16, .inl (kc 0, 64, .inl (gA q 16))),
  (ad 17, .inl (kc 0, 64, .inl (gA q 17))),
  (ad 18, .inl (kc 1, 4, .inl (gA q 18))),
  (ad 19, .inl (kc 0, 64, .inl (gA q 19))),
  (ad 20, .inl (kc 1, 64, .inl (gA q 20))),
  (ad 21, .inl (kc 2, 32, .inr (.inl (gB q 21)))),
  (ad 22, .inl (kc 0, 4, .inl (gA q 22))),
  (ad 23, .inl (kc 0, 80, .inl (gA q 23))),
  (ad 24, .inl (kc 0, 400, .inl (gA q 24))),
  (ad 25, .inl (kc 0, 4, .inl (gA q 25))),
  (ad 26, .inl (kc 0, 4, .inl (gA q 26))),
  (ad 27, .inl (kc 0, 4, .inl (gA q 27)))]
theorem wXp204 (kc : Nat → ClassId) (ad wad : Nat → Nat) (q : SS) (v : Int32) : ∀ tl, (wX kc ad wad q ++ tl).set 1 (ad 1, .inr (9, (fX_store ad q).set 4 (.int v))) = wX kc ad wad (sI q 204 v) ++ tl := fun _ => rfl
theorem wXp205 (kc : Nat → ClassId) (ad wad : Nat → Nat) (q : SS) (v : Int32) : ∀ tl, (wX kc ad wad q ++ tl).set 1 (ad 1, .inr (9, (fX_store ad q).set 5 (.int v))) = wX kc ad wad (sI q 205 v) ++ tl := fun _ => rfl
theorem wXp305 (kc : Nat → ClassId) (ad wad : Nat → Nat) (q : SS) (v : Int32) : ∀ tl, (wX kc ad wad q ++ tl).set 2 (ad 2, .inr (7, (fX_memory ad q).set 5 (.int v))) = wX kc ad wad (sI q 305 v) ++ tl := fun _ => rfl
theorem wXp401 (kc : Nat → ClassId) (ad wad : Nat → Nat) (q : SS) (v : Int32) : ∀ tl, (wX kc ad wad q ++ tl).set 3 (ad 3, .inr (3, (fX_counts ad q).set 1 (.int v))) = wX kc ad wad (sI q 401 v) ++ tl := fun _ => rfl
theorem wXp402 (kc : Nat → ClassId) (ad wad : Nat → Nat) (q : SS) (v : Int32) : ∀ tl, (wX kc ad wad q ++ tl).set 3 (ad 3, .inr (3, (fX_counts ad q).set 2 (.int v))) = wX kc ad wad (sI q 402 v) ++ tl := fun _ => rfl
theorem wXp403 (kc : Nat → ClassId) (ad wad : Nat → Nat) (q : SS) (v : Int32) : ∀ tl, (wX kc ad wad q ++ tl).set 3 (ad 3, .inr (3, (fX_counts ad q).set 3 (.int v))) = wX kc ad wad (sI q 403 v) ++ tl := fun _ => rfl
theorem wXp404 (kc : Nat → ClassId) (ad wad : Nat → Nat) (q : SS) (v : Int32) : ∀ tl, (wX kc ad wad q ++ tl).set 3 (ad 3, .inr (3, (fX_counts ad q).set 4 (.int v))) = wX kc ad wad (sI q 404 v) ++ tl := fun _ => rfl
theorem wXp405 (kc : Nat → ClassId) (ad wad : Nat → Nat) (q : SS) (v : Int32) : ∀ tl, (wX kc ad wad q ++ tl).set 3 (ad 3, .inr (3, (fX_counts ad q).set 5 (.int v))) = wX kc ad wad (sI q 405 v) ++ tl := fun _ => rfl
theorem wXp406 (kc : Nat → ClassId) (ad wad : Nat → Nat) (q : SS) (v : Int32) : ∀ tl, (wX kc ad wad q ++ tl).set 3 (ad 3, .inr (3, (fX_counts ad q).set 6 (.int v))) = wX kc ad wad (sI q 406 v) ++ tl := fun _ => rfl
theorem wXp407 (kc : Nat → ClassId) (ad wad : Nat → Nat) (q : SS) (v : Int32) : ∀ tl, (wX kc ad wad q ++ tl).set 3 (ad 3, .inr (3, (fX_counts ad q).set 7 (.int v))) = wX kc ad wad (sI q 407 v) ++ tl := fun _ => rfl
theorem wXp408 (kc : Nat → ClassId) (ad wad : Nat → Nat) (q : SS) (v : Int64) : ∀ tl, (wX kc ad wad q ++ tl).set 3 (ad 3, .inr (3, (fX_counts ad q).set 8 (.long v))) = wX kc ad wad (sL q 408 v) ++ tl := fun _ => rfl
theorem wXp409 (kc : Nat → ClassId) (ad wad : Nat → Nat) (q : SS) (v : Int64) : ∀ tl, (wX kc ad wad q ++ tl).set 3 (ad 3, .inr (3, (fX_counts ad q).set 9 (.long v))) = wX kc ad wad (sL q 409 v) ++ tl := fun _ => rfl
theorem wXp509 (kc : Nat → ClassId) (ad wad : Nat → Nat) (q : SS) (v : Int32) : ∀ tl, (wX kc ad wad q ++ tl).set 4 (ad 4, .inr (8, (fX_proc ad q).set 9 (.int v))) = wX kc ad wad (sI q 509 v) ++ tl := fun _ => rfl
theorem wXp510 (kc : Nat → ClassId) (ad wad : Nat → Nat) (q : SS) (v : Int32) : ∀ tl, (wX kc ad wad q ++ tl).set 4 (ad 4, .inr (8, (fX_proc ad q).set 10 (.int v))) = wX kc ad wad (sI q 510 v) ++ tl := fun _ => rfl
theorem wXp511 (kc : Nat → ClassId) (ad wad : Nat → Nat) (q : SS) (v : Int32) : ∀ tl, (wX kc ad wad q ++ tl).set 4 (ad 4, .inr (8, (fX_proc ad q).set 11 (.int v))) = wX kc ad wad (sI q 511 v) ++ tl := fun _ => rfl
theorem wXp512 (kc : Nat → ClassId) (ad wad : Nat → Nat) (q : SS) (v : Int32) : ∀ tl, (wX kc ad wad q ++ tl).set 4 (ad 4, .inr (8, (fX_proc ad q).set 12 (.int v))) = wX kc ad wad (sI q 512 v) ++ tl := fun _ => rfl
theorem wXp513 (kc : Nat → ClassId) (ad wad : Nat → Nat) (q : SS) (v : Int32) : ∀ tl, (wX kc ad wad q ++ tl).set 4 (ad 4, .inr (8, (fX_proc ad q).set 13 (.int v))) = wX kc ad wad (sI q 513 v) ++ tl := fun _ => rfl
theorem wXp514 (kc : Nat → ClassId) (ad wad : Nat → Nat) (q : SS) (v : Int32) : ∀ tl, (wX kc ad wad q ++ tl).set 4 (ad 4, .inr (8, (fX_proc ad q).set 14 (.int v))) = wX kc ad wad (sI q 514 v) ++ tl := fun _ => rfl
theorem wXp515 (kc : Nat → ClassId) (ad wad : Nat → Nat) (q : SS) (v : Int32) : ∀ tl, (wX kc ad wad q ++ tl).set 4 (ad 4, .inr (8, (fX_proc ad q).set 15 (.int v))) = wX kc ad wad (sI q 515 v) ++ tl := fun _ => rfl
theorem wXp516 (kc : Nat → ClassId) (ad wad : Nat → Nat) (q : SS) (v : Int32) : ∀ tl, (wX kc ad wad q ++ tl).set 4 (ad 4, .inr (8, (fX_proc ad q).set 16 (.int v))) = wX kc ad wad (sI q 516 v) ++ tl := fun _ => rfl
theorem wXp517 (kc : Nat → ClassId) (ad wad : Nat → Nat) (q : SS) (v : Int32) : ∀ tl, (wX kc ad wad q ++ tl).set 4 (ad 4, .inr (8, (fX_proc ad q).set 17 (.int v))) = wX kc ad wad (sI q 517 v) ++ tl := fun _ => rfl
theorem wXp518 (kc : Nat → ClassId) (ad wad : Nat → Nat) (q : SS) (v : Int32) : ∀ tl, (wX kc ad wad q ++ tl).set 4 (ad 4, .inr (8, (fX_proc ad q).set 18 (.int v))) = wX kc ad wad (sI q 518 v) ++ tl := fun _ => rfl
theorem wXp603 (kc : Nat → ClassId) (ad wad : Nat → Nat) (q : SS) (v : Int32) : ∀ tl, (wX kc ad wad q ++ tl).set 5 (ad 5, .inr (2, (fX_checker ad q).set 3 (.int v))) = wX kc ad wad (sI q 603 v) ++ tl := fun _ => rfl
theorem wXp604 (kc : Nat → ClassId) (ad wad : Nat → Nat) (q : SS) (v : Int32) : ∀ tl, (wX kc ad wad q ++ tl).set 5 (ad 5, .inr (2, (fX_checker ad q).set 4 (.int v))) = wX kc ad wad (sI q 604 v) ++ tl := fun _ => rfl
theorem wXp605 (kc : Nat → ClassId) (ad wad : Nat → Nat) (q : SS) (v : Int32) : ∀ tl, (wX kc ad wad q ++ tl).set 5 (ad 5, .inr (2, (fX_checker ad q).set 5 (.int v))) = wX kc ad wad (sI q 605 v) ++ tl := fun _ => rfl
theorem wXp701 (kc : Nat → ClassId) (ad wad : Nat → Nat) (q : SS) (v : Int32) : ∀ tl, (wX kc ad wad q ++ tl).set 6 (ad 6, .inr (10, (fX_now ad q).set 1 (.int v))) = wX kc ad wad (sI q 701 v) ++ tl := fun _ => rfl
theorem wXp702 (kc : Nat → ClassId) (ad wad : Nat → Nat) (q : SS) (v : Int32) : ∀ tl, (wX kc ad wad q ++ tl).set 6 (ad 6, .inr (10, (fX_now ad q).set 2 (.int v))) = wX kc ad wad (sI q 702 v) ++ tl := fun _ => rfl
theorem wXp703 (kc : Nat → ClassId) (ad wad : Nat → Nat) (q : SS) (v : Int32) : ∀ tl, (wX kc ad wad q ++ tl).set 6 (ad 6, .inr (10, (fX_now ad q).set 3 (.int v))) = wX kc ad wad (sI q 703 v) ++ tl := fun _ => rfl
theorem wXp704 (kc : Nat → ClassId) (ad wad : Nat → Nat) (q : SS) (v : Int32) : ∀ tl, (wX kc ad wad q ++ tl).set 6 (ad 6, .inr (10, (fX_now ad q).set 4 (.int v))) = wX kc ad wad (sI q 704 v) ++ tl := fun _ => rfl
theorem wXp705 (kc : Nat → ClassId) (ad wad : Nat → Nat) (q : SS) (v : Int32) : ∀ tl, (wX kc ad wad q ++ tl).set 6 (ad 6, .inr (10, (fX_now ad q).set 5 (.int v))) = wX kc ad wad (sI q 705 v) ++ tl := fun _ => rfl
theorem wXp706 (kc : Nat → ClassId) (ad wad : Nat → Nat) (q : SS) (v : Int32) : ∀ tl, (wX kc ad wad q ++ tl).set 6 (ad 6, .inr (10, (fX_now ad q).set 6 (.int v))) = wX kc ad wad (sI q 706 v) ++ tl := fun _ => rfl
theorem wXp801 (kc : Nat → ClassId) (ad wad : Nat → Nat) (q : SS) (v : Int32) : ∀ tl, (wX kc ad wad q ++ tl).set 7 (ad 7, .inr (10, (fX_keptv ad q).set 1 (.int v))) = wX kc ad wad (sI q 801 v) ++ tl := fun _ => rfl
theorem wXp802 (kc : Nat → ClassId) (ad wad : Nat → Nat) (q : SS) (v : Int32) : ∀ tl, (wX kc ad wad q ++ tl).set 7 (ad 7, .inr (10, (fX_keptv ad q).set 2 (.int v))) = wX kc ad wad (sI q 802 v) ++ tl := fun _ => rfl
theorem wXp803 (kc : Nat → ClassId) (ad wad : Nat → Nat) (q : SS) (v : Int32) : ∀ tl, (wX kc ad wad q ++ tl).set 7 (ad 7, .inr (10, (fX_keptv ad q).set 3 (.int v))) = wX kc ad wad (sI q 803 v) ++ tl := fun _ => rfl
theorem wXp804 (kc : Nat → ClassId) (ad wad : Nat → Nat) (q : SS) (v : Int32) : ∀ tl, (wX kc ad wad q ++ tl).set 7 (ad 7, .inr (10, (fX_keptv ad q).set 4 (.int v))) = wX kc ad wad (sI q 804 v) ++ tl := fun _ => rfl
theorem wXp805 (kc : Nat → ClassId) (ad wad : Nat → Nat) (q : SS) (v : Int32) : ∀ tl, (wX kc ad wad q ++ tl).set 7 (ad 7, .inr (10, (fX_keptv ad q).set 5 (.int v))) = wX kc ad wad (sI q 805 v) ++ tl := fun _ => rfl
theorem wXp806 (kc : Nat → ClassId) (ad wad : Nat → Nat) (q : SS) (v : Int32) : ∀ tl, (wX kc ad wad q ++ tl).set 7 (ad 7, .inr (10, (fX_keptv ad q).set 6 (.int v))) = wX kc ad wad (sI q 806 v) ++ tl := fun _ => rfl
theorem wXp900 (kc : Nat → ClassId) (ad wad : Nat → Nat) (q : SS) (v : Int32) : ∀ tl, (wX kc ad wad q ++ tl).set 8 (ad 8, .inr (5, (fX_hidden ad q).set 0 (.int v))) = wX kc ad wad (sI q 900 v) ++ tl := fun _ => rfl
theorem wXp901 (kc : Nat → ClassId) (ad wad : Nat → Nat) (q : SS) (v : Int32) : ∀ tl, (wX kc ad wad q ++ tl).set 8 (ad 8, .inr (5, (fX_hidden ad q).set 1 (.int v))) = wX kc ad wad (sI q 901 v) ++ tl := fun _ => rfl
theorem wXp902 (kc : Nat → ClassId) (ad wad : Nat → Nat) (q : SS) (v : Int32) : ∀ tl, (wX kc ad wad q ++ tl).set 8 (ad 8, .inr (5, (fX_hidden ad q).set 2 (.int v))) = wX kc ad wad (sI q 902 v) ++ tl := fun _ => rfl
theorem wXp903 (kc : Nat → ClassId) (ad wad : Nat → Nat) (q : SS) (v : Int32) : ∀ tl, (wX kc ad wad q ++ tl).set 8 (ad 8, .inr (5, (fX_hidden ad q).set 3 (.int v))) = wX kc ad wad (sI q 903 v) ++ tl := fun _ => rfl
theorem wXp904 (kc : Nat → ClassId) (ad wad : Nat → Nat) (q : SS) (v : Int32) : ∀ tl, (wX kc ad wad q ++ tl).set 8 (ad 8, .inr (5, (fX_hidden ad q).set 4 (.int v))) = wX kc ad wad (sI q 904 v) ++ tl := fun _ => rfl
theorem wXp905 (kc : Nat → ClassId) (ad wad : Nat → Nat) (q : SS) (v : Int32) : ∀ tl, (wX kc ad wad q ++ tl).set 8 (ad 8, .inr (5, (fX_hidden ad q).set 5 (.int v))) = wX kc ad wad (sI q 905 v) ++ tl := fun _ => rfl
theorem wXp1000 (kc : Nat → ClassId) (ad wad : Nat → Nat) (q : SS) (v : Int32) : ∀ tl, (wX kc ad wad q ++ tl).set 9 (ad 9, .inr (6, (fX_flags ad q).set 0 (.int v))) = wX kc ad wad (sI q 1000 v) ++ tl := fun _ => rfl
theorem wXp1001 (kc : Nat → ClassId) (ad wad : Nat → Nat) (q : SS) (v : Int32) : ∀ tl, (wX kc ad wad q ++ tl).set 9 (ad 9, .inr (6, (fX_flags ad q).set 1 (.int v))) = wX kc ad wad (sI q 1001 v) ++ tl := fun _ => rfl
theorem wXp1002 (kc : Nat → ClassId) (ad wad : Nat → Nat) (q : SS) (v : Int32) : ∀ tl, (wX kc ad wad q ++ tl).set 9 (ad 9, .inr (6, (fX_flags ad q).set 2 (.int v))) = wX kc ad wad (sI q 1002 v) ++ tl := fun _ => rfl
theorem wXp1003 (kc : Nat → ClassId) (ad wad : Nat → Nat) (q : SS) (v : Int32) : ∀ tl, (wX kc ad wad q ++ tl).set 9 (ad 9, .inr (6, (fX_flags ad q).set 3 (.int v))) = wX kc ad wad (sI q 1003 v) ++ tl := fun _ => rfl
theorem wXp1101 (kc : Nat → ClassId) (ad wad : Nat → Nat) (q : SS) (v : Int32) : ∀ tl, (wX kc ad wad q ++ tl).set 10 (ad 10, .inr (4, (fX_dfn ad q).set 1 (.int v))) = wX kc ad wad (sI q 1101 v) ++ tl := fun _ => rfl
theorem wXp1102 (kc : Nat → ClassId) (ad wad : Nat → Nat) (q : SS) (v : Int32) : ∀ tl, (wX kc ad wad q ++ tl).set 10 (ad 10, .inr (4, (fX_dfn ad q).set 2 (.int v))) = wX kc ad wad (sI q 1102 v) ++ tl := fun _ => rfl
theorem wXp1103 (kc : Nat → ClassId) (ad wad : Nat → Nat) (q : SS) (v : Int32) : ∀ tl, (wX kc ad wad q ++ tl).set 10 (ad 10, .inr (4, (fX_dfn ad q).set 3 (.int v))) = wX kc ad wad (sI q 1103 v) ++ tl := fun _ => rfl
theorem wXp1104 (kc : Nat → ClassId) (ad wad : Nat → Nat) (q : SS) (v : Int32) : ∀ tl, (wX kc ad wad q ++ tl).set 10 (ad 10, .inr (4, (fX_dfn ad q).set 4 (.int v))) = wX kc ad wad (sI q 1104 v) ++ tl := fun _ => rfl
theorem wXp1105 (kc : Nat → ClassId) (ad wad : Nat → Nat) (q : SS) (v : Int32) : ∀ tl, (wX kc ad wad q ++ tl).set 10 (ad 10, .inr (4, (fX_dfn ad q).set 5 (.int v))) = wX kc ad wad (sI q 1105 v) ++ tl := fun _ => rfl
theorem wXp1106 (kc : Nat → ClassId) (ad wad : Nat → Nat) (q : SS) (v : Int32) : ∀ tl, (wX kc ad wad q ++ tl).set 10 (ad 10, .inr (4, (fX_dfn ad q).set 6 (.int v))) = wX kc ad wad (sI q 1106 v) ++ tl := fun _ => rfl
theorem wXp1201 (kc : Nat → ClassId) (ad wad : Nat → Nat) (q : SS) (v : Int32) : ∀ tl, (wX kc ad wad q ++ tl).set 11 (ad 11, .inr (10, (fX_after ad q).set 1 (.int v))) = wX kc ad wad (sI q 1201 v) ++ tl := fun _ => rfl
theorem wXp1202 (kc : Nat → ClassId) (ad wad : Nat → Nat) (q : SS) (v : Int32) : ∀ tl, (wX kc ad wad q ++ tl).set 11 (ad 11, .inr (10, (fX_after ad q).set 2 (.int v))) = wX kc ad wad (sI q 1202 v) ++ tl := fun _ => rfl
theorem wXp1203 (kc : Nat → ClassId) (ad wad : Nat → Nat) (q : SS) (v : Int32) : ∀ tl, (wX kc ad wad q ++ tl).set 11 (ad 11, .inr (10, (fX_after ad q).set 3 (.int v))) = wX kc ad wad (sI q 1203 v) ++ tl := fun _ => rfl
theorem wXp1204 (kc : Nat → ClassId) (ad wad : Nat → Nat) (q : SS) (v : Int32) : ∀ tl, (wX kc ad wad q ++ tl).set 11 (ad 11, .inr (10, (fX_after ad q).set 4 (.int v))) = wX kc ad wad (sI q 1204 v) ++ tl := fun _ => rfl
theorem wXp1205 (kc : Nat → ClassId) (ad wad : Nat → Nat) (q : SS) (v : Int32) : ∀ tl, (wX kc ad wad q ++ tl).set 11 (ad 11, .inr (10, (fX_after ad q).set 5 (.int v))) = wX kc ad wad (sI q 1205 v) ++ tl := fun _ => rfl
theorem wXp1206 (kc : Nat → ClassId) (ad wad : Nat → Nat) (q : SS) (v : Int32) : ∀ tl, (wX kc ad wad q ++ tl).set 11 (ad 11, .inr (10, (fX_after ad q).set 6 (.int v))) = wX kc ad wad (sI q 1206 v) ++ tl := fun _ => rfl
theorem wXa13 (kc : Nat → ClassId) (ad wad : Nat → Nat) (q : SS) (v : Nat → Int32) : ∀ tl, (wX kc ad wad q ++ tl).set 13 (ad 13, .inl (kc 1, 64, .inl v)) = wX kc ad wad (sA q 13 v) ++ tl := fun _ => rfl
theorem wXa14 (kc : Nat → ClassId) (ad wad : Nat → Nat) (q : SS) (v : Nat → Int32) : ∀ tl, (wX kc ad wad q ++ tl).set 14 (ad 14, .inl (kc 0, 32, .inl v)) = wX kc ad wad (sA q 14 v) ++ tl := fun _ => rfl
theorem wXa15 (kc : Nat → ClassId) (ad wad : Nat → Nat) (q : SS) (v : Nat → Int32) : ∀ tl, (wX kc ad wad q ++ tl).set 15 (ad 15, .inl (kc 0, 80, .inl v)) = wX kc ad wad (sA q 15 v) ++ tl := fun _ => rfl
theorem wXa16 (kc : Nat → ClassId) (ad wad : Nat → Nat) (q : SS) (v : Nat → Int32) : ∀ tl, (wX kc ad wad q ++ tl).set 16 (ad 16, .inl (kc 0, 64, .inl v)) = wX kc ad wad (sA q 16 v) ++ tl := fun _ => rfl
theorem wXa17 (kc : Nat → ClassId) (ad wad : Nat → Nat) (q : SS) (v : Nat → Int32) : ∀ tl, (wX kc ad wad q ++ tl).set 17 (ad 17, .inl (kc 0, 64, .inl v)) = wX kc ad wad (sA q 17 v) ++ tl := fun _ => rfl
theorem wXa18 (kc : Nat → ClassId) (ad wad : Nat → Nat) (q : SS) (v : Nat → Int32) : ∀ tl, (wX kc ad wad q ++ tl).set 18 (ad 18, .inl (kc 1, 4, .inl v)) = wX kc ad wad (sA q 18 v) ++ tl := fun _ => rfl
theorem wXa19 (kc : Nat → ClassId) (ad wad : Nat → Nat) (q : SS) (v : Nat → Int32) : ∀ tl, (wX kc ad wad q ++ tl).set 19 (ad 19, .inl (kc 0, 64, .inl v)) = wX kc ad wad (sA q 19 v) ++ tl := fun _ => rfl
theorem wXa20 (kc : Nat → ClassId) (ad wad : Nat → Nat) (q : SS) (v : Nat → Int32) : ∀ tl, (wX kc ad wad q ++ tl).set 20 (ad 20, .inl (kc 1, 64, .inl v)) = wX kc ad wad (sA q 20 v) ++ tl := fun _ => rfl
theorem wXa21 (kc : Nat → ClassId) (ad wad : Nat → Nat) (q : SS) (v : Nat → Int64) : ∀ tl, (wX kc ad wad q ++ tl).set 21 (ad 21, .inl (kc 2, 32, .inr (.inl v))) = wX kc ad wad (sB q 21 v) ++ tl := fun _ => rfl
theorem wXa22 (kc : Nat → ClassId) (ad wad : Nat → Nat) (q : SS) (v : Nat → Int32) : ∀ tl, (wX kc ad wad q ++ tl).set 22 (ad 22, .inl (kc 0, 4, .inl v)) = wX kc ad wad (sA q 22 v) ++ tl := fun _ => rfl
theorem wXa23 (kc : Nat → ClassId) (ad wad : Nat → Nat) (q : SS) (v : Nat → Int32) : ∀ tl, (wX kc ad wad q ++ tl).set 23 (ad 23, .inl (kc 0, 80, .inl v)) = wX kc ad wad (sA q 23 v) ++ tl := fun _ => rfl
theorem wXa24 (kc : Nat → ClassId) (ad wad : Nat → Nat) (q : SS) (v : Nat → Int32) : ∀ tl, (wX kc ad wad q ++ tl).set 24 (ad 24, .inl (kc 0, 400, .inl v)) = wX kc ad wad (sA q 24 v) ++ tl := fun _ => rfl
theorem wXa25 (kc : Nat → ClassId) (ad wad : Nat → Nat) (q : SS) (v : Nat → Int32) : ∀ tl, (wX kc ad wad q ++ tl).set 25 (ad 25, .inl (kc 0, 4, .inl v)) = wX kc ad wad (sA q 25 v) ++ tl := fun _ => rfl
theorem wXa26 (kc : Nat → ClassId) (ad wad : Nat → Nat) (q : SS) (v : Nat → Int32) : ∀ tl, (wX kc ad wad q ++ tl).set 26 (ad 26, .inl (kc 0, 4, .inl v)) = wX kc ad wad (sA q 26 v) ++ tl := fun _ => rfl
theorem wXa27 (kc : Nat → ClassId) (ad wad : Nat → Nat) (q : SS) (v : Nat → Int32) : ∀ tl, (wX kc ad wad q ++ tl).set 27 (ad 27, .inl (kc 0, 4, .inl v)) = wX kc ad wad (sA q 27 v) ++ tl := fun _ => rfl
/-- the words' objects, by their places in the store -/
def wfl (q : SS) (k : Nat) : List Value := [.int (gA q 30 k), .int (gA q 31 k), .int (gA q 32 k), .int (gA q 33 k), .int (gA q 34 k), .int (gA q 35 k), .int (gA q 36 k), .int (gA q 37 k), .int (gA q 38 k)]
def isW (q : SS) (k : Nat) : Prop := k < 80 ∧ ¬ gA q 39 k = 0
def PLX (wad : Nat → Nat) (q : SS) (tl : va_W) : Prop := ∃ (L : List Nat) (f : Nat → va_E), tl = va_pl L f ∧ (∀ k, isW q k → wad k ∈ L ∧ f (wad k) = .inr (11, wfl q k)) ∧ ∀ k j, isW q k → isW q j → wad k = wad j → k = j
abbrev GX (D : va_G) (kc : Nat → ClassId) (ad wad : Nat → Nat) : GH := fun A => ZG D vwCl (wX kc ad wad) (PLX wad) A
def GXe (D : va_G) (kc : Nat → ClassId) (ad : Nat → Nat) : GH := fun A q H => ∃ wad, GX D kc ad wad A q H
section ZX
variable {p : Program} {l : Launch} {e : Env} {R : Room} {s : State} {m : MethodId} {args : Array Value} {below : List Frame} {meth : Method} {c : Code} {cells slots : Nat} {Q : State → Prop} {nL : Nat} {A : Nat → Prop} {q : SS} {pc : Nat} {lv : List (Nat × Value)} {rest : List Value} {cc : ByteArray} {Ts : List Cond} {own : String} {D : va_G} {kc : Nat → ClassId} {ad wad : Nat → Nat}
theorem z_exw (k : ∀ wad, Z p l e R s m args below meth c cells slots Q nL A (GX D kc ad wad A) q pc lv rest) : Z p l e R s m args below meth c cells slots Q nL A (GXe D kc ad A) q pc lv rest :=
  fun H locs ls h1 h2 h3 => by
    obtain ⟨wad, h1⟩ := h1
    exact k wad H locs ls h1 h2 h3
/-- the store's row of words: none, or the word's object -/
theorem z_aldw (S : CallFix p m c cc nL s args Ts own) (hK : va_K D vwCl (tysK kc) s) {i : Int32} (hin : vp_in i 80) (hdg : decode cc pc = .ok (.aaload, 1))
    (kn : gA q 39 i.toNatClampNeg = 0 → Z p l e R s m args below meth c cells slots Q nL A (GX D kc ad wad A) q (pc + 1) lv (.null :: rest)) (ks : ¬ gA q 39 i.toNatClampNeg = 0 → Z p l e R s m args below meth c cells slots Q nL A (GX D kc ad wad A) q (pc + 1) lv (.ref (wad i.toNatClampNeg) :: rest)) : Z p l e R s m args below meth c cells slots Q nL A (GX D kc ad wad A) q pc lv (.int i :: .ref (ad 12) :: rest) := by
  obtain ⟨hx, hb, hml, hown, hts⟩ := S
  intro H locs ls h1 h2 h3
  obtain ⟨tl, hP, hD, hL⟩ := id h1
  refine va_aldq hx hb hK hP 12 4 (n := 80) (f := fun k => if gA q 39 k = 0 then none else some (wad k)) rfl rfl hin hdg ?_
  by_cases h : gA q 39 i.toNatClampNeg = 0
  · rw [if_pos h]; exact kn h H locs ls h1 h2 h3
  · rw [if_neg h]; exact ks h H locs ls h1 h2 h3
theorem vp_in.lt {i : Int32} {n : Nat} (h : vp_in i n) : i.toNatClampNeg < n := Nat.not_le.mp fun z => h (Or.inr z)
theorem z_getW (S : CallFix p m c cc nL s args Ts own) (hK : va_K D vwCl (tysK kc) s) {k index : Nat} (hw : isW q k) (hin : ∀ x ∈ u_ws RX9 TX9 9, x ∈ Ts) (j : Nat) (hj : j < 9) (hlink : Cond.fieldLink own index RX9 (TX9 j).2.1 (TX9 j).2.2.1 ∈ Ts) (href : (TX9 j).1 = RX9) {v : Value} (hv : (wfl q k)[j]? = some v) (hdg : decode cc pc = .ok (.getfield index, 3)) (kk : Z p l e R s m args below meth c cells slots Q nL A (GX D kc ad wad A) q (pc + 3) lv (v :: rest)) : Z p l e R s m args below meth c cells slots Q nL A (GX D kc ad wad A) q pc lv (.ref (wad k) :: rest) := by
  obtain ⟨hx, hb, hml, hown, hts⟩ := S
  intro H locs ls h1 h2 h3
  obtain ⟨tl, hP, hD, L, f, rfl, hL, hI⟩ := id h1
  obtain ⟨ha, hf⟩ := hL k hw
  obtain ⟨n, hn⟩ := va_pl_get (X := wX kc ad wad q) (f := f) ha
  rw [hf] at hn
  exact va_get (ci := 11) hx hb hts hin hown hK hP n hn rfl j hj (hts _ hlink) (fun _ h9 => href ▸ h9) hv hdg (kk H locs ls h1 h2 h3)
theorem z_recvW (hK : va_K D vwCl (tysK kc) s) {k : Nat} (hw : isW q k) : ∀ H, GX D kc ad wad A q H → ∃ cell : Cell, H[wad k]? = some cell ∧ cell.vm.isStatics = false ∧ s.vm.findClass RX9 = some cell.cls := by
  intro H h
  obtain ⟨tl, hP, hD, L, f, rfl, hL, hI⟩ := h
  obtain ⟨ha, hf⟩ := hL k hw
  obtain ⟨n, hn⟩ := va_pl_get (X := wX kc ad wad q) (f := f) ha
  rw [hf] at hn
  exact va_recv (ci := 11) hK hP rfl hn
theorem wfl_set (q : SS) (k j : Nat) (hj : j < 9) (x : Int32) : (wfl q k).set j (.int x) = wfl (sA q (30 + j) (upd (gA q (30 + j)) k x)) k := by
  match j, hj with
  | 0, _ => simp [wfl, gA, sA, va_up, upd]
  | 1, _ => simp [wfl, gA, sA, va_up, upd]
  | 2, _ => simp [wfl, gA, sA, va_up, upd]
  | 3, _ => simp [wfl, gA, sA, va_up, upd]
  | 4, _ => simp [wfl, gA, sA, va_up, upd]
  | 5, _ => simp [wfl, gA, sA, va_up, upd]
  | 6, _ => simp [wfl, gA, sA, va_up, upd]
  | 7, _ => simp [wfl, gA, sA, va_up, upd]
  | 8, _ => simp [wfl, gA, sA, va_up, upd]
  | j + 9, hj => exact absurd hj (by omega)
theorem wfl_other (q : SS) (k i j : Nat) (hj : j < 9) (x : Int32) (h : i ≠ k) : wfl (sA q (30 + j) (upd (gA q (30 + j)) k x)) i = wfl q i := by
  match j, hj with
  | 0, _ => simp [wfl, gA, sA, va_up, upd, h]
  | 1, _ => simp [wfl, gA, sA, va_up, upd, h]
  | 2, _ => simp [wfl, gA, sA, va_up, upd, h]
  | 3, _ => simp [wfl, gA, sA, va_up, upd, h]
  | 4, _ => simp [wfl, gA, sA, va_up, upd, h]
  | 5, _ => simp [wfl, gA, sA, va_up, upd, h]
  | 6, _ => simp [wfl, gA, sA, va_up, upd, h]
  | 7, _ => simp [wfl, gA, sA, va_up, upd, h]
  | 8, _ => simp [wfl, gA, sA, va_up, upd, h]
  | j + 9, hj => exact absurd hj (by omega)
theorem wX_words (kc : Nat → ClassId) (ad wad : Nat → Nat) (q : SS) (j : Nat) (hj : j < 9) (f : Nat → Int32) : wX kc ad wad (sA q (30 + j) f) = wX kc ad wad q := by
  match j, hj with
  | 0, _ => rfl
  | 1, _ => rfl
  | 2, _ => rfl
  | 3, _ => rfl
  | 4, _ => rfl
  | 5, _ => rfl
  | 6, _ => rfl
  | 7, _ => rfl
  | 8, _ => rfl
  | j + 9, hj => exact absurd hj (by omega)
theorem isW_words (q : SS) (j : Nat) (hj : j < 9) (f : Nat → Int32) (k : Nat) : isW (sA q (30 + j) f) k ↔ isW q k := by
  have e : gA (sA q (30 + j) f) 39 = gA q 39 := by
    show va_up _ _ _ _ = _
    rw [va_up_ne _ _ (by omega)]
    rfl
  rw [isW, isW, e]
theorem z_putW (S : CallFix p m c cc nL s args Ts own) (hK : va_K D vwCl (tysK kc) s) {k index : Nat} (hw : isW q k) (hin : ∀ x ∈ u_ws RX9 TX9 9, x ∈ Ts) (j : Nat) (hj : j < 9) (hlink : Cond.fieldLink own index RX9 (TX9 j).2.1 (TX9 j).2.2.1 ∈ Ts) (href : (TX9 j).1 = RX9) (hfin : (TX9 j).2.2.2 = false) {x : Int32} (hn : narrow (tyX9 j) (.int x) = .int x) (hfit : fits (tyX9 j) (.int x) = true) (hdg : decode cc pc = .ok (.putfield index, 3)) (kk : Z p l e R s m args below meth c cells slots Q nL A (GX D kc ad wad A) (sA q (30 + j) (upd (gA q (30 + j)) k x)) (pc + 3) lv rest) : Z p l e R s m args below meth c cells slots Q nL A (GX D kc ad wad A) q pc lv (.int x :: .ref (wad k) :: rest) := by
  obtain ⟨hx, hb, hml, hown, hts⟩ := S
  intro H locs ls h1 h2 h3
  obtain ⟨tl, hP, hD, L, f, rfl, hL, hI⟩ := id h1
  obtain ⟨ha, hf⟩ := hL k hw
  obtain ⟨n, hn2⟩ := va_pl_get (X := wX kc ad wad q) (f := f) ha
  have hn3 := hn2
  rw [hf] at hn2
  refine va_put (ci := 11) hx hb hts hin tyX9 tyX9_ok nmX9 hown hK hP hD h2 n hn2 rfl j hj (hts _ hlink) (fun _ h9 => href ▸ h9) hfin (tyX9_ok j hj) hn hfit (Nat.lt_of_lt_of_le hj (Nat.le_of_eq rfl)) hdg (fun H1 locs1 hP1 hD1 hS1 => ?_)
  rw [va_pl_set hD ha hn3, wfl_set q k j hj x] at hP1 hD1
  rw [← wX_words kc ad wad q j hj (upd (gA q (30 + j)) k x)] at hP1 hD1
  refine kk H1 locs1 ls ⟨_, hP1, hD1, L, _, rfl, fun i hi => ?_, fun i i2 hi hi2 => hI i i2 ((isW_words q j hj _ i).mp hi) ((isW_words q j hj _ i2).mp hi2)⟩ hS1 h3
  have hi := (isW_words q j hj _ i).mp hi
  refine ⟨(hL i hi).1, ?_⟩
  by_cases hik : i = k
  · subst hik
    exact va_up_self _ _ _
  · rw [va_up_ne _ _ (fun h => hik (hI i k hi hw h)), (hL i hi).2, wfl_other q k i j hj x hik]
end ZX
section ZY
variable {p : Program} {l : Launch} {e : Env} {R : Room} {s : State} {m : MethodId} {args : Array Value} {below : List Frame} {meth : Method} {c : Code} {cells slots : Nat} {Q : State → Prop} {nL : Nat} {A : Nat → Prop} {G : SS → Heap → Prop} {q : SS} {pc : Nat} {lv : List (Nat × Value)} {rest : List Value} {cc : ByteArray}
theorem z_ifnull (hx : p.tables.exec = Jvm.exec) (hb : c.code = cc) {x : Nat} {off : Int} (hdg : decode cc pc = .ok (.ifnull off, 3)) (k : Z p l e R s m args below meth c cells slots Q nL A G q (pc + 3) lv rest) : Z p l e R s m args below meth c cells slots Q nL A G q pc lv (.ref x :: rest) :=
  fun H locs ls h1 h2 h3 => lv_ifnull hx hb hdg (k H locs ls h1 h2 h3)
theorem z_ifnonnull (hx : p.tables.exec = Jvm.exec) (hb : c.code = cc) {x : Nat} {off : Int} {tgt : Nat} (hdg : decode cc pc = .ok (.ifnonnull off, 3)) (ht : (pc : Int) + off = (tgt : Int)) (k : Z p l e R s m args below meth c cells slots Q nL A G q tgt lv rest) : Z p l e R s m args below meth c cells slots Q nL A G q pc lv (.ref x :: rest) :=
  fun H locs ls h1 h2 h3 => lv_ifnonnull hx hb hdg ht (k H locs ls h1 h2 h3)
theorem z_ifnullN (hx : p.tables.exec = Jvm.exec) (hb : c.code = cc) {off : Int} {tgt : Nat} (hdg : decode cc pc = .ok (.ifnull off, 3)) (ht : (pc : Int) + off = (tgt : Int)) (k : Z p l e R s m args below meth c cells slots Q nL A G q tgt lv rest) : Z p l e R s m args below meth c cells slots Q nL A G q pc lv (.null :: rest) :=
  fun H locs ls h1 h2 h3 => lv_ifnullN hx hb hdg ht (k H locs ls h1 h2 h3)
theorem z_ifnonnullN (hx : p.tables.exec = Jvm.exec) (hb : c.code = cc) {off : Int} (hdg : decode cc pc = .ok (.ifnonnull off, 3)) (k : Z p l e R s m args below meth c cells slots Q nL A G q (pc + 3) lv rest) : Z p l e R s m args below meth c cells slots Q nL A G q pc lv (.null :: rest) :=
  fun H locs ls h1 h2 h3 => lv_ifnonnullN hx hb hdg (k H locs ls h1 h2 h3)
theorem z_null (hx : p.tables.exec = Jvm.exec) (hb : c.code = cc) (hdg : decode cc pc = .ok (.aconst_null, 1)) (k : Z p l e R s m args below meth c cells slots Q nL A G q (pc + 1) lv (.null :: rest)) : Z p l e R s m args below meth c cells slots Q nL A G q pc lv rest :=
  fun H locs ls h1 h2 h3 => lv_null hx hb hdg (k H locs ls h1 h2 h3)
theorem z_aload_nN (hx : p.tables.exec = Jvm.exec) (hb : c.code = cc) {k : Fin 4} {i j : Nat} (hdg : decode cc pc = .ok (.aload_n k, 1)) (hi : (k : Nat) = i) (hj : lv[j]? = some (i, .null)) (kk : Z p l e R s m args below meth c cells slots Q nL A G q (pc + 1) lv (.null :: rest)) : Z p l e R s m args below meth c cells slots Q nL A G q pc lv rest :=
  fun H locs ls h1 h2 h3 => lv_aload_nN hx hb hdg hi (lv_at h3 j hj) (kk H locs ls h1 h2 h3)
theorem z_aloadN (hx : p.tables.exec = Jvm.exec) (hb : c.code = cc) {i j : Nat} (hdg : decode cc pc = .ok (.aload i, 2)) (hj : lv[j]? = some (i, .null)) (kk : Z p l e R s m args below meth c cells slots Q nL A G q (pc + 2) lv (.null :: rest)) : Z p l e R s m args below meth c cells slots Q nL A G q pc lv rest :=
  fun H locs ls h1 h2 h3 => lv_aloadN hx hb hdg (lv_at h3 j hj) (kk H locs ls h1 h2 h3)
theorem z_astore_nN (hx : p.tables.exec = Jvm.exec) (hb : c.code = cc) {k : Fin 4} {i : Nat} {lv' : List (Nat × Value)} (hdg : decode cc pc = .ok (.astore_n k, 1)) (hi : (k : Nat) = i) (hn : i < nL) (hl : (i, Value.null) :: lv.filter (fun q => !(q.1 == i) && !(q.1 + 1 == i && q.2.category == 2)) = lv') (kk : Z p l e R s m args below meth c cells slots Q nL A G q (pc + 1) lv' rest) : Z p l e R s m args below meth c cells slots Q nL A G q pc lv (.null :: rest) :=
  fun H locs _ h1 h2 h3 => lv_astore_nN hx hb hdg hi h3 hn hl (fun ls' h3 => kk H locs ls' h1 h2 h3)
theorem z_astoreN (hx : p.tables.exec = Jvm.exec) (hb : c.code = cc) {i : Nat} {lv' : List (Nat × Value)} (hdg : decode cc pc = .ok (.astore i, 2)) (hn : i < nL) (hl : (i, Value.null) :: lv.filter (fun q => !(q.1 == i) && !(q.1 + 1 == i && q.2.category == 2)) = lv') (kk : Z p l e R s m args below meth c cells slots Q nL A G q (pc + 2) lv' rest) : Z p l e R s m args below meth c cells slots Q nL A G q pc lv (.null :: rest) :=
  fun H locs _ h1 h2 h3 => lv_astoreN hx hb hdg h3 hn hl (fun ls' h3 => kk H locs ls' h1 h2 h3)
end ZY
