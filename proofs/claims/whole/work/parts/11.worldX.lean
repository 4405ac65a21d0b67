/-! world X: families, cells, lengths -/
def nX : Nat := 58
def cntX : Nat → Nat := fun f => match f with
  | 0 => 1
  | 1 => 1
  | 2 => 1
  | 3 => 1
  | 4 => 1
  | 5 => 1
  | 6 => 8
  | 7 => 1
  | 8 => 1
  | 9 => 1
  | 10 => 1
  | 11 => 1
  | 12 => 6
  | 13 => 1
  | 14 => 1
  | 15 => 1
  | 16 => 2
  | 17 => 1
  | 18 => 1
  | 19 => 40
  | 20 => 40
  | 21 => 40
  | 22 => 12
  | 23 => 12
  | 24 => 12
  | 25 => 72
  | 26 => 12
  | 27 => 12
  | 28 => 12
  | 29 => 20
  | 30 => 12
  | 31 => 12
  | 32 => 12
  | 33 => 12
  | 34 => 1
  | 35 => 6
  | 36 => 1
  | 37 => 6
  | 38 => 1
  | 39 => 3
  | 40 => 1
  | 41 => 1
  | 42 => 1
  | 43 => 1
  | 44 => 1
  | 45 => 2
  | 46 => 2
  | 47 => 2
  | 48 => 2
  | 49 => 2
  | 50 => 2
  | 51 => 2
  | 52 => 1
  | 53 => 1
  | 54 => 1
  | 55 => 60
  | 56 => 1
  | 57 => 60
  | _ => 0
def cellX (E : XE) (ri : Nat → Int32) (rf : Nat → UInt32) (rl : Nat → Int64) (rd : Nat → UInt64) (f i : Nat) : va_E := match f with
  | 0 => .inr (10, [.ref (E.2.2.1 1 (0)), .ref (E.2.2.1 2 (0)), .int (ri 2), .ref (E.2.2.1 3 (0)), .ref (E.2.2.1 4 (0)), .ref (E.2.2.1 5 (0)), .ref (E.2.2.1 7 (0)), .ref (E.2.2.1 8 (0)), .ref (E.2.2.1 9 (0)), .ref (E.2.2.1 10 (0)), .ref (E.2.2.1 11 (0)), .int (ri 11), .ref (E.2.2.1 13 (0)), .ref (E.2.2.1 14 (0)), .ref (E.2.2.1 15 (0)), .ref (E.2.2.1 16 (0)), .ref (E.2.2.1 16 (1)), .ref (E.2.2.1 17 (0)), .ref (E.2.2.1 18 (0)), .int (ri 19)])
  | 1 => .inl (E.2.1 1, 16, .inr (.inr (.inl rf)))
  | 2 => .inl (E.2.1 1, 16, .inr (.inr (.inl rf)))
  | 3 => .inl (E.2.1 0, 6, .inl ri)
  | 4 => .inl (E.2.1 6, 40, .inr (.inr (.inr (.inr (fun j => some (E.2.2.1 19 (j)))))))
  | 5 => .inl (E.2.1 4, 8, .inr (.inr (.inr (.inr (fun j => some (E.2.2.1 6 (j)))))))
  | 6 => .inl (E.2.1 1, 16, .inr (.inr (.inl rf)))
  | 7 => .inl (E.2.1 7, 12, .inr (.inr (.inr (.inr (fun j => some (E.2.2.1 22 (j)))))))
  | 8 => .inl (E.2.1 8, 12, .inr (.inr (.inr (.inr (fun j => some (E.2.2.1 26 (j)))))))
  | 9 => .inl (E.2.1 9, 20, .inr (.inr (.inr (.inr (fun j => some (E.2.2.1 29 (j)))))))
  | 10 => .inl (E.2.1 10, 12, .inr (.inr (.inr (.inr (fun j => some (E.2.2.1 30 (j)))))))
  | 11 => .inl (E.2.1 3, 6, .inr (.inr (.inr (.inr (fun j => some (E.2.2.1 12 (j)))))))
  | 12 => .inl (E.2.1 0, 3, .inl ri)
  | 13 => .inr (8, [.ref (E.2.2.1 34 (0)), .ref (E.2.2.1 36 (0)), .double (rd 2), .double (rd 3), .double (rd 4), .ref (E.2.2.1 38 (0)), .ref (E.2.2.1 40 (0)), .ref (E.2.2.1 41 (0)), .ref (E.2.2.1 42 (0))])
  | 14 => .inl (E.2.1 2, 40, .inr (.inr (.inr (.inl rd))))
  | 15 => .inr (6, [.ref (E.2.2.1 43 (0)), .ref (E.2.2.1 44 (0))])
  | 16 => .inr (7, [.ref (E.2.2.1 45 (i)), .ref (E.2.2.1 46 (i)), .ref (E.2.2.1 47 (i)), .int (ri 3), .int (ri 4), .int (ri 5), .int (ri 6), .ref (E.2.2.1 48 (i)), .ref (E.2.2.1 49 (i)), .int (ri 9), .int (ri 10), .int (ri 11), .int (ri 12), .int (ri 13), .ref (E.2.2.1 50 (i)), .ref (E.2.2.1 51 (i)), .int (ri 16), .double (rd 17), .long (rl 18)])
  | 17 => .inr (5, [.ref (E.2.2.1 52 (0)), .int (ri 1), .ref (E.2.2.1 53 (0))])
  | 18 => .inr (0, [.ref (E.2.2.1 54 (0)), .ref (E.2.2.1 56 (0)), .int (ri 2), .int (ri 3)])
  | 19 => .inr (2, [.ref (E.2.2.1 20 (i)), .ref (E.2.2.1 21 (i))])
  | 20 => .inl (E.2.1 1, 16, .inr (.inr (.inl rf)))
  | 21 => .inl (E.2.1 1, 16, .inr (.inr (.inl rf)))
  | 22 => .inr (3, [.int (ri 0), .int (ri 1), .int (ri 2), .ref (E.2.2.1 23 (i)), .ref (E.2.2.1 24 (i))])
  | 23 => .inl (E.2.1 0, 6, .inl ri)
  | 24 => .inl (E.2.1 5, 6, .inr (.inr (.inr (.inr (fun j => some (E.2.2.1 25 (6 * i + j)))))))
  | 25 => .inl (E.2.1 2, 16, .inr (.inr (.inr (.inl rd))))
  | 26 => .inr (9, [.int (ri 0), .int (ri 1), .int (ri 2), .ref (E.2.2.1 27 (i)), .ref (E.2.2.1 28 (i))])
  | 27 => .inl (E.2.1 2, 3, .inr (.inr (.inr (.inl rd))))
  | 28 => .inl (E.2.1 2, 3, .inr (.inr (.inr (.inl rd))))
  | 29 => .inr (4, [.int (ri 0), .int (ri 1), .int (ri 2), .int (ri 3), .int (ri 4)])
  | 30 => .inr (1, [.int (ri 0), .int (ri 1), .int (ri 2), .ref (E.2.2.1 31 (i)), .ref (E.2.2.1 32 (i)), .int (ri 5), .ref (E.2.2.1 33 (i))])
  | 31 => .inl (E.2.1 0, 8, .inl ri)
  | 32 => .inl (E.2.1 0, 8, .inl ri)
  | 33 => .inl (E.2.1 1, 16, .inr (.inr (.inl rf)))
  | 34 => .inl (E.2.1 3, 6, .inr (.inr (.inr (.inr (fun j => some (E.2.2.1 35 (j)))))))
  | 35 => .inl (E.2.1 0, 16, .inl ri)
  | 36 => .inl (E.2.1 3, 6, .inr (.inr (.inr (.inr (fun j => some (E.2.2.1 37 (j)))))))
  | 37 => .inl (E.2.1 0, 16, .inl ri)
  | 38 => .inl (E.2.1 5, 3, .inr (.inr (.inr (.inr (fun j => some (E.2.2.1 39 (j)))))))
  | 39 => .inl (E.2.1 2, 16, .inr (.inr (.inr (.inl rd))))
  | 40 => .inl (E.2.1 2, 3, .inr (.inr (.inr (.inl rd))))
  | 41 => .inl (E.2.1 2, 3, .inr (.inr (.inr (.inl rd))))
  | 42 => .inl (E.2.1 2, 3, .inr (.inr (.inr (.inl rd))))
  | 43 => .inl (E.2.1 2, 16, .inr (.inr (.inr (.inl rd))))
  | 44 => .inl (E.2.1 1, 16, .inr (.inr (.inl rf)))
  | 45 => .inl (E.2.1 0, 20, .inl ri)
  | 46 => .inl (E.2.1 0, 20, .inl ri)
  | 47 => .inl (E.2.1 0, 20, .inl ri)
  | 48 => .inl (E.2.1 0, 3, .inl ri)
  | 49 => .inl (E.2.1 0, 3, .inl ri)
  | 50 => .inl (E.2.1 0, 3, .inl ri)
  | 51 => .inl (E.2.1 0, 3, .inl ri)
  | 52 => .inl (E.2.1 0, 68, .inl ri)
  | 53 => .inl (E.2.1 0, 68, .inl ri)
  | 54 => .inl (E.2.1 3, 60, .inr (.inr (.inr (.inr (fun j => some (E.2.2.1 55 (j)))))))
  | 55 => .inl (E.2.1 0, 4, .inl ri)
  | 56 => .inl (E.2.1 4, 60, .inr (.inr (.inr (.inr (fun j => some (E.2.2.1 57 (j)))))))
  | 57 => .inl (E.2.1 1, 32, .inr (.inr (.inl rf)))
  | _ => .inr (0, [])
def wX (E : XE) (st : Sto) : va_W := wlA cntX E.2.2.1 (fun f i => cellX E (gI st f i) (gF st f i) (gL st f i) (gD st f i) f i) nX
def LX (E : XE) : Prop := ∀ cell, va_D E.2.2.2 (wlA cntX E.2.2.1 cell nX)
def SX (E : XE) (s : State) (st : Sto) (H : Heap) (locs : List Loc) : Prop := va_P E.1 vwC (wX E st) H ∧ va_S E.2.2.2 s.heap H locs
def RX (E : XE) (st : Sto) (V : State) : Prop := va_P E.1 vwC (wX E st) V.heap ∧ va_K E.1 vwC (tysA E.2.1) V
def QX (E : XE) (v : Option Value) (st : Sto) : Array Value → State → Outcome → State → Prop := fun _ s0 oc t => oc = .returned v ∧ RX E st t ∧ va_F E.2.2.2 s0 t
theorem RX_blind {E : XE} {st : Sto} {as : List Value} : FrameBlind (va_Pc as (RX E st)) := fun a V g mk q => ⟨q.1, q.2.1, va_K.moved (u := V) (U := V.calling g mk a) (Vm.Alike.refl V.vm) q.2.2⟩
theorem wX_at {E : XE} {st : Sto} {f i : Nat} (hf : f < nX) (hi : i < cntX f) : (wX E st)[offA cntX f + i]? = some (E.2.2.1 f i, cellX E (gI st f i) (gF st f i) (gL st f i) (gD st f i) f i) := wlA_at hf hi
theorem gI_self {st : Sto} {f i j : Nat} {v : Int32} : gI (sI st f i j v) f i = fun c => if c = j then v else gI st f i c := up3_self
theorem gI_ne {st : Sto} {f i j : Nat} {v : Int32} {a b : Nat} (h : ¬ (a = f ∧ b = i)) : gI (sI st f i j v) a b = gI st a b := up3_ne h
theorem wX_sI {E : XE} {st : Sto} {f i j : Nat} {v : Int32} {e : va_E} (hf : f < nX) (hi : i < cntX f) (he : cellX E (gI (sI st f i j v) f i) (gF st f i) (gL st f i) (gD st f i) f i = e) : (wX E st).set (offA cntX f + i) (E.2.2.1 f i, e) = wX E (sI st f i j v) := by
  refine wlA_set hf hi he (fun a b h => ?_)
  show cellX E (gI (sI st f i j v) a b) (gF st a b) (gL st a b) (gD st a b) a b = cellX E (gI st a b) (gF st a b) (gL st a b) (gD st a b) a b
  rw [gI_ne h]
theorem wX_cI {E : XE} {st : Sto} {f i sp f1 i1 dp n : Nat} {e : va_E} (hf : f1 < nX) (hi : i1 < cntX f1) (he : cellX E (gI (cI st f i sp f1 i1 dp n) f1 i1) (gF st f1 i1) (gL st f1 i1) (gD st f1 i1) f1 i1 = e) : (wX E st).set (offA cntX f1 + i1) (E.2.2.1 f1 i1, e) = wX E (cI st f i sp f1 i1 dp n) := by
  refine wlA_set hf hi he (fun a b h => ?_)
  show cellX E (gI (cI st f i sp f1 i1 dp n) a b) (gF st a b) (gL st a b) (gD st a b) a b = cellX E (gI st a b) (gF st a b) (gL st a b) (gD st a b) a b
  rw [show gI (cI st f i sp f1 i1 dp n) a b = gI st a b from cp3_ne h]
theorem gF_self {st : Sto} {f i j : Nat} {v : UInt32} : gF (sF st f i j v) f i = fun c => if c = j then v else gF st f i c := up3_self
theorem gF_ne {st : Sto} {f i j : Nat} {v : UInt32} {a b : Nat} (h : ¬ (a = f ∧ b = i)) : gF (sF st f i j v) a b = gF st a b := up3_ne h
theorem wX_sF {E : XE} {st : Sto} {f i j : Nat} {v : UInt32} {e : va_E} (hf : f < nX) (hi : i < cntX f) (he : cellX E (gI st f i) (gF (sF st f i j v) f i) (gL st f i) (gD st f i) f i = e) : (wX E st).set (offA cntX f + i) (E.2.2.1 f i, e) = wX E (sF st f i j v) := by
  refine wlA_set hf hi he (fun a b h => ?_)
  show cellX E (gI st a b) (gF (sF st f i j v) a b) (gL st a b) (gD st a b) a b = cellX E (gI st a b) (gF st a b) (gL st a b) (gD st a b) a b
  rw [gF_ne h]
theorem wX_cF {E : XE} {st : Sto} {f i sp f1 i1 dp n : Nat} {e : va_E} (hf : f1 < nX) (hi : i1 < cntX f1) (he : cellX E (gI st f1 i1) (gF (cF st f i sp f1 i1 dp n) f1 i1) (gL st f1 i1) (gD st f1 i1) f1 i1 = e) : (wX E st).set (offA cntX f1 + i1) (E.2.2.1 f1 i1, e) = wX E (cF st f i sp f1 i1 dp n) := by
  refine wlA_set hf hi he (fun a b h => ?_)
  show cellX E (gI st a b) (gF (cF st f i sp f1 i1 dp n) a b) (gL st a b) (gD st a b) a b = cellX E (gI st a b) (gF st a b) (gL st a b) (gD st a b) a b
  rw [show gF (cF st f i sp f1 i1 dp n) a b = gF st a b from cp3_ne h]
theorem gL_self {st : Sto} {f i j : Nat} {v : Int64} : gL (sL st f i j v) f i = fun c => if c = j then v else gL st f i c := up3_self
theorem gL_ne {st : Sto} {f i j : Nat} {v : Int64} {a b : Nat} (h : ¬ (a = f ∧ b = i)) : gL (sL st f i j v) a b = gL st a b := up3_ne h
theorem wX_sL {E : XE} {st : Sto} {f i j : Nat} {v : Int64} {e : va_E} (hf : f < nX) (hi : i < cntX f) (he : cellX E (gI st f i) (gF st f i) (gL (sL st f i j v) f i) (gD st f i) f i = e) : (wX E st).set (offA cntX f + i) (E.2.2.1 f i, e) = wX E (sL st f i j v) := by
  refine wlA_set hf hi he (fun a b h => ?_)
  show cellX E (gI st a b) (gF st a b) (gL (sL st f i j v) a b) (gD st a b) a b = cellX E (gI st a b) (gF st a b) (gL st a b) (gD st a b) a b
  rw [gL_ne h]
theorem gD_self {st : Sto} {f i j : Nat} {v : UInt64} : gD (sD st f i j v) f i = fun c => if c = j then v else gD st f i c := up3_self
theorem gD_ne {st : Sto} {f i j : Nat} {v : UInt64} {a b : Nat} (h : ¬ (a = f ∧ b = i)) : gD (sD st f i j v) a b = gD st a b := up3_ne h
theorem wX_sD {E : XE} {st : Sto} {f i j : Nat} {v : UInt64} {e : va_E} (hf : f < nX) (hi : i < cntX f) (he : cellX E (gI st f i) (gF st f i) (gL st f i) (gD (sD st f i j v) f i) f i = e) : (wX E st).set (offA cntX f + i) (E.2.2.1 f i, e) = wX E (sD st f i j v) := by
  refine wlA_set hf hi he (fun a b h => ?_)
  show cellX E (gI st a b) (gF st a b) (gL st a b) (gD (sD st f i j v) a b) a b = cellX E (gI st a b) (gF st a b) (gL st a b) (gD st a b) a b
  rw [gD_ne h]
theorem wX_cD {E : XE} {st : Sto} {f i sp f1 i1 dp n : Nat} {e : va_E} (hf : f1 < nX) (hi : i1 < cntX f1) (he : cellX E (gI st f1 i1) (gF st f1 i1) (gL st f1 i1) (gD (cD st f i sp f1 i1 dp n) f1 i1) f1 i1 = e) : (wX E st).set (offA cntX f1 + i1) (E.2.2.1 f1 i1, e) = wX E (cD st f i sp f1 i1 dp n) := by
  refine wlA_set hf hi he (fun a b h => ?_)
  show cellX E (gI st a b) (gF st a b) (gL st a b) (gD (cD st f i sp f1 i1 dp n) a b) a b = cellX E (gI st a b) (gF st a b) (gL st a b) (gD st a b) a b
  rw [show gD (cD st f i sp f1 i1 dp n) a b = gD st a b from cp3_ne h]
def lIX (f i : Nat) : Nat := match f with
  | 3 => if i < 1 then 6 else 0
  | 12 => if i < 6 then 3 else 0
  | 23 => if i < 12 then 6 else 0
  | 31 => if i < 12 then 8 else 0
  | 32 => if i < 12 then 8 else 0
  | 35 => if i < 6 then 16 else 0
  | 37 => if i < 6 then 16 else 0
  | 45 => if i < 2 then 20 else 0
  | 46 => if i < 2 then 20 else 0
  | 47 => if i < 2 then 20 else 0
  | 48 => if i < 2 then 3 else 0
  | 49 => if i < 2 then 3 else 0
  | 50 => if i < 2 then 3 else 0
  | 51 => if i < 2 then 3 else 0
  | 52 => if i < 1 then 68 else 0
  | 53 => if i < 1 then 68 else 0
  | 55 => if i < 60 then 4 else 0
  | _ => 0
theorem cIX {f i j : Nat} (h : j < lIX f i) : f < nX ∧ i < cntX f ∧ ∀ (E : XE) (ri : Nat → Int32) (rf : Nat → UInt32) (rl : Nat → Int64) (rd : Nat → UInt64), cellX E ri rf rl rd f i = .inl (E.2.1 0, lIX f i, .inl ri) := by
  unfold lIX at h
  split at h
  · by_cases hi : i < 1
    · exact ⟨by decide, hi, fun E ri rf rl rd => by rw [show lIX 3 i = 6 from if_pos hi]; rfl⟩
    · rw [if_neg hi] at h; exact absurd h (Nat.not_lt_zero _)
  · by_cases hi : i < 6
    · exact ⟨by decide, hi, fun E ri rf rl rd => by rw [show lIX 12 i = 3 from if_pos hi]; rfl⟩
    · rw [if_neg hi] at h; exact absurd h (Nat.not_lt_zero _)
  · by_cases hi : i < 12
    · exact ⟨by decide, hi, fun E ri rf rl rd => by rw [show lIX 23 i = 6 from if_pos hi]; rfl⟩
    · rw [if_neg hi] at h; exact absurd h (Nat.not_lt_zero _)
  · by_cases hi : i < 12
    · exact ⟨by decide, hi, fun E ri rf rl rd => by rw [show lIX 31 i = 8 from if_pos hi]; rfl⟩
    · rw [if_neg hi] at h; exact absurd h (Nat.not_lt_zero _)
  · by_cases hi : i < 12
    · exact ⟨by decide, hi, fun E ri rf rl rd => by rw [show lIX 32 i = 8 from if_pos hi]; rfl⟩
    · rw [if_neg hi] at h; exact absurd h (Nat.not_lt_zero _)
  · by_cases hi : i < 6
    · exact ⟨by decide, hi, fun E ri rf rl rd => by rw [show lIX 35 i = 16 from if_pos hi]; rfl⟩
    · rw [if_neg hi] at h; exact absurd h (Nat.not_lt_zero _)
  · by_cases hi : i < 6
    · exact ⟨by decide, hi, fun E ri rf rl rd => by rw [show lIX 37 i = 16 from if_pos hi]; rfl⟩
    · rw [if_neg hi] at h; exact absurd h (Nat.not_lt_zero _)
  · by_cases hi : i < 2
    · exact ⟨by decide, hi, fun E ri rf rl rd => by rw [show lIX 45 i = 20 from if_pos hi]; rfl⟩
    · rw [if_neg hi] at h; exact absurd h (Nat.not_lt_zero _)
  · by_cases hi : i < 2
    · exact ⟨by decide, hi, fun E ri rf rl rd => by rw [show lIX 46 i = 20 from if_pos hi]; rfl⟩
    · rw [if_neg hi] at h; exact absurd h (Nat.not_lt_zero _)
  · by_cases hi : i < 2
    · exact ⟨by decide, hi, fun E ri rf rl rd => by rw [show lIX 47 i = 20 from if_pos hi]; rfl⟩
    · rw [if_neg hi] at h; exact absurd h (Nat.not_lt_zero _)
  · by_cases hi : i < 2
    · exact ⟨by decide, hi, fun E ri rf rl rd => by rw [show lIX 48 i = 3 from if_pos hi]; rfl⟩
    · rw [if_neg hi] at h; exact absurd h (Nat.not_lt_zero _)
  · by_cases hi : i < 2
    · exact ⟨by decide, hi, fun E ri rf rl rd => by rw [show lIX 49 i = 3 from if_pos hi]; rfl⟩
    · rw [if_neg hi] at h; exact absurd h (Nat.not_lt_zero _)
  · by_cases hi : i < 2
    · exact ⟨by decide, hi, fun E ri rf rl rd => by rw [show lIX 50 i = 3 from if_pos hi]; rfl⟩
    · rw [if_neg hi] at h; exact absurd h (Nat.not_lt_zero _)
  · by_cases hi : i < 2
    · exact ⟨by decide, hi, fun E ri rf rl rd => by rw [show lIX 51 i = 3 from if_pos hi]; rfl⟩
    · rw [if_neg hi] at h; exact absurd h (Nat.not_lt_zero _)
  · by_cases hi : i < 1
    · exact ⟨by decide, hi, fun E ri rf rl rd => by rw [show lIX 52 i = 68 from if_pos hi]; rfl⟩
    · rw [if_neg hi] at h; exact absurd h (Nat.not_lt_zero _)
  · by_cases hi : i < 1
    · exact ⟨by decide, hi, fun E ri rf rl rd => by rw [show lIX 53 i = 68 from if_pos hi]; rfl⟩
    · rw [if_neg hi] at h; exact absurd h (Nat.not_lt_zero _)
  · by_cases hi : i < 60
    · exact ⟨by decide, hi, fun E ri rf rl rd => by rw [show lIX 55 i = 4 from if_pos hi]; rfl⟩
    · rw [if_neg hi] at h; exact absurd h (Nat.not_lt_zero _)
  · exact absurd h (Nat.not_lt_zero _)
def lFX (f i : Nat) : Nat := match f with
  | 1 => if i < 1 then 16 else 0
  | 2 => if i < 1 then 16 else 0
  | 6 => if i < 8 then 16 else 0
  | 20 => if i < 40 then 16 else 0
  | 21 => if i < 40 then 16 else 0
  | 33 => if i < 12 then 16 else 0
  | 44 => if i < 1 then 16 else 0
  | 57 => if i < 60 then 32 else 0
  | _ => 0
theorem cFX {f i j : Nat} (h : j < lFX f i) : f < nX ∧ i < cntX f ∧ ∀ (E : XE) (ri : Nat → Int32) (rf : Nat → UInt32) (rl : Nat → Int64) (rd : Nat → UInt64), cellX E ri rf rl rd f i = .inl (E.2.1 1, lFX f i, .inr (.inr (.inl rf))) := by
  unfold lFX at h
  split at h
  · by_cases hi : i < 1
    · exact ⟨by decide, hi, fun E ri rf rl rd => by rw [show lFX 1 i = 16 from if_pos hi]; rfl⟩
    · rw [if_neg hi] at h; exact absurd h (Nat.not_lt_zero _)
  · by_cases hi : i < 1
    · exact ⟨by decide, hi, fun E ri rf rl rd => by rw [show lFX 2 i = 16 from if_pos hi]; rfl⟩
    · rw [if_neg hi] at h; exact absurd h (Nat.not_lt_zero _)
  · by_cases hi : i < 8
    · exact ⟨by decide, hi, fun E ri rf rl rd => by rw [show lFX 6 i = 16 from if_pos hi]; rfl⟩
    · rw [if_neg hi] at h; exact absurd h (Nat.not_lt_zero _)
  · by_cases hi : i < 40
    · exact ⟨by decide, hi, fun E ri rf rl rd => by rw [show lFX 20 i = 16 from if_pos hi]; rfl⟩
    · rw [if_neg hi] at h; exact absurd h (Nat.not_lt_zero _)
  · by_cases hi : i < 40
    · exact ⟨by decide, hi, fun E ri rf rl rd => by rw [show lFX 21 i = 16 from if_pos hi]; rfl⟩
    · rw [if_neg hi] at h; exact absurd h (Nat.not_lt_zero _)
  · by_cases hi : i < 12
    · exact ⟨by decide, hi, fun E ri rf rl rd => by rw [show lFX 33 i = 16 from if_pos hi]; rfl⟩
    · rw [if_neg hi] at h; exact absurd h (Nat.not_lt_zero _)
  · by_cases hi : i < 1
    · exact ⟨by decide, hi, fun E ri rf rl rd => by rw [show lFX 44 i = 16 from if_pos hi]; rfl⟩
    · rw [if_neg hi] at h; exact absurd h (Nat.not_lt_zero _)
  · by_cases hi : i < 60
    · exact ⟨by decide, hi, fun E ri rf rl rd => by rw [show lFX 57 i = 32 from if_pos hi]; rfl⟩
    · rw [if_neg hi] at h; exact absurd h (Nat.not_lt_zero _)
  · exact absurd h (Nat.not_lt_zero _)
def lDX (f i : Nat) : Nat := match f with
  | 14 => if i < 1 then 40 else 0
  | 25 => if i < 72 then 16 else 0
  | 27 => if i < 12 then 3 else 0
  | 28 => if i < 12 then 3 else 0
  | 39 => if i < 3 then 16 else 0
  | 40 => if i < 1 then 3 else 0
  | 41 => if i < 1 then 3 else 0
  | 42 => if i < 1 then 3 else 0
  | 43 => if i < 1 then 16 else 0
  | _ => 0
theorem cDX {f i j : Nat} (h : j < lDX f i) : f < nX ∧ i < cntX f ∧ ∀ (E : XE) (ri : Nat → Int32) (rf : Nat → UInt32) (rl : Nat → Int64) (rd : Nat → UInt64), cellX E ri rf rl rd f i = .inl (E.2.1 2, lDX f i, .inr (.inr (.inr (.inl rd)))) := by
  unfold lDX at h
  split at h
  · by_cases hi : i < 1
    · exact ⟨by decide, hi, fun E ri rf rl rd => by rw [show lDX 14 i = 40 from if_pos hi]; rfl⟩
    · rw [if_neg hi] at h; exact absurd h (Nat.not_lt_zero _)
  · by_cases hi : i < 72
    · exact ⟨by decide, hi, fun E ri rf rl rd => by rw [show lDX 25 i = 16 from if_pos hi]; rfl⟩
    · rw [if_neg hi] at h; exact absurd h (Nat.not_lt_zero _)
  · by_cases hi : i < 12
    · exact ⟨by decide, hi, fun E ri rf rl rd => by rw [show lDX 27 i = 3 from if_pos hi]; rfl⟩
    · rw [if_neg hi] at h; exact absurd h (Nat.not_lt_zero _)
  · by_cases hi : i < 12
    · exact ⟨by decide, hi, fun E ri rf rl rd => by rw [show lDX 28 i = 3 from if_pos hi]; rfl⟩
    · rw [if_neg hi] at h; exact absurd h (Nat.not_lt_zero _)
  · by_cases hi : i < 3
    · exact ⟨by decide, hi, fun E ri rf rl rd => by rw [show lDX 39 i = 16 from if_pos hi]; rfl⟩
    · rw [if_neg hi] at h; exact absurd h (Nat.not_lt_zero _)
  · by_cases hi : i < 1
    · exact ⟨by decide, hi, fun E ri rf rl rd => by rw [show lDX 40 i = 3 from if_pos hi]; rfl⟩
    · rw [if_neg hi] at h; exact absurd h (Nat.not_lt_zero _)
  · by_cases hi : i < 1
    · exact ⟨by decide, hi, fun E ri rf rl rd => by rw [show lDX 41 i = 3 from if_pos hi]; rfl⟩
    · rw [if_neg hi] at h; exact absurd h (Nat.not_lt_zero _)
  · by_cases hi : i < 1
    · exact ⟨by decide, hi, fun E ri rf rl rd => by rw [show lDX 42 i = 3 from if_pos hi]; rfl⟩
    · rw [if_neg hi] at h; exact absurd h (Nat.not_lt_zero _)
  · by_cases hi : i < 1
    · exact ⟨by decide, hi, fun E ri rf rl rd => by rw [show lDX 43 i = 16 from if_pos hi]; rfl⟩
    · rw [if_neg hi] at h; exact absurd h (Nat.not_lt_zero _)
  · exact absurd h (Nat.not_lt_zero _)
section RowsX
variable {p : Program} {l : Launch} {e : Env} {R : Room} {s : State} {m : MethodId} {args : Array Value} {below : List Frame} {meth : Method} {c : Code} {H : Heap} {locs : List Loc} {cells slots : Nat} {Q : State → Prop}
variable {cc : ByteArray} {pc nL : Nat} {ls : Array Slot} {rest : List Value} {β : Type} {r : β} {Ts : List Cond} {own : String} {E : XE} {st : Sto}
theorem X_iald (C0 : CX p m c cc nL s args Ts own E) (hw : SX E s st H locs) {f i : Nat} {j : Int32} {k : Nat} {X : Option β} (h : ck (0 ≤ j.toInt ∧ j.toInt < (lIX f i : Int)) X = some r) (hk : j.toNatClampNeg = k) (hdg : decode cc pc = .ok (.iaload, 1)) (kk : X = some r → W p l e R s m args below meth c H locs cells slots Q (F0 m (pc + 1) ls (.int (gI st f i k) :: rest))) : W p l e R s m args below meth c H locs cells slots Q (F0 m pc ls (.int j :: .ref (E.2.2.1 f i) :: rest)) := by
  obtain ⟨hc, h2⟩ := ck_c h
  have hj : vp_in j (lIX f i) := vp_in_iff.mpr hc
  subst hk
  obtain ⟨hf, hi, he⟩ := cIX (Nat.not_le.mp fun q => hj (Or.inr q))
  exact va_iald C0.1.1 C0.1.2.1 C0.2 hw.1 (offA cntX f + i) 0 ((wX_at hf hi).trans (by rw [he])) rfl hj hdg (kk h2)
theorem X_ialdL (C0 : CX p m c cc nL s args Ts own E) (hw : SX E s st H locs) {f i : Nat} {j : Int32} {k : Nat} (hj : vp_in j (lIX f i)) (hk : j.toNatClampNeg = k) (hdg : decode cc pc = .ok (.iaload, 1)) (kk : W p l e R s m args below meth c H locs cells slots Q (F0 m (pc + 1) ls (.int (gI st f i k) :: rest))) : W p l e R s m args below meth c H locs cells slots Q (F0 m pc ls (.int j :: .ref (E.2.2.1 f i) :: rest)) := by
  subst hk
  obtain ⟨hf, hi, he⟩ := cIX (Nat.not_le.mp fun q => hj (Or.inr q))
  exact va_iald C0.1.1 C0.1.2.1 C0.2 hw.1 (offA cntX f + i) 0 ((wX_at hf hi).trans (by rw [he])) rfl hj hdg kk
theorem X_iast (hL : LX E) (C0 : CX p m c cc nL s args Ts own E) (hw : SX E s st H locs) {f i : Nat} {j : Int32} {k : Nat} {v : Int32} {K : Sto → Option β} (h : ck (0 ≤ j.toInt ∧ j.toInt < (lIX f i : Int)) (lt1 (sI st f i k (v)) K) = some r) (hk : j.toNatClampNeg = k) (hdg : decode cc pc = .ok (.iastore, 1)) (kk : ∀ (st1 : Sto) (H1 : Heap) (locs1 : List Loc), SX E s st1 H1 locs1 → K st1 = some r → W p l e R s m args below meth c H1 locs1 cells slots Q (F0 m (pc + 1) ls rest)) : W p l e R s m args below meth c H locs cells slots Q (F0 m pc ls (.int v :: .int j :: .ref (E.2.2.1 f i) :: rest)) := by
  obtain ⟨hc, h2⟩ := ck_c h
  have hj : vp_in j (lIX f i) := vp_in_iff.mpr hc
  subst hk
  obtain ⟨hf, hi, he⟩ := cIX (Nat.not_le.mp fun q => hj (Or.inr q))
  refine va_iast C0.1.1 C0.1.2.1 C0.2 hw.1 (hL _) hw.2 (offA cntX f + i) 0 ((wX_at hf hi).trans (by rw [he])) rfl hj hdg (fun H1 locs1 hP _ hS => kk _ H1 locs1 ⟨?_, hS⟩ (lt_c h2))
  rw [wX_sI (j := j.toNatClampNeg) (v := v) hf hi ((he _ _ _ _ _).trans (by rw [gI_self]; rfl))] at hP
  exact hP
theorem X_iastL (hL : LX E) (C0 : CX p m c cc nL s args Ts own E) (hw : SX E s st H locs) {f i : Nat} {j : Int32} {k : Nat} {v : Int32} {K : Sto → Option β} (h : lt1 (sI st f i k (v)) K = some r) (hj : vp_in j (lIX f i)) (hk : j.toNatClampNeg = k) (hdg : decode cc pc = .ok (.iastore, 1)) (kk : ∀ (st1 : Sto) (H1 : Heap) (locs1 : List Loc), SX E s st1 H1 locs1 → K st1 = some r → W p l e R s m args below meth c H1 locs1 cells slots Q (F0 m (pc + 1) ls rest)) : W p l e R s m args below meth c H locs cells slots Q (F0 m pc ls (.int v :: .int j :: .ref (E.2.2.1 f i) :: rest)) := by
  have h2 := h
  subst hk
  obtain ⟨hf, hi, he⟩ := cIX (Nat.not_le.mp fun q => hj (Or.inr q))
  refine va_iast C0.1.1 C0.1.2.1 C0.2 hw.1 (hL _) hw.2 (offA cntX f + i) 0 ((wX_at hf hi).trans (by rw [he])) rfl hj hdg (fun H1 locs1 hP _ hS => kk _ H1 locs1 ⟨?_, hS⟩ (lt_c h2))
  rw [wX_sI (j := j.toNatClampNeg) (v := v) hf hi ((he _ _ _ _ _).trans (by rw [gI_self]; rfl))] at hP
  exact hP
theorem X_fald (C0 : CX p m c cc nL s args Ts own E) (hw : SX E s st H locs) {f i : Nat} {j : Int32} {k : Nat} {X : Option β} (h : ck (0 ≤ j.toInt ∧ j.toInt < (lFX f i : Int)) X = some r) (hk : j.toNatClampNeg = k) (hdg : decode cc pc = .ok (.faload, 1)) (kk : X = some r → W p l e R s m args below meth c H locs cells slots Q (F0 m (pc + 1) ls (.float (gF st f i k) :: rest))) : W p l e R s m args below meth c H locs cells slots Q (F0 m pc ls (.int j :: .ref (E.2.2.1 f i) :: rest)) := by
  obtain ⟨hc, h2⟩ := ck_c h
  have hj : vp_in j (lFX f i) := vp_in_iff.mpr hc
  subst hk
  obtain ⟨hf, hi, he⟩ := cFX (Nat.not_le.mp fun q => hj (Or.inr q))
  exact va_fald C0.1.1 C0.1.2.1 C0.2 hw.1 (offA cntX f + i) 1 ((wX_at hf hi).trans (by rw [he])) rfl hj hdg (kk h2)
theorem X_faldL (C0 : CX p m c cc nL s args Ts own E) (hw : SX E s st H locs) {f i : Nat} {j : Int32} {k : Nat} (hj : vp_in j (lFX f i)) (hk : j.toNatClampNeg = k) (hdg : decode cc pc = .ok (.faload, 1)) (kk : W p l e R s m args below meth c H locs cells slots Q (F0 m (pc + 1) ls (.float (gF st f i k) :: rest))) : W p l e R s m args below meth c H locs cells slots Q (F0 m pc ls (.int j :: .ref (E.2.2.1 f i) :: rest)) := by
  subst hk
  obtain ⟨hf, hi, he⟩ := cFX (Nat.not_le.mp fun q => hj (Or.inr q))
  exact va_fald C0.1.1 C0.1.2.1 C0.2 hw.1 (offA cntX f + i) 1 ((wX_at hf hi).trans (by rw [he])) rfl hj hdg kk
theorem X_fast (hL : LX E) (C0 : CX p m c cc nL s args Ts own E) (hw : SX E s st H locs) {f i : Nat} {j : Int32} {k : Nat} {v : UInt32} {K : Sto → Option β} (h : ck (0 ≤ j.toInt ∧ j.toInt < (lFX f i : Int)) (lt1 (sF st f i k (v)) K) = some r) (hk : j.toNatClampNeg = k) (hdg : decode cc pc = .ok (.fastore, 1)) (kk : ∀ (st1 : Sto) (H1 : Heap) (locs1 : List Loc), SX E s st1 H1 locs1 → K st1 = some r → W p l e R s m args below meth c H1 locs1 cells slots Q (F0 m (pc + 1) ls rest)) : W p l e R s m args below meth c H locs cells slots Q (F0 m pc ls (.float v :: .int j :: .ref (E.2.2.1 f i) :: rest)) := by
  obtain ⟨hc, h2⟩ := ck_c h
  have hj : vp_in j (lFX f i) := vp_in_iff.mpr hc
  subst hk
  obtain ⟨hf, hi, he⟩ := cFX (Nat.not_le.mp fun q => hj (Or.inr q))
  refine va_fast C0.1.1 C0.1.2.1 C0.2 hw.1 (hL _) hw.2 (offA cntX f + i) 1 ((wX_at hf hi).trans (by rw [he])) rfl hj hdg (fun H1 locs1 hP _ hS => kk _ H1 locs1 ⟨?_, hS⟩ (lt_c h2))
  rw [wX_sF (j := j.toNatClampNeg) (v := v) hf hi ((he _ _ _ _ _).trans (by rw [gF_self]; rfl))] at hP
  exact hP
theorem X_fastL (hL : LX E) (C0 : CX p m c cc nL s args Ts own E) (hw : SX E s st H locs) {f i : Nat} {j : Int32} {k : Nat} {v : UInt32} {K : Sto → Option β} (h : lt1 (sF st f i k (v)) K = some r) (hj : vp_in j (lFX f i)) (hk : j.toNatClampNeg = k) (hdg : decode cc pc = .ok (.fastore, 1)) (kk : ∀ (st1 : Sto) (H1 : Heap) (locs1 : List Loc), SX E s st1 H1 locs1 → K st1 = some r → W p l e R s m args below meth c H1 locs1 cells slots Q (F0 m (pc + 1) ls rest)) : W p l e R s m args below meth c H locs cells slots Q (F0 m pc ls (.float v :: .int j :: .ref (E.2.2.1 f i) :: rest)) := by
  have h2 := h
  subst hk
  obtain ⟨hf, hi, he⟩ := cFX (Nat.not_le.mp fun q => hj (Or.inr q))
  refine va_fast C0.1.1 C0.1.2.1 C0.2 hw.1 (hL _) hw.2 (offA cntX f + i) 1 ((wX_at hf hi).trans (by rw [he])) rfl hj hdg (fun H1 locs1 hP _ hS => kk _ H1 locs1 ⟨?_, hS⟩ (lt_c h2))
  rw [wX_sF (j := j.toNatClampNeg) (v := v) hf hi ((he _ _ _ _ _).trans (by rw [gF_self]; rfl))] at hP
  exact hP
theorem X_dald (C0 : CX p m c cc nL s args Ts own E) (hw : SX E s st H locs) {f i : Nat} {j : Int32} {k : Nat} {X : Option β} (h : ck (0 ≤ j.toInt ∧ j.toInt < (lDX f i : Int)) X = some r) (hk : j.toNatClampNeg = k) (hdg : decode cc pc = .ok (.daload, 1)) (kk : X = some r → W p l e R s m args below meth c H locs cells slots Q (F0 m (pc + 1) ls (.double (gD st f i k) :: rest))) : W p l e R s m args below meth c H locs cells slots Q (F0 m pc ls (.int j :: .ref (E.2.2.1 f i) :: rest)) := by
  obtain ⟨hc, h2⟩ := ck_c h
  have hj : vp_in j (lDX f i) := vp_in_iff.mpr hc
  subst hk
  obtain ⟨hf, hi, he⟩ := cDX (Nat.not_le.mp fun q => hj (Or.inr q))
  exact va_dald C0.1.1 C0.1.2.1 C0.2 hw.1 (offA cntX f + i) 2 ((wX_at hf hi).trans (by rw [he])) rfl hj hdg (kk h2)
theorem X_daldL (C0 : CX p m c cc nL s args Ts own E) (hw : SX E s st H locs) {f i : Nat} {j : Int32} {k : Nat} (hj : vp_in j (lDX f i)) (hk : j.toNatClampNeg = k) (hdg : decode cc pc = .ok (.daload, 1)) (kk : W p l e R s m args below meth c H locs cells slots Q (F0 m (pc + 1) ls (.double (gD st f i k) :: rest))) : W p l e R s m args below meth c H locs cells slots Q (F0 m pc ls (.int j :: .ref (E.2.2.1 f i) :: rest)) := by
  subst hk
  obtain ⟨hf, hi, he⟩ := cDX (Nat.not_le.mp fun q => hj (Or.inr q))
  exact va_dald C0.1.1 C0.1.2.1 C0.2 hw.1 (offA cntX f + i) 2 ((wX_at hf hi).trans (by rw [he])) rfl hj hdg kk
theorem X_dast (hL : LX E) (C0 : CX p m c cc nL s args Ts own E) (hw : SX E s st H locs) {f i : Nat} {j : Int32} {k : Nat} {v : UInt64} {K : Sto → Option β} (h : ck (0 ≤ j.toInt ∧ j.toInt < (lDX f i : Int)) (lt1 (sD st f i k (v)) K) = some r) (hk : j.toNatClampNeg = k) (hdg : decode cc pc = .ok (.dastore, 1)) (kk : ∀ (st1 : Sto) (H1 : Heap) (locs1 : List Loc), SX E s st1 H1 locs1 → K st1 = some r → W p l e R s m args below meth c H1 locs1 cells slots Q (F0 m (pc + 1) ls rest)) : W p l e R s m args below meth c H locs cells slots Q (F0 m pc ls (.double v :: .int j :: .ref (E.2.2.1 f i) :: rest)) := by
  obtain ⟨hc, h2⟩ := ck_c h
  have hj : vp_in j (lDX f i) := vp_in_iff.mpr hc
  subst hk
  obtain ⟨hf, hi, he⟩ := cDX (Nat.not_le.mp fun q => hj (Or.inr q))
  refine va_dast C0.1.1 C0.1.2.1 C0.2 hw.1 (hL _) hw.2 (offA cntX f + i) 2 ((wX_at hf hi).trans (by rw [he])) rfl hj hdg (fun H1 locs1 hP _ hS => kk _ H1 locs1 ⟨?_, hS⟩ (lt_c h2))
  rw [wX_sD (j := j.toNatClampNeg) (v := v) hf hi ((he _ _ _ _ _).trans (by rw [gD_self]; rfl))] at hP
  exact hP
theorem X_dastL (hL : LX E) (C0 : CX p m c cc nL s args Ts own E) (hw : SX E s st H locs) {f i : Nat} {j : Int32} {k : Nat} {v : UInt64} {K : Sto → Option β} (h : lt1 (sD st f i k (v)) K = some r) (hj : vp_in j (lDX f i)) (hk : j.toNatClampNeg = k) (hdg : decode cc pc = .ok (.dastore, 1)) (kk : ∀ (st1 : Sto) (H1 : Heap) (locs1 : List Loc), SX E s st1 H1 locs1 → K st1 = some r → W p l e R s m args below meth c H1 locs1 cells slots Q (F0 m (pc + 1) ls rest)) : W p l e R s m args below meth c H locs cells slots Q (F0 m pc ls (.double v :: .int j :: .ref (E.2.2.1 f i) :: rest)) := by
  have h2 := h
  subst hk
  obtain ⟨hf, hi, he⟩ := cDX (Nat.not_le.mp fun q => hj (Or.inr q))
  refine va_dast C0.1.1 C0.1.2.1 C0.2 hw.1 (hL _) hw.2 (offA cntX f + i) 2 ((wX_at hf hi).trans (by rw [he])) rfl hj hdg (fun H1 locs1 hP _ hS => kk _ H1 locs1 ⟨?_, hS⟩ (lt_c h2))
  rw [wX_sD (j := j.toNatClampNeg) (v := v) hf hi ((he _ _ _ _ _).trans (by rw [gD_self]; rfl))] at hP
  exact hP
theorem X_cpi (hL : LX E) (C0 : CX p m c cc nL s args Ts own E) (hw : SX E s st H locs) {f i f1 i1 sp dp n : Nat} {SP DP NN : Int32} {K : Sto → Option β} (h : ck (sp + n ≤ lIX f i ∧ dp + n ≤ lIX f1 i1) (lt1 (cI st f i sp f1 i1 dp n) K) = some r) (hsp : SP.toNatClampNeg = sp) (hdp : DP.toNatClampNeg = dp) (hnn : NN.toNatClampNeg = n) (h1 : ¬ SP < 0) (h2 : ¬ DP < 0) (h3 : ¬ NN < 0 ∧ 0 < n) (hml : c.maxLocals = ls.size) {index : Nat} (hown : s.vm.findClass own = some m.cls) (hlink : (Cond.methodLink own index arraycopyName).before args s = true) (hnat : (Cond.native arraycopyName).before args s = true) (hstat : (Cond.static arraycopyName).before args s = true) (hini : (Cond.initialized "java/lang/System").before args s = true) (hframes : 1 ≤ R.frames) (hlocals : (rest.map fun v => v.category).sum + (nativeFrameWords "java/lang/System" "arraycopy" 5 + 11) ≤ R.locals) (hdg : decode cc pc = .ok (.invokestatic index, 3)) (kk : ∀ (st1 : Sto) (H1 : Heap) (locs1 : List Loc), SX E s st1 H1 locs1 → K st1 = some r → W p l e R s m args below meth c H1 locs1 cells slots Q (F0 m (pc + 3) ls rest)) : W p l e R s m args below meth c H locs cells slots Q (F0 m pc ls (.int NN :: .int DP :: .ref (E.2.2.1 f1 i1) :: .int SP :: .ref (E.2.2.1 f i) :: rest)) := by
  obtain ⟨hc, hh⟩ := ck_c h
  subst hsp; subst hdp; subst hnn
  obtain ⟨hf, hi, he⟩ := cIX (f := f) (i := i) (j := SP.toNatClampNeg) (by omega)
  obtain ⟨hf1, hi1, he1⟩ := cIX (f := f1) (i := i1) (j := DP.toNatClampNeg) (by omega)
  refine va_copyi C0.1.1 C0.1.2.1 hml hown hlink hnat hstat hini C0.2 hw.1 (hL _) hw.2 (offA cntX f + i) (offA cntX f1 + i1) 0 0 ((wX_at hf hi).trans (by rw [he])) ((wX_at hf1 hi1).trans (by rw [he1])) rfl rfl rfl h1 h2 h3.1 hc.1 hc.2 (fun _ _ => rfl) hframes hlocals hdg (fun H1 locs1 hP _ hS => kk _ H1 locs1 ⟨?_, hS⟩ (lt_c hh))
  rw [wX_cI (f := f) (i := i) (sp := SP.toNatClampNeg) (dp := DP.toNatClampNeg) (n := NN.toNatClampNeg) hf1 hi1 ((he1 _ _ _ _ _).trans (by rw [show gI (cI st f i SP.toNatClampNeg f1 i1 DP.toNatClampNeg NN.toNatClampNeg) f1 i1 = _ from cp3_self]; rfl))] at hP
  exact hP
theorem X_cpf (hL : LX E) (C0 : CX p m c cc nL s args Ts own E) (hw : SX E s st H locs) {f i f1 i1 sp dp n : Nat} {SP DP NN : Int32} {K : Sto → Option β} (h : ck (sp + n ≤ lFX f i ∧ dp + n ≤ lFX f1 i1) (lt1 (cF st f i sp f1 i1 dp n) K) = some r) (hsp : SP.toNatClampNeg = sp) (hdp : DP.toNatClampNeg = dp) (hnn : NN.toNatClampNeg = n) (h1 : ¬ SP < 0) (h2 : ¬ DP < 0) (h3 : ¬ NN < 0 ∧ 0 < n) (hml : c.maxLocals = ls.size) {index : Nat} (hown : s.vm.findClass own = some m.cls) (hlink : (Cond.methodLink own index arraycopyName).before args s = true) (hnat : (Cond.native arraycopyName).before args s = true) (hstat : (Cond.static arraycopyName).before args s = true) (hini : (Cond.initialized "java/lang/System").before args s = true) (hframes : 1 ≤ R.frames) (hlocals : (rest.map fun v => v.category).sum + (nativeFrameWords "java/lang/System" "arraycopy" 5 + 11) ≤ R.locals) (hdg : decode cc pc = .ok (.invokestatic index, 3)) (kk : ∀ (st1 : Sto) (H1 : Heap) (locs1 : List Loc), SX E s st1 H1 locs1 → K st1 = some r → W p l e R s m args below meth c H1 locs1 cells slots Q (F0 m (pc + 3) ls rest)) : W p l e R s m args below meth c H locs cells slots Q (F0 m pc ls (.int NN :: .int DP :: .ref (E.2.2.1 f1 i1) :: .int SP :: .ref (E.2.2.1 f i) :: rest)) := by
  obtain ⟨hc, hh⟩ := ck_c h
  subst hsp; subst hdp; subst hnn
  obtain ⟨hf, hi, he⟩ := cFX (f := f) (i := i) (j := SP.toNatClampNeg) (by omega)
  obtain ⟨hf1, hi1, he1⟩ := cFX (f := f1) (i := i1) (j := DP.toNatClampNeg) (by omega)
  refine va_copyf C0.1.1 C0.1.2.1 hml hown hlink hnat hstat hini C0.2 hw.1 (hL _) hw.2 (offA cntX f + i) (offA cntX f1 + i1) 1 1 ((wX_at hf hi).trans (by rw [he])) ((wX_at hf1 hi1).trans (by rw [he1])) rfl rfl rfl h1 h2 h3.1 hc.1 hc.2 (fun _ _ => rfl) hframes hlocals hdg (fun H1 locs1 hP _ hS => kk _ H1 locs1 ⟨?_, hS⟩ (lt_c hh))
  rw [wX_cF (f := f) (i := i) (sp := SP.toNatClampNeg) (dp := DP.toNatClampNeg) (n := NN.toNatClampNeg) hf1 hi1 ((he1 _ _ _ _ _).trans (by rw [show gF (cF st f i SP.toNatClampNeg f1 i1 DP.toNatClampNeg NN.toNatClampNeg) f1 i1 = _ from cp3_self]; rfl))] at hP
  exact hP
theorem X_cpd (hL : LX E) (C0 : CX p m c cc nL s args Ts own E) (hw : SX E s st H locs) {f i f1 i1 sp dp n : Nat} {SP DP NN : Int32} {K : Sto → Option β} (h : ck (sp + n ≤ lDX f i ∧ dp + n ≤ lDX f1 i1) (lt1 (cD st f i sp f1 i1 dp n) K) = some r) (hsp : SP.toNatClampNeg = sp) (hdp : DP.toNatClampNeg = dp) (hnn : NN.toNatClampNeg = n) (h1 : ¬ SP < 0) (h2 : ¬ DP < 0) (h3 : ¬ NN < 0 ∧ 0 < n) (hml : c.maxLocals = ls.size) {index : Nat} (hown : s.vm.findClass own = some m.cls) (hlink : (Cond.methodLink own index arraycopyName).before args s = true) (hnat : (Cond.native arraycopyName).before args s = true) (hstat : (Cond.static arraycopyName).before args s = true) (hini : (Cond.initialized "java/lang/System").before args s = true) (hframes : 1 ≤ R.frames) (hlocals : (rest.map fun v => v.category).sum + (nativeFrameWords "java/lang/System" "arraycopy" 5 + 11) ≤ R.locals) (hdg : decode cc pc = .ok (.invokestatic index, 3)) (kk : ∀ (st1 : Sto) (H1 : Heap) (locs1 : List Loc), SX E s st1 H1 locs1 → K st1 = some r → W p l e R s m args below meth c H1 locs1 cells slots Q (F0 m (pc + 3) ls rest)) : W p l e R s m args below meth c H locs cells slots Q (F0 m pc ls (.int NN :: .int DP :: .ref (E.2.2.1 f1 i1) :: .int SP :: .ref (E.2.2.1 f i) :: rest)) := by
  obtain ⟨hc, hh⟩ := ck_c h
  subst hsp; subst hdp; subst hnn
  obtain ⟨hf, hi, he⟩ := cDX (f := f) (i := i) (j := SP.toNatClampNeg) (by omega)
  obtain ⟨hf1, hi1, he1⟩ := cDX (f := f1) (i := i1) (j := DP.toNatClampNeg) (by omega)
  refine va_copyd C0.1.1 C0.1.2.1 hml hown hlink hnat hstat hini C0.2 hw.1 (hL _) hw.2 (offA cntX f + i) (offA cntX f1 + i1) 2 2 ((wX_at hf hi).trans (by rw [he])) ((wX_at hf1 hi1).trans (by rw [he1])) rfl rfl rfl h1 h2 h3.1 hc.1 hc.2 (fun _ _ => rfl) hframes hlocals hdg (fun H1 locs1 hP _ hS => kk _ H1 locs1 ⟨?_, hS⟩ (lt_c hh))
  rw [wX_cD (f := f) (i := i) (sp := SP.toNatClampNeg) (dp := DP.toNatClampNeg) (n := NN.toNatClampNeg) hf1 hi1 ((he1 _ _ _ _ _).trans (by rw [show gD (cD st f i SP.toNatClampNeg f1 i1 DP.toNatClampNeg NN.toNatClampNeg) f1 i1 = _ from cp3_self]; rfl))] at hP
  exact hP
theorem X_ald_4 (C0 : CX p m c cc nL s args Ts own E) (hw : SX E s st H locs) {i : Nat} (hi : i < cntX 4) {j : Int32} {k : Nat} {X : Option β} (h : ck (0 ≤ j.toInt ∧ j.toInt < (40 : Int)) X = some r) (hk : j.toNatClampNeg = k) (hdg : decode cc pc = .ok (.aaload, 1)) (kk : k < 40 → X = some r → W p l e R s m args below meth c H locs cells slots Q (F0 m (pc + 1) ls (.ref (E.2.2.1 19 (k)) :: rest))) : W p l e R s m args below meth c H locs cells slots Q (F0 m pc ls (.int j :: .ref (E.2.2.1 4 i) :: rest)) := by
  obtain ⟨hc, h2⟩ := ck_c h
  have hj : vp_in j 40 := vp_in_iff.mpr hc
  subst hk
  have hlt : j.toNatClampNeg < 40 := Nat.not_le.mp fun q => hj (Or.inr q)
  exact W.aald (v := va_rf (some (E.2.2.1 19 (j.toNatClampNeg)))) (ty := .object "ColourHouse$Chip") C0.1.1 C0.1.2.1 (hw.1 _ _ (wX_at (by decide) hi)) ((C0.2.2 6 _ rfl).1 40 (fun j => va_rf (some (E.2.2.1 19 (j))))) rfl (fun q => by cases q) (by show ¬ (j < 0 ∨ (arrV (E.2.1 6) 40 (fun j => va_rf (some (E.2.2.1 19 (j))))).slots.size ≤ _); rw [arrV_size]; exact hj) (by show (arrV (E.2.1 6) 40 (fun j => va_rf (some (E.2.2.1 19 (j))))).slots[_]? = _; rw [arrV_read _ _ hlt]) rfl rfl hdg (kk hlt h2)
theorem X_aldL_4 (C0 : CX p m c cc nL s args Ts own E) (hw : SX E s st H locs) {i : Nat} (hi : i < cntX 4) {j : Int32} {k : Nat} (hj : vp_in j 40) (hk : j.toNatClampNeg = k) (hdg : decode cc pc = .ok (.aaload, 1)) (kk : k < 40 → W p l e R s m args below meth c H locs cells slots Q (F0 m (pc + 1) ls (.ref (E.2.2.1 19 (k)) :: rest))) : W p l e R s m args below meth c H locs cells slots Q (F0 m pc ls (.int j :: .ref (E.2.2.1 4 i) :: rest)) := by
  subst hk
  have hlt : j.toNatClampNeg < 40 := Nat.not_le.mp fun q => hj (Or.inr q)
  exact W.aald (v := va_rf (some (E.2.2.1 19 (j.toNatClampNeg)))) (ty := .object "ColourHouse$Chip") C0.1.1 C0.1.2.1 (hw.1 _ _ (wX_at (by decide) hi)) ((C0.2.2 6 _ rfl).1 40 (fun j => va_rf (some (E.2.2.1 19 (j))))) rfl (fun q => by cases q) (by show ¬ (j < 0 ∨ (arrV (E.2.1 6) 40 (fun j => va_rf (some (E.2.2.1 19 (j))))).slots.size ≤ _); rw [arrV_size]; exact hj) (by show (arrV (E.2.1 6) 40 (fun j => va_rf (some (E.2.2.1 19 (j))))).slots[_]? = _; rw [arrV_read _ _ hlt]) rfl rfl hdg (kk hlt)
theorem X_ald_5 (C0 : CX p m c cc nL s args Ts own E) (hw : SX E s st H locs) {i : Nat} (hi : i < cntX 5) {j : Int32} {k : Nat} {X : Option β} (h : ck (0 ≤ j.toInt ∧ j.toInt < (8 : Int)) X = some r) (hk : j.toNatClampNeg = k) (hdg : decode cc pc = .ok (.aaload, 1)) (kk : k < 8 → X = some r → W p l e R s m args below meth c H locs cells slots Q (F0 m (pc + 1) ls (.ref (E.2.2.1 6 (k)) :: rest))) : W p l e R s m args below meth c H locs cells slots Q (F0 m pc ls (.int j :: .ref (E.2.2.1 5 i) :: rest)) := by
  obtain ⟨hc, h2⟩ := ck_c h
  have hj : vp_in j 8 := vp_in_iff.mpr hc
  subst hk
  have hlt : j.toNatClampNeg < 8 := Nat.not_le.mp fun q => hj (Or.inr q)
  exact W.aald (v := va_rf (some (E.2.2.1 6 (j.toNatClampNeg)))) (ty := .array .float) C0.1.1 C0.1.2.1 (hw.1 _ _ (wX_at (by decide) hi)) ((C0.2.2 4 _ rfl).1 8 (fun j => va_rf (some (E.2.2.1 6 (j))))) rfl (fun q => by cases q) (by show ¬ (j < 0 ∨ (arrV (E.2.1 4) 8 (fun j => va_rf (some (E.2.2.1 6 (j))))).slots.size ≤ _); rw [arrV_size]; exact hj) (by show (arrV (E.2.1 4) 8 (fun j => va_rf (some (E.2.2.1 6 (j))))).slots[_]? = _; rw [arrV_read _ _ hlt]) rfl rfl hdg (kk hlt h2)
theorem X_aldL_5 (C0 : CX p m c cc nL s args Ts own E) (hw : SX E s st H locs) {i : Nat} (hi : i < cntX 5) {j : Int32} {k : Nat} (hj : vp_in j 8) (hk : j.toNatClampNeg = k) (hdg : decode cc pc = .ok (.aaload, 1)) (kk : k < 8 → W p l e R s m args below meth c H locs cells slots Q (F0 m (pc + 1) ls (.ref (E.2.2.1 6 (k)) :: rest))) : W p l e R s m args below meth c H locs cells slots Q (F0 m pc ls (.int j :: .ref (E.2.2.1 5 i) :: rest)) := by
  subst hk
  have hlt : j.toNatClampNeg < 8 := Nat.not_le.mp fun q => hj (Or.inr q)
  exact W.aald (v := va_rf (some (E.2.2.1 6 (j.toNatClampNeg)))) (ty := .array .float) C0.1.1 C0.1.2.1 (hw.1 _ _ (wX_at (by decide) hi)) ((C0.2.2 4 _ rfl).1 8 (fun j => va_rf (some (E.2.2.1 6 (j))))) rfl (fun q => by cases q) (by show ¬ (j < 0 ∨ (arrV (E.2.1 4) 8 (fun j => va_rf (some (E.2.2.1 6 (j))))).slots.size ≤ _); rw [arrV_size]; exact hj) (by show (arrV (E.2.1 4) 8 (fun j => va_rf (some (E.2.2.1 6 (j))))).slots[_]? = _; rw [arrV_read _ _ hlt]) rfl rfl hdg (kk hlt)
theorem X_ald_7 (C0 : CX p m c cc nL s args Ts own E) (hw : SX E s st H locs) {i : Nat} (hi : i < cntX 7) {j : Int32} {k : Nat} {X : Option β} (h : ck (0 ≤ j.toInt ∧ j.toInt < (12 : Int)) X = some r) (hk : j.toNatClampNeg = k) (hdg : decode cc pc = .ok (.aaload, 1)) (kk : k < 12 → X = some r → W p l e R s m args below meth c H locs cells slots Q (F0 m (pc + 1) ls (.ref (E.2.2.1 22 (k)) :: rest))) : W p l e R s m args below meth c H locs cells slots Q (F0 m pc ls (.int j :: .ref (E.2.2.1 7 i) :: rest)) := by
  obtain ⟨hc, h2⟩ := ck_c h
  have hj : vp_in j 12 := vp_in_iff.mpr hc
  subst hk
  have hlt : j.toNatClampNeg < 12 := Nat.not_le.mp fun q => hj (Or.inr q)
  exact W.aald (v := va_rf (some (E.2.2.1 22 (j.toNatClampNeg)))) (ty := .object "ColourHouse$Dye") C0.1.1 C0.1.2.1 (hw.1 _ _ (wX_at (by decide) hi)) ((C0.2.2 7 _ rfl).1 12 (fun j => va_rf (some (E.2.2.1 22 (j))))) rfl (fun q => by cases q) (by show ¬ (j < 0 ∨ (arrV (E.2.1 7) 12 (fun j => va_rf (some (E.2.2.1 22 (j))))).slots.size ≤ _); rw [arrV_size]; exact hj) (by show (arrV (E.2.1 7) 12 (fun j => va_rf (some (E.2.2.1 22 (j))))).slots[_]? = _; rw [arrV_read _ _ hlt]) rfl rfl hdg (kk hlt h2)
theorem X_aldL_7 (C0 : CX p m c cc nL s args Ts own E) (hw : SX E s st H locs) {i : Nat} (hi : i < cntX 7) {j : Int32} {k : Nat} (hj : vp_in j 12) (hk : j.toNatClampNeg = k) (hdg : decode cc pc = .ok (.aaload, 1)) (kk : k < 12 → W p l e R s m args below meth c H locs cells slots Q (F0 m (pc + 1) ls (.ref (E.2.2.1 22 (k)) :: rest))) : W p l e R s m args below meth c H locs cells slots Q (F0 m pc ls (.int j :: .ref (E.2.2.1 7 i) :: rest)) := by
  subst hk
  have hlt : j.toNatClampNeg < 12 := Nat.not_le.mp fun q => hj (Or.inr q)
  exact W.aald (v := va_rf (some (E.2.2.1 22 (j.toNatClampNeg)))) (ty := .object "ColourHouse$Dye") C0.1.1 C0.1.2.1 (hw.1 _ _ (wX_at (by decide) hi)) ((C0.2.2 7 _ rfl).1 12 (fun j => va_rf (some (E.2.2.1 22 (j))))) rfl (fun q => by cases q) (by show ¬ (j < 0 ∨ (arrV (E.2.1 7) 12 (fun j => va_rf (some (E.2.2.1 22 (j))))).slots.size ≤ _); rw [arrV_size]; exact hj) (by show (arrV (E.2.1 7) 12 (fun j => va_rf (some (E.2.2.1 22 (j))))).slots[_]? = _; rw [arrV_read _ _ hlt]) rfl rfl hdg (kk hlt)
theorem X_ald_8 (C0 : CX p m c cc nL s args Ts own E) (hw : SX E s st H locs) {i : Nat} (hi : i < cntX 8) {j : Int32} {k : Nat} {X : Option β} (h : ck (0 ≤ j.toInt ∧ j.toInt < (12 : Int)) X = some r) (hk : j.toNatClampNeg = k) (hdg : decode cc pc = .ok (.aaload, 1)) (kk : k < 12 → X = some r → W p l e R s m args below meth c H locs cells slots Q (F0 m (pc + 1) ls (.ref (E.2.2.1 26 (k)) :: rest))) : W p l e R s m args below meth c H locs cells slots Q (F0 m pc ls (.int j :: .ref (E.2.2.1 8 i) :: rest)) := by
  obtain ⟨hc, h2⟩ := ck_c h
  have hj : vp_in j 12 := vp_in_iff.mpr hc
  subst hk
  have hlt : j.toNatClampNeg < 12 := Nat.not_le.mp fun q => hj (Or.inr q)
  exact W.aald (v := va_rf (some (E.2.2.1 26 (j.toNatClampNeg)))) (ty := .object "ColourHouse$Solid") C0.1.1 C0.1.2.1 (hw.1 _ _ (wX_at (by decide) hi)) ((C0.2.2 8 _ rfl).1 12 (fun j => va_rf (some (E.2.2.1 26 (j))))) rfl (fun q => by cases q) (by show ¬ (j < 0 ∨ (arrV (E.2.1 8) 12 (fun j => va_rf (some (E.2.2.1 26 (j))))).slots.size ≤ _); rw [arrV_size]; exact hj) (by show (arrV (E.2.1 8) 12 (fun j => va_rf (some (E.2.2.1 26 (j))))).slots[_]? = _; rw [arrV_read _ _ hlt]) rfl rfl hdg (kk hlt h2)
theorem X_aldL_8 (C0 : CX p m c cc nL s args Ts own E) (hw : SX E s st H locs) {i : Nat} (hi : i < cntX 8) {j : Int32} {k : Nat} (hj : vp_in j 12) (hk : j.toNatClampNeg = k) (hdg : decode cc pc = .ok (.aaload, 1)) (kk : k < 12 → W p l e R s m args below meth c H locs cells slots Q (F0 m (pc + 1) ls (.ref (E.2.2.1 26 (k)) :: rest))) : W p l e R s m args below meth c H locs cells slots Q (F0 m pc ls (.int j :: .ref (E.2.2.1 8 i) :: rest)) := by
  subst hk
  have hlt : j.toNatClampNeg < 12 := Nat.not_le.mp fun q => hj (Or.inr q)
  exact W.aald (v := va_rf (some (E.2.2.1 26 (j.toNatClampNeg)))) (ty := .object "ColourHouse$Solid") C0.1.1 C0.1.2.1 (hw.1 _ _ (wX_at (by decide) hi)) ((C0.2.2 8 _ rfl).1 12 (fun j => va_rf (some (E.2.2.1 26 (j))))) rfl (fun q => by cases q) (by show ¬ (j < 0 ∨ (arrV (E.2.1 8) 12 (fun j => va_rf (some (E.2.2.1 26 (j))))).slots.size ≤ _); rw [arrV_size]; exact hj) (by show (arrV (E.2.1 8) 12 (fun j => va_rf (some (E.2.2.1 26 (j))))).slots[_]? = _; rw [arrV_read _ _ hlt]) rfl rfl hdg (kk hlt)
theorem X_ald_9 (C0 : CX p m c cc nL s args Ts own E) (hw : SX E s st H locs) {i : Nat} (hi : i < cntX 9) {j : Int32} {k : Nat} {X : Option β} (h : ck (0 ≤ j.toInt ∧ j.toInt < (20 : Int)) X = some r) (hk : j.toNatClampNeg = k) (hdg : decode cc pc = .ok (.aaload, 1)) (kk : k < 20 → X = some r → W p l e R s m args below meth c H locs cells slots Q (F0 m (pc + 1) ls (.ref (E.2.2.1 29 (k)) :: rest))) : W p l e R s m args below meth c H locs cells slots Q (F0 m pc ls (.int j :: .ref (E.2.2.1 9 i) :: rest)) := by
  obtain ⟨hc, h2⟩ := ck_c h
  have hj : vp_in j 20 := vp_in_iff.mpr hc
  subst hk
  have hlt : j.toNatClampNeg < 20 := Nat.not_le.mp fun q => hj (Or.inr q)
  exact W.aald (v := va_rf (some (E.2.2.1 29 (j.toNatClampNeg)))) (ty := .object "ColourHouse$Lot") C0.1.1 C0.1.2.1 (hw.1 _ _ (wX_at (by decide) hi)) ((C0.2.2 9 _ rfl).1 20 (fun j => va_rf (some (E.2.2.1 29 (j))))) rfl (fun q => by cases q) (by show ¬ (j < 0 ∨ (arrV (E.2.1 9) 20 (fun j => va_rf (some (E.2.2.1 29 (j))))).slots.size ≤ _); rw [arrV_size]; exact hj) (by show (arrV (E.2.1 9) 20 (fun j => va_rf (some (E.2.2.1 29 (j))))).slots[_]? = _; rw [arrV_read _ _ hlt]) rfl rfl hdg (kk hlt h2)
theorem X_aldL_9 (C0 : CX p m c cc nL s args Ts own E) (hw : SX E s st H locs) {i : Nat} (hi : i < cntX 9) {j : Int32} {k : Nat} (hj : vp_in j 20) (hk : j.toNatClampNeg = k) (hdg : decode cc pc = .ok (.aaload, 1)) (kk : k < 20 → W p l e R s m args below meth c H locs cells slots Q (F0 m (pc + 1) ls (.ref (E.2.2.1 29 (k)) :: rest))) : W p l e R s m args below meth c H locs cells slots Q (F0 m pc ls (.int j :: .ref (E.2.2.1 9 i) :: rest)) := by
  subst hk
  have hlt : j.toNatClampNeg < 20 := Nat.not_le.mp fun q => hj (Or.inr q)
  exact W.aald (v := va_rf (some (E.2.2.1 29 (j.toNatClampNeg)))) (ty := .object "ColourHouse$Lot") C0.1.1 C0.1.2.1 (hw.1 _ _ (wX_at (by decide) hi)) ((C0.2.2 9 _ rfl).1 20 (fun j => va_rf (some (E.2.2.1 29 (j))))) rfl (fun q => by cases q) (by show ¬ (j < 0 ∨ (arrV (E.2.1 9) 20 (fun j => va_rf (some (E.2.2.1 29 (j))))).slots.size ≤ _); rw [arrV_size]; exact hj) (by show (arrV (E.2.1 9) 20 (fun j => va_rf (some (E.2.2.1 29 (j))))).slots[_]? = _; rw [arrV_read _ _ hlt]) rfl rfl hdg (kk hlt)
theorem X_ald_10 (C0 : CX p m c cc nL s args Ts own E) (hw : SX E s st H locs) {i : Nat} (hi : i < cntX 10) {j : Int32} {k : Nat} {X : Option β} (h : ck (0 ≤ j.toInt ∧ j.toInt < (12 : Int)) X = some r) (hk : j.toNatClampNeg = k) (hdg : decode cc pc = .ok (.aaload, 1)) (kk : k < 12 → X = some r → W p l e R s m args below meth c H locs cells slots Q (F0 m (pc + 1) ls (.ref (E.2.2.1 30 (k)) :: rest))) : W p l e R s m args below meth c H locs cells slots Q (F0 m pc ls (.int j :: .ref (E.2.2.1 10 i) :: rest)) := by
  obtain ⟨hc, h2⟩ := ck_c h
  have hj : vp_in j 12 := vp_in_iff.mpr hc
  subst hk
  have hlt : j.toNatClampNeg < 12 := Nat.not_le.mp fun q => hj (Or.inr q)
  exact W.aald (v := va_rf (some (E.2.2.1 30 (j.toNatClampNeg)))) (ty := .object "ColourHouse$Batch") C0.1.1 C0.1.2.1 (hw.1 _ _ (wX_at (by decide) hi)) ((C0.2.2 10 _ rfl).1 12 (fun j => va_rf (some (E.2.2.1 30 (j))))) rfl (fun q => by cases q) (by show ¬ (j < 0 ∨ (arrV (E.2.1 10) 12 (fun j => va_rf (some (E.2.2.1 30 (j))))).slots.size ≤ _); rw [arrV_size]; exact hj) (by show (arrV (E.2.1 10) 12 (fun j => va_rf (some (E.2.2.1 30 (j))))).slots[_]? = _; rw [arrV_read _ _ hlt]) rfl rfl hdg (kk hlt h2)
theorem X_aldL_10 (C0 : CX p m c cc nL s args Ts own E) (hw : SX E s st H locs) {i : Nat} (hi : i < cntX 10) {j : Int32} {k : Nat} (hj : vp_in j 12) (hk : j.toNatClampNeg = k) (hdg : decode cc pc = .ok (.aaload, 1)) (kk : k < 12 → W p l e R s m args below meth c H locs cells slots Q (F0 m (pc + 1) ls (.ref (E.2.2.1 30 (k)) :: rest))) : W p l e R s m args below meth c H locs cells slots Q (F0 m pc ls (.int j :: .ref (E.2.2.1 10 i) :: rest)) := by
  subst hk
  have hlt : j.toNatClampNeg < 12 := Nat.not_le.mp fun q => hj (Or.inr q)
  exact W.aald (v := va_rf (some (E.2.2.1 30 (j.toNatClampNeg)))) (ty := .object "ColourHouse$Batch") C0.1.1 C0.1.2.1 (hw.1 _ _ (wX_at (by decide) hi)) ((C0.2.2 10 _ rfl).1 12 (fun j => va_rf (some (E.2.2.1 30 (j))))) rfl (fun q => by cases q) (by show ¬ (j < 0 ∨ (arrV (E.2.1 10) 12 (fun j => va_rf (some (E.2.2.1 30 (j))))).slots.size ≤ _); rw [arrV_size]; exact hj) (by show (arrV (E.2.1 10) 12 (fun j => va_rf (some (E.2.2.1 30 (j))))).slots[_]? = _; rw [arrV_read _ _ hlt]) rfl rfl hdg (kk hlt)
theorem X_ald_11 (C0 : CX p m c cc nL s args Ts own E) (hw : SX E s st H locs) {i : Nat} (hi : i < cntX 11) {j : Int32} {k : Nat} {X : Option β} (h : ck (0 ≤ j.toInt ∧ j.toInt < (6 : Int)) X = some r) (hk : j.toNatClampNeg = k) (hdg : decode cc pc = .ok (.aaload, 1)) (kk : k < 6 → X = some r → W p l e R s m args below meth c H locs cells slots Q (F0 m (pc + 1) ls (.ref (E.2.2.1 12 (k)) :: rest))) : W p l e R s m args below meth c H locs cells slots Q (F0 m pc ls (.int j :: .ref (E.2.2.1 11 i) :: rest)) := by
  obtain ⟨hc, h2⟩ := ck_c h
  have hj : vp_in j 6 := vp_in_iff.mpr hc
  subst hk
  have hlt : j.toNatClampNeg < 6 := Nat.not_le.mp fun q => hj (Or.inr q)
  exact W.aald (v := va_rf (some (E.2.2.1 12 (j.toNatClampNeg)))) (ty := .array .int) C0.1.1 C0.1.2.1 (hw.1 _ _ (wX_at (by decide) hi)) ((C0.2.2 3 _ rfl).1 6 (fun j => va_rf (some (E.2.2.1 12 (j))))) rfl (fun q => by cases q) (by show ¬ (j < 0 ∨ (arrV (E.2.1 3) 6 (fun j => va_rf (some (E.2.2.1 12 (j))))).slots.size ≤ _); rw [arrV_size]; exact hj) (by show (arrV (E.2.1 3) 6 (fun j => va_rf (some (E.2.2.1 12 (j))))).slots[_]? = _; rw [arrV_read _ _ hlt]) rfl rfl hdg (kk hlt h2)
theorem X_aldL_11 (C0 : CX p m c cc nL s args Ts own E) (hw : SX E s st H locs) {i : Nat} (hi : i < cntX 11) {j : Int32} {k : Nat} (hj : vp_in j 6) (hk : j.toNatClampNeg = k) (hdg : decode cc pc = .ok (.aaload, 1)) (kk : k < 6 → W p l e R s m args below meth c H locs cells slots Q (F0 m (pc + 1) ls (.ref (E.2.2.1 12 (k)) :: rest))) : W p l e R s m args below meth c H locs cells slots Q (F0 m pc ls (.int j :: .ref (E.2.2.1 11 i) :: rest)) := by
  subst hk
  have hlt : j.toNatClampNeg < 6 := Nat.not_le.mp fun q => hj (Or.inr q)
  exact W.aald (v := va_rf (some (E.2.2.1 12 (j.toNatClampNeg)))) (ty := .array .int) C0.1.1 C0.1.2.1 (hw.1 _ _ (wX_at (by decide) hi)) ((C0.2.2 3 _ rfl).1 6 (fun j => va_rf (some (E.2.2.1 12 (j))))) rfl (fun q => by cases q) (by show ¬ (j < 0 ∨ (arrV (E.2.1 3) 6 (fun j => va_rf (some (E.2.2.1 12 (j))))).slots.size ≤ _); rw [arrV_size]; exact hj) (by show (arrV (E.2.1 3) 6 (fun j => va_rf (some (E.2.2.1 12 (j))))).slots[_]? = _; rw [arrV_read _ _ hlt]) rfl rfl hdg (kk hlt)
theorem X_ald_24 (C0 : CX p m c cc nL s args Ts own E) (hw : SX E s st H locs) {i : Nat} (hi : i < cntX 24) {j : Int32} {k : Nat} {X : Option β} (h : ck (0 ≤ j.toInt ∧ j.toInt < (6 : Int)) X = some r) (hk : j.toNatClampNeg = k) (hdg : decode cc pc = .ok (.aaload, 1)) (kk : k < 6 → X = some r → W p l e R s m args below meth c H locs cells slots Q (F0 m (pc + 1) ls (.ref (E.2.2.1 25 (6 * i + k)) :: rest))) : W p l e R s m args below meth c H locs cells slots Q (F0 m pc ls (.int j :: .ref (E.2.2.1 24 i) :: rest)) := by
  obtain ⟨hc, h2⟩ := ck_c h
  have hj : vp_in j 6 := vp_in_iff.mpr hc
  subst hk
  have hlt : j.toNatClampNeg < 6 := Nat.not_le.mp fun q => hj (Or.inr q)
  exact W.aald (v := va_rf (some (E.2.2.1 25 (6 * i + j.toNatClampNeg)))) (ty := .array .double) C0.1.1 C0.1.2.1 (hw.1 _ _ (wX_at (by decide) hi)) ((C0.2.2 5 _ rfl).1 6 (fun j => va_rf (some (E.2.2.1 25 (6 * i + j))))) rfl (fun q => by cases q) (by show ¬ (j < 0 ∨ (arrV (E.2.1 5) 6 (fun j => va_rf (some (E.2.2.1 25 (6 * i + j))))).slots.size ≤ _); rw [arrV_size]; exact hj) (by show (arrV (E.2.1 5) 6 (fun j => va_rf (some (E.2.2.1 25 (6 * i + j))))).slots[_]? = _; rw [arrV_read _ _ hlt]) rfl rfl hdg (kk hlt h2)
theorem X_aldL_24 (C0 : CX p m c cc nL s args Ts own E) (hw : SX E s st H locs) {i : Nat} (hi : i < cntX 24) {j : Int32} {k : Nat} (hj : vp_in j 6) (hk : j.toNatClampNeg = k) (hdg : decode cc pc = .ok (.aaload, 1)) (kk : k < 6 → W p l e R s m args below meth c H locs cells slots Q (F0 m (pc + 1) ls (.ref (E.2.2.1 25 (6 * i + k)) :: rest))) : W p l e R s m args below meth c H locs cells slots Q (F0 m pc ls (.int j :: .ref (E.2.2.1 24 i) :: rest)) := by
  subst hk
  have hlt : j.toNatClampNeg < 6 := Nat.not_le.mp fun q => hj (Or.inr q)
  exact W.aald (v := va_rf (some (E.2.2.1 25 (6 * i + j.toNatClampNeg)))) (ty := .array .double) C0.1.1 C0.1.2.1 (hw.1 _ _ (wX_at (by decide) hi)) ((C0.2.2 5 _ rfl).1 6 (fun j => va_rf (some (E.2.2.1 25 (6 * i + j))))) rfl (fun q => by cases q) (by show ¬ (j < 0 ∨ (arrV (E.2.1 5) 6 (fun j => va_rf (some (E.2.2.1 25 (6 * i + j))))).slots.size ≤ _); rw [arrV_size]; exact hj) (by show (arrV (E.2.1 5) 6 (fun j => va_rf (some (E.2.2.1 25 (6 * i + j))))).slots[_]? = _; rw [arrV_read _ _ hlt]) rfl rfl hdg (kk hlt)
theorem X_ald_34 (C0 : CX p m c cc nL s args Ts own E) (hw : SX E s st H locs) {i : Nat} (hi : i < cntX 34) {j : Int32} {k : Nat} {X : Option β} (h : ck (0 ≤ j.toInt ∧ j.toInt < (6 : Int)) X = some r) (hk : j.toNatClampNeg = k) (hdg : decode cc pc = .ok (.aaload, 1)) (kk : k < 6 → X = some r → W p l e R s m args below meth c H locs cells slots Q (F0 m (pc + 1) ls (.ref (E.2.2.1 35 (k)) :: rest))) : W p l e R s m args below meth c H locs cells slots Q (F0 m pc ls (.int j :: .ref (E.2.2.1 34 i) :: rest)) := by
  obtain ⟨hc, h2⟩ := ck_c h
  have hj : vp_in j 6 := vp_in_iff.mpr hc
  subst hk
  have hlt : j.toNatClampNeg < 6 := Nat.not_le.mp fun q => hj (Or.inr q)
  exact W.aald (v := va_rf (some (E.2.2.1 35 (j.toNatClampNeg)))) (ty := .array .int) C0.1.1 C0.1.2.1 (hw.1 _ _ (wX_at (by decide) hi)) ((C0.2.2 3 _ rfl).1 6 (fun j => va_rf (some (E.2.2.1 35 (j))))) rfl (fun q => by cases q) (by show ¬ (j < 0 ∨ (arrV (E.2.1 3) 6 (fun j => va_rf (some (E.2.2.1 35 (j))))).slots.size ≤ _); rw [arrV_size]; exact hj) (by show (arrV (E.2.1 3) 6 (fun j => va_rf (some (E.2.2.1 35 (j))))).slots[_]? = _; rw [arrV_read _ _ hlt]) rfl rfl hdg (kk hlt h2)
theorem X_aldL_34 (C0 : CX p m c cc nL s args Ts own E) (hw : SX E s st H locs) {i : Nat} (hi : i < cntX 34) {j : Int32} {k : Nat} (hj : vp_in j 6) (hk : j.toNatClampNeg = k) (hdg : decode cc pc = .ok (.aaload, 1)) (kk : k < 6 → W p l e R s m args below meth c H locs cells slots Q (F0 m (pc + 1) ls (.ref (E.2.2.1 35 (k)) :: rest))) : W p l e R s m args below meth c H locs cells slots Q (F0 m pc ls (.int j :: .ref (E.2.2.1 34 i) :: rest)) := by
  subst hk
  have hlt : j.toNatClampNeg < 6 := Nat.not_le.mp fun q => hj (Or.inr q)
  exact W.aald (v := va_rf (some (E.2.2.1 35 (j.toNatClampNeg)))) (ty := .array .int) C0.1.1 C0.1.2.1 (hw.1 _ _ (wX_at (by decide) hi)) ((C0.2.2 3 _ rfl).1 6 (fun j => va_rf (some (E.2.2.1 35 (j))))) rfl (fun q => by cases q) (by show ¬ (j < 0 ∨ (arrV (E.2.1 3) 6 (fun j => va_rf (some (E.2.2.1 35 (j))))).slots.size ≤ _); rw [arrV_size]; exact hj) (by show (arrV (E.2.1 3) 6 (fun j => va_rf (some (E.2.2.1 35 (j))))).slots[_]? = _; rw [arrV_read _ _ hlt]) rfl rfl hdg (kk hlt)
theorem X_ald_36 (C0 : CX p m c cc nL s args Ts own E) (hw : SX E s st H locs) {i : Nat} (hi : i < cntX 36) {j : Int32} {k : Nat} {X : Option β} (h : ck (0 ≤ j.toInt ∧ j.toInt < (6 : Int)) X = some r) (hk : j.toNatClampNeg = k) (hdg : decode cc pc = .ok (.aaload, 1)) (kk : k < 6 → X = some r → W p l e R s m args below meth c H locs cells slots Q (F0 m (pc + 1) ls (.ref (E.2.2.1 37 (k)) :: rest))) : W p l e R s m args below meth c H locs cells slots Q (F0 m pc ls (.int j :: .ref (E.2.2.1 36 i) :: rest)) := by
  obtain ⟨hc, h2⟩ := ck_c h
  have hj : vp_in j 6 := vp_in_iff.mpr hc
  subst hk
  have hlt : j.toNatClampNeg < 6 := Nat.not_le.mp fun q => hj (Or.inr q)
  exact W.aald (v := va_rf (some (E.2.2.1 37 (j.toNatClampNeg)))) (ty := .array .int) C0.1.1 C0.1.2.1 (hw.1 _ _ (wX_at (by decide) hi)) ((C0.2.2 3 _ rfl).1 6 (fun j => va_rf (some (E.2.2.1 37 (j))))) rfl (fun q => by cases q) (by show ¬ (j < 0 ∨ (arrV (E.2.1 3) 6 (fun j => va_rf (some (E.2.2.1 37 (j))))).slots.size ≤ _); rw [arrV_size]; exact hj) (by show (arrV (E.2.1 3) 6 (fun j => va_rf (some (E.2.2.1 37 (j))))).slots[_]? = _; rw [arrV_read _ _ hlt]) rfl rfl hdg (kk hlt h2)
theorem X_aldL_36 (C0 : CX p m c cc nL s args Ts own E) (hw : SX E s st H locs) {i : Nat} (hi : i < cntX 36) {j : Int32} {k : Nat} (hj : vp_in j 6) (hk : j.toNatClampNeg = k) (hdg : decode cc pc = .ok (.aaload, 1)) (kk : k < 6 → W p l e R s m args below meth c H locs cells slots Q (F0 m (pc + 1) ls (.ref (E.2.2.1 37 (k)) :: rest))) : W p l e R s m args below meth c H locs cells slots Q (F0 m pc ls (.int j :: .ref (E.2.2.1 36 i) :: rest)) := by
  subst hk
  have hlt : j.toNatClampNeg < 6 := Nat.not_le.mp fun q => hj (Or.inr q)
  exact W.aald (v := va_rf (some (E.2.2.1 37 (j.toNatClampNeg)))) (ty := .array .int) C0.1.1 C0.1.2.1 (hw.1 _ _ (wX_at (by decide) hi)) ((C0.2.2 3 _ rfl).1 6 (fun j => va_rf (some (E.2.2.1 37 (j))))) rfl (fun q => by cases q) (by show ¬ (j < 0 ∨ (arrV (E.2.1 3) 6 (fun j => va_rf (some (E.2.2.1 37 (j))))).slots.size ≤ _); rw [arrV_size]; exact hj) (by show (arrV (E.2.1 3) 6 (fun j => va_rf (some (E.2.2.1 37 (j))))).slots[_]? = _; rw [arrV_read _ _ hlt]) rfl rfl hdg (kk hlt)
theorem X_ald_38 (C0 : CX p m c cc nL s args Ts own E) (hw : SX E s st H locs) {i : Nat} (hi : i < cntX 38) {j : Int32} {k : Nat} {X : Option β} (h : ck (0 ≤ j.toInt ∧ j.toInt < (3 : Int)) X = some r) (hk : j.toNatClampNeg = k) (hdg : decode cc pc = .ok (.aaload, 1)) (kk : k < 3 → X = some r → W p l e R s m args below meth c H locs cells slots Q (F0 m (pc + 1) ls (.ref (E.2.2.1 39 (k)) :: rest))) : W p l e R s m args below meth c H locs cells slots Q (F0 m pc ls (.int j :: .ref (E.2.2.1 38 i) :: rest)) := by
  obtain ⟨hc, h2⟩ := ck_c h
  have hj : vp_in j 3 := vp_in_iff.mpr hc
  subst hk
  have hlt : j.toNatClampNeg < 3 := Nat.not_le.mp fun q => hj (Or.inr q)
  exact W.aald (v := va_rf (some (E.2.2.1 39 (j.toNatClampNeg)))) (ty := .array .double) C0.1.1 C0.1.2.1 (hw.1 _ _ (wX_at (by decide) hi)) ((C0.2.2 5 _ rfl).1 3 (fun j => va_rf (some (E.2.2.1 39 (j))))) rfl (fun q => by cases q) (by show ¬ (j < 0 ∨ (arrV (E.2.1 5) 3 (fun j => va_rf (some (E.2.2.1 39 (j))))).slots.size ≤ _); rw [arrV_size]; exact hj) (by show (arrV (E.2.1 5) 3 (fun j => va_rf (some (E.2.2.1 39 (j))))).slots[_]? = _; rw [arrV_read _ _ hlt]) rfl rfl hdg (kk hlt h2)
theorem X_aldL_38 (C0 : CX p m c cc nL s args Ts own E) (hw : SX E s st H locs) {i : Nat} (hi : i < cntX 38) {j : Int32} {k : Nat} (hj : vp_in j 3) (hk : j.toNatClampNeg = k) (hdg : decode cc pc = .ok (.aaload, 1)) (kk : k < 3 → W p l e R s m args below meth c H locs cells slots Q (F0 m (pc + 1) ls (.ref (E.2.2.1 39 (k)) :: rest))) : W p l e R s m args below meth c H locs cells slots Q (F0 m pc ls (.int j :: .ref (E.2.2.1 38 i) :: rest)) := by
  subst hk
  have hlt : j.toNatClampNeg < 3 := Nat.not_le.mp fun q => hj (Or.inr q)
  exact W.aald (v := va_rf (some (E.2.2.1 39 (j.toNatClampNeg)))) (ty := .array .double) C0.1.1 C0.1.2.1 (hw.1 _ _ (wX_at (by decide) hi)) ((C0.2.2 5 _ rfl).1 3 (fun j => va_rf (some (E.2.2.1 39 (j))))) rfl (fun q => by cases q) (by show ¬ (j < 0 ∨ (arrV (E.2.1 5) 3 (fun j => va_rf (some (E.2.2.1 39 (j))))).slots.size ≤ _); rw [arrV_size]; exact hj) (by show (arrV (E.2.1 5) 3 (fun j => va_rf (some (E.2.2.1 39 (j))))).slots[_]? = _; rw [arrV_read _ _ hlt]) rfl rfl hdg (kk hlt)
theorem X_ald_54 (C0 : CX p m c cc nL s args Ts own E) (hw : SX E s st H locs) {i : Nat} (hi : i < cntX 54) {j : Int32} {k : Nat} {X : Option β} (h : ck (0 ≤ j.toInt ∧ j.toInt < (60 : Int)) X = some r) (hk : j.toNatClampNeg = k) (hdg : decode cc pc = .ok (.aaload, 1)) (kk : k < 60 → X = some r → W p l e R s m args below meth c H locs cells slots Q (F0 m (pc + 1) ls (.ref (E.2.2.1 55 (k)) :: rest))) : W p l e R s m args below meth c H locs cells slots Q (F0 m pc ls (.int j :: .ref (E.2.2.1 54 i) :: rest)) := by
  obtain ⟨hc, h2⟩ := ck_c h
  have hj : vp_in j 60 := vp_in_iff.mpr hc
  subst hk
  have hlt : j.toNatClampNeg < 60 := Nat.not_le.mp fun q => hj (Or.inr q)
  exact W.aald (v := va_rf (some (E.2.2.1 55 (j.toNatClampNeg)))) (ty := .array .int) C0.1.1 C0.1.2.1 (hw.1 _ _ (wX_at (by decide) hi)) ((C0.2.2 3 _ rfl).1 60 (fun j => va_rf (some (E.2.2.1 55 (j))))) rfl (fun q => by cases q) (by show ¬ (j < 0 ∨ (arrV (E.2.1 3) 60 (fun j => va_rf (some (E.2.2.1 55 (j))))).slots.size ≤ _); rw [arrV_size]; exact hj) (by show (arrV (E.2.1 3) 60 (fun j => va_rf (some (E.2.2.1 55 (j))))).slots[_]? = _; rw [arrV_read _ _ hlt]) rfl rfl hdg (kk hlt h2)
theorem X_aldL_54 (C0 : CX p m c cc nL s args Ts own E) (hw : SX E s st H locs) {i : Nat} (hi : i < cntX 54) {j : Int32} {k : Nat} (hj : vp_in j 60) (hk : j.toNatClampNeg = k) (hdg : decode cc pc = .ok (.aaload, 1)) (kk : k < 60 → W p l e R s m args below meth c H locs cells slots Q (F0 m (pc + 1) ls (.ref (E.2.2.1 55 (k)) :: rest))) : W p l e R s m args below meth c H locs cells slots Q (F0 m pc ls (.int j :: .ref (E.2.2.1 54 i) :: rest)) := by
  subst hk
  have hlt : j.toNatClampNeg < 60 := Nat.not_le.mp fun q => hj (Or.inr q)
  exact W.aald (v := va_rf (some (E.2.2.1 55 (j.toNatClampNeg)))) (ty := .array .int) C0.1.1 C0.1.2.1 (hw.1 _ _ (wX_at (by decide) hi)) ((C0.2.2 3 _ rfl).1 60 (fun j => va_rf (some (E.2.2.1 55 (j))))) rfl (fun q => by cases q) (by show ¬ (j < 0 ∨ (arrV (E.2.1 3) 60 (fun j => va_rf (some (E.2.2.1 55 (j))))).slots.size ≤ _); rw [arrV_size]; exact hj) (by show (arrV (E.2.1 3) 60 (fun j => va_rf (some (E.2.2.1 55 (j))))).slots[_]? = _; rw [arrV_read _ _ hlt]) rfl rfl hdg (kk hlt)
theorem X_ald_56 (C0 : CX p m c cc nL s args Ts own E) (hw : SX E s st H locs) {i : Nat} (hi : i < cntX 56) {j : Int32} {k : Nat} {X : Option β} (h : ck (0 ≤ j.toInt ∧ j.toInt < (60 : Int)) X = some r) (hk : j.toNatClampNeg = k) (hdg : decode cc pc = .ok (.aaload, 1)) (kk : k < 60 → X = some r → W p l e R s m args below meth c H locs cells slots Q (F0 m (pc + 1) ls (.ref (E.2.2.1 57 (k)) :: rest))) : W p l e R s m args below meth c H locs cells slots Q (F0 m pc ls (.int j :: .ref (E.2.2.1 56 i) :: rest)) := by
  obtain ⟨hc, h2⟩ := ck_c h
  have hj : vp_in j 60 := vp_in_iff.mpr hc
  subst hk
  have hlt : j.toNatClampNeg < 60 := Nat.not_le.mp fun q => hj (Or.inr q)
  exact W.aald (v := va_rf (some (E.2.2.1 57 (j.toNatClampNeg)))) (ty := .array .float) C0.1.1 C0.1.2.1 (hw.1 _ _ (wX_at (by decide) hi)) ((C0.2.2 4 _ rfl).1 60 (fun j => va_rf (some (E.2.2.1 57 (j))))) rfl (fun q => by cases q) (by show ¬ (j < 0 ∨ (arrV (E.2.1 4) 60 (fun j => va_rf (some (E.2.2.1 57 (j))))).slots.size ≤ _); rw [arrV_size]; exact hj) (by show (arrV (E.2.1 4) 60 (fun j => va_rf (some (E.2.2.1 57 (j))))).slots[_]? = _; rw [arrV_read _ _ hlt]) rfl rfl hdg (kk hlt h2)
theorem X_aldL_56 (C0 : CX p m c cc nL s args Ts own E) (hw : SX E s st H locs) {i : Nat} (hi : i < cntX 56) {j : Int32} {k : Nat} (hj : vp_in j 60) (hk : j.toNatClampNeg = k) (hdg : decode cc pc = .ok (.aaload, 1)) (kk : k < 60 → W p l e R s m args below meth c H locs cells slots Q (F0 m (pc + 1) ls (.ref (E.2.2.1 57 (k)) :: rest))) : W p l e R s m args below meth c H locs cells slots Q (F0 m pc ls (.int j :: .ref (E.2.2.1 56 i) :: rest)) := by
  subst hk
  have hlt : j.toNatClampNeg < 60 := Nat.not_le.mp fun q => hj (Or.inr q)
  exact W.aald (v := va_rf (some (E.2.2.1 57 (j.toNatClampNeg)))) (ty := .array .float) C0.1.1 C0.1.2.1 (hw.1 _ _ (wX_at (by decide) hi)) ((C0.2.2 4 _ rfl).1 60 (fun j => va_rf (some (E.2.2.1 57 (j))))) rfl (fun q => by cases q) (by show ¬ (j < 0 ∨ (arrV (E.2.1 4) 60 (fun j => va_rf (some (E.2.2.1 57 (j))))).slots.size ≤ _); rw [arrV_size]; exact hj) (by show (arrV (E.2.1 4) 60 (fun j => va_rf (some (E.2.2.1 57 (j))))).slots[_]? = _; rw [arrV_read _ _ hlt]) rfl rfl hdg (kk hlt)
theorem X_recv_0 (C0 : CX p m c cc nL s args Ts own E) (hw : SX E s st H locs) {i : Nat} (hi : i < cntX 0) : ∃ cellB : Cell, H[E.2.2.1 0 i]? = some cellB ∧ cellB.vm.isStatics = false ∧ s.vm.findClass RX11 = some cellB.cls := va_recv C0.2 hw.1 (ci := 10) (q0 := offA cntX 0 + i) (q := (RX11, TX11, 20)) rfl (wX_at (by decide) hi)
theorem X_g0_0 (C0 : CX p m c cc nL s args Ts own E) (hw : SX E s st H locs) (hin : ∀ w ∈ u_ws RX11 TX11 20, w ∈ Ts) {i : Nat} (hi : i < cntX 0) {idx : Nat} (hlink : Cond.fieldLink own idx "ColourHouse" "row" "[F" ∈ Ts) (hdg : decode cc pc = .ok (.getfield idx, 3)) (kk : W p l e R s m args below meth c H locs cells slots Q (F0 m (pc + 3) ls (.ref (E.2.2.1 1 (0)) :: rest))) : W p l e R s m args below meth c H locs cells slots Q (F0 m pc ls (.ref (E.2.2.1 0 i) :: rest)) :=
  va_get (D := E.1) (ci := 10) (C := RX11) (T := TX11) (N := 20) C0.1.1 C0.1.2.1 C0.1.2.2.2.2 hin C0.1.2.2.2.1 C0.2 hw.1 (offA cntX 0 + i) (wX_at (by decide) hi) rfl 0 (by decide) (C0.1.2.2.2.2 _ hlink) (fun _ h9 => h9) rfl hdg kk
theorem X_g0_1 (C0 : CX p m c cc nL s args Ts own E) (hw : SX E s st H locs) (hin : ∀ w ∈ u_ws RX11 TX11 20, w ∈ Ts) {i : Nat} (hi : i < cntX 0) {idx : Nat} (hlink : Cond.fieldLink own idx "ColourHouse" "prediction" "[F" ∈ Ts) (hdg : decode cc pc = .ok (.getfield idx, 3)) (kk : W p l e R s m args below meth c H locs cells slots Q (F0 m (pc + 3) ls (.ref (E.2.2.1 2 (0)) :: rest))) : W p l e R s m args below meth c H locs cells slots Q (F0 m pc ls (.ref (E.2.2.1 0 i) :: rest)) :=
  va_get (D := E.1) (ci := 10) (C := RX11) (T := TX11) (N := 20) C0.1.1 C0.1.2.1 C0.1.2.2.2.2 hin C0.1.2.2.2.1 C0.2 hw.1 (offA cntX 0 + i) (wX_at (by decide) hi) rfl 1 (by decide) (C0.1.2.2.2.2 _ hlink) (fun _ h9 => h9) rfl hdg kk
theorem X_g0_2 (C0 : CX p m c cc nL s args Ts own E) (hw : SX E s st H locs) (hin : ∀ w ∈ u_ws RX11 TX11 20, w ∈ Ts) {i : Nat} (hi : i < cntX 0) {idx : Nat} (hlink : Cond.fieldLink own idx "ColourHouse" "predicted" "Z" ∈ Ts) (hdg : decode cc pc = .ok (.getfield idx, 3)) (kk : W p l e R s m args below meth c H locs cells slots Q (F0 m (pc + 3) ls (.int (gI st 0 i 2) :: rest))) : W p l e R s m args below meth c H locs cells slots Q (F0 m pc ls (.ref (E.2.2.1 0 i) :: rest)) :=
  va_get (D := E.1) (ci := 10) (C := RX11) (T := TX11) (N := 20) C0.1.1 C0.1.2.1 C0.1.2.2.2.2 hin C0.1.2.2.2.1 C0.2 hw.1 (offA cntX 0 + i) (wX_at (by decide) hi) rfl 2 (by decide) (C0.1.2.2.2.2 _ hlink) (fun _ h9 => h9) rfl hdg kk
theorem X_p0_2 (hL : LX E) (C0 : CX p m c cc nL s args Ts own E) (hw : SX E s st H locs) (hin : ∀ w ∈ u_ws RX11 TX11 20, w ∈ Ts) {i : Nat} (hi : i < cntX 0) {v : Int32} {K : Sto → Option β} (h : lt1 (sI st 0 i 2 v) K = some r) (hn : narrow .boolean (.int v) = .int v) (hfit : Jvm.fits .boolean (.int v) = true) {idx : Nat} (hlink : Cond.fieldLink own idx "ColourHouse" "predicted" "Z" ∈ Ts) (hdg : decode cc pc = .ok (.putfield idx, 3)) (kk : ∀ (st1 : Sto) (H1 : Heap) (locs1 : List Loc), SX E s st1 H1 locs1 → K st1 = some r → W p l e R s m args below meth c H1 locs1 cells slots Q (F0 m (pc + 3) ls rest)) : W p l e R s m args below meth c H locs cells slots Q (F0 m pc ls (.int v :: .ref (E.2.2.1 0 i) :: rest)) := by
  refine va_put (D := E.1) (ci := 10) (ty := .boolean) (C := RX11) (T := TX11) (N := 20) C0.1.1 C0.1.2.1 C0.1.2.2.2.2 hin tyX11 tyX11_ok nmX11 C0.1.2.2.2.1 C0.2 hw.1 (hL _) hw.2 (offA cntX 0 + i) (wX_at (by decide) hi) rfl 2 (by decide) (C0.1.2.2.2.2 _ hlink) (fun _ h9 => h9) rfl (by decide +kernel) hn hfit (Nat.le_of_ble_eq_true rfl) hdg (fun H1 locs1 hP _ hS => kk _ H1 locs1 ⟨?_, hS⟩ (lt_c h))
  rw [wX_sI (j := 2) (v := v) (by decide) hi (by rw [gI_self]; rfl)] at hP
  exact hP
theorem X_g0_3 (C0 : CX p m c cc nL s args Ts own E) (hw : SX E s st H locs) (hin : ∀ w ∈ u_ws RX11 TX11 20, w ∈ Ts) {i : Nat} (hi : i < cntX 0) {idx : Nat} (hlink : Cond.fieldLink own idx "ColourHouse" "made" "[I" ∈ Ts) (hdg : decode cc pc = .ok (.getfield idx, 3)) (kk : W p l e R s m args below meth c H locs cells slots Q (F0 m (pc + 3) ls (.ref (E.2.2.1 3 (0)) :: rest))) : W p l e R s m args below meth c H locs cells slots Q (F0 m pc ls (.ref (E.2.2.1 0 i) :: rest)) :=
  va_get (D := E.1) (ci := 10) (C := RX11) (T := TX11) (N := 20) C0.1.1 C0.1.2.1 C0.1.2.2.2.2 hin C0.1.2.2.2.1 C0.2 hw.1 (offA cntX 0 + i) (wX_at (by decide) hi) rfl 3 (by decide) (C0.1.2.2.2.2 _ hlink) (fun _ h9 => h9) rfl hdg kk
theorem X_g0_4 (C0 : CX p m c cc nL s args Ts own E) (hw : SX E s st H locs) (hin : ∀ w ∈ u_ws RX11 TX11 20, w ∈ Ts) {i : Nat} (hi : i < cntX 0) {idx : Nat} (hlink : Cond.fieldLink own idx "ColourHouse" "chips" "[LColourHouse$Chip;" ∈ Ts) (hdg : decode cc pc = .ok (.getfield idx, 3)) (kk : W p l e R s m args below meth c H locs cells slots Q (F0 m (pc + 3) ls (.ref (E.2.2.1 4 (0)) :: rest))) : W p l e R s m args below meth c H locs cells slots Q (F0 m pc ls (.ref (E.2.2.1 0 i) :: rest)) :=
  va_get (D := E.1) (ci := 10) (C := RX11) (T := TX11) (N := 20) C0.1.1 C0.1.2.1 C0.1.2.2.2.2 hin C0.1.2.2.2.1 C0.2 hw.1 (offA cntX 0 + i) (wX_at (by decide) hi) rfl 4 (by decide) (C0.1.2.2.2.2 _ hlink) (fun _ h9 => h9) rfl hdg kk
theorem X_g0_5 (C0 : CX p m c cc nL s args Ts own E) (hw : SX E s st H locs) (hin : ∀ w ∈ u_ws RX11 TX11 20, w ∈ Ts) {i : Nat} (hi : i < cntX 0) {idx : Nat} (hlink : Cond.fieldLink own idx "ColourHouse" "cloths" "[[F" ∈ Ts) (hdg : decode cc pc = .ok (.getfield idx, 3)) (kk : W p l e R s m args below meth c H locs cells slots Q (F0 m (pc + 3) ls (.ref (E.2.2.1 5 (0)) :: rest))) : W p l e R s m args below meth c H locs cells slots Q (F0 m pc ls (.ref (E.2.2.1 0 i) :: rest)) :=
  va_get (D := E.1) (ci := 10) (C := RX11) (T := TX11) (N := 20) C0.1.1 C0.1.2.1 C0.1.2.2.2.2 hin C0.1.2.2.2.1 C0.2 hw.1 (offA cntX 0 + i) (wX_at (by decide) hi) rfl 5 (by decide) (C0.1.2.2.2.2 _ hlink) (fun _ h9 => h9) rfl hdg kk
theorem X_g0_6 (C0 : CX p m c cc nL s args Ts own E) (hw : SX E s st H locs) (hin : ∀ w ∈ u_ws RX11 TX11 20, w ∈ Ts) {i : Nat} (hi : i < cntX 0) {idx : Nat} (hlink : Cond.fieldLink own idx "ColourHouse" "dyes" "[LColourHouse$Dye;" ∈ Ts) (hdg : decode cc pc = .ok (.getfield idx, 3)) (kk : W p l e R s m args below meth c H locs cells slots Q (F0 m (pc + 3) ls (.ref (E.2.2.1 7 (0)) :: rest))) : W p l e R s m args below meth c H locs cells slots Q (F0 m pc ls (.ref (E.2.2.1 0 i) :: rest)) :=
  va_get (D := E.1) (ci := 10) (C := RX11) (T := TX11) (N := 20) C0.1.1 C0.1.2.1 C0.1.2.2.2.2 hin C0.1.2.2.2.1 C0.2 hw.1 (offA cntX 0 + i) (wX_at (by decide) hi) rfl 6 (by decide) (C0.1.2.2.2.2 _ hlink) (fun _ h9 => h9) rfl hdg kk
theorem X_g0_7 (C0 : CX p m c cc nL s args Ts own E) (hw : SX E s st H locs) (hin : ∀ w ∈ u_ws RX11 TX11 20, w ∈ Ts) {i : Nat} (hi : i < cntX 0) {idx : Nat} (hlink : Cond.fieldLink own idx "ColourHouse" "solids" "[LColourHouse$Solid;" ∈ Ts) (hdg : decode cc pc = .ok (.getfield idx, 3)) (kk : W p l e R s m args below meth c H locs cells slots Q (F0 m (pc + 3) ls (.ref (E.2.2.1 8 (0)) :: rest))) : W p l e R s m args below meth c H locs cells slots Q (F0 m pc ls (.ref (E.2.2.1 0 i) :: rest)) :=
  va_get (D := E.1) (ci := 10) (C := RX11) (T := TX11) (N := 20) C0.1.1 C0.1.2.1 C0.1.2.2.2.2 hin C0.1.2.2.2.1 C0.2 hw.1 (offA cntX 0 + i) (wX_at (by decide) hi) rfl 7 (by decide) (C0.1.2.2.2.2 _ hlink) (fun _ h9 => h9) rfl hdg kk
theorem X_g0_8 (C0 : CX p m c cc nL s args Ts own E) (hw : SX E s st H locs) (hin : ∀ w ∈ u_ws RX11 TX11 20, w ∈ Ts) {i : Nat} (hi : i < cntX 0) {idx : Nat} (hlink : Cond.fieldLink own idx "ColourHouse" "lots" "[LColourHouse$Lot;" ∈ Ts) (hdg : decode cc pc = .ok (.getfield idx, 3)) (kk : W p l e R s m args below meth c H locs cells slots Q (F0 m (pc + 3) ls (.ref (E.2.2.1 9 (0)) :: rest))) : W p l e R s m args below meth c H locs cells slots Q (F0 m pc ls (.ref (E.2.2.1 0 i) :: rest)) :=
  va_get (D := E.1) (ci := 10) (C := RX11) (T := TX11) (N := 20) C0.1.1 C0.1.2.1 C0.1.2.2.2.2 hin C0.1.2.2.2.1 C0.2 hw.1 (offA cntX 0 + i) (wX_at (by decide) hi) rfl 8 (by decide) (C0.1.2.2.2.2 _ hlink) (fun _ h9 => h9) rfl hdg kk
theorem X_g0_9 (C0 : CX p m c cc nL s args Ts own E) (hw : SX E s st H locs) (hin : ∀ w ∈ u_ws RX11 TX11 20, w ∈ Ts) {i : Nat} (hi : i < cntX 0) {idx : Nat} (hlink : Cond.fieldLink own idx "ColourHouse" "batches" "[LColourHouse$Batch;" ∈ Ts) (hdg : decode cc pc = .ok (.getfield idx, 3)) (kk : W p l e R s m args below meth c H locs cells slots Q (F0 m (pc + 3) ls (.ref (E.2.2.1 10 (0)) :: rest))) : W p l e R s m args below meth c H locs cells slots Q (F0 m pc ls (.ref (E.2.2.1 0 i) :: rest)) :=
  va_get (D := E.1) (ci := 10) (C := RX11) (T := TX11) (N := 20) C0.1.1 C0.1.2.1 C0.1.2.2.2.2 hin C0.1.2.2.2.1 C0.2 hw.1 (offA cntX 0 + i) (wX_at (by decide) hi) rfl 9 (by decide) (C0.1.2.2.2.2 _ hlink) (fun _ h9 => h9) rfl hdg kk
theorem X_g0_10 (C0 : CX p m c cc nL s args Ts own E) (hw : SX E s st H locs) (hin : ∀ w ∈ u_ws RX11 TX11 20, w ∈ Ts) {i : Nat} (hi : i < cntX 0) {idx : Nat} (hlink : Cond.fieldLink own idx "ColourHouse" "parts" "[[I" ∈ Ts) (hdg : decode cc pc = .ok (.getfield idx, 3)) (kk : W p l e R s m args below meth c H locs cells slots Q (F0 m (pc + 3) ls (.ref (E.2.2.1 11 (0)) :: rest))) : W p l e R s m args below meth c H locs cells slots Q (F0 m pc ls (.ref (E.2.2.1 0 i) :: rest)) :=
  va_get (D := E.1) (ci := 10) (C := RX11) (T := TX11) (N := 20) C0.1.1 C0.1.2.1 C0.1.2.2.2.2 hin C0.1.2.2.2.1 C0.2 hw.1 (offA cntX 0 + i) (wX_at (by decide) hi) rfl 10 (by decide) (C0.1.2.2.2.2 _ hlink) (fun _ h9 => h9) rfl hdg kk
theorem X_g0_11 (C0 : CX p m c cc nL s args Ts own E) (hw : SX E s st H locs) (hin : ∀ w ∈ u_ws RX11 TX11 20, w ∈ Ts) {i : Nat} (hi : i < cntX 0) {idx : Nat} (hlink : Cond.fieldLink own idx "ColourHouse" "partCount" "I" ∈ Ts) (hdg : decode cc pc = .ok (.getfield idx, 3)) (kk : W p l e R s m args below meth c H locs cells slots Q (F0 m (pc + 3) ls (.int (gI st 0 i 11) :: rest))) : W p l e R s m args below meth c H locs cells slots Q (F0 m pc ls (.ref (E.2.2.1 0 i) :: rest)) :=
  va_get (D := E.1) (ci := 10) (C := RX11) (T := TX11) (N := 20) C0.1.1 C0.1.2.1 C0.1.2.2.2.2 hin C0.1.2.2.2.1 C0.2 hw.1 (offA cntX 0 + i) (wX_at (by decide) hi) rfl 11 (by decide) (C0.1.2.2.2.2 _ hlink) (fun _ h9 => h9) rfl hdg kk
theorem X_p0_11 (hL : LX E) (C0 : CX p m c cc nL s args Ts own E) (hw : SX E s st H locs) (hin : ∀ w ∈ u_ws RX11 TX11 20, w ∈ Ts) {i : Nat} (hi : i < cntX 0) {v : Int32} {K : Sto → Option β} (h : lt1 (sI st 0 i 11 v) K = some r) {idx : Nat} (hlink : Cond.fieldLink own idx "ColourHouse" "partCount" "I" ∈ Ts) (hdg : decode cc pc = .ok (.putfield idx, 3)) (kk : ∀ (st1 : Sto) (H1 : Heap) (locs1 : List Loc), SX E s st1 H1 locs1 → K st1 = some r → W p l e R s m args below meth c H1 locs1 cells slots Q (F0 m (pc + 3) ls rest)) : W p l e R s m args below meth c H locs cells slots Q (F0 m pc ls (.int v :: .ref (E.2.2.1 0 i) :: rest)) := by
  refine va_put (D := E.1) (ci := 10) (ty := .int) (C := RX11) (T := TX11) (N := 20) C0.1.1 C0.1.2.1 C0.1.2.2.2.2 hin tyX11 tyX11_ok nmX11 C0.1.2.2.2.1 C0.2 hw.1 (hL _) hw.2 (offA cntX 0 + i) (wX_at (by decide) hi) rfl 11 (by decide) (C0.1.2.2.2.2 _ hlink) (fun _ h9 => h9) rfl (by decide +kernel) rfl rfl (Nat.le_of_ble_eq_true rfl) hdg (fun H1 locs1 hP _ hS => kk _ H1 locs1 ⟨?_, hS⟩ (lt_c h))
  rw [wX_sI (j := 11) (v := v) (by decide) hi (by rw [gI_self]; rfl)] at hP
  exact hP
theorem X_g0_12 (C0 : CX p m c cc nL s args Ts own E) (hw : SX E s st H locs) (hin : ∀ w ∈ u_ws RX11 TX11 20, w ∈ Ts) {i : Nat} (hi : i < cntX 0) {idx : Nat} (hlink : Cond.fieldLink own idx "ColourHouse" "sight" "LColourHouse$Sight;" ∈ Ts) (hdg : decode cc pc = .ok (.getfield idx, 3)) (kk : W p l e R s m args below meth c H locs cells slots Q (F0 m (pc + 3) ls (.ref (E.2.2.1 13 (0)) :: rest))) : W p l e R s m args below meth c H locs cells slots Q (F0 m pc ls (.ref (E.2.2.1 0 i) :: rest)) :=
  va_get (D := E.1) (ci := 10) (C := RX11) (T := TX11) (N := 20) C0.1.1 C0.1.2.1 C0.1.2.2.2.2 hin C0.1.2.2.2.1 C0.2 hw.1 (offA cntX 0 + i) (wX_at (by decide) hi) rfl 12 (by decide) (C0.1.2.2.2.2 _ hlink) (fun _ h9 => h9) rfl hdg kk
theorem X_g0_13 (C0 : CX p m c cc nL s args Ts own E) (hw : SX E s st H locs) (hin : ∀ w ∈ u_ws RX11 TX11 20, w ∈ Ts) {i : Nat} (hi : i < cntX 0) {idx : Nat} (hlink : Cond.fieldLink own idx "ColourHouse" "gaps" "[D" ∈ Ts) (hdg : decode cc pc = .ok (.getfield idx, 3)) (kk : W p l e R s m args below meth c H locs cells slots Q (F0 m (pc + 3) ls (.ref (E.2.2.1 14 (0)) :: rest))) : W p l e R s m args below meth c H locs cells slots Q (F0 m pc ls (.ref (E.2.2.1 0 i) :: rest)) :=
  va_get (D := E.1) (ci := 10) (C := RX11) (T := TX11) (N := 20) C0.1.1 C0.1.2.1 C0.1.2.2.2.2 hin C0.1.2.2.2.1 C0.2 hw.1 (offA cntX 0 + i) (wX_at (by decide) hi) rfl 13 (by decide) (C0.1.2.2.2.2 _ hlink) (fun _ h9 => h9) rfl hdg kk
theorem X_g0_14 (C0 : CX p m c cc nL s args Ts own E) (hw : SX E s st H locs) (hin : ∀ w ∈ u_ws RX11 TX11 20, w ∈ Ts) {i : Nat} (hi : i < cntX 0) {idx : Nat} (hlink : Cond.fieldLink own idx "ColourHouse" "mix" "LColourHouse$Mix;" ∈ Ts) (hdg : decode cc pc = .ok (.getfield idx, 3)) (kk : W p l e R s m args below meth c H locs cells slots Q (F0 m (pc + 3) ls (.ref (E.2.2.1 15 (0)) :: rest))) : W p l e R s m args below meth c H locs cells slots Q (F0 m pc ls (.ref (E.2.2.1 0 i) :: rest)) :=
  va_get (D := E.1) (ci := 10) (C := RX11) (T := TX11) (N := 20) C0.1.1 C0.1.2.1 C0.1.2.2.2.2 hin C0.1.2.2.2.1 C0.2 hw.1 (offA cntX 0 + i) (wX_at (by decide) hi) rfl 14 (by decide) (C0.1.2.2.2.2 _ hlink) (fun _ h9 => h9) rfl hdg kk
theorem X_g0_15 (C0 : CX p m c cc nL s args Ts own E) (hw : SX E s st H locs) (hin : ∀ w ∈ u_ws RX11 TX11 20, w ∈ Ts) {i : Nat} (hi : i < cntX 0) {idx : Nat} (hlink : Cond.fieldLink own idx "ColourHouse" "recipes" "LColourHouse$Search;" ∈ Ts) (hdg : decode cc pc = .ok (.getfield idx, 3)) (kk : W p l e R s m args below meth c H locs cells slots Q (F0 m (pc + 3) ls (.ref (E.2.2.1 16 (0)) :: rest))) : W p l e R s m args below meth c H locs cells slots Q (F0 m pc ls (.ref (E.2.2.1 0 i) :: rest)) :=
  va_get (D := E.1) (ci := 10) (C := RX11) (T := TX11) (N := 20) C0.1.1 C0.1.2.1 C0.1.2.2.2.2 hin C0.1.2.2.2.1 C0.2 hw.1 (offA cntX 0 + i) (wX_at (by decide) hi) rfl 15 (by decide) (C0.1.2.2.2.2 _ hlink) (fun _ h9 => h9) rfl hdg kk
theorem X_g0_16 (C0 : CX p m c cc nL s args Ts own E) (hw : SX E s st H locs) (hin : ∀ w ∈ u_ws RX11 TX11 20, w ∈ Ts) {i : Nat} (hi : i < cntX 0) {idx : Nat} (hlink : Cond.fieldLink own idx "ColourHouse" "additions" "LColourHouse$Search;" ∈ Ts) (hdg : decode cc pc = .ok (.getfield idx, 3)) (kk : W p l e R s m args below meth c H locs cells slots Q (F0 m (pc + 3) ls (.ref (E.2.2.1 16 (1)) :: rest))) : W p l e R s m args below meth c H locs cells slots Q (F0 m pc ls (.ref (E.2.2.1 0 i) :: rest)) :=
  va_get (D := E.1) (ci := 10) (C := RX11) (T := TX11) (N := 20) C0.1.1 C0.1.2.1 C0.1.2.2.2.2 hin C0.1.2.2.2.1 C0.2 hw.1 (offA cntX 0 + i) (wX_at (by decide) hi) rfl 16 (by decide) (C0.1.2.2.2.2 _ hlink) (fun _ h9 => h9) rfl hdg kk
theorem X_g0_17 (C0 : CX p m c cc nL s args Ts own E) (hw : SX E s st H locs) (hin : ∀ w ∈ u_ws RX11 TX11 20, w ∈ Ts) {i : Nat} (hi : i < cntX 0) {idx : Nat} (hlink : Cond.fieldLink own idx "ColourHouse" "mail" "LColourHouse$Mail;" ∈ Ts) (hdg : decode cc pc = .ok (.getfield idx, 3)) (kk : W p l e R s m args below meth c H locs cells slots Q (F0 m (pc + 3) ls (.ref (E.2.2.1 17 (0)) :: rest))) : W p l e R s m args below meth c H locs cells slots Q (F0 m pc ls (.ref (E.2.2.1 0 i) :: rest)) :=
  va_get (D := E.1) (ci := 10) (C := RX11) (T := TX11) (N := 20) C0.1.1 C0.1.2.1 C0.1.2.2.2.2 hin C0.1.2.2.2.1 C0.2 hw.1 (offA cntX 0 + i) (wX_at (by decide) hi) rfl 17 (by decide) (C0.1.2.2.2.2 _ hlink) (fun _ h9 => h9) rfl hdg kk
theorem X_g0_18 (C0 : CX p m c cc nL s args Ts own E) (hw : SX E s st H locs) (hin : ∀ w ∈ u_ws RX11 TX11 20, w ∈ Ts) {i : Nat} (hi : i < cntX 0) {idx : Nat} (hlink : Cond.fieldLink own idx "ColourHouse" "acts" "LColourHouse$Acts;" ∈ Ts) (hdg : decode cc pc = .ok (.getfield idx, 3)) (kk : W p l e R s m args below meth c H locs cells slots Q (F0 m (pc + 3) ls (.ref (E.2.2.1 18 (0)) :: rest))) : W p l e R s m args below meth c H locs cells slots Q (F0 m pc ls (.ref (E.2.2.1 0 i) :: rest)) :=
  va_get (D := E.1) (ci := 10) (C := RX11) (T := TX11) (N := 20) C0.1.1 C0.1.2.1 C0.1.2.2.2.2 hin C0.1.2.2.2.1 C0.2 hw.1 (offA cntX 0 + i) (wX_at (by decide) hi) rfl 18 (by decide) (C0.1.2.2.2.2 _ hlink) (fun _ h9 => h9) rfl hdg kk
theorem X_g0_19 (C0 : CX p m c cc nL s args Ts own E) (hw : SX E s st H locs) (hin : ∀ w ∈ u_ws RX11 TX11 20, w ∈ Ts) {i : Nat} (hi : i < cntX 0) {idx : Nat} (hlink : Cond.fieldLink own idx "ColourHouse" "why" "I" ∈ Ts) (hdg : decode cc pc = .ok (.getfield idx, 3)) (kk : W p l e R s m args below meth c H locs cells slots Q (F0 m (pc + 3) ls (.int (gI st 0 i 19) :: rest))) : W p l e R s m args below meth c H locs cells slots Q (F0 m pc ls (.ref (E.2.2.1 0 i) :: rest)) :=
  va_get (D := E.1) (ci := 10) (C := RX11) (T := TX11) (N := 20) C0.1.1 C0.1.2.1 C0.1.2.2.2.2 hin C0.1.2.2.2.1 C0.2 hw.1 (offA cntX 0 + i) (wX_at (by decide) hi) rfl 19 (by decide) (C0.1.2.2.2.2 _ hlink) (fun _ h9 => h9) rfl hdg kk
theorem X_p0_19 (hL : LX E) (C0 : CX p m c cc nL s args Ts own E) (hw : SX E s st H locs) (hin : ∀ w ∈ u_ws RX11 TX11 20, w ∈ Ts) {i : Nat} (hi : i < cntX 0) {v : Int32} {K : Sto → Option β} (h : lt1 (sI st 0 i 19 v) K = some r) {idx : Nat} (hlink : Cond.fieldLink own idx "ColourHouse" "why" "I" ∈ Ts) (hdg : decode cc pc = .ok (.putfield idx, 3)) (kk : ∀ (st1 : Sto) (H1 : Heap) (locs1 : List Loc), SX E s st1 H1 locs1 → K st1 = some r → W p l e R s m args below meth c H1 locs1 cells slots Q (F0 m (pc + 3) ls rest)) : W p l e R s m args below meth c H locs cells slots Q (F0 m pc ls (.int v :: .ref (E.2.2.1 0 i) :: rest)) := by
  refine va_put (D := E.1) (ci := 10) (ty := .int) (C := RX11) (T := TX11) (N := 20) C0.1.1 C0.1.2.1 C0.1.2.2.2.2 hin tyX11 tyX11_ok nmX11 C0.1.2.2.2.1 C0.2 hw.1 (hL _) hw.2 (offA cntX 0 + i) (wX_at (by decide) hi) rfl 19 (by decide) (C0.1.2.2.2.2 _ hlink) (fun _ h9 => h9) rfl (by decide +kernel) rfl rfl (Nat.le_of_ble_eq_true rfl) hdg (fun H1 locs1 hP _ hS => kk _ H1 locs1 ⟨?_, hS⟩ (lt_c h))
  rw [wX_sI (j := 19) (v := v) (by decide) hi (by rw [gI_self]; rfl)] at hP
  exact hP
theorem X_recv_13 (C0 : CX p m c cc nL s args Ts own E) (hw : SX E s st H locs) {i : Nat} (hi : i < cntX 13) : ∃ cellB : Cell, H[E.2.2.1 13 i]? = some cellB ∧ cellB.vm.isStatics = false ∧ s.vm.findClass RX9 = some cellB.cls := va_recv C0.2 hw.1 (ci := 8) (q0 := offA cntX 13 + i) (q := (RX9, TX9, 9)) rfl (wX_at (by decide) hi)
theorem X_g13_0 (C0 : CX p m c cc nL s args Ts own E) (hw : SX E s st H locs) (hin : ∀ w ∈ u_ws RX9 TX9 9, w ∈ Ts) {i : Nat} (hi : i < cntX 13) {idx : Nat} (hlink : Cond.fieldLink own idx "ColourHouse$Sight" "lights" "[[I" ∈ Ts) (hdg : decode cc pc = .ok (.getfield idx, 3)) (kk : W p l e R s m args below meth c H locs cells slots Q (F0 m (pc + 3) ls (.ref (E.2.2.1 34 (0)) :: rest))) : W p l e R s m args below meth c H locs cells slots Q (F0 m pc ls (.ref (E.2.2.1 13 i) :: rest)) :=
  va_get (D := E.1) (ci := 8) (C := RX9) (T := TX9) (N := 9) C0.1.1 C0.1.2.1 C0.1.2.2.2.2 hin C0.1.2.2.2.1 C0.2 hw.1 (offA cntX 13 + i) (wX_at (by decide) hi) rfl 0 (by decide) (C0.1.2.2.2.2 _ hlink) (fun _ h9 => h9) rfl hdg kk
theorem X_g13_1 (C0 : CX p m c cc nL s args Ts own E) (hw : SX E s st H locs) (hin : ∀ w ∈ u_ws RX9 TX9 9, w ∈ Ts) {i : Nat} (hi : i < cntX 13) {idx : Nat} (hlink : Cond.fieldLink own idx "ColourHouse$Sight" "eyes" "[[I" ∈ Ts) (hdg : decode cc pc = .ok (.getfield idx, 3)) (kk : W p l e R s m args below meth c H locs cells slots Q (F0 m (pc + 3) ls (.ref (E.2.2.1 36 (0)) :: rest))) : W p l e R s m args below meth c H locs cells slots Q (F0 m pc ls (.ref (E.2.2.1 13 i) :: rest)) :=
  va_get (D := E.1) (ci := 8) (C := RX9) (T := TX9) (N := 9) C0.1.1 C0.1.2.1 C0.1.2.2.2.2 hin C0.1.2.2.2.1 C0.2 hw.1 (offA cntX 13 + i) (wX_at (by decide) hi) rfl 1 (by decide) (C0.1.2.2.2.2 _ hlink) (fun _ h9 => h9) rfl hdg kk
theorem X_g13_2 (C0 : CX p m c cc nL s args Ts own E) (hw : SX E s st H locs) (hin : ∀ w ∈ u_ws RX9 TX9 9, w ∈ Ts) {i : Nat} (hi : i < cntX 13) {idx : Nat} (hlink : Cond.fieldLink own idx "ColourHouse$Sight" "a" "D" ∈ Ts) (hdg : decode cc pc = .ok (.getfield idx, 3)) (kk : W p l e R s m args below meth c H locs cells slots Q (F0 m (pc + 3) ls (.double (gD st 13 i 2) :: rest))) : W p l e R s m args below meth c H locs cells slots Q (F0 m pc ls (.ref (E.2.2.1 13 i) :: rest)) :=
  va_get (D := E.1) (ci := 8) (C := RX9) (T := TX9) (N := 9) C0.1.1 C0.1.2.1 C0.1.2.2.2.2 hin C0.1.2.2.2.1 C0.2 hw.1 (offA cntX 13 + i) (wX_at (by decide) hi) rfl 2 (by decide) (C0.1.2.2.2.2 _ hlink) (fun _ h9 => h9) rfl hdg kk
theorem X_p13_2 (hL : LX E) (C0 : CX p m c cc nL s args Ts own E) (hw : SX E s st H locs) (hin : ∀ w ∈ u_ws RX9 TX9 9, w ∈ Ts) {i : Nat} (hi : i < cntX 13) {v : UInt64} {K : Sto → Option β} (h : lt1 (sD st 13 i 2 v) K = some r) {idx : Nat} (hlink : Cond.fieldLink own idx "ColourHouse$Sight" "a" "D" ∈ Ts) (hdg : decode cc pc = .ok (.putfield idx, 3)) (kk : ∀ (st1 : Sto) (H1 : Heap) (locs1 : List Loc), SX E s st1 H1 locs1 → K st1 = some r → W p l e R s m args below meth c H1 locs1 cells slots Q (F0 m (pc + 3) ls rest)) : W p l e R s m args below meth c H locs cells slots Q (F0 m pc ls (.double v :: .ref (E.2.2.1 13 i) :: rest)) := by
  refine va_put (D := E.1) (ci := 8) (ty := .double) (C := RX9) (T := TX9) (N := 9) C0.1.1 C0.1.2.1 C0.1.2.2.2.2 hin tyX9 tyX9_ok nmX9 C0.1.2.2.2.1 C0.2 hw.1 (hL _) hw.2 (offA cntX 13 + i) (wX_at (by decide) hi) rfl 2 (by decide) (C0.1.2.2.2.2 _ hlink) (fun _ h9 => h9) rfl (by decide +kernel) rfl rfl (Nat.le_of_ble_eq_true rfl) hdg (fun H1 locs1 hP _ hS => kk _ H1 locs1 ⟨?_, hS⟩ (lt_c h))
  rw [wX_sD (j := 2) (v := v) (by decide) hi (by rw [gD_self]; rfl)] at hP
  exact hP
theorem X_g13_3 (C0 : CX p m c cc nL s args Ts own E) (hw : SX E s st H locs) (hin : ∀ w ∈ u_ws RX9 TX9 9, w ∈ Ts) {i : Nat} (hi : i < cntX 13) {idx : Nat} (hlink : Cond.fieldLink own idx "ColourHouse$Sight" "b" "D" ∈ Ts) (hdg : decode cc pc = .ok (.getfield idx, 3)) (kk : W p l e R s m args below meth c H locs cells slots Q (F0 m (pc + 3) ls (.double (gD st 13 i 3) :: rest))) : W p l e R s m args below meth c H locs cells slots Q (F0 m pc ls (.ref (E.2.2.1 13 i) :: rest)) :=
  va_get (D := E.1) (ci := 8) (C := RX9) (T := TX9) (N := 9) C0.1.1 C0.1.2.1 C0.1.2.2.2.2 hin C0.1.2.2.2.1 C0.2 hw.1 (offA cntX 13 + i) (wX_at (by decide) hi) rfl 3 (by decide) (C0.1.2.2.2.2 _ hlink) (fun _ h9 => h9) rfl hdg kk
theorem X_p13_3 (hL : LX E) (C0 : CX p m c cc nL s args Ts own E) (hw : SX E s st H locs) (hin : ∀ w ∈ u_ws RX9 TX9 9, w ∈ Ts) {i : Nat} (hi : i < cntX 13) {v : UInt64} {K : Sto → Option β} (h : lt1 (sD st 13 i 3 v) K = some r) {idx : Nat} (hlink : Cond.fieldLink own idx "ColourHouse$Sight" "b" "D" ∈ Ts) (hdg : decode cc pc = .ok (.putfield idx, 3)) (kk : ∀ (st1 : Sto) (H1 : Heap) (locs1 : List Loc), SX E s st1 H1 locs1 → K st1 = some r → W p l e R s m args below meth c H1 locs1 cells slots Q (F0 m (pc + 3) ls rest)) : W p l e R s m args below meth c H locs cells slots Q (F0 m pc ls (.double v :: .ref (E.2.2.1 13 i) :: rest)) := by
  refine va_put (D := E.1) (ci := 8) (ty := .double) (C := RX9) (T := TX9) (N := 9) C0.1.1 C0.1.2.1 C0.1.2.2.2.2 hin tyX9 tyX9_ok nmX9 C0.1.2.2.2.1 C0.2 hw.1 (hL _) hw.2 (offA cntX 13 + i) (wX_at (by decide) hi) rfl 3 (by decide) (C0.1.2.2.2.2 _ hlink) (fun _ h9 => h9) rfl (by decide +kernel) rfl rfl (Nat.le_of_ble_eq_true rfl) hdg (fun H1 locs1 hP _ hS => kk _ H1 locs1 ⟨?_, hS⟩ (lt_c h))
  rw [wX_sD (j := 3) (v := v) (by decide) hi (by rw [gD_self]; rfl)] at hP
  exact hP
theorem X_g13_4 (C0 : CX p m c cc nL s args Ts own E) (hw : SX E s st H locs) (hin : ∀ w ∈ u_ws RX9 TX9 9, w ∈ Ts) {i : Nat} (hi : i < cntX 13) {idx : Nat} (hlink : Cond.fieldLink own idx "ColourHouse$Sight" "c" "D" ∈ Ts) (hdg : decode cc pc = .ok (.getfield idx, 3)) (kk : W p l e R s m args below meth c H locs cells slots Q (F0 m (pc + 3) ls (.double (gD st 13 i 4) :: rest))) : W p l e R s m args below meth c H locs cells slots Q (F0 m pc ls (.ref (E.2.2.1 13 i) :: rest)) :=
  va_get (D := E.1) (ci := 8) (C := RX9) (T := TX9) (N := 9) C0.1.1 C0.1.2.1 C0.1.2.2.2.2 hin C0.1.2.2.2.1 C0.2 hw.1 (offA cntX 13 + i) (wX_at (by decide) hi) rfl 4 (by decide) (C0.1.2.2.2.2 _ hlink) (fun _ h9 => h9) rfl hdg kk
theorem X_p13_4 (hL : LX E) (C0 : CX p m c cc nL s args Ts own E) (hw : SX E s st H locs) (hin : ∀ w ∈ u_ws RX9 TX9 9, w ∈ Ts) {i : Nat} (hi : i < cntX 13) {v : UInt64} {K : Sto → Option β} (h : lt1 (sD st 13 i 4 v) K = some r) {idx : Nat} (hlink : Cond.fieldLink own idx "ColourHouse$Sight" "c" "D" ∈ Ts) (hdg : decode cc pc = .ok (.putfield idx, 3)) (kk : ∀ (st1 : Sto) (H1 : Heap) (locs1 : List Loc), SX E s st1 H1 locs1 → K st1 = some r → W p l e R s m args below meth c H1 locs1 cells slots Q (F0 m (pc + 3) ls rest)) : W p l e R s m args below meth c H locs cells slots Q (F0 m pc ls (.double v :: .ref (E.2.2.1 13 i) :: rest)) := by
  refine va_put (D := E.1) (ci := 8) (ty := .double) (C := RX9) (T := TX9) (N := 9) C0.1.1 C0.1.2.1 C0.1.2.2.2.2 hin tyX9 tyX9_ok nmX9 C0.1.2.2.2.1 C0.2 hw.1 (hL _) hw.2 (offA cntX 13 + i) (wX_at (by decide) hi) rfl 4 (by decide) (C0.1.2.2.2.2 _ hlink) (fun _ h9 => h9) rfl (by decide +kernel) rfl rfl (Nat.le_of_ble_eq_true rfl) hdg (fun H1 locs1 hP _ hS => kk _ H1 locs1 ⟨?_, hS⟩ (lt_c h))
  rw [wX_sD (j := 4) (v := v) (by decide) hi (by rw [gD_self]; rfl)] at hP
  exact hP
theorem X_g13_5 (C0 : CX p m c cc nL s args Ts own E) (hw : SX E s st H locs) (hin : ∀ w ∈ u_ws RX9 TX9 9, w ∈ Ts) {i : Nat} (hi : i < cntX 13) {idx : Nat} (hlink : Cond.fieldLink own idx "ColourHouse$Sight" "weights" "[[D" ∈ Ts) (hdg : decode cc pc = .ok (.getfield idx, 3)) (kk : W p l e R s m args below meth c H locs cells slots Q (F0 m (pc + 3) ls (.ref (E.2.2.1 38 (0)) :: rest))) : W p l e R s m args below meth c H locs cells slots Q (F0 m pc ls (.ref (E.2.2.1 13 i) :: rest)) :=
  va_get (D := E.1) (ci := 8) (C := RX9) (T := TX9) (N := 9) C0.1.1 C0.1.2.1 C0.1.2.2.2.2 hin C0.1.2.2.2.1 C0.2 hw.1 (offA cntX 13 + i) (wX_at (by decide) hi) rfl 5 (by decide) (C0.1.2.2.2.2 _ hlink) (fun _ h9 => h9) rfl hdg kk
theorem X_g13_6 (C0 : CX p m c cc nL s args Ts own E) (hw : SX E s st H locs) (hin : ∀ w ∈ u_ws RX9 TX9 9, w ∈ Ts) {i : Nat} (hi : i < cntX 13) {idx : Nat} (hlink : Cond.fieldLink own idx "ColourHouse$Sight" "totals" "[D" ∈ Ts) (hdg : decode cc pc = .ok (.getfield idx, 3)) (kk : W p l e R s m args below meth c H locs cells slots Q (F0 m (pc + 3) ls (.ref (E.2.2.1 40 (0)) :: rest))) : W p l e R s m args below meth c H locs cells slots Q (F0 m pc ls (.ref (E.2.2.1 13 i) :: rest)) :=
  va_get (D := E.1) (ci := 8) (C := RX9) (T := TX9) (N := 9) C0.1.1 C0.1.2.1 C0.1.2.2.2.2 hin C0.1.2.2.2.1 C0.2 hw.1 (offA cntX 13 + i) (wX_at (by decide) hi) rfl 6 (by decide) (C0.1.2.2.2.2 _ hlink) (fun _ h9 => h9) rfl hdg kk
theorem X_g13_7 (C0 : CX p m c cc nL s args Ts own E) (hw : SX E s st H locs) (hin : ∀ w ∈ u_ws RX9 TX9 9, w ∈ Ts) {i : Nat} (hi : i < cntX 13) {idx : Nat} (hlink : Cond.fieldLink own idx "ColourHouse$Sight" "goal" "[D" ∈ Ts) (hdg : decode cc pc = .ok (.getfield idx, 3)) (kk : W p l e R s m args below meth c H locs cells slots Q (F0 m (pc + 3) ls (.ref (E.2.2.1 41 (0)) :: rest))) : W p l e R s m args below meth c H locs cells slots Q (F0 m pc ls (.ref (E.2.2.1 13 i) :: rest)) :=
  va_get (D := E.1) (ci := 8) (C := RX9) (T := TX9) (N := 9) C0.1.1 C0.1.2.1 C0.1.2.2.2.2 hin C0.1.2.2.2.1 C0.2 hw.1 (offA cntX 13 + i) (wX_at (by decide) hi) rfl 7 (by decide) (C0.1.2.2.2.2 _ hlink) (fun _ h9 => h9) rfl hdg kk
theorem X_g13_8 (C0 : CX p m c cc nL s args Ts own E) (hw : SX E s st H locs) (hin : ∀ w ∈ u_ws RX9 TX9 9, w ∈ Ts) {i : Nat} (hi : i < cntX 13) {idx : Nat} (hlink : Cond.fieldLink own idx "ColourHouse$Sight" "seen" "[D" ∈ Ts) (hdg : decode cc pc = .ok (.getfield idx, 3)) (kk : W p l e R s m args below meth c H locs cells slots Q (F0 m (pc + 3) ls (.ref (E.2.2.1 42 (0)) :: rest))) : W p l e R s m args below meth c H locs cells slots Q (F0 m pc ls (.ref (E.2.2.1 13 i) :: rest)) :=
  va_get (D := E.1) (ci := 8) (C := RX9) (T := TX9) (N := 9) C0.1.1 C0.1.2.1 C0.1.2.2.2.2 hin C0.1.2.2.2.1 C0.2 hw.1 (offA cntX 13 + i) (wX_at (by decide) hi) rfl 8 (by decide) (C0.1.2.2.2.2 _ hlink) (fun _ h9 => h9) rfl hdg kk
theorem X_recv_15 (C0 : CX p m c cc nL s args Ts own E) (hw : SX E s st H locs) {i : Nat} (hi : i < cntX 15) : ∃ cellB : Cell, H[E.2.2.1 15 i]? = some cellB ∧ cellB.vm.isStatics = false ∧ s.vm.findClass RX6 = some cellB.cls := va_recv C0.2 hw.1 (ci := 6) (q0 := offA cntX 15 + i) (q := (RX6, TX6, 2)) rfl (wX_at (by decide) hi)
theorem X_g15_0 (C0 : CX p m c cc nL s args Ts own E) (hw : SX E s st H locs) (hin : ∀ w ∈ u_ws RX6 TX6 2, w ∈ Ts) {i : Nat} (hi : i < cntX 15) {idx : Nat} (hlink : Cond.fieldLink own idx "ColourHouse$Mix" "quotients" "[D" ∈ Ts) (hdg : decode cc pc = .ok (.getfield idx, 3)) (kk : W p l e R s m args below meth c H locs cells slots Q (F0 m (pc + 3) ls (.ref (E.2.2.1 43 (0)) :: rest))) : W p l e R s m args below meth c H locs cells slots Q (F0 m pc ls (.ref (E.2.2.1 15 i) :: rest)) :=
  va_get (D := E.1) (ci := 6) (C := RX6) (T := TX6) (N := 2) C0.1.1 C0.1.2.1 C0.1.2.2.2.2 hin C0.1.2.2.2.1 C0.2 hw.1 (offA cntX 15 + i) (wX_at (by decide) hi) rfl 0 (by decide) (C0.1.2.2.2.2 _ hlink) (fun _ h9 => h9) rfl hdg kk
theorem X_g15_1 (C0 : CX p m c cc nL s args Ts own E) (hw : SX E s st H locs) (hin : ∀ w ∈ u_ws RX6 TX6 2, w ∈ Ts) {i : Nat} (hi : i < cntX 15) {idx : Nat} (hlink : Cond.fieldLink own idx "ColourHouse$Mix" "made" "[F" ∈ Ts) (hdg : decode cc pc = .ok (.getfield idx, 3)) (kk : W p l e R s m args below meth c H locs cells slots Q (F0 m (pc + 3) ls (.ref (E.2.2.1 44 (0)) :: rest))) : W p l e R s m args below meth c H locs cells slots Q (F0 m pc ls (.ref (E.2.2.1 15 i) :: rest)) :=
  va_get (D := E.1) (ci := 6) (C := RX6) (T := TX6) (N := 2) C0.1.1 C0.1.2.1 C0.1.2.2.2.2 hin C0.1.2.2.2.1 C0.2 hw.1 (offA cntX 15 + i) (wX_at (by decide) hi) rfl 1 (by decide) (C0.1.2.2.2.2 _ hlink) (fun _ h9 => h9) rfl hdg kk
theorem X_recv_16 (C0 : CX p m c cc nL s args Ts own E) (hw : SX E s st H locs) {i : Nat} (hi : i < cntX 16) : ∃ cellB : Cell, H[E.2.2.1 16 i]? = some cellB ∧ cellB.vm.isStatics = false ∧ s.vm.findClass RX8 = some cellB.cls := va_recv C0.2 hw.1 (ci := 7) (q0 := offA cntX 16 + i) (q := (RX8, TX8, 19)) rfl (wX_at (by decide) hi)
theorem X_g16_0 (C0 : CX p m c cc nL s args Ts own E) (hw : SX E s st H locs) (hin : ∀ w ∈ u_ws RX8 TX8 19, w ∈ Ts) {i : Nat} (hi : i < cntX 16) {idx : Nat} (hlink : Cond.fieldLink own idx "ColourHouse$Search" "names" "[I" ∈ Ts) (hdg : decode cc pc = .ok (.getfield idx, 3)) (kk : W p l e R s m args below meth c H locs cells slots Q (F0 m (pc + 3) ls (.ref (E.2.2.1 45 (i)) :: rest))) : W p l e R s m args below meth c H locs cells slots Q (F0 m pc ls (.ref (E.2.2.1 16 i) :: rest)) :=
  va_get (D := E.1) (ci := 7) (C := RX8) (T := TX8) (N := 19) C0.1.1 C0.1.2.1 C0.1.2.2.2.2 hin C0.1.2.2.2.1 C0.2 hw.1 (offA cntX 16 + i) (wX_at (by decide) hi) rfl 0 (by decide) (C0.1.2.2.2.2 _ hlink) (fun _ h9 => h9) rfl hdg kk
theorem X_g16_1 (C0 : CX p m c cc nL s args Ts own E) (hw : SX E s st H locs) (hin : ∀ w ∈ u_ws RX8 TX8 19, w ∈ Ts) {i : Nat} (hi : i < cntX 16) {idx : Nat} (hlink : Cond.fieldLink own idx "ColourHouse$Search" "limits" "[I" ∈ Ts) (hdg : decode cc pc = .ok (.getfield idx, 3)) (kk : W p l e R s m args below meth c H locs cells slots Q (F0 m (pc + 3) ls (.ref (E.2.2.1 46 (i)) :: rest))) : W p l e R s m args below meth c H locs cells slots Q (F0 m pc ls (.ref (E.2.2.1 16 i) :: rest)) :=
  va_get (D := E.1) (ci := 7) (C := RX8) (T := TX8) (N := 19) C0.1.1 C0.1.2.1 C0.1.2.2.2.2 hin C0.1.2.2.2.1 C0.2 hw.1 (offA cntX 16 + i) (wX_at (by decide) hi) rfl 1 (by decide) (C0.1.2.2.2.2 _ hlink) (fun _ h9 => h9) rfl hdg kk
theorem X_g16_2 (C0 : CX p m c cc nL s args Ts own E) (hw : SX E s st H locs) (hin : ∀ w ∈ u_ws RX8 TX8 19, w ∈ Ts) {i : Nat} (hi : i < cntX 16) {idx : Nat} (hlink : Cond.fieldLink own idx "ColourHouse$Search" "needs" "[I" ∈ Ts) (hdg : decode cc pc = .ok (.getfield idx, 3)) (kk : W p l e R s m args below meth c H locs cells slots Q (F0 m (pc + 3) ls (.ref (E.2.2.1 47 (i)) :: rest))) : W p l e R s m args below meth c H locs cells slots Q (F0 m pc ls (.ref (E.2.2.1 16 i) :: rest)) :=
  va_get (D := E.1) (ci := 7) (C := RX8) (T := TX8) (N := 19) C0.1.1 C0.1.2.1 C0.1.2.2.2.2 hin C0.1.2.2.2.1 C0.2 hw.1 (offA cntX 16 + i) (wX_at (by decide) hi) rfl 2 (by decide) (C0.1.2.2.2.2 _ hlink) (fun _ h9 => h9) rfl hdg kk
theorem X_g16_3 (C0 : CX p m c cc nL s args Ts own E) (hw : SX E s st H locs) (hin : ∀ w ∈ u_ws RX8 TX8 19, w ∈ Ts) {i : Nat} (hi : i < cntX 16) {idx : Nat} (hlink : Cond.fieldLink own idx "ColourHouse$Search" "offered" "I" ∈ Ts) (hdg : decode cc pc = .ok (.getfield idx, 3)) (kk : W p l e R s m args below meth c H locs cells slots Q (F0 m (pc + 3) ls (.int (gI st 16 i 3) :: rest))) : W p l e R s m args below meth c H locs cells slots Q (F0 m pc ls (.ref (E.2.2.1 16 i) :: rest)) :=
  va_get (D := E.1) (ci := 7) (C := RX8) (T := TX8) (N := 19) C0.1.1 C0.1.2.1 C0.1.2.2.2.2 hin C0.1.2.2.2.1 C0.2 hw.1 (offA cntX 16 + i) (wX_at (by decide) hi) rfl 3 (by decide) (C0.1.2.2.2.2 _ hlink) (fun _ h9 => h9) rfl hdg kk
theorem X_p16_3 (hL : LX E) (C0 : CX p m c cc nL s args Ts own E) (hw : SX E s st H locs) (hin : ∀ w ∈ u_ws RX8 TX8 19, w ∈ Ts) {i : Nat} (hi : i < cntX 16) {v : Int32} {K : Sto → Option β} (h : lt1 (sI st 16 i 3 v) K = some r) {idx : Nat} (hlink : Cond.fieldLink own idx "ColourHouse$Search" "offered" "I" ∈ Ts) (hdg : decode cc pc = .ok (.putfield idx, 3)) (kk : ∀ (st1 : Sto) (H1 : Heap) (locs1 : List Loc), SX E s st1 H1 locs1 → K st1 = some r → W p l e R s m args below meth c H1 locs1 cells slots Q (F0 m (pc + 3) ls rest)) : W p l e R s m args below meth c H locs cells slots Q (F0 m pc ls (.int v :: .ref (E.2.2.1 16 i) :: rest)) := by
  refine va_put (D := E.1) (ci := 7) (ty := .int) (C := RX8) (T := TX8) (N := 19) C0.1.1 C0.1.2.1 C0.1.2.2.2.2 hin tyX8 tyX8_ok nmX8 C0.1.2.2.2.1 C0.2 hw.1 (hL _) hw.2 (offA cntX 16 + i) (wX_at (by decide) hi) rfl 3 (by decide) (C0.1.2.2.2.2 _ hlink) (fun _ h9 => h9) rfl (by decide +kernel) rfl rfl (Nat.le_of_ble_eq_true rfl) hdg (fun H1 locs1 hP _ hS => kk _ H1 locs1 ⟨?_, hS⟩ (lt_c h))
  rw [wX_sI (j := 3) (v := v) (by decide) hi (by rw [gI_self]; rfl)] at hP
  exact hP
theorem X_g16_4 (C0 : CX p m c cc nL s args Ts own E) (hw : SX E s st H locs) (hin : ∀ w ∈ u_ws RX8 TX8 19, w ∈ Ts) {i : Nat} (hi : i < cntX 16) {idx : Nat} (hlink : Cond.fieldLink own idx "ColourHouse$Search" "most" "I" ∈ Ts) (hdg : decode cc pc = .ok (.getfield idx, 3)) (kk : W p l e R s m args below meth c H locs cells slots Q (F0 m (pc + 3) ls (.int (gI st 16 i 4) :: rest))) : W p l e R s m args below meth c H locs cells slots Q (F0 m pc ls (.ref (E.2.2.1 16 i) :: rest)) :=
  va_get (D := E.1) (ci := 7) (C := RX8) (T := TX8) (N := 19) C0.1.1 C0.1.2.1 C0.1.2.2.2.2 hin C0.1.2.2.2.1 C0.2 hw.1 (offA cntX 16 + i) (wX_at (by decide) hi) rfl 4 (by decide) (C0.1.2.2.2.2 _ hlink) (fun _ h9 => h9) rfl hdg kk
theorem X_p16_4 (hL : LX E) (C0 : CX p m c cc nL s args Ts own E) (hw : SX E s st H locs) (hin : ∀ w ∈ u_ws RX8 TX8 19, w ∈ Ts) {i : Nat} (hi : i < cntX 16) {v : Int32} {K : Sto → Option β} (h : lt1 (sI st 16 i 4 v) K = some r) {idx : Nat} (hlink : Cond.fieldLink own idx "ColourHouse$Search" "most" "I" ∈ Ts) (hdg : decode cc pc = .ok (.putfield idx, 3)) (kk : ∀ (st1 : Sto) (H1 : Heap) (locs1 : List Loc), SX E s st1 H1 locs1 → K st1 = some r → W p l e R s m args below meth c H1 locs1 cells slots Q (F0 m (pc + 3) ls rest)) : W p l e R s m args below meth c H locs cells slots Q (F0 m pc ls (.int v :: .ref (E.2.2.1 16 i) :: rest)) := by
  refine va_put (D := E.1) (ci := 7) (ty := .int) (C := RX8) (T := TX8) (N := 19) C0.1.1 C0.1.2.1 C0.1.2.2.2.2 hin tyX8 tyX8_ok nmX8 C0.1.2.2.2.1 C0.2 hw.1 (hL _) hw.2 (offA cntX 16 + i) (wX_at (by decide) hi) rfl 4 (by decide) (C0.1.2.2.2.2 _ hlink) (fun _ h9 => h9) rfl (by decide +kernel) rfl rfl (Nat.le_of_ble_eq_true rfl) hdg (fun H1 locs1 hP _ hS => kk _ H1 locs1 ⟨?_, hS⟩ (lt_c h))
  rw [wX_sI (j := 4) (v := v) (by decide) hi (by rw [gI_self]; rfl)] at hP
  exact hP
theorem X_g16_5 (C0 : CX p m c cc nL s args Ts own E) (hw : SX E s st H locs) (hin : ∀ w ∈ u_ws RX8 TX8 19, w ∈ Ts) {i : Nat} (hi : i < cntX 16) {idx : Nat} (hlink : Cond.fieldLink own idx "ColourHouse$Search" "step" "I" ∈ Ts) (hdg : decode cc pc = .ok (.getfield idx, 3)) (kk : W p l e R s m args below meth c H locs cells slots Q (F0 m (pc + 3) ls (.int (gI st 16 i 5) :: rest))) : W p l e R s m args below meth c H locs cells slots Q (F0 m pc ls (.ref (E.2.2.1 16 i) :: rest)) :=
  va_get (D := E.1) (ci := 7) (C := RX8) (T := TX8) (N := 19) C0.1.1 C0.1.2.1 C0.1.2.2.2.2 hin C0.1.2.2.2.1 C0.2 hw.1 (offA cntX 16 + i) (wX_at (by decide) hi) rfl 5 (by decide) (C0.1.2.2.2.2 _ hlink) (fun _ h9 => h9) rfl hdg kk
theorem X_p16_5 (hL : LX E) (C0 : CX p m c cc nL s args Ts own E) (hw : SX E s st H locs) (hin : ∀ w ∈ u_ws RX8 TX8 19, w ∈ Ts) {i : Nat} (hi : i < cntX 16) {v : Int32} {K : Sto → Option β} (h : lt1 (sI st 16 i 5 v) K = some r) {idx : Nat} (hlink : Cond.fieldLink own idx "ColourHouse$Search" "step" "I" ∈ Ts) (hdg : decode cc pc = .ok (.putfield idx, 3)) (kk : ∀ (st1 : Sto) (H1 : Heap) (locs1 : List Loc), SX E s st1 H1 locs1 → K st1 = some r → W p l e R s m args below meth c H1 locs1 cells slots Q (F0 m (pc + 3) ls rest)) : W p l e R s m args below meth c H locs cells slots Q (F0 m pc ls (.int v :: .ref (E.2.2.1 16 i) :: rest)) := by
  refine va_put (D := E.1) (ci := 7) (ty := .int) (C := RX8) (T := TX8) (N := 19) C0.1.1 C0.1.2.1 C0.1.2.2.2.2 hin tyX8 tyX8_ok nmX8 C0.1.2.2.2.1 C0.2 hw.1 (hL _) hw.2 (offA cntX 16 + i) (wX_at (by decide) hi) rfl 5 (by decide) (C0.1.2.2.2.2 _ hlink) (fun _ h9 => h9) rfl (by decide +kernel) rfl rfl (Nat.le_of_ble_eq_true rfl) hdg (fun H1 locs1 hP _ hS => kk _ H1 locs1 ⟨?_, hS⟩ (lt_c h))
  rw [wX_sI (j := 5) (v := v) (by decide) hi (by rw [gI_self]; rfl)] at hP
  exact hP
theorem X_g16_6 (C0 : CX p m c cc nL s args Ts own E) (hw : SX E s st H locs) (hin : ∀ w ∈ u_ws RX8 TX8 19, w ∈ Ts) {i : Nat} (hi : i < cntX 16) {idx : Nat} (hlink : Cond.fieldLink own idx "ColourHouse$Search" "room" "I" ∈ Ts) (hdg : decode cc pc = .ok (.getfield idx, 3)) (kk : W p l e R s m args below meth c H locs cells slots Q (F0 m (pc + 3) ls (.int (gI st 16 i 6) :: rest))) : W p l e R s m args below meth c H locs cells slots Q (F0 m pc ls (.ref (E.2.2.1 16 i) :: rest)) :=
  va_get (D := E.1) (ci := 7) (C := RX8) (T := TX8) (N := 19) C0.1.1 C0.1.2.1 C0.1.2.2.2.2 hin C0.1.2.2.2.1 C0.2 hw.1 (offA cntX 16 + i) (wX_at (by decide) hi) rfl 6 (by decide) (C0.1.2.2.2.2 _ hlink) (fun _ h9 => h9) rfl hdg kk
theorem X_p16_6 (hL : LX E) (C0 : CX p m c cc nL s args Ts own E) (hw : SX E s st H locs) (hin : ∀ w ∈ u_ws RX8 TX8 19, w ∈ Ts) {i : Nat} (hi : i < cntX 16) {v : Int32} {K : Sto → Option β} (h : lt1 (sI st 16 i 6 v) K = some r) {idx : Nat} (hlink : Cond.fieldLink own idx "ColourHouse$Search" "room" "I" ∈ Ts) (hdg : decode cc pc = .ok (.putfield idx, 3)) (kk : ∀ (st1 : Sto) (H1 : Heap) (locs1 : List Loc), SX E s st1 H1 locs1 → K st1 = some r → W p l e R s m args below meth c H1 locs1 cells slots Q (F0 m (pc + 3) ls rest)) : W p l e R s m args below meth c H locs cells slots Q (F0 m pc ls (.int v :: .ref (E.2.2.1 16 i) :: rest)) := by
  refine va_put (D := E.1) (ci := 7) (ty := .int) (C := RX8) (T := TX8) (N := 19) C0.1.1 C0.1.2.1 C0.1.2.2.2.2 hin tyX8 tyX8_ok nmX8 C0.1.2.2.2.1 C0.2 hw.1 (hL _) hw.2 (offA cntX 16 + i) (wX_at (by decide) hi) rfl 6 (by decide) (C0.1.2.2.2.2 _ hlink) (fun _ h9 => h9) rfl (by decide +kernel) rfl rfl (Nat.le_of_ble_eq_true rfl) hdg (fun H1 locs1 hP _ hS => kk _ H1 locs1 ⟨?_, hS⟩ (lt_c h))
  rw [wX_sI (j := 6) (v := v) (by decide) hi (by rw [gI_self]; rfl)] at hP
  exact hP
theorem X_g16_7 (C0 : CX p m c cc nL s args Ts own E) (hw : SX E s st H locs) (hin : ∀ w ∈ u_ws RX8 TX8 19, w ∈ Ts) {i : Nat} (hi : i < cntX 16) {idx : Nat} (hlink : Cond.fieldLink own idx "ColourHouse$Search" "set" "[I" ∈ Ts) (hdg : decode cc pc = .ok (.getfield idx, 3)) (kk : W p l e R s m args below meth c H locs cells slots Q (F0 m (pc + 3) ls (.ref (E.2.2.1 48 (i)) :: rest))) : W p l e R s m args below meth c H locs cells slots Q (F0 m pc ls (.ref (E.2.2.1 16 i) :: rest)) :=
  va_get (D := E.1) (ci := 7) (C := RX8) (T := TX8) (N := 19) C0.1.1 C0.1.2.1 C0.1.2.2.2.2 hin C0.1.2.2.2.1 C0.2 hw.1 (offA cntX 16 + i) (wX_at (by decide) hi) rfl 7 (by decide) (C0.1.2.2.2.2 _ hlink) (fun _ h9 => h9) rfl hdg kk
theorem X_g16_8 (C0 : CX p m c cc nL s args Ts own E) (hw : SX E s st H locs) (hin : ∀ w ∈ u_ws RX8 TX8 19, w ∈ Ts) {i : Nat} (hi : i < cntX 16) {idx : Nat} (hlink : Cond.fieldLink own idx "ColourHouse$Search" "times" "[I" ∈ Ts) (hdg : decode cc pc = .ok (.getfield idx, 3)) (kk : W p l e R s m args below meth c H locs cells slots Q (F0 m (pc + 3) ls (.ref (E.2.2.1 49 (i)) :: rest))) : W p l e R s m args below meth c H locs cells slots Q (F0 m pc ls (.ref (E.2.2.1 16 i) :: rest)) :=
  va_get (D := E.1) (ci := 7) (C := RX8) (T := TX8) (N := 19) C0.1.1 C0.1.2.1 C0.1.2.2.2.2 hin C0.1.2.2.2.1 C0.2 hw.1 (offA cntX 16 + i) (wX_at (by decide) hi) rfl 8 (by decide) (C0.1.2.2.2.2 _ hlink) (fun _ h9 => h9) rfl hdg kk
theorem X_g16_9 (C0 : CX p m c cc nL s args Ts own E) (hw : SX E s st H locs) (hin : ∀ w ∈ u_ws RX8 TX8 19, w ∈ Ts) {i : Nat} (hi : i < cntX 16) {idx : Nat} (hlink : Cond.fieldLink own idx "ColourHouse$Search" "size" "I" ∈ Ts) (hdg : decode cc pc = .ok (.getfield idx, 3)) (kk : W p l e R s m args below meth c H locs cells slots Q (F0 m (pc + 3) ls (.int (gI st 16 i 9) :: rest))) : W p l e R s m args below meth c H locs cells slots Q (F0 m pc ls (.ref (E.2.2.1 16 i) :: rest)) :=
  va_get (D := E.1) (ci := 7) (C := RX8) (T := TX8) (N := 19) C0.1.1 C0.1.2.1 C0.1.2.2.2.2 hin C0.1.2.2.2.1 C0.2 hw.1 (offA cntX 16 + i) (wX_at (by decide) hi) rfl 9 (by decide) (C0.1.2.2.2.2 _ hlink) (fun _ h9 => h9) rfl hdg kk
theorem X_p16_9 (hL : LX E) (C0 : CX p m c cc nL s args Ts own E) (hw : SX E s st H locs) (hin : ∀ w ∈ u_ws RX8 TX8 19, w ∈ Ts) {i : Nat} (hi : i < cntX 16) {v : Int32} {K : Sto → Option β} (h : lt1 (sI st 16 i 9 v) K = some r) {idx : Nat} (hlink : Cond.fieldLink own idx "ColourHouse$Search" "size" "I" ∈ Ts) (hdg : decode cc pc = .ok (.putfield idx, 3)) (kk : ∀ (st1 : Sto) (H1 : Heap) (locs1 : List Loc), SX E s st1 H1 locs1 → K st1 = some r → W p l e R s m args below meth c H1 locs1 cells slots Q (F0 m (pc + 3) ls rest)) : W p l e R s m args below meth c H locs cells slots Q (F0 m pc ls (.int v :: .ref (E.2.2.1 16 i) :: rest)) := by
  refine va_put (D := E.1) (ci := 7) (ty := .int) (C := RX8) (T := TX8) (N := 19) C0.1.1 C0.1.2.1 C0.1.2.2.2.2 hin tyX8 tyX8_ok nmX8 C0.1.2.2.2.1 C0.2 hw.1 (hL _) hw.2 (offA cntX 16 + i) (wX_at (by decide) hi) rfl 9 (by decide) (C0.1.2.2.2.2 _ hlink) (fun _ h9 => h9) rfl (by decide +kernel) rfl rfl (Nat.le_of_ble_eq_true rfl) hdg (fun H1 locs1 hP _ hS => kk _ H1 locs1 ⟨?_, hS⟩ (lt_c h))
  rw [wX_sI (j := 9) (v := v) (by decide) hi (by rw [gI_self]; rfl)] at hP
  exact hP
theorem X_g16_10 (C0 : CX p m c cc nL s args Ts own E) (hw : SX E s st H locs) (hin : ∀ w ∈ u_ws RX8 TX8 19, w ∈ Ts) {i : Nat} (hi : i < cntX 16) {idx : Nat} (hlink : Cond.fieldLink own idx "ColourHouse$Search" "tries" "I" ∈ Ts) (hdg : decode cc pc = .ok (.getfield idx, 3)) (kk : W p l e R s m args below meth c H locs cells slots Q (F0 m (pc + 3) ls (.int (gI st 16 i 10) :: rest))) : W p l e R s m args below meth c H locs cells slots Q (F0 m pc ls (.ref (E.2.2.1 16 i) :: rest)) :=
  va_get (D := E.1) (ci := 7) (C := RX8) (T := TX8) (N := 19) C0.1.1 C0.1.2.1 C0.1.2.2.2.2 hin C0.1.2.2.2.1 C0.2 hw.1 (offA cntX 16 + i) (wX_at (by decide) hi) rfl 10 (by decide) (C0.1.2.2.2.2 _ hlink) (fun _ h9 => h9) rfl hdg kk
theorem X_p16_10 (hL : LX E) (C0 : CX p m c cc nL s args Ts own E) (hw : SX E s st H locs) (hin : ∀ w ∈ u_ws RX8 TX8 19, w ∈ Ts) {i : Nat} (hi : i < cntX 16) {v : Int32} {K : Sto → Option β} (h : lt1 (sI st 16 i 10 v) K = some r) {idx : Nat} (hlink : Cond.fieldLink own idx "ColourHouse$Search" "tries" "I" ∈ Ts) (hdg : decode cc pc = .ok (.putfield idx, 3)) (kk : ∀ (st1 : Sto) (H1 : Heap) (locs1 : List Loc), SX E s st1 H1 locs1 → K st1 = some r → W p l e R s m args below meth c H1 locs1 cells slots Q (F0 m (pc + 3) ls rest)) : W p l e R s m args below meth c H locs cells slots Q (F0 m pc ls (.int v :: .ref (E.2.2.1 16 i) :: rest)) := by
  refine va_put (D := E.1) (ci := 7) (ty := .int) (C := RX8) (T := TX8) (N := 19) C0.1.1 C0.1.2.1 C0.1.2.2.2.2 hin tyX8 tyX8_ok nmX8 C0.1.2.2.2.1 C0.2 hw.1 (hL _) hw.2 (offA cntX 16 + i) (wX_at (by decide) hi) rfl 10 (by decide) (C0.1.2.2.2.2 _ hlink) (fun _ h9 => h9) rfl (by decide +kernel) rfl rfl (Nat.le_of_ble_eq_true rfl) hdg (fun H1 locs1 hP _ hS => kk _ H1 locs1 ⟨?_, hS⟩ (lt_c h))
  rw [wX_sI (j := 10) (v := v) (by decide) hi (by rw [gI_self]; rfl)] at hP
  exact hP
theorem X_g16_11 (C0 : CX p m c cc nL s args Ts own E) (hw : SX E s st H locs) (hin : ∀ w ∈ u_ws RX8 TX8 19, w ∈ Ts) {i : Nat} (hi : i < cntX 16) {idx : Nat} (hlink : Cond.fieldLink own idx "ColourHouse$Search" "isWhole" "Z" ∈ Ts) (hdg : decode cc pc = .ok (.getfield idx, 3)) (kk : W p l e R s m args below meth c H locs cells slots Q (F0 m (pc + 3) ls (.int (gI st 16 i 11) :: rest))) : W p l e R s m args below meth c H locs cells slots Q (F0 m pc ls (.ref (E.2.2.1 16 i) :: rest)) :=
  va_get (D := E.1) (ci := 7) (C := RX8) (T := TX8) (N := 19) C0.1.1 C0.1.2.1 C0.1.2.2.2.2 hin C0.1.2.2.2.1 C0.2 hw.1 (offA cntX 16 + i) (wX_at (by decide) hi) rfl 11 (by decide) (C0.1.2.2.2.2 _ hlink) (fun _ h9 => h9) rfl hdg kk
theorem X_p16_11 (hL : LX E) (C0 : CX p m c cc nL s args Ts own E) (hw : SX E s st H locs) (hin : ∀ w ∈ u_ws RX8 TX8 19, w ∈ Ts) {i : Nat} (hi : i < cntX 16) {v : Int32} {K : Sto → Option β} (h : lt1 (sI st 16 i 11 v) K = some r) (hn : narrow .boolean (.int v) = .int v) (hfit : Jvm.fits .boolean (.int v) = true) {idx : Nat} (hlink : Cond.fieldLink own idx "ColourHouse$Search" "isWhole" "Z" ∈ Ts) (hdg : decode cc pc = .ok (.putfield idx, 3)) (kk : ∀ (st1 : Sto) (H1 : Heap) (locs1 : List Loc), SX E s st1 H1 locs1 → K st1 = some r → W p l e R s m args below meth c H1 locs1 cells slots Q (F0 m (pc + 3) ls rest)) : W p l e R s m args below meth c H locs cells slots Q (F0 m pc ls (.int v :: .ref (E.2.2.1 16 i) :: rest)) := by
  refine va_put (D := E.1) (ci := 7) (ty := .boolean) (C := RX8) (T := TX8) (N := 19) C0.1.1 C0.1.2.1 C0.1.2.2.2.2 hin tyX8 tyX8_ok nmX8 C0.1.2.2.2.1 C0.2 hw.1 (hL _) hw.2 (offA cntX 16 + i) (wX_at (by decide) hi) rfl 11 (by decide) (C0.1.2.2.2.2 _ hlink) (fun _ h9 => h9) rfl (by decide +kernel) hn hfit (Nat.le_of_ble_eq_true rfl) hdg (fun H1 locs1 hP _ hS => kk _ H1 locs1 ⟨?_, hS⟩ (lt_c h))
  rw [wX_sI (j := 11) (v := v) (by decide) hi (by rw [gI_self]; rfl)] at hP
  exact hP
theorem X_g16_12 (C0 : CX p m c cc nL s args Ts own E) (hw : SX E s st H locs) (hin : ∀ w ∈ u_ws RX8 TX8 19, w ∈ Ts) {i : Nat} (hi : i < cntX 16) {idx : Nat} (hlink : Cond.fieldLink own idx "ColourHouse$Search" "ended" "Z" ∈ Ts) (hdg : decode cc pc = .ok (.getfield idx, 3)) (kk : W p l e R s m args below meth c H locs cells slots Q (F0 m (pc + 3) ls (.int (gI st 16 i 12) :: rest))) : W p l e R s m args below meth c H locs cells slots Q (F0 m pc ls (.ref (E.2.2.1 16 i) :: rest)) :=
  va_get (D := E.1) (ci := 7) (C := RX8) (T := TX8) (N := 19) C0.1.1 C0.1.2.1 C0.1.2.2.2.2 hin C0.1.2.2.2.1 C0.2 hw.1 (offA cntX 16 + i) (wX_at (by decide) hi) rfl 12 (by decide) (C0.1.2.2.2.2 _ hlink) (fun _ h9 => h9) rfl hdg kk
theorem X_p16_12 (hL : LX E) (C0 : CX p m c cc nL s args Ts own E) (hw : SX E s st H locs) (hin : ∀ w ∈ u_ws RX8 TX8 19, w ∈ Ts) {i : Nat} (hi : i < cntX 16) {v : Int32} {K : Sto → Option β} (h : lt1 (sI st 16 i 12 v) K = some r) (hn : narrow .boolean (.int v) = .int v) (hfit : Jvm.fits .boolean (.int v) = true) {idx : Nat} (hlink : Cond.fieldLink own idx "ColourHouse$Search" "ended" "Z" ∈ Ts) (hdg : decode cc pc = .ok (.putfield idx, 3)) (kk : ∀ (st1 : Sto) (H1 : Heap) (locs1 : List Loc), SX E s st1 H1 locs1 → K st1 = some r → W p l e R s m args below meth c H1 locs1 cells slots Q (F0 m (pc + 3) ls rest)) : W p l e R s m args below meth c H locs cells slots Q (F0 m pc ls (.int v :: .ref (E.2.2.1 16 i) :: rest)) := by
  refine va_put (D := E.1) (ci := 7) (ty := .boolean) (C := RX8) (T := TX8) (N := 19) C0.1.1 C0.1.2.1 C0.1.2.2.2.2 hin tyX8 tyX8_ok nmX8 C0.1.2.2.2.1 C0.2 hw.1 (hL _) hw.2 (offA cntX 16 + i) (wX_at (by decide) hi) rfl 12 (by decide) (C0.1.2.2.2.2 _ hlink) (fun _ h9 => h9) rfl (by decide +kernel) hn hfit (Nat.le_of_ble_eq_true rfl) hdg (fun H1 locs1 hP _ hS => kk _ H1 locs1 ⟨?_, hS⟩ (lt_c h))
  rw [wX_sI (j := 12) (v := v) (by decide) hi (by rw [gI_self]; rfl)] at hP
  exact hP
theorem X_g16_13 (C0 : CX p m c cc nL s args Ts own E) (hw : SX E s st H locs) (hin : ∀ w ∈ u_ws RX8 TX8 19, w ∈ Ts) {i : Nat} (hi : i < cntX 16) {idx : Nat} (hlink : Cond.fieldLink own idx "ColourHouse$Search" "hasBest" "Z" ∈ Ts) (hdg : decode cc pc = .ok (.getfield idx, 3)) (kk : W p l e R s m args below meth c H locs cells slots Q (F0 m (pc + 3) ls (.int (gI st 16 i 13) :: rest))) : W p l e R s m args below meth c H locs cells slots Q (F0 m pc ls (.ref (E.2.2.1 16 i) :: rest)) :=
  va_get (D := E.1) (ci := 7) (C := RX8) (T := TX8) (N := 19) C0.1.1 C0.1.2.1 C0.1.2.2.2.2 hin C0.1.2.2.2.1 C0.2 hw.1 (offA cntX 16 + i) (wX_at (by decide) hi) rfl 13 (by decide) (C0.1.2.2.2.2 _ hlink) (fun _ h9 => h9) rfl hdg kk
theorem X_p16_13 (hL : LX E) (C0 : CX p m c cc nL s args Ts own E) (hw : SX E s st H locs) (hin : ∀ w ∈ u_ws RX8 TX8 19, w ∈ Ts) {i : Nat} (hi : i < cntX 16) {v : Int32} {K : Sto → Option β} (h : lt1 (sI st 16 i 13 v) K = some r) (hn : narrow .boolean (.int v) = .int v) (hfit : Jvm.fits .boolean (.int v) = true) {idx : Nat} (hlink : Cond.fieldLink own idx "ColourHouse$Search" "hasBest" "Z" ∈ Ts) (hdg : decode cc pc = .ok (.putfield idx, 3)) (kk : ∀ (st1 : Sto) (H1 : Heap) (locs1 : List Loc), SX E s st1 H1 locs1 → K st1 = some r → W p l e R s m args below meth c H1 locs1 cells slots Q (F0 m (pc + 3) ls rest)) : W p l e R s m args below meth c H locs cells slots Q (F0 m pc ls (.int v :: .ref (E.2.2.1 16 i) :: rest)) := by
  refine va_put (D := E.1) (ci := 7) (ty := .boolean) (C := RX8) (T := TX8) (N := 19) C0.1.1 C0.1.2.1 C0.1.2.2.2.2 hin tyX8 tyX8_ok nmX8 C0.1.2.2.2.1 C0.2 hw.1 (hL _) hw.2 (offA cntX 16 + i) (wX_at (by decide) hi) rfl 13 (by decide) (C0.1.2.2.2.2 _ hlink) (fun _ h9 => h9) rfl (by decide +kernel) hn hfit (Nat.le_of_ble_eq_true rfl) hdg (fun H1 locs1 hP _ hS => kk _ H1 locs1 ⟨?_, hS⟩ (lt_c h))
  rw [wX_sI (j := 13) (v := v) (by decide) hi (by rw [gI_self]; rfl)] at hP
  exact hP
theorem X_g16_14 (C0 : CX p m c cc nL s args Ts own E) (hw : SX E s st H locs) (hin : ∀ w ∈ u_ws RX8 TX8 19, w ∈ Ts) {i : Nat} (hi : i < cntX 16) {idx : Nat} (hlink : Cond.fieldLink own idx "ColourHouse$Search" "bestNames" "[I" ∈ Ts) (hdg : decode cc pc = .ok (.getfield idx, 3)) (kk : W p l e R s m args below meth c H locs cells slots Q (F0 m (pc + 3) ls (.ref (E.2.2.1 50 (i)) :: rest))) : W p l e R s m args below meth c H locs cells slots Q (F0 m pc ls (.ref (E.2.2.1 16 i) :: rest)) :=
  va_get (D := E.1) (ci := 7) (C := RX8) (T := TX8) (N := 19) C0.1.1 C0.1.2.1 C0.1.2.2.2.2 hin C0.1.2.2.2.1 C0.2 hw.1 (offA cntX 16 + i) (wX_at (by decide) hi) rfl 14 (by decide) (C0.1.2.2.2.2 _ hlink) (fun _ h9 => h9) rfl hdg kk
theorem X_g16_15 (C0 : CX p m c cc nL s args Ts own E) (hw : SX E s st H locs) (hin : ∀ w ∈ u_ws RX8 TX8 19, w ∈ Ts) {i : Nat} (hi : i < cntX 16) {idx : Nat} (hlink : Cond.fieldLink own idx "ColourHouse$Search" "bestGrams" "[I" ∈ Ts) (hdg : decode cc pc = .ok (.getfield idx, 3)) (kk : W p l e R s m args below meth c H locs cells slots Q (F0 m (pc + 3) ls (.ref (E.2.2.1 51 (i)) :: rest))) : W p l e R s m args below meth c H locs cells slots Q (F0 m pc ls (.ref (E.2.2.1 16 i) :: rest)) :=
  va_get (D := E.1) (ci := 7) (C := RX8) (T := TX8) (N := 19) C0.1.1 C0.1.2.1 C0.1.2.2.2.2 hin C0.1.2.2.2.1 C0.2 hw.1 (offA cntX 16 + i) (wX_at (by decide) hi) rfl 15 (by decide) (C0.1.2.2.2.2 _ hlink) (fun _ h9 => h9) rfl hdg kk
theorem X_g16_16 (C0 : CX p m c cc nL s args Ts own E) (hw : SX E s st H locs) (hin : ∀ w ∈ u_ws RX8 TX8 19, w ∈ Ts) {i : Nat} (hi : i < cntX 16) {idx : Nat} (hlink : Cond.fieldLink own idx "ColourHouse$Search" "bestSize" "I" ∈ Ts) (hdg : decode cc pc = .ok (.getfield idx, 3)) (kk : W p l e R s m args below meth c H locs cells slots Q (F0 m (pc + 3) ls (.int (gI st 16 i 16) :: rest))) : W p l e R s m args below meth c H locs cells slots Q (F0 m pc ls (.ref (E.2.2.1 16 i) :: rest)) :=
  va_get (D := E.1) (ci := 7) (C := RX8) (T := TX8) (N := 19) C0.1.1 C0.1.2.1 C0.1.2.2.2.2 hin C0.1.2.2.2.1 C0.2 hw.1 (offA cntX 16 + i) (wX_at (by decide) hi) rfl 16 (by decide) (C0.1.2.2.2.2 _ hlink) (fun _ h9 => h9) rfl hdg kk
theorem X_p16_16 (hL : LX E) (C0 : CX p m c cc nL s args Ts own E) (hw : SX E s st H locs) (hin : ∀ w ∈ u_ws RX8 TX8 19, w ∈ Ts) {i : Nat} (hi : i < cntX 16) {v : Int32} {K : Sto → Option β} (h : lt1 (sI st 16 i 16 v) K = some r) {idx : Nat} (hlink : Cond.fieldLink own idx "ColourHouse$Search" "bestSize" "I" ∈ Ts) (hdg : decode cc pc = .ok (.putfield idx, 3)) (kk : ∀ (st1 : Sto) (H1 : Heap) (locs1 : List Loc), SX E s st1 H1 locs1 → K st1 = some r → W p l e R s m args below meth c H1 locs1 cells slots Q (F0 m (pc + 3) ls rest)) : W p l e R s m args below meth c H locs cells slots Q (F0 m pc ls (.int v :: .ref (E.2.2.1 16 i) :: rest)) := by
  refine va_put (D := E.1) (ci := 7) (ty := .int) (C := RX8) (T := TX8) (N := 19) C0.1.1 C0.1.2.1 C0.1.2.2.2.2 hin tyX8 tyX8_ok nmX8 C0.1.2.2.2.1 C0.2 hw.1 (hL _) hw.2 (offA cntX 16 + i) (wX_at (by decide) hi) rfl 16 (by decide) (C0.1.2.2.2.2 _ hlink) (fun _ h9 => h9) rfl (by decide +kernel) rfl rfl (Nat.le_of_ble_eq_true rfl) hdg (fun H1 locs1 hP _ hS => kk _ H1 locs1 ⟨?_, hS⟩ (lt_c h))
  rw [wX_sI (j := 16) (v := v) (by decide) hi (by rw [gI_self]; rfl)] at hP
  exact hP
theorem X_g16_17 (C0 : CX p m c cc nL s args Ts own E) (hw : SX E s st H locs) (hin : ∀ w ∈ u_ws RX8 TX8 19, w ∈ Ts) {i : Nat} (hi : i < cntX 16) {idx : Nat} (hlink : Cond.fieldLink own idx "ColourHouse$Search" "bestGap" "D" ∈ Ts) (hdg : decode cc pc = .ok (.getfield idx, 3)) (kk : W p l e R s m args below meth c H locs cells slots Q (F0 m (pc + 3) ls (.double (gD st 16 i 17) :: rest))) : W p l e R s m args below meth c H locs cells slots Q (F0 m pc ls (.ref (E.2.2.1 16 i) :: rest)) :=
  va_get (D := E.1) (ci := 7) (C := RX8) (T := TX8) (N := 19) C0.1.1 C0.1.2.1 C0.1.2.2.2.2 hin C0.1.2.2.2.1 C0.2 hw.1 (offA cntX 16 + i) (wX_at (by decide) hi) rfl 17 (by decide) (C0.1.2.2.2.2 _ hlink) (fun _ h9 => h9) rfl hdg kk
theorem X_p16_17 (hL : LX E) (C0 : CX p m c cc nL s args Ts own E) (hw : SX E s st H locs) (hin : ∀ w ∈ u_ws RX8 TX8 19, w ∈ Ts) {i : Nat} (hi : i < cntX 16) {v : UInt64} {K : Sto → Option β} (h : lt1 (sD st 16 i 17 v) K = some r) {idx : Nat} (hlink : Cond.fieldLink own idx "ColourHouse$Search" "bestGap" "D" ∈ Ts) (hdg : decode cc pc = .ok (.putfield idx, 3)) (kk : ∀ (st1 : Sto) (H1 : Heap) (locs1 : List Loc), SX E s st1 H1 locs1 → K st1 = some r → W p l e R s m args below meth c H1 locs1 cells slots Q (F0 m (pc + 3) ls rest)) : W p l e R s m args below meth c H locs cells slots Q (F0 m pc ls (.double v :: .ref (E.2.2.1 16 i) :: rest)) := by
  refine va_put (D := E.1) (ci := 7) (ty := .double) (C := RX8) (T := TX8) (N := 19) C0.1.1 C0.1.2.1 C0.1.2.2.2.2 hin tyX8 tyX8_ok nmX8 C0.1.2.2.2.1 C0.2 hw.1 (hL _) hw.2 (offA cntX 16 + i) (wX_at (by decide) hi) rfl 17 (by decide) (C0.1.2.2.2.2 _ hlink) (fun _ h9 => h9) rfl (by decide +kernel) rfl rfl (Nat.le_of_ble_eq_true rfl) hdg (fun H1 locs1 hP _ hS => kk _ H1 locs1 ⟨?_, hS⟩ (lt_c h))
  rw [wX_sD (j := 17) (v := v) (by decide) hi (by rw [gD_self]; rfl)] at hP
  exact hP
theorem X_g16_18 (C0 : CX p m c cc nL s args Ts own E) (hw : SX E s st H locs) (hin : ∀ w ∈ u_ws RX8 TX8 19, w ∈ Ts) {i : Nat} (hi : i < cntX 16) {idx : Nat} (hlink : Cond.fieldLink own idx "ColourHouse$Search" "bestCost" "J" ∈ Ts) (hdg : decode cc pc = .ok (.getfield idx, 3)) (kk : W p l e R s m args below meth c H locs cells slots Q (F0 m (pc + 3) ls (.long (gL st 16 i 18) :: rest))) : W p l e R s m args below meth c H locs cells slots Q (F0 m pc ls (.ref (E.2.2.1 16 i) :: rest)) :=
  va_get (D := E.1) (ci := 7) (C := RX8) (T := TX8) (N := 19) C0.1.1 C0.1.2.1 C0.1.2.2.2.2 hin C0.1.2.2.2.1 C0.2 hw.1 (offA cntX 16 + i) (wX_at (by decide) hi) rfl 18 (by decide) (C0.1.2.2.2.2 _ hlink) (fun _ h9 => h9) rfl hdg kk
theorem X_p16_18 (hL : LX E) (C0 : CX p m c cc nL s args Ts own E) (hw : SX E s st H locs) (hin : ∀ w ∈ u_ws RX8 TX8 19, w ∈ Ts) {i : Nat} (hi : i < cntX 16) {v : Int64} {K : Sto → Option β} (h : lt1 (sL st 16 i 18 v) K = some r) {idx : Nat} (hlink : Cond.fieldLink own idx "ColourHouse$Search" "bestCost" "J" ∈ Ts) (hdg : decode cc pc = .ok (.putfield idx, 3)) (kk : ∀ (st1 : Sto) (H1 : Heap) (locs1 : List Loc), SX E s st1 H1 locs1 → K st1 = some r → W p l e R s m args below meth c H1 locs1 cells slots Q (F0 m (pc + 3) ls rest)) : W p l e R s m args below meth c H locs cells slots Q (F0 m pc ls (.long v :: .ref (E.2.2.1 16 i) :: rest)) := by
  refine va_put (D := E.1) (ci := 7) (ty := .long) (C := RX8) (T := TX8) (N := 19) C0.1.1 C0.1.2.1 C0.1.2.2.2.2 hin tyX8 tyX8_ok nmX8 C0.1.2.2.2.1 C0.2 hw.1 (hL _) hw.2 (offA cntX 16 + i) (wX_at (by decide) hi) rfl 18 (by decide) (C0.1.2.2.2.2 _ hlink) (fun _ h9 => h9) rfl (by decide +kernel) rfl rfl (Nat.le_of_ble_eq_true rfl) hdg (fun H1 locs1 hP _ hS => kk _ H1 locs1 ⟨?_, hS⟩ (lt_c h))
  rw [wX_sL (j := 18) (v := v) (by decide) hi (by rw [gL_self]; rfl)] at hP
  exact hP
theorem X_recv_17 (C0 : CX p m c cc nL s args Ts own E) (hw : SX E s st H locs) {i : Nat} (hi : i < cntX 17) : ∃ cellB : Cell, H[E.2.2.1 17 i]? = some cellB ∧ cellB.vm.isStatics = false ∧ s.vm.findClass RX5 = some cellB.cls := va_recv C0.2 hw.1 (ci := 5) (q0 := offA cntX 17 + i) (q := (RX5, TX5, 3)) rfl (wX_at (by decide) hi)
theorem X_g17_0 (C0 : CX p m c cc nL s args Ts own E) (hw : SX E s st H locs) (hin : ∀ w ∈ u_ws RX5 TX5 3, w ∈ Ts) {i : Nat} (hi : i < cntX 17) {idx : Nat} (hlink : Cond.fieldLink own idx "ColourHouse$Mail" "outBytes" "[I" ∈ Ts) (hdg : decode cc pc = .ok (.getfield idx, 3)) (kk : W p l e R s m args below meth c H locs cells slots Q (F0 m (pc + 3) ls (.ref (E.2.2.1 52 (0)) :: rest))) : W p l e R s m args below meth c H locs cells slots Q (F0 m pc ls (.ref (E.2.2.1 17 i) :: rest)) :=
  va_get (D := E.1) (ci := 5) (C := RX5) (T := TX5) (N := 3) C0.1.1 C0.1.2.1 C0.1.2.2.2.2 hin C0.1.2.2.2.1 C0.2 hw.1 (offA cntX 17 + i) (wX_at (by decide) hi) rfl 0 (by decide) (C0.1.2.2.2.2 _ hlink) (fun _ h9 => h9) rfl hdg kk
theorem X_g17_1 (C0 : CX p m c cc nL s args Ts own E) (hw : SX E s st H locs) (hin : ∀ w ∈ u_ws RX5 TX5 3, w ∈ Ts) {i : Nat} (hi : i < cntX 17) {idx : Nat} (hlink : Cond.fieldLink own idx "ColourHouse$Mail" "outSize" "I" ∈ Ts) (hdg : decode cc pc = .ok (.getfield idx, 3)) (kk : W p l e R s m args below meth c H locs cells slots Q (F0 m (pc + 3) ls (.int (gI st 17 i 1) :: rest))) : W p l e R s m args below meth c H locs cells slots Q (F0 m pc ls (.ref (E.2.2.1 17 i) :: rest)) :=
  va_get (D := E.1) (ci := 5) (C := RX5) (T := TX5) (N := 3) C0.1.1 C0.1.2.1 C0.1.2.2.2.2 hin C0.1.2.2.2.1 C0.2 hw.1 (offA cntX 17 + i) (wX_at (by decide) hi) rfl 1 (by decide) (C0.1.2.2.2.2 _ hlink) (fun _ h9 => h9) rfl hdg kk
theorem X_p17_1 (hL : LX E) (C0 : CX p m c cc nL s args Ts own E) (hw : SX E s st H locs) (hin : ∀ w ∈ u_ws RX5 TX5 3, w ∈ Ts) {i : Nat} (hi : i < cntX 17) {v : Int32} {K : Sto → Option β} (h : lt1 (sI st 17 i 1 v) K = some r) {idx : Nat} (hlink : Cond.fieldLink own idx "ColourHouse$Mail" "outSize" "I" ∈ Ts) (hdg : decode cc pc = .ok (.putfield idx, 3)) (kk : ∀ (st1 : Sto) (H1 : Heap) (locs1 : List Loc), SX E s st1 H1 locs1 → K st1 = some r → W p l e R s m args below meth c H1 locs1 cells slots Q (F0 m (pc + 3) ls rest)) : W p l e R s m args below meth c H locs cells slots Q (F0 m pc ls (.int v :: .ref (E.2.2.1 17 i) :: rest)) := by
  refine va_put (D := E.1) (ci := 5) (ty := .int) (C := RX5) (T := TX5) (N := 3) C0.1.1 C0.1.2.1 C0.1.2.2.2.2 hin tyX5 tyX5_ok nmX5 C0.1.2.2.2.1 C0.2 hw.1 (hL _) hw.2 (offA cntX 17 + i) (wX_at (by decide) hi) rfl 1 (by decide) (C0.1.2.2.2.2 _ hlink) (fun _ h9 => h9) rfl (by decide +kernel) rfl rfl (Nat.le_of_ble_eq_true rfl) hdg (fun H1 locs1 hP _ hS => kk _ H1 locs1 ⟨?_, hS⟩ (lt_c h))
  rw [wX_sI (j := 1) (v := v) (by decide) hi (by rw [gI_self]; rfl)] at hP
  exact hP
theorem X_g17_2 (C0 : CX p m c cc nL s args Ts own E) (hw : SX E s st H locs) (hin : ∀ w ∈ u_ws RX5 TX5 3, w ∈ Ts) {i : Nat} (hi : i < cntX 17) {idx : Nat} (hlink : Cond.fieldLink own idx "ColourHouse$Mail" "letterBytes" "[I" ∈ Ts) (hdg : decode cc pc = .ok (.getfield idx, 3)) (kk : W p l e R s m args below meth c H locs cells slots Q (F0 m (pc + 3) ls (.ref (E.2.2.1 53 (0)) :: rest))) : W p l e R s m args below meth c H locs cells slots Q (F0 m pc ls (.ref (E.2.2.1 17 i) :: rest)) :=
  va_get (D := E.1) (ci := 5) (C := RX5) (T := TX5) (N := 3) C0.1.1 C0.1.2.1 C0.1.2.2.2.2 hin C0.1.2.2.2.1 C0.2 hw.1 (offA cntX 17 + i) (wX_at (by decide) hi) rfl 2 (by decide) (C0.1.2.2.2.2 _ hlink) (fun _ h9 => h9) rfl hdg kk
theorem X_recv_18 (C0 : CX p m c cc nL s args Ts own E) (hw : SX E s st H locs) {i : Nat} (hi : i < cntX 18) : ∃ cellB : Cell, H[E.2.2.1 18 i]? = some cellB ∧ cellB.vm.isStatics = false ∧ s.vm.findClass RX0 = some cellB.cls := va_recv C0.2 hw.1 (ci := 0) (q0 := offA cntX 18 + i) (q := (RX0, TX0, 4)) rfl (wX_at (by decide) hi)
theorem X_g18_0 (C0 : CX p m c cc nL s args Ts own E) (hw : SX E s st H locs) (hin : ∀ w ∈ u_ws RX0 TX0 4, w ∈ Ts) {i : Nat} (hi : i < cntX 18) {idx : Nat} (hlink : Cond.fieldLink own idx "ColourHouse$Acts" "told" "[[I" ∈ Ts) (hdg : decode cc pc = .ok (.getfield idx, 3)) (kk : W p l e R s m args below meth c H locs cells slots Q (F0 m (pc + 3) ls (.ref (E.2.2.1 54 (0)) :: rest))) : W p l e R s m args below meth c H locs cells slots Q (F0 m pc ls (.ref (E.2.2.1 18 i) :: rest)) :=
  va_get (D := E.1) (ci := 0) (C := RX0) (T := TX0) (N := 4) C0.1.1 C0.1.2.1 C0.1.2.2.2.2 hin C0.1.2.2.2.1 C0.2 hw.1 (offA cntX 18 + i) (wX_at (by decide) hi) rfl 0 (by decide) (C0.1.2.2.2.2 _ hlink) (fun _ h9 => h9) rfl hdg kk
theorem X_g18_1 (C0 : CX p m c cc nL s args Ts own E) (hw : SX E s st H locs) (hin : ∀ w ∈ u_ws RX0 TX0 4, w ∈ Ts) {i : Nat} (hi : i < cntX 18) {idx : Nat} (hlink : Cond.fieldLink own idx "ColourHouse$Acts" "kept" "[[F" ∈ Ts) (hdg : decode cc pc = .ok (.getfield idx, 3)) (kk : W p l e R s m args below meth c H locs cells slots Q (F0 m (pc + 3) ls (.ref (E.2.2.1 56 (0)) :: rest))) : W p l e R s m args below meth c H locs cells slots Q (F0 m pc ls (.ref (E.2.2.1 18 i) :: rest)) :=
  va_get (D := E.1) (ci := 0) (C := RX0) (T := TX0) (N := 4) C0.1.1 C0.1.2.1 C0.1.2.2.2.2 hin C0.1.2.2.2.1 C0.2 hw.1 (offA cntX 18 + i) (wX_at (by decide) hi) rfl 1 (by decide) (C0.1.2.2.2.2 _ hlink) (fun _ h9 => h9) rfl hdg kk
theorem X_g18_2 (C0 : CX p m c cc nL s args Ts own E) (hw : SX E s st H locs) (hin : ∀ w ∈ u_ws RX0 TX0 4, w ∈ Ts) {i : Nat} (hi : i < cntX 18) {idx : Nat} (hlink : Cond.fieldLink own idx "ColourHouse$Acts" "newest" "I" ∈ Ts) (hdg : decode cc pc = .ok (.getfield idx, 3)) (kk : W p l e R s m args below meth c H locs cells slots Q (F0 m (pc + 3) ls (.int (gI st 18 i 2) :: rest))) : W p l e R s m args below meth c H locs cells slots Q (F0 m pc ls (.ref (E.2.2.1 18 i) :: rest)) :=
  va_get (D := E.1) (ci := 0) (C := RX0) (T := TX0) (N := 4) C0.1.1 C0.1.2.1 C0.1.2.2.2.2 hin C0.1.2.2.2.1 C0.2 hw.1 (offA cntX 18 + i) (wX_at (by decide) hi) rfl 2 (by decide) (C0.1.2.2.2.2 _ hlink) (fun _ h9 => h9) rfl hdg kk
theorem X_p18_2 (hL : LX E) (C0 : CX p m c cc nL s args Ts own E) (hw : SX E s st H locs) (hin : ∀ w ∈ u_ws RX0 TX0 4, w ∈ Ts) {i : Nat} (hi : i < cntX 18) {v : Int32} {K : Sto → Option β} (h : lt1 (sI st 18 i 2 v) K = some r) {idx : Nat} (hlink : Cond.fieldLink own idx "ColourHouse$Acts" "newest" "I" ∈ Ts) (hdg : decode cc pc = .ok (.putfield idx, 3)) (kk : ∀ (st1 : Sto) (H1 : Heap) (locs1 : List Loc), SX E s st1 H1 locs1 → K st1 = some r → W p l e R s m args below meth c H1 locs1 cells slots Q (F0 m (pc + 3) ls rest)) : W p l e R s m args below meth c H locs cells slots Q (F0 m pc ls (.int v :: .ref (E.2.2.1 18 i) :: rest)) := by
  refine va_put (D := E.1) (ci := 0) (ty := .int) (C := RX0) (T := TX0) (N := 4) C0.1.1 C0.1.2.1 C0.1.2.2.2.2 hin tyX0 tyX0_ok nmX0 C0.1.2.2.2.1 C0.2 hw.1 (hL _) hw.2 (offA cntX 18 + i) (wX_at (by decide) hi) rfl 2 (by decide) (C0.1.2.2.2.2 _ hlink) (fun _ h9 => h9) rfl (by decide +kernel) rfl rfl (Nat.le_of_ble_eq_true rfl) hdg (fun H1 locs1 hP _ hS => kk _ H1 locs1 ⟨?_, hS⟩ (lt_c h))
  rw [wX_sI (j := 2) (v := v) (by decide) hi (by rw [gI_self]; rfl)] at hP
  exact hP
theorem X_g18_3 (C0 : CX p m c cc nL s args Ts own E) (hw : SX E s st H locs) (hin : ∀ w ∈ u_ws RX0 TX0 4, w ∈ Ts) {i : Nat} (hi : i < cntX 18) {idx : Nat} (hlink : Cond.fieldLink own idx "ColourHouse$Acts" "size" "I" ∈ Ts) (hdg : decode cc pc = .ok (.getfield idx, 3)) (kk : W p l e R s m args below meth c H locs cells slots Q (F0 m (pc + 3) ls (.int (gI st 18 i 3) :: rest))) : W p l e R s m args below meth c H locs cells slots Q (F0 m pc ls (.ref (E.2.2.1 18 i) :: rest)) :=
  va_get (D := E.1) (ci := 0) (C := RX0) (T := TX0) (N := 4) C0.1.1 C0.1.2.1 C0.1.2.2.2.2 hin C0.1.2.2.2.1 C0.2 hw.1 (offA cntX 18 + i) (wX_at (by decide) hi) rfl 3 (by decide) (C0.1.2.2.2.2 _ hlink) (fun _ h9 => h9) rfl hdg kk
theorem X_p18_3 (hL : LX E) (C0 : CX p m c cc nL s args Ts own E) (hw : SX E s st H locs) (hin : ∀ w ∈ u_ws RX0 TX0 4, w ∈ Ts) {i : Nat} (hi : i < cntX 18) {v : Int32} {K : Sto → Option β} (h : lt1 (sI st 18 i 3 v) K = some r) {idx : Nat} (hlink : Cond.fieldLink own idx "ColourHouse$Acts" "size" "I" ∈ Ts) (hdg : decode cc pc = .ok (.putfield idx, 3)) (kk : ∀ (st1 : Sto) (H1 : Heap) (locs1 : List Loc), SX E s st1 H1 locs1 → K st1 = some r → W p l e R s m args below meth c H1 locs1 cells slots Q (F0 m (pc + 3) ls rest)) : W p l e R s m args below meth c H locs cells slots Q (F0 m pc ls (.int v :: .ref (E.2.2.1 18 i) :: rest)) := by
  refine va_put (D := E.1) (ci := 0) (ty := .int) (C := RX0) (T := TX0) (N := 4) C0.1.1 C0.1.2.1 C0.1.2.2.2.2 hin tyX0 tyX0_ok nmX0 C0.1.2.2.2.1 C0.2 hw.1 (hL _) hw.2 (offA cntX 18 + i) (wX_at (by decide) hi) rfl 3 (by decide) (C0.1.2.2.2.2 _ hlink) (fun _ h9 => h9) rfl (by decide +kernel) rfl rfl (Nat.le_of_ble_eq_true rfl) hdg (fun H1 locs1 hP _ hS => kk _ H1 locs1 ⟨?_, hS⟩ (lt_c h))
  rw [wX_sI (j := 3) (v := v) (by decide) hi (by rw [gI_self]; rfl)] at hP
  exact hP
theorem X_recv_19 (C0 : CX p m c cc nL s args Ts own E) (hw : SX E s st H locs) {i : Nat} (hi : i < cntX 19) : ∃ cellB : Cell, H[E.2.2.1 19 i]? = some cellB ∧ cellB.vm.isStatics = false ∧ s.vm.findClass RX2 = some cellB.cls := va_recv C0.2 hw.1 (ci := 2) (q0 := offA cntX 19 + i) (q := (RX2, TX2, 2)) rfl (wX_at (by decide) hi)
theorem X_g19_0 (C0 : CX p m c cc nL s args Ts own E) (hw : SX E s st H locs) (hin : ∀ w ∈ u_ws RX2 TX2 2, w ∈ Ts) {i : Nat} (hi : i < cntX 19) {idx : Nat} (hlink : Cond.fieldLink own idx "ColourHouse$Chip" "bands" "[F" ∈ Ts) (hdg : decode cc pc = .ok (.getfield idx, 3)) (kk : W p l e R s m args below meth c H locs cells slots Q (F0 m (pc + 3) ls (.ref (E.2.2.1 20 (i)) :: rest))) : W p l e R s m args below meth c H locs cells slots Q (F0 m pc ls (.ref (E.2.2.1 19 i) :: rest)) :=
  va_get (D := E.1) (ci := 2) (C := RX2) (T := TX2) (N := 2) C0.1.1 C0.1.2.1 C0.1.2.2.2.2 hin C0.1.2.2.2.1 C0.2 hw.1 (offA cntX 19 + i) (wX_at (by decide) hi) rfl 0 (by decide) (C0.1.2.2.2.2 _ hlink) (fun _ h9 => h9) rfl hdg kk
theorem X_g19_1 (C0 : CX p m c cc nL s args Ts own E) (hw : SX E s st H locs) (hin : ∀ w ∈ u_ws RX2 TX2 2, w ∈ Ts) {i : Nat} (hi : i < cntX 19) {idx : Nat} (hlink : Cond.fieldLink own idx "ColourHouse$Chip" "moved" "[F" ∈ Ts) (hdg : decode cc pc = .ok (.getfield idx, 3)) (kk : W p l e R s m args below meth c H locs cells slots Q (F0 m (pc + 3) ls (.ref (E.2.2.1 21 (i)) :: rest))) : W p l e R s m args below meth c H locs cells slots Q (F0 m pc ls (.ref (E.2.2.1 19 i) :: rest)) :=
  va_get (D := E.1) (ci := 2) (C := RX2) (T := TX2) (N := 2) C0.1.1 C0.1.2.1 C0.1.2.2.2.2 hin C0.1.2.2.2.1 C0.2 hw.1 (offA cntX 19 + i) (wX_at (by decide) hi) rfl 1 (by decide) (C0.1.2.2.2.2 _ hlink) (fun _ h9 => h9) rfl hdg kk
theorem X_recv_22 (C0 : CX p m c cc nL s args Ts own E) (hw : SX E s st H locs) {i : Nat} (hi : i < cntX 22) : ∃ cellB : Cell, H[E.2.2.1 22 i]? = some cellB ∧ cellB.vm.isStatics = false ∧ s.vm.findClass RX3 = some cellB.cls := va_recv C0.2 hw.1 (ci := 3) (q0 := offA cntX 22 + i) (q := (RX3, TX3, 5)) rfl (wX_at (by decide) hi)
theorem X_g22_0 (C0 : CX p m c cc nL s args Ts own E) (hw : SX E s st H locs) (hin : ∀ w ∈ u_ws RX3 TX3 5, w ∈ Ts) {i : Nat} (hi : i < cntX 22) {idx : Nat} (hlink : Cond.fieldLink own idx "ColourHouse$Dye" "cloth" "I" ∈ Ts) (hdg : decode cc pc = .ok (.getfield idx, 3)) (kk : W p l e R s m args below meth c H locs cells slots Q (F0 m (pc + 3) ls (.int (gI st 22 i 0) :: rest))) : W p l e R s m args below meth c H locs cells slots Q (F0 m pc ls (.ref (E.2.2.1 22 i) :: rest)) :=
  va_get (D := E.1) (ci := 3) (C := RX3) (T := TX3) (N := 5) C0.1.1 C0.1.2.1 C0.1.2.2.2.2 hin C0.1.2.2.2.1 C0.2 hw.1 (offA cntX 22 + i) (wX_at (by decide) hi) rfl 0 (by decide) (C0.1.2.2.2.2 _ hlink) (fun _ h9 => h9) rfl hdg kk
theorem X_p22_0 (hL : LX E) (C0 : CX p m c cc nL s args Ts own E) (hw : SX E s st H locs) (hin : ∀ w ∈ u_ws RX3 TX3 5, w ∈ Ts) {i : Nat} (hi : i < cntX 22) {v : Int32} {K : Sto → Option β} (h : lt1 (sI st 22 i 0 v) K = some r) {idx : Nat} (hlink : Cond.fieldLink own idx "ColourHouse$Dye" "cloth" "I" ∈ Ts) (hdg : decode cc pc = .ok (.putfield idx, 3)) (kk : ∀ (st1 : Sto) (H1 : Heap) (locs1 : List Loc), SX E s st1 H1 locs1 → K st1 = some r → W p l e R s m args below meth c H1 locs1 cells slots Q (F0 m (pc + 3) ls rest)) : W p l e R s m args below meth c H locs cells slots Q (F0 m pc ls (.int v :: .ref (E.2.2.1 22 i) :: rest)) := by
  refine va_put (D := E.1) (ci := 3) (ty := .int) (C := RX3) (T := TX3) (N := 5) C0.1.1 C0.1.2.1 C0.1.2.2.2.2 hin tyX3 tyX3_ok nmX3 C0.1.2.2.2.1 C0.2 hw.1 (hL _) hw.2 (offA cntX 22 + i) (wX_at (by decide) hi) rfl 0 (by decide) (C0.1.2.2.2.2 _ hlink) (fun _ h9 => h9) rfl (by decide +kernel) rfl rfl (Nat.le_of_ble_eq_true rfl) hdg (fun H1 locs1 hP _ hS => kk _ H1 locs1 ⟨?_, hS⟩ (lt_c h))
  rw [wX_sI (j := 0) (v := v) (by decide) hi (by rw [gI_self]; rfl)] at hP
  exact hP
theorem X_g22_1 (C0 : CX p m c cc nL s args Ts own E) (hw : SX E s st H locs) (hin : ∀ w ∈ u_ws RX3 TX3 5, w ∈ Ts) {i : Nat} (hi : i < cntX 22) {idx : Nat} (hlink : Cond.fieldLink own idx "ColourHouse$Dye" "cents" "I" ∈ Ts) (hdg : decode cc pc = .ok (.getfield idx, 3)) (kk : W p l e R s m args below meth c H locs cells slots Q (F0 m (pc + 3) ls (.int (gI st 22 i 1) :: rest))) : W p l e R s m args below meth c H locs cells slots Q (F0 m pc ls (.ref (E.2.2.1 22 i) :: rest)) :=
  va_get (D := E.1) (ci := 3) (C := RX3) (T := TX3) (N := 5) C0.1.1 C0.1.2.1 C0.1.2.2.2.2 hin C0.1.2.2.2.1 C0.2 hw.1 (offA cntX 22 + i) (wX_at (by decide) hi) rfl 1 (by decide) (C0.1.2.2.2.2 _ hlink) (fun _ h9 => h9) rfl hdg kk
theorem X_p22_1 (hL : LX E) (C0 : CX p m c cc nL s args Ts own E) (hw : SX E s st H locs) (hin : ∀ w ∈ u_ws RX3 TX3 5, w ∈ Ts) {i : Nat} (hi : i < cntX 22) {v : Int32} {K : Sto → Option β} (h : lt1 (sI st 22 i 1 v) K = some r) {idx : Nat} (hlink : Cond.fieldLink own idx "ColourHouse$Dye" "cents" "I" ∈ Ts) (hdg : decode cc pc = .ok (.putfield idx, 3)) (kk : ∀ (st1 : Sto) (H1 : Heap) (locs1 : List Loc), SX E s st1 H1 locs1 → K st1 = some r → W p l e R s m args below meth c H1 locs1 cells slots Q (F0 m (pc + 3) ls rest)) : W p l e R s m args below meth c H locs cells slots Q (F0 m pc ls (.int v :: .ref (E.2.2.1 22 i) :: rest)) := by
  refine va_put (D := E.1) (ci := 3) (ty := .int) (C := RX3) (T := TX3) (N := 5) C0.1.1 C0.1.2.1 C0.1.2.2.2.2 hin tyX3 tyX3_ok nmX3 C0.1.2.2.2.1 C0.2 hw.1 (hL _) hw.2 (offA cntX 22 + i) (wX_at (by decide) hi) rfl 1 (by decide) (C0.1.2.2.2.2 _ hlink) (fun _ h9 => h9) rfl (by decide +kernel) rfl rfl (Nat.le_of_ble_eq_true rfl) hdg (fun H1 locs1 hP _ hS => kk _ H1 locs1 ⟨?_, hS⟩ (lt_c h))
  rw [wX_sI (j := 1) (v := v) (by decide) hi (by rw [gI_self]; rfl)] at hP
  exact hP
theorem X_g22_2 (C0 : CX p m c cc nL s args Ts own E) (hw : SX E s st H locs) (hin : ∀ w ∈ u_ws RX3 TX3 5, w ∈ Ts) {i : Nat} (hi : i < cntX 22) {idx : Nat} (hlink : Cond.fieldLink own idx "ColourHouse$Dye" "strengths" "I" ∈ Ts) (hdg : decode cc pc = .ok (.getfield idx, 3)) (kk : W p l e R s m args below meth c H locs cells slots Q (F0 m (pc + 3) ls (.int (gI st 22 i 2) :: rest))) : W p l e R s m args below meth c H locs cells slots Q (F0 m pc ls (.ref (E.2.2.1 22 i) :: rest)) :=
  va_get (D := E.1) (ci := 3) (C := RX3) (T := TX3) (N := 5) C0.1.1 C0.1.2.1 C0.1.2.2.2.2 hin C0.1.2.2.2.1 C0.2 hw.1 (offA cntX 22 + i) (wX_at (by decide) hi) rfl 2 (by decide) (C0.1.2.2.2.2 _ hlink) (fun _ h9 => h9) rfl hdg kk
theorem X_p22_2 (hL : LX E) (C0 : CX p m c cc nL s args Ts own E) (hw : SX E s st H locs) (hin : ∀ w ∈ u_ws RX3 TX3 5, w ∈ Ts) {i : Nat} (hi : i < cntX 22) {v : Int32} {K : Sto → Option β} (h : lt1 (sI st 22 i 2 v) K = some r) {idx : Nat} (hlink : Cond.fieldLink own idx "ColourHouse$Dye" "strengths" "I" ∈ Ts) (hdg : decode cc pc = .ok (.putfield idx, 3)) (kk : ∀ (st1 : Sto) (H1 : Heap) (locs1 : List Loc), SX E s st1 H1 locs1 → K st1 = some r → W p l e R s m args below meth c H1 locs1 cells slots Q (F0 m (pc + 3) ls rest)) : W p l e R s m args below meth c H locs cells slots Q (F0 m pc ls (.int v :: .ref (E.2.2.1 22 i) :: rest)) := by
  refine va_put (D := E.1) (ci := 3) (ty := .int) (C := RX3) (T := TX3) (N := 5) C0.1.1 C0.1.2.1 C0.1.2.2.2.2 hin tyX3 tyX3_ok nmX3 C0.1.2.2.2.1 C0.2 hw.1 (hL _) hw.2 (offA cntX 22 + i) (wX_at (by decide) hi) rfl 2 (by decide) (C0.1.2.2.2.2 _ hlink) (fun _ h9 => h9) rfl (by decide +kernel) rfl rfl (Nat.le_of_ble_eq_true rfl) hdg (fun H1 locs1 hP _ hS => kk _ H1 locs1 ⟨?_, hS⟩ (lt_c h))
  rw [wX_sI (j := 2) (v := v) (by decide) hi (by rw [gI_self]; rfl)] at hP
  exact hP
theorem X_g22_3 (C0 : CX p m c cc nL s args Ts own E) (hw : SX E s st H locs) (hin : ∀ w ∈ u_ws RX3 TX3 5, w ∈ Ts) {i : Nat} (hi : i < cntX 22) {idx : Nat} (hlink : Cond.fieldLink own idx "ColourHouse$Dye" "grams" "[I" ∈ Ts) (hdg : decode cc pc = .ok (.getfield idx, 3)) (kk : W p l e R s m args below meth c H locs cells slots Q (F0 m (pc + 3) ls (.ref (E.2.2.1 23 (i)) :: rest))) : W p l e R s m args below meth c H locs cells slots Q (F0 m pc ls (.ref (E.2.2.1 22 i) :: rest)) :=
  va_get (D := E.1) (ci := 3) (C := RX3) (T := TX3) (N := 5) C0.1.1 C0.1.2.1 C0.1.2.2.2.2 hin C0.1.2.2.2.1 C0.2 hw.1 (offA cntX 22 + i) (wX_at (by decide) hi) rfl 3 (by decide) (C0.1.2.2.2.2 _ hlink) (fun _ h9 => h9) rfl hdg kk
theorem X_g22_4 (C0 : CX p m c cc nL s args Ts own E) (hw : SX E s st H locs) (hin : ∀ w ∈ u_ws RX3 TX3 5, w ∈ Ts) {i : Nat} (hi : i < cntX 22) {idx : Nat} (hlink : Cond.fieldLink own idx "ColourHouse$Dye" "own" "[[D" ∈ Ts) (hdg : decode cc pc = .ok (.getfield idx, 3)) (kk : W p l e R s m args below meth c H locs cells slots Q (F0 m (pc + 3) ls (.ref (E.2.2.1 24 (i)) :: rest))) : W p l e R s m args below meth c H locs cells slots Q (F0 m pc ls (.ref (E.2.2.1 22 i) :: rest)) :=
  va_get (D := E.1) (ci := 3) (C := RX3) (T := TX3) (N := 5) C0.1.1 C0.1.2.1 C0.1.2.2.2.2 hin C0.1.2.2.2.1 C0.2 hw.1 (offA cntX 22 + i) (wX_at (by decide) hi) rfl 4 (by decide) (C0.1.2.2.2.2 _ hlink) (fun _ h9 => h9) rfl hdg kk
theorem X_recv_26 (C0 : CX p m c cc nL s args Ts own E) (hw : SX E s st H locs) {i : Nat} (hi : i < cntX 26) : ∃ cellB : Cell, H[E.2.2.1 26 i]? = some cellB ∧ cellB.vm.isStatics = false ∧ s.vm.findClass RX10 = some cellB.cls := va_recv C0.2 hw.1 (ci := 9) (q0 := offA cntX 26 + i) (q := (RX10, TX10, 5)) rfl (wX_at (by decide) hi)
theorem X_g26_0 (C0 : CX p m c cc nL s args Ts own E) (hw : SX E s st H locs) (hin : ∀ w ∈ u_ws RX10 TX10 5, w ∈ Ts) {i : Nat} (hi : i < cntX 26) {idx : Nat} (hlink : Cond.fieldLink own idx "ColourHouse$Solid" "sort" "I" ∈ Ts) (hdg : decode cc pc = .ok (.getfield idx, 3)) (kk : W p l e R s m args below meth c H locs cells slots Q (F0 m (pc + 3) ls (.int (gI st 26 i 0) :: rest))) : W p l e R s m args below meth c H locs cells slots Q (F0 m pc ls (.ref (E.2.2.1 26 i) :: rest)) :=
  va_get (D := E.1) (ci := 9) (C := RX10) (T := TX10) (N := 5) C0.1.1 C0.1.2.1 C0.1.2.2.2.2 hin C0.1.2.2.2.1 C0.2 hw.1 (offA cntX 26 + i) (wX_at (by decide) hi) rfl 0 (by decide) (C0.1.2.2.2.2 _ hlink) (fun _ h9 => h9) rfl hdg kk
theorem X_p26_0 (hL : LX E) (C0 : CX p m c cc nL s args Ts own E) (hw : SX E s st H locs) (hin : ∀ w ∈ u_ws RX10 TX10 5, w ∈ Ts) {i : Nat} (hi : i < cntX 26) {v : Int32} {K : Sto → Option β} (h : lt1 (sI st 26 i 0 v) K = some r) {idx : Nat} (hlink : Cond.fieldLink own idx "ColourHouse$Solid" "sort" "I" ∈ Ts) (hdg : decode cc pc = .ok (.putfield idx, 3)) (kk : ∀ (st1 : Sto) (H1 : Heap) (locs1 : List Loc), SX E s st1 H1 locs1 → K st1 = some r → W p l e R s m args below meth c H1 locs1 cells slots Q (F0 m (pc + 3) ls rest)) : W p l e R s m args below meth c H locs cells slots Q (F0 m pc ls (.int v :: .ref (E.2.2.1 26 i) :: rest)) := by
  refine va_put (D := E.1) (ci := 9) (ty := .int) (C := RX10) (T := TX10) (N := 5) C0.1.1 C0.1.2.1 C0.1.2.2.2.2 hin tyX10 tyX10_ok nmX10 C0.1.2.2.2.1 C0.2 hw.1 (hL _) hw.2 (offA cntX 26 + i) (wX_at (by decide) hi) rfl 0 (by decide) (C0.1.2.2.2.2 _ hlink) (fun _ h9 => h9) rfl (by decide +kernel) rfl rfl (Nat.le_of_ble_eq_true rfl) hdg (fun H1 locs1 hP _ hS => kk _ H1 locs1 ⟨?_, hS⟩ (lt_c h))
  rw [wX_sI (j := 0) (v := v) (by decide) hi (by rw [gI_self]; rfl)] at hP
  exact hP
theorem X_g26_1 (C0 : CX p m c cc nL s args Ts own E) (hw : SX E s st H locs) (hin : ∀ w ∈ u_ws RX10 TX10 5, w ∈ Ts) {i : Nat} (hi : i < cntX 26) {idx : Nat} (hlink : Cond.fieldLink own idx "ColourHouse$Solid" "light" "I" ∈ Ts) (hdg : decode cc pc = .ok (.getfield idx, 3)) (kk : W p l e R s m args below meth c H locs cells slots Q (F0 m (pc + 3) ls (.int (gI st 26 i 1) :: rest))) : W p l e R s m args below meth c H locs cells slots Q (F0 m pc ls (.ref (E.2.2.1 26 i) :: rest)) :=
  va_get (D := E.1) (ci := 9) (C := RX10) (T := TX10) (N := 5) C0.1.1 C0.1.2.1 C0.1.2.2.2.2 hin C0.1.2.2.2.1 C0.2 hw.1 (offA cntX 26 + i) (wX_at (by decide) hi) rfl 1 (by decide) (C0.1.2.2.2.2 _ hlink) (fun _ h9 => h9) rfl hdg kk
theorem X_p26_1 (hL : LX E) (C0 : CX p m c cc nL s args Ts own E) (hw : SX E s st H locs) (hin : ∀ w ∈ u_ws RX10 TX10 5, w ∈ Ts) {i : Nat} (hi : i < cntX 26) {v : Int32} {K : Sto → Option β} (h : lt1 (sI st 26 i 1 v) K = some r) {idx : Nat} (hlink : Cond.fieldLink own idx "ColourHouse$Solid" "light" "I" ∈ Ts) (hdg : decode cc pc = .ok (.putfield idx, 3)) (kk : ∀ (st1 : Sto) (H1 : Heap) (locs1 : List Loc), SX E s st1 H1 locs1 → K st1 = some r → W p l e R s m args below meth c H1 locs1 cells slots Q (F0 m (pc + 3) ls rest)) : W p l e R s m args below meth c H locs cells slots Q (F0 m pc ls (.int v :: .ref (E.2.2.1 26 i) :: rest)) := by
  refine va_put (D := E.1) (ci := 9) (ty := .int) (C := RX10) (T := TX10) (N := 5) C0.1.1 C0.1.2.1 C0.1.2.2.2.2 hin tyX10 tyX10_ok nmX10 C0.1.2.2.2.1 C0.2 hw.1 (hL _) hw.2 (offA cntX 26 + i) (wX_at (by decide) hi) rfl 1 (by decide) (C0.1.2.2.2.2 _ hlink) (fun _ h9 => h9) rfl (by decide +kernel) rfl rfl (Nat.le_of_ble_eq_true rfl) hdg (fun H1 locs1 hP _ hS => kk _ H1 locs1 ⟨?_, hS⟩ (lt_c h))
  rw [wX_sI (j := 1) (v := v) (by decide) hi (by rw [gI_self]; rfl)] at hP
  exact hP
theorem X_g26_2 (C0 : CX p m c cc nL s args Ts own E) (hw : SX E s st H locs) (hin : ∀ w ∈ u_ws RX10 TX10 5, w ∈ Ts) {i : Nat} (hi : i < cntX 26) {idx : Nat} (hlink : Cond.fieldLink own idx "ColourHouse$Solid" "eye" "I" ∈ Ts) (hdg : decode cc pc = .ok (.getfield idx, 3)) (kk : W p l e R s m args below meth c H locs cells slots Q (F0 m (pc + 3) ls (.int (gI st 26 i 2) :: rest))) : W p l e R s m args below meth c H locs cells slots Q (F0 m pc ls (.ref (E.2.2.1 26 i) :: rest)) :=
  va_get (D := E.1) (ci := 9) (C := RX10) (T := TX10) (N := 5) C0.1.1 C0.1.2.1 C0.1.2.2.2.2 hin C0.1.2.2.2.1 C0.2 hw.1 (offA cntX 26 + i) (wX_at (by decide) hi) rfl 2 (by decide) (C0.1.2.2.2.2 _ hlink) (fun _ h9 => h9) rfl hdg kk
theorem X_p26_2 (hL : LX E) (C0 : CX p m c cc nL s args Ts own E) (hw : SX E s st H locs) (hin : ∀ w ∈ u_ws RX10 TX10 5, w ∈ Ts) {i : Nat} (hi : i < cntX 26) {v : Int32} {K : Sto → Option β} (h : lt1 (sI st 26 i 2 v) K = some r) {idx : Nat} (hlink : Cond.fieldLink own idx "ColourHouse$Solid" "eye" "I" ∈ Ts) (hdg : decode cc pc = .ok (.putfield idx, 3)) (kk : ∀ (st1 : Sto) (H1 : Heap) (locs1 : List Loc), SX E s st1 H1 locs1 → K st1 = some r → W p l e R s m args below meth c H1 locs1 cells slots Q (F0 m (pc + 3) ls rest)) : W p l e R s m args below meth c H locs cells slots Q (F0 m pc ls (.int v :: .ref (E.2.2.1 26 i) :: rest)) := by
  refine va_put (D := E.1) (ci := 9) (ty := .int) (C := RX10) (T := TX10) (N := 5) C0.1.1 C0.1.2.1 C0.1.2.2.2.2 hin tyX10 tyX10_ok nmX10 C0.1.2.2.2.1 C0.2 hw.1 (hL _) hw.2 (offA cntX 26 + i) (wX_at (by decide) hi) rfl 2 (by decide) (C0.1.2.2.2.2 _ hlink) (fun _ h9 => h9) rfl (by decide +kernel) rfl rfl (Nat.le_of_ble_eq_true rfl) hdg (fun H1 locs1 hP _ hS => kk _ H1 locs1 ⟨?_, hS⟩ (lt_c h))
  rw [wX_sI (j := 2) (v := v) (by decide) hi (by rw [gI_self]; rfl)] at hP
  exact hP
theorem X_g26_3 (C0 : CX p m c cc nL s args Ts own E) (hw : SX E s st H locs) (hin : ∀ w ∈ u_ws RX10 TX10 5, w ∈ Ts) {i : Nat} (hi : i < cntX 26) {idx : Nat} (hlink : Cond.fieldLink own idx "ColourHouse$Solid" "middle" "[D" ∈ Ts) (hdg : decode cc pc = .ok (.getfield idx, 3)) (kk : W p l e R s m args below meth c H locs cells slots Q (F0 m (pc + 3) ls (.ref (E.2.2.1 27 (i)) :: rest))) : W p l e R s m args below meth c H locs cells slots Q (F0 m pc ls (.ref (E.2.2.1 26 i) :: rest)) :=
  va_get (D := E.1) (ci := 9) (C := RX10) (T := TX10) (N := 5) C0.1.1 C0.1.2.1 C0.1.2.2.2.2 hin C0.1.2.2.2.1 C0.2 hw.1 (offA cntX 26 + i) (wX_at (by decide) hi) rfl 3 (by decide) (C0.1.2.2.2.2 _ hlink) (fun _ h9 => h9) rfl hdg kk
theorem X_g26_4 (C0 : CX p m c cc nL s args Ts own E) (hw : SX E s st H locs) (hin : ∀ w ∈ u_ws RX10 TX10 5, w ∈ Ts) {i : Nat} (hi : i < cntX 26) {idx : Nat} (hlink : Cond.fieldLink own idx "ColourHouse$Solid" "sizes" "[D" ∈ Ts) (hdg : decode cc pc = .ok (.getfield idx, 3)) (kk : W p l e R s m args below meth c H locs cells slots Q (F0 m (pc + 3) ls (.ref (E.2.2.1 28 (i)) :: rest))) : W p l e R s m args below meth c H locs cells slots Q (F0 m pc ls (.ref (E.2.2.1 26 i) :: rest)) :=
  va_get (D := E.1) (ci := 9) (C := RX10) (T := TX10) (N := 5) C0.1.1 C0.1.2.1 C0.1.2.2.2.2 hin C0.1.2.2.2.1 C0.2 hw.1 (offA cntX 26 + i) (wX_at (by decide) hi) rfl 4 (by decide) (C0.1.2.2.2.2 _ hlink) (fun _ h9 => h9) rfl hdg kk
theorem X_recv_29 (C0 : CX p m c cc nL s args Ts own E) (hw : SX E s st H locs) {i : Nat} (hi : i < cntX 29) : ∃ cellB : Cell, H[E.2.2.1 29 i]? = some cellB ∧ cellB.vm.isStatics = false ∧ s.vm.findClass RX4 = some cellB.cls := va_recv C0.2 hw.1 (ci := 4) (q0 := offA cntX 29 + i) (q := (RX4, TX4, 5)) rfl (wX_at (by decide) hi)
theorem X_g29_0 (C0 : CX p m c cc nL s args Ts own E) (hw : SX E s st H locs) (hin : ∀ w ∈ u_ws RX4 TX4 5, w ∈ Ts) {i : Nat} (hi : i < cntX 29) {idx : Nat} (hlink : Cond.fieldLink own idx "ColourHouse$Lot" "dye" "I" ∈ Ts) (hdg : decode cc pc = .ok (.getfield idx, 3)) (kk : W p l e R s m args below meth c H locs cells slots Q (F0 m (pc + 3) ls (.int (gI st 29 i 0) :: rest))) : W p l e R s m args below meth c H locs cells slots Q (F0 m pc ls (.ref (E.2.2.1 29 i) :: rest)) :=
  va_get (D := E.1) (ci := 4) (C := RX4) (T := TX4) (N := 5) C0.1.1 C0.1.2.1 C0.1.2.2.2.2 hin C0.1.2.2.2.1 C0.2 hw.1 (offA cntX 29 + i) (wX_at (by decide) hi) rfl 0 (by decide) (C0.1.2.2.2.2 _ hlink) (fun _ h9 => h9) rfl hdg kk
theorem X_p29_0 (hL : LX E) (C0 : CX p m c cc nL s args Ts own E) (hw : SX E s st H locs) (hin : ∀ w ∈ u_ws RX4 TX4 5, w ∈ Ts) {i : Nat} (hi : i < cntX 29) {v : Int32} {K : Sto → Option β} (h : lt1 (sI st 29 i 0 v) K = some r) {idx : Nat} (hlink : Cond.fieldLink own idx "ColourHouse$Lot" "dye" "I" ∈ Ts) (hdg : decode cc pc = .ok (.putfield idx, 3)) (kk : ∀ (st1 : Sto) (H1 : Heap) (locs1 : List Loc), SX E s st1 H1 locs1 → K st1 = some r → W p l e R s m args below meth c H1 locs1 cells slots Q (F0 m (pc + 3) ls rest)) : W p l e R s m args below meth c H locs cells slots Q (F0 m pc ls (.int v :: .ref (E.2.2.1 29 i) :: rest)) := by
  refine va_put (D := E.1) (ci := 4) (ty := .int) (C := RX4) (T := TX4) (N := 5) C0.1.1 C0.1.2.1 C0.1.2.2.2.2 hin tyX4 tyX4_ok nmX4 C0.1.2.2.2.1 C0.2 hw.1 (hL _) hw.2 (offA cntX 29 + i) (wX_at (by decide) hi) rfl 0 (by decide) (C0.1.2.2.2.2 _ hlink) (fun _ h9 => h9) rfl (by decide +kernel) rfl rfl (Nat.le_of_ble_eq_true rfl) hdg (fun H1 locs1 hP _ hS => kk _ H1 locs1 ⟨?_, hS⟩ (lt_c h))
  rw [wX_sI (j := 0) (v := v) (by decide) hi (by rw [gI_self]; rfl)] at hP
  exact hP
theorem X_g29_1 (C0 : CX p m c cc nL s args Ts own E) (hw : SX E s st H locs) (hin : ∀ w ∈ u_ws RX4 TX4 5, w ∈ Ts) {i : Nat} (hi : i < cntX 29) {idx : Nat} (hlink : Cond.fieldLink own idx "ColourHouse$Lot" "up" "I" ∈ Ts) (hdg : decode cc pc = .ok (.getfield idx, 3)) (kk : W p l e R s m args below meth c H locs cells slots Q (F0 m (pc + 3) ls (.int (gI st 29 i 1) :: rest))) : W p l e R s m args below meth c H locs cells slots Q (F0 m pc ls (.ref (E.2.2.1 29 i) :: rest)) :=
  va_get (D := E.1) (ci := 4) (C := RX4) (T := TX4) (N := 5) C0.1.1 C0.1.2.1 C0.1.2.2.2.2 hin C0.1.2.2.2.1 C0.2 hw.1 (offA cntX 29 + i) (wX_at (by decide) hi) rfl 1 (by decide) (C0.1.2.2.2.2 _ hlink) (fun _ h9 => h9) rfl hdg kk
theorem X_p29_1 (hL : LX E) (C0 : CX p m c cc nL s args Ts own E) (hw : SX E s st H locs) (hin : ∀ w ∈ u_ws RX4 TX4 5, w ∈ Ts) {i : Nat} (hi : i < cntX 29) {v : Int32} {K : Sto → Option β} (h : lt1 (sI st 29 i 1 v) K = some r) {idx : Nat} (hlink : Cond.fieldLink own idx "ColourHouse$Lot" "up" "I" ∈ Ts) (hdg : decode cc pc = .ok (.putfield idx, 3)) (kk : ∀ (st1 : Sto) (H1 : Heap) (locs1 : List Loc), SX E s st1 H1 locs1 → K st1 = some r → W p l e R s m args below meth c H1 locs1 cells slots Q (F0 m (pc + 3) ls rest)) : W p l e R s m args below meth c H locs cells slots Q (F0 m pc ls (.int v :: .ref (E.2.2.1 29 i) :: rest)) := by
  refine va_put (D := E.1) (ci := 4) (ty := .int) (C := RX4) (T := TX4) (N := 5) C0.1.1 C0.1.2.1 C0.1.2.2.2.2 hin tyX4 tyX4_ok nmX4 C0.1.2.2.2.1 C0.2 hw.1 (hL _) hw.2 (offA cntX 29 + i) (wX_at (by decide) hi) rfl 1 (by decide) (C0.1.2.2.2.2 _ hlink) (fun _ h9 => h9) rfl (by decide +kernel) rfl rfl (Nat.le_of_ble_eq_true rfl) hdg (fun H1 locs1 hP _ hS => kk _ H1 locs1 ⟨?_, hS⟩ (lt_c h))
  rw [wX_sI (j := 1) (v := v) (by decide) hi (by rw [gI_self]; rfl)] at hP
  exact hP
theorem X_g29_2 (C0 : CX p m c cc nL s args Ts own E) (hw : SX E s st H locs) (hin : ∀ w ∈ u_ws RX4 TX4 5, w ∈ Ts) {i : Nat} (hi : i < cntX 29) {idx : Nat} (hlink : Cond.fieldLink own idx "ColourHouse$Lot" "down" "I" ∈ Ts) (hdg : decode cc pc = .ok (.getfield idx, 3)) (kk : W p l e R s m args below meth c H locs cells slots Q (F0 m (pc + 3) ls (.int (gI st 29 i 2) :: rest))) : W p l e R s m args below meth c H locs cells slots Q (F0 m pc ls (.ref (E.2.2.1 29 i) :: rest)) :=
  va_get (D := E.1) (ci := 4) (C := RX4) (T := TX4) (N := 5) C0.1.1 C0.1.2.1 C0.1.2.2.2.2 hin C0.1.2.2.2.1 C0.2 hw.1 (offA cntX 29 + i) (wX_at (by decide) hi) rfl 2 (by decide) (C0.1.2.2.2.2 _ hlink) (fun _ h9 => h9) rfl hdg kk
theorem X_p29_2 (hL : LX E) (C0 : CX p m c cc nL s args Ts own E) (hw : SX E s st H locs) (hin : ∀ w ∈ u_ws RX4 TX4 5, w ∈ Ts) {i : Nat} (hi : i < cntX 29) {v : Int32} {K : Sto → Option β} (h : lt1 (sI st 29 i 2 v) K = some r) {idx : Nat} (hlink : Cond.fieldLink own idx "ColourHouse$Lot" "down" "I" ∈ Ts) (hdg : decode cc pc = .ok (.putfield idx, 3)) (kk : ∀ (st1 : Sto) (H1 : Heap) (locs1 : List Loc), SX E s st1 H1 locs1 → K st1 = some r → W p l e R s m args below meth c H1 locs1 cells slots Q (F0 m (pc + 3) ls rest)) : W p l e R s m args below meth c H locs cells slots Q (F0 m pc ls (.int v :: .ref (E.2.2.1 29 i) :: rest)) := by
  refine va_put (D := E.1) (ci := 4) (ty := .int) (C := RX4) (T := TX4) (N := 5) C0.1.1 C0.1.2.1 C0.1.2.2.2.2 hin tyX4 tyX4_ok nmX4 C0.1.2.2.2.1 C0.2 hw.1 (hL _) hw.2 (offA cntX 29 + i) (wX_at (by decide) hi) rfl 2 (by decide) (C0.1.2.2.2.2 _ hlink) (fun _ h9 => h9) rfl (by decide +kernel) rfl rfl (Nat.le_of_ble_eq_true rfl) hdg (fun H1 locs1 hP _ hS => kk _ H1 locs1 ⟨?_, hS⟩ (lt_c h))
  rw [wX_sI (j := 2) (v := v) (by decide) hi (by rw [gI_self]; rfl)] at hP
  exact hP
theorem X_g29_3 (C0 : CX p m c cc nL s args Ts own E) (hw : SX E s st H locs) (hin : ∀ w ∈ u_ws RX4 TX4 5, w ∈ Ts) {i : Nat} (hi : i < cntX 29) {idx : Nat} (hlink : Cond.fieldLink own idx "ColourHouse$Lot" "cameIn" "I" ∈ Ts) (hdg : decode cc pc = .ok (.getfield idx, 3)) (kk : W p l e R s m args below meth c H locs cells slots Q (F0 m (pc + 3) ls (.int (gI st 29 i 3) :: rest))) : W p l e R s m args below meth c H locs cells slots Q (F0 m pc ls (.ref (E.2.2.1 29 i) :: rest)) :=
  va_get (D := E.1) (ci := 4) (C := RX4) (T := TX4) (N := 5) C0.1.1 C0.1.2.1 C0.1.2.2.2.2 hin C0.1.2.2.2.1 C0.2 hw.1 (offA cntX 29 + i) (wX_at (by decide) hi) rfl 3 (by decide) (C0.1.2.2.2.2 _ hlink) (fun _ h9 => h9) rfl hdg kk
theorem X_p29_3 (hL : LX E) (C0 : CX p m c cc nL s args Ts own E) (hw : SX E s st H locs) (hin : ∀ w ∈ u_ws RX4 TX4 5, w ∈ Ts) {i : Nat} (hi : i < cntX 29) {v : Int32} {K : Sto → Option β} (h : lt1 (sI st 29 i 3 v) K = some r) {idx : Nat} (hlink : Cond.fieldLink own idx "ColourHouse$Lot" "cameIn" "I" ∈ Ts) (hdg : decode cc pc = .ok (.putfield idx, 3)) (kk : ∀ (st1 : Sto) (H1 : Heap) (locs1 : List Loc), SX E s st1 H1 locs1 → K st1 = some r → W p l e R s m args below meth c H1 locs1 cells slots Q (F0 m (pc + 3) ls rest)) : W p l e R s m args below meth c H locs cells slots Q (F0 m pc ls (.int v :: .ref (E.2.2.1 29 i) :: rest)) := by
  refine va_put (D := E.1) (ci := 4) (ty := .int) (C := RX4) (T := TX4) (N := 5) C0.1.1 C0.1.2.1 C0.1.2.2.2.2 hin tyX4 tyX4_ok nmX4 C0.1.2.2.2.1 C0.2 hw.1 (hL _) hw.2 (offA cntX 29 + i) (wX_at (by decide) hi) rfl 3 (by decide) (C0.1.2.2.2.2 _ hlink) (fun _ h9 => h9) rfl (by decide +kernel) rfl rfl (Nat.le_of_ble_eq_true rfl) hdg (fun H1 locs1 hP _ hS => kk _ H1 locs1 ⟨?_, hS⟩ (lt_c h))
  rw [wX_sI (j := 3) (v := v) (by decide) hi (by rw [gI_self]; rfl)] at hP
  exact hP
theorem X_g29_4 (C0 : CX p m c cc nL s args Ts own E) (hw : SX E s st H locs) (hin : ∀ w ∈ u_ws RX4 TX4 5, w ∈ Ts) {i : Nat} (hi : i < cntX 29) {idx : Nat} (hlink : Cond.fieldLink own idx "ColourHouse$Lot" "left" "I" ∈ Ts) (hdg : decode cc pc = .ok (.getfield idx, 3)) (kk : W p l e R s m args below meth c H locs cells slots Q (F0 m (pc + 3) ls (.int (gI st 29 i 4) :: rest))) : W p l e R s m args below meth c H locs cells slots Q (F0 m pc ls (.ref (E.2.2.1 29 i) :: rest)) :=
  va_get (D := E.1) (ci := 4) (C := RX4) (T := TX4) (N := 5) C0.1.1 C0.1.2.1 C0.1.2.2.2.2 hin C0.1.2.2.2.1 C0.2 hw.1 (offA cntX 29 + i) (wX_at (by decide) hi) rfl 4 (by decide) (C0.1.2.2.2.2 _ hlink) (fun _ h9 => h9) rfl hdg kk
theorem X_p29_4 (hL : LX E) (C0 : CX p m c cc nL s args Ts own E) (hw : SX E s st H locs) (hin : ∀ w ∈ u_ws RX4 TX4 5, w ∈ Ts) {i : Nat} (hi : i < cntX 29) {v : Int32} {K : Sto → Option β} (h : lt1 (sI st 29 i 4 v) K = some r) {idx : Nat} (hlink : Cond.fieldLink own idx "ColourHouse$Lot" "left" "I" ∈ Ts) (hdg : decode cc pc = .ok (.putfield idx, 3)) (kk : ∀ (st1 : Sto) (H1 : Heap) (locs1 : List Loc), SX E s st1 H1 locs1 → K st1 = some r → W p l e R s m args below meth c H1 locs1 cells slots Q (F0 m (pc + 3) ls rest)) : W p l e R s m args below meth c H locs cells slots Q (F0 m pc ls (.int v :: .ref (E.2.2.1 29 i) :: rest)) := by
  refine va_put (D := E.1) (ci := 4) (ty := .int) (C := RX4) (T := TX4) (N := 5) C0.1.1 C0.1.2.1 C0.1.2.2.2.2 hin tyX4 tyX4_ok nmX4 C0.1.2.2.2.1 C0.2 hw.1 (hL _) hw.2 (offA cntX 29 + i) (wX_at (by decide) hi) rfl 4 (by decide) (C0.1.2.2.2.2 _ hlink) (fun _ h9 => h9) rfl (by decide +kernel) rfl rfl (Nat.le_of_ble_eq_true rfl) hdg (fun H1 locs1 hP _ hS => kk _ H1 locs1 ⟨?_, hS⟩ (lt_c h))
  rw [wX_sI (j := 4) (v := v) (by decide) hi (by rw [gI_self]; rfl)] at hP
  exact hP
theorem X_recv_30 (C0 : CX p m c cc nL s args Ts own E) (hw : SX E s st H locs) {i : Nat} (hi : i < cntX 30) : ∃ cellB : Cell, H[E.2.2.1 30 i]? = some cellB ∧ cellB.vm.isStatics = false ∧ s.vm.findClass RX1 = some cellB.cls := va_recv C0.2 hw.1 (ci := 1) (q0 := offA cntX 30 + i) (q := (RX1, TX1, 7)) rfl (wX_at (by decide) hi)
theorem X_g30_0 (C0 : CX p m c cc nL s args Ts own E) (hw : SX E s st H locs) (hin : ∀ w ∈ u_ws RX1 TX1 7, w ∈ Ts) {i : Nat} (hi : i < cntX 30) {idx : Nat} (hlink : Cond.fieldLink own idx "ColourHouse$Batch" "cloth" "I" ∈ Ts) (hdg : decode cc pc = .ok (.getfield idx, 3)) (kk : W p l e R s m args below meth c H locs cells slots Q (F0 m (pc + 3) ls (.int (gI st 30 i 0) :: rest))) : W p l e R s m args below meth c H locs cells slots Q (F0 m pc ls (.ref (E.2.2.1 30 i) :: rest)) :=
  va_get (D := E.1) (ci := 1) (C := RX1) (T := TX1) (N := 7) C0.1.1 C0.1.2.1 C0.1.2.2.2.2 hin C0.1.2.2.2.1 C0.2 hw.1 (offA cntX 30 + i) (wX_at (by decide) hi) rfl 0 (by decide) (C0.1.2.2.2.2 _ hlink) (fun _ h9 => h9) rfl hdg kk
theorem X_p30_0 (hL : LX E) (C0 : CX p m c cc nL s args Ts own E) (hw : SX E s st H locs) (hin : ∀ w ∈ u_ws RX1 TX1 7, w ∈ Ts) {i : Nat} (hi : i < cntX 30) {v : Int32} {K : Sto → Option β} (h : lt1 (sI st 30 i 0 v) K = some r) {idx : Nat} (hlink : Cond.fieldLink own idx "ColourHouse$Batch" "cloth" "I" ∈ Ts) (hdg : decode cc pc = .ok (.putfield idx, 3)) (kk : ∀ (st1 : Sto) (H1 : Heap) (locs1 : List Loc), SX E s st1 H1 locs1 → K st1 = some r → W p l e R s m args below meth c H1 locs1 cells slots Q (F0 m (pc + 3) ls rest)) : W p l e R s m args below meth c H locs cells slots Q (F0 m pc ls (.int v :: .ref (E.2.2.1 30 i) :: rest)) := by
  refine va_put (D := E.1) (ci := 1) (ty := .int) (C := RX1) (T := TX1) (N := 7) C0.1.1 C0.1.2.1 C0.1.2.2.2.2 hin tyX1 tyX1_ok nmX1 C0.1.2.2.2.1 C0.2 hw.1 (hL _) hw.2 (offA cntX 30 + i) (wX_at (by decide) hi) rfl 0 (by decide) (C0.1.2.2.2.2 _ hlink) (fun _ h9 => h9) rfl (by decide +kernel) rfl rfl (Nat.le_of_ble_eq_true rfl) hdg (fun H1 locs1 hP _ hS => kk _ H1 locs1 ⟨?_, hS⟩ (lt_c h))
  rw [wX_sI (j := 0) (v := v) (by decide) hi (by rw [gI_self]; rfl)] at hP
  exact hP
theorem X_g30_1 (C0 : CX p m c cc nL s args Ts own E) (hw : SX E s st H locs) (hin : ∀ w ∈ u_ws RX1 TX1 7, w ∈ Ts) {i : Nat} (hi : i < cntX 30) {idx : Nat} (hlink : Cond.fieldLink own idx "ColourHouse$Batch" "kilos" "I" ∈ Ts) (hdg : decode cc pc = .ok (.getfield idx, 3)) (kk : W p l e R s m args below meth c H locs cells slots Q (F0 m (pc + 3) ls (.int (gI st 30 i 1) :: rest))) : W p l e R s m args below meth c H locs cells slots Q (F0 m pc ls (.ref (E.2.2.1 30 i) :: rest)) :=
  va_get (D := E.1) (ci := 1) (C := RX1) (T := TX1) (N := 7) C0.1.1 C0.1.2.1 C0.1.2.2.2.2 hin C0.1.2.2.2.1 C0.2 hw.1 (offA cntX 30 + i) (wX_at (by decide) hi) rfl 1 (by decide) (C0.1.2.2.2.2 _ hlink) (fun _ h9 => h9) rfl hdg kk
theorem X_p30_1 (hL : LX E) (C0 : CX p m c cc nL s args Ts own E) (hw : SX E s st H locs) (hin : ∀ w ∈ u_ws RX1 TX1 7, w ∈ Ts) {i : Nat} (hi : i < cntX 30) {v : Int32} {K : Sto → Option β} (h : lt1 (sI st 30 i 1 v) K = some r) {idx : Nat} (hlink : Cond.fieldLink own idx "ColourHouse$Batch" "kilos" "I" ∈ Ts) (hdg : decode cc pc = .ok (.putfield idx, 3)) (kk : ∀ (st1 : Sto) (H1 : Heap) (locs1 : List Loc), SX E s st1 H1 locs1 → K st1 = some r → W p l e R s m args below meth c H1 locs1 cells slots Q (F0 m (pc + 3) ls rest)) : W p l e R s m args below meth c H locs cells slots Q (F0 m pc ls (.int v :: .ref (E.2.2.1 30 i) :: rest)) := by
  refine va_put (D := E.1) (ci := 1) (ty := .int) (C := RX1) (T := TX1) (N := 7) C0.1.1 C0.1.2.1 C0.1.2.2.2.2 hin tyX1 tyX1_ok nmX1 C0.1.2.2.2.1 C0.2 hw.1 (hL _) hw.2 (offA cntX 30 + i) (wX_at (by decide) hi) rfl 1 (by decide) (C0.1.2.2.2.2 _ hlink) (fun _ h9 => h9) rfl (by decide +kernel) rfl rfl (Nat.le_of_ble_eq_true rfl) hdg (fun H1 locs1 hP _ hS => kk _ H1 locs1 ⟨?_, hS⟩ (lt_c h))
  rw [wX_sI (j := 1) (v := v) (by decide) hi (by rw [gI_self]; rfl)] at hP
  exact hP
theorem X_g30_2 (C0 : CX p m c cc nL s args Ts own E) (hw : SX E s st H locs) (hin : ∀ w ∈ u_ws RX1 TX1 7, w ∈ Ts) {i : Nat} (hi : i < cntX 30) {idx : Nat} (hlink : Cond.fieldLink own idx "ColourHouse$Batch" "lotCount" "I" ∈ Ts) (hdg : decode cc pc = .ok (.getfield idx, 3)) (kk : W p l e R s m args below meth c H locs cells slots Q (F0 m (pc + 3) ls (.int (gI st 30 i 2) :: rest))) : W p l e R s m args below meth c H locs cells slots Q (F0 m pc ls (.ref (E.2.2.1 30 i) :: rest)) :=
  va_get (D := E.1) (ci := 1) (C := RX1) (T := TX1) (N := 7) C0.1.1 C0.1.2.1 C0.1.2.2.2.2 hin C0.1.2.2.2.1 C0.2 hw.1 (offA cntX 30 + i) (wX_at (by decide) hi) rfl 2 (by decide) (C0.1.2.2.2.2 _ hlink) (fun _ h9 => h9) rfl hdg kk
theorem X_p30_2 (hL : LX E) (C0 : CX p m c cc nL s args Ts own E) (hw : SX E s st H locs) (hin : ∀ w ∈ u_ws RX1 TX1 7, w ∈ Ts) {i : Nat} (hi : i < cntX 30) {v : Int32} {K : Sto → Option β} (h : lt1 (sI st 30 i 2 v) K = some r) {idx : Nat} (hlink : Cond.fieldLink own idx "ColourHouse$Batch" "lotCount" "I" ∈ Ts) (hdg : decode cc pc = .ok (.putfield idx, 3)) (kk : ∀ (st1 : Sto) (H1 : Heap) (locs1 : List Loc), SX E s st1 H1 locs1 → K st1 = some r → W p l e R s m args below meth c H1 locs1 cells slots Q (F0 m (pc + 3) ls rest)) : W p l e R s m args below meth c H locs cells slots Q (F0 m pc ls (.int v :: .ref (E.2.2.1 30 i) :: rest)) := by
  refine va_put (D := E.1) (ci := 1) (ty := .int) (C := RX1) (T := TX1) (N := 7) C0.1.1 C0.1.2.1 C0.1.2.2.2.2 hin tyX1 tyX1_ok nmX1 C0.1.2.2.2.1 C0.2 hw.1 (hL _) hw.2 (offA cntX 30 + i) (wX_at (by decide) hi) rfl 2 (by decide) (C0.1.2.2.2.2 _ hlink) (fun _ h9 => h9) rfl (by decide +kernel) rfl rfl (Nat.le_of_ble_eq_true rfl) hdg (fun H1 locs1 hP _ hS => kk _ H1 locs1 ⟨?_, hS⟩ (lt_c h))
  rw [wX_sI (j := 2) (v := v) (by decide) hi (by rw [gI_self]; rfl)] at hP
  exact hP
theorem X_g30_3 (C0 : CX p m c cc nL s args Ts own E) (hw : SX E s st H locs) (hin : ∀ w ∈ u_ws RX1 TX1 7, w ∈ Ts) {i : Nat} (hi : i < cntX 30) {idx : Nat} (hlink : Cond.fieldLink own idx "ColourHouse$Batch" "lots" "[I" ∈ Ts) (hdg : decode cc pc = .ok (.getfield idx, 3)) (kk : W p l e R s m args below meth c H locs cells slots Q (F0 m (pc + 3) ls (.ref (E.2.2.1 31 (i)) :: rest))) : W p l e R s m args below meth c H locs cells slots Q (F0 m pc ls (.ref (E.2.2.1 30 i) :: rest)) :=
  va_get (D := E.1) (ci := 1) (C := RX1) (T := TX1) (N := 7) C0.1.1 C0.1.2.1 C0.1.2.2.2.2 hin C0.1.2.2.2.1 C0.2 hw.1 (offA cntX 30 + i) (wX_at (by decide) hi) rfl 3 (by decide) (C0.1.2.2.2.2 _ hlink) (fun _ h9 => h9) rfl hdg kk
theorem X_g30_4 (C0 : CX p m c cc nL s args Ts own E) (hw : SX E s st H locs) (hin : ∀ w ∈ u_ws RX1 TX1 7, w ∈ Ts) {i : Nat} (hi : i < cntX 30) {idx : Nat} (hlink : Cond.fieldLink own idx "ColourHouse$Batch" "grams" "[I" ∈ Ts) (hdg : decode cc pc = .ok (.getfield idx, 3)) (kk : W p l e R s m args below meth c H locs cells slots Q (F0 m (pc + 3) ls (.ref (E.2.2.1 32 (i)) :: rest))) : W p l e R s m args below meth c H locs cells slots Q (F0 m pc ls (.ref (E.2.2.1 30 i) :: rest)) :=
  va_get (D := E.1) (ci := 1) (C := RX1) (T := TX1) (N := 7) C0.1.1 C0.1.2.1 C0.1.2.2.2.2 hin C0.1.2.2.2.1 C0.2 hw.1 (offA cntX 30 + i) (wX_at (by decide) hi) rfl 4 (by decide) (C0.1.2.2.2.2 _ hlink) (fun _ h9 => h9) rfl hdg kk
theorem X_g30_5 (C0 : CX p m c cc nL s args Ts own E) (hw : SX E s st H locs) (hin : ∀ w ∈ u_ws RX1 TX1 7, w ∈ Ts) {i : Nat} (hi : i < cntX 30) {idx : Nat} (hlink : Cond.fieldLink own idx "ColourHouse$Batch" "isMeasured" "Z" ∈ Ts) (hdg : decode cc pc = .ok (.getfield idx, 3)) (kk : W p l e R s m args below meth c H locs cells slots Q (F0 m (pc + 3) ls (.int (gI st 30 i 5) :: rest))) : W p l e R s m args below meth c H locs cells slots Q (F0 m pc ls (.ref (E.2.2.1 30 i) :: rest)) :=
  va_get (D := E.1) (ci := 1) (C := RX1) (T := TX1) (N := 7) C0.1.1 C0.1.2.1 C0.1.2.2.2.2 hin C0.1.2.2.2.1 C0.2 hw.1 (offA cntX 30 + i) (wX_at (by decide) hi) rfl 5 (by decide) (C0.1.2.2.2.2 _ hlink) (fun _ h9 => h9) rfl hdg kk
theorem X_p30_5 (hL : LX E) (C0 : CX p m c cc nL s args Ts own E) (hw : SX E s st H locs) (hin : ∀ w ∈ u_ws RX1 TX1 7, w ∈ Ts) {i : Nat} (hi : i < cntX 30) {v : Int32} {K : Sto → Option β} (h : lt1 (sI st 30 i 5 v) K = some r) (hn : narrow .boolean (.int v) = .int v) (hfit : Jvm.fits .boolean (.int v) = true) {idx : Nat} (hlink : Cond.fieldLink own idx "ColourHouse$Batch" "isMeasured" "Z" ∈ Ts) (hdg : decode cc pc = .ok (.putfield idx, 3)) (kk : ∀ (st1 : Sto) (H1 : Heap) (locs1 : List Loc), SX E s st1 H1 locs1 → K st1 = some r → W p l e R s m args below meth c H1 locs1 cells slots Q (F0 m (pc + 3) ls rest)) : W p l e R s m args below meth c H locs cells slots Q (F0 m pc ls (.int v :: .ref (E.2.2.1 30 i) :: rest)) := by
  refine va_put (D := E.1) (ci := 1) (ty := .boolean) (C := RX1) (T := TX1) (N := 7) C0.1.1 C0.1.2.1 C0.1.2.2.2.2 hin tyX1 tyX1_ok nmX1 C0.1.2.2.2.1 C0.2 hw.1 (hL _) hw.2 (offA cntX 30 + i) (wX_at (by decide) hi) rfl 5 (by decide) (C0.1.2.2.2.2 _ hlink) (fun _ h9 => h9) rfl (by decide +kernel) hn hfit (Nat.le_of_ble_eq_true rfl) hdg (fun H1 locs1 hP _ hS => kk _ H1 locs1 ⟨?_, hS⟩ (lt_c h))
  rw [wX_sI (j := 5) (v := v) (by decide) hi (by rw [gI_self]; rfl)] at hP
  exact hP
theorem X_g30_6 (C0 : CX p m c cc nL s args Ts own E) (hw : SX E s st H locs) (hin : ∀ w ∈ u_ws RX1 TX1 7, w ∈ Ts) {i : Nat} (hi : i < cntX 30) {idx : Nat} (hlink : Cond.fieldLink own idx "ColourHouse$Batch" "cameTo" "[F" ∈ Ts) (hdg : decode cc pc = .ok (.getfield idx, 3)) (kk : W p l e R s m args below meth c H locs cells slots Q (F0 m (pc + 3) ls (.ref (E.2.2.1 33 (i)) :: rest))) : W p l e R s m args below meth c H locs cells slots Q (F0 m pc ls (.ref (E.2.2.1 30 i) :: rest)) :=
  va_get (D := E.1) (ci := 1) (C := RX1) (T := TX1) (N := 7) C0.1.1 C0.1.2.1 C0.1.2.2.2.2 hin C0.1.2.2.2.1 C0.2 hw.1 (offA cntX 30 + i) (wX_at (by decide) hi) rfl 6 (by decide) (C0.1.2.2.2.2 _ hlink) (fun _ h9 => h9) rfl hdg kk
theorem X_fin (C0 : CX p m c cc nL s args Ts own E) (hw : SX E s st H locs) {v : Option Value} {a : Array Value} : ∀ t : State, t.heap = H → s.WarmedH t.vm → QX E v st a s (.returned v) t := fun t ht hW => ⟨rfl, ⟨by rw [ht]; exact hw.1, va_K.moved hW.alike C0.2⟩, hw.2.F ht⟩
theorem X_call (hw : SX E s st H locs) {st0 : List Value} {st1 : Sto} {v : Option Value} {a : Array Value} (hr : va_Run p l e R s m args below meth c H locs cells slots 0 0 (F0 m pc ls st0) rest (QX E v st1 a) E.2.2.2) (kk : ∀ (H1 : Heap) (locs1 : List Loc), SX E s st1 H1 locs1 → W p l e R s m args below meth c H1 locs1 cells slots Q (F0 m (pc + 3) ls (v.toList ++ rest))) : W p l e R s m args below meth c H locs cells slots Q (F0 m pc ls st0) := by
  intro T hT X
  obtain ⟨v', st₀, t, T', L, h0, X', hL, e1, e2, ⟨hv, hR, hz, hk⟩, st'⟩ := hr T hT X
  cases hv
  rw [h0] at hz hk
  obtain ⟨t2, a1, b1⟩ := kk T'.heap (locs ++ L) ⟨by rw [e1]; exact hR.1, Nat.le_trans hw.2.1 (by rw [e1]; exact hz), fun q h1 h2 => by rw [e1, hk q (Nat.lt_of_lt_of_le h1 hw.2.1) h2]; exact hw.2.2.1 q h1 h2, fun q hq => by
    rcases List.mem_append.mp hq with h | h
    · exact hw.2.2.2 q h
    · exact hL q h⟩ T' rfl X'
  exact ⟨t2, st' t2 a1, b1⟩
theorem X_callV (C0 : CX p m c cc nL s args Ts own E) (hw : SX E s st H locs) {y : MethodName} {bytes : ByteArray} {maxL index n b : Nat} {ret : Option FieldType} {ws : List Cond} {rm : Room} {C : String} {As : List Value} {st1 : Sto} {v : Option Value} (hM : Met l y ws rm (va_Pc (.ref b :: As) (RX E st)) (QX E v st1) 0 0 E.2.2.2) (cw : CallW R s args own C index y bytes maxL ret ws rm 0 0 n) (hrv : ∃ cellB : Cell, H[b]? = some cellB ∧ cellB.vm.isStatics = false ∧ s.vm.findClass C = some cellB.cls) (hn : As.length = n) (hsz : ls.size = nL) {st0 : List Value} (hst : st0 = As.reverse ++ .ref b :: rest) (hrm : (rest.map fun v => v.category).sum ≤ 8) (hdg : decode cc pc = .ok (.invokevirtual index, 3)) (hf : cells ≤ R.cells ∧ slots ≤ R.slots) (kk : ∀ (H1 : Heap) (locs1 : List Loc), SX E s st1 H1 locs1 → W p l e R s m args below meth c H1 locs1 cells slots Q (F0 m (pc + 3) ls (v.toList ++ rest))) : W p l e R s m args below meth c H locs cells slots Q (F0 m pc ls st0) :=
  X_call hw (va_runV C0.1 hM cw ⟨RX_blind, hrv, fun V hV hW => ⟨rfl, by rw [hV]; exact hw.1, va_K.moved hW.alike C0.2⟩⟩ rfl hn hsz hst (by show 2 * 0 + _ ≤ 8; omega) hdg hf) kk
theorem X_callS (C0 : CX p m c cc nL s args Ts own E) (hw : SX E s st H locs) {y : MethodName} {bytes : ByteArray} {maxL index n : Nat} {ret : Option FieldType} {ws : List Cond} {rm : Room} {As : List Value} {st1 : Sto} {v : Option Value} (hM : Met l y ws rm (va_Pc As (RX E st)) (QX E v st1) 0 0 E.2.2.2) (cw : CallB R s args own index y bytes maxL ret ws rm 0 0 n ∧ (Cond.static y).before args s = true) (hn : As.length = n) (hsz : ls.size = nL) {st0 : List Value} (hst : st0 = As.reverse ++ rest) (hrm : (rest.map fun v => v.category).sum ≤ 8) (hdg : decode cc pc = .ok (.invokestatic index, 3)) (hf : cells ≤ R.cells ∧ slots ≤ R.slots) (kk : ∀ (H1 : Heap) (locs1 : List Loc), SX E s st1 H1 locs1 → W p l e R s m args below meth c H1 locs1 cells slots Q (F0 m (pc + 3) ls (v.toList ++ rest))) : W p l e R s m args below meth c H locs cells slots Q (F0 m pc ls st0) :=
  X_call hw (va_runS C0.1 hM cw ⟨RX_blind, fun V hV hW => ⟨rfl, by rw [hV]; exact hw.1, va_K.moved hW.alike C0.2⟩⟩ rfl hn hsz hst (by show 2 * 0 + _ ≤ 8; omega) hdg hf) kk
end RowsX
