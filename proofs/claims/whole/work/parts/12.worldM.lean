/-! world M: families, cells, lengths -/
def nM : Nat := 77
def cntM : Nat → Nat := fun f => match f with
  | 0 => 1
  | 1 => 1
  | 2 => 1
  | 12 => 1
  | 13 => 1
  | 14 => 1
  | 15 => 1
  | 16 => 1
  | 17 => 1
  | 18 => 1
  | 19 => 1
  | 20 => 1
  | 21 => 1
  | 22 => 1
  | 23 => 1
  | 24 => 1
  | 25 => 1
  | 26 => 1
  | 27 => 1
  | 28 => 1
  | 29 => 1
  | 30 => 1
  | 31 => 1
  | 32 => 1
  | 34 => 1
  | 35 => 1
  | 36 => 1
  | 37 => 1
  | 38 => 1
  | 39 => 1
  | 40 => 1
  | 41 => 1
  | 42 => 1
  | 43 => 1
  | 44 => 1
  | 46 => 1
  | 47 => 1
  | 48 => 1
  | 49 => 1
  | 64 => 1
  | 67 => 1
  | 68 => 1
  | 70 => 1
  | 71 => 1
  | 74 => 1
  | 75 => 1
  | _ => 0
def cellM (E : XE) (ri : Nat → Int32) (rf : Nat → UInt32) (rl : Nat → Int64) (rd : Nat → UInt64) (f i : Nat) : va_E := match f with
  | 0 => .inr (11, [.ref (E.2.2.1 1 (0)), .ref (E.2.2.1 2 (0)), .int (ri 2), .int (ri 3), .int (ri 4), .int (ri 5), .int (ri 6), .int (ri 7), .int (ri 8), .int (ri 9), .int (ri 10), .ref (E.2.2.1 12 (0)), .ref (E.2.2.1 13 (0)), .ref (E.2.2.1 14 (0)), .ref (E.2.2.1 15 (0)), .ref (E.2.2.1 16 (0)), .ref (E.2.2.1 17 (0)), .ref (E.2.2.1 18 (0)), .ref (E.2.2.1 19 (0)), .ref (E.2.2.1 20 (0)), .ref (E.2.2.1 21 (0)), .ref (E.2.2.1 22 (0)), .ref (E.2.2.1 23 (0)), .ref (E.2.2.1 24 (0)), .ref (E.2.2.1 25 (0)), .ref (E.2.2.1 26 (0)), .ref (E.2.2.1 27 (0)), .ref (E.2.2.1 28 (0)), .ref (E.2.2.1 29 (0)), .ref (E.2.2.1 30 (0)), .ref (E.2.2.1 31 (0)), .ref (E.2.2.1 32 (0)), .int (ri 32), .ref (E.2.2.1 34 (0)), .ref (E.2.2.1 35 (0)), .ref (E.2.2.1 36 (0)), .ref (E.2.2.1 37 (0)), .ref (E.2.2.1 38 (0)), .ref (E.2.2.1 39 (0)), .ref (E.2.2.1 40 (0)), .ref (E.2.2.1 41 (0)), .ref (E.2.2.1 42 (0)), .ref (E.2.2.1 43 (0)), .ref (E.2.2.1 44 (0)), .int (ri 44), .ref (E.2.2.1 46 (0)), .ref (E.2.2.1 47 (0)), .ref (E.2.2.1 48 (0)), .ref (E.2.2.1 49 (0)), .int (ri 49), .int (ri 50), .int (ri 51), .int (ri 52), .double (rd 53), .long (rl 54), .int (ri 55), .int (ri 56), .int (ri 57), .int (ri 58), .int (ri 59), .int (ri 60), .int (ri 61), .int (ri 62), .ref (E.2.2.1 64 (0)), .double (rd 64), .long (rl 65), .ref (E.2.2.1 67 (0)), .ref (E.2.2.1 68 (0)), .int (ri 68), .ref (E.2.2.1 70 (0)), .ref (E.2.2.1 71 (0)), .int (ri 71), .double (rd 72), .ref (E.2.2.1 74 (0)), .ref (E.2.2.1 75 (0)), .int (ri 75)])
  | 1 => .inl (E.2.1 1, 2176, .inr (.inr (.inl rf)))
  | 2 => .inl (E.2.1 1, 640, .inr (.inr (.inl rf)))
  | 12 => .inl (E.2.1 0, 12, .inl ri)
  | 13 => .inl (E.2.1 0, 12, .inl ri)
  | 14 => .inl (E.2.1 0, 72, .inl ri)
  | 15 => .inl (E.2.1 0, 12, .inl ri)
  | 16 => .inl (E.2.1 0, 20, .inl ri)
  | 17 => .inl (E.2.1 0, 20, .inl ri)
  | 18 => .inl (E.2.1 0, 20, .inl ri)
  | 19 => .inl (E.2.1 0, 20, .inl ri)
  | 20 => .inl (E.2.1 0, 20, .inl ri)
  | 21 => .inl (E.2.1 0, 12, .inl ri)
  | 22 => .inl (E.2.1 0, 12, .inl ri)
  | 23 => .inl (E.2.1 0, 12, .inl ri)
  | 24 => .inl (E.2.1 0, 96, .inl ri)
  | 25 => .inl (E.2.1 0, 96, .inl ri)
  | 26 => .inl (E.2.1 12, 12, .inl ri)
  | 27 => .inl (E.2.1 0, 96, .inl ri)
  | 28 => .inl (E.2.1 0, 96, .inl ri)
  | 29 => .inl (E.2.1 0, 3, .inl ri)
  | 30 => .inl (E.2.1 0, 6, .inl ri)
  | 31 => .inl (E.2.1 0, 6, .inl ri)
  | 32 => .inl (E.2.1 12, 6, .inl ri)
  | 34 => .inl (E.2.1 0, 12, .inl ri)
  | 35 => .inl (E.2.1 0, 12, .inl ri)
  | 36 => .inl (E.2.1 0, 12, .inl ri)
  | 37 => .inl (E.2.1 2, 36, .inr (.inr (.inr (.inl rd))))
  | 38 => .inl (E.2.1 2, 36, .inr (.inr (.inr (.inl rd))))
  | 39 => .inl (E.2.1 0, 60, .inl ri)
  | 40 => .inl (E.2.1 0, 60, .inl ri)
  | 41 => .inl (E.2.1 0, 60, .inl ri)
  | 42 => .inl (E.2.1 0, 60, .inl ri)
  | 43 => .inl (E.2.1 1, 960, .inr (.inr (.inl rf)))
  | 44 => .inl (E.2.1 1, 960, .inr (.inr (.inl rf)))
  | 46 => .inl (E.2.1 2, 3, .inr (.inr (.inr (.inl rd))))
  | 47 => .inl (E.2.1 2, 40, .inr (.inr (.inr (.inl rd))))
  | 48 => .inl (E.2.1 0, 6, .inl ri)
  | 49 => .inl (E.2.1 0, 6, .inl ri)
  | 64 => .inl (E.2.1 0, 6, .inl ri)
  | 67 => .inl (E.2.1 0, 10, .inl ri)
  | 68 => .inl (E.2.1 0, 10, .inl ri)
  | 70 => .inl (E.2.1 0, 6, .inl ri)
  | 71 => .inl (E.2.1 0, 4, .inl ri)
  | 74 => .inl (E.2.1 11, 68, .inl ri)
  | 75 => .inl (E.2.1 11, 68, .inl ri)
  | _ => .inr (0, [])
def wM (E : XE) (st : Sto) : va_W := wlA cntM E.2.2.1 (fun f i => cellM E (gI st f i) (gF st f i) (gL st f i) (gD st f i) f i) nM
def LM (E : XE) : Prop := ∀ cell, va_D E.2.2.2 (wlA cntM E.2.2.1 cell nM)
def SM (E : XE) (s : State) (st : Sto) (H : Heap) (locs : List Loc) : Prop := va_P E.1 vwC (wM E st) H ∧ va_S E.2.2.2 s.heap H locs
def RM (E : XE) (st : Sto) (V : State) : Prop := va_P E.1 vwC (wM E st) V.heap ∧ va_K E.1 vwC (tysA E.2.1) V
def QM (E : XE) (v : Option Value) (st : Sto) : Array Value → State → Outcome → State → Prop := fun _ s0 oc t => oc = .returned v ∧ RM E st t ∧ va_F E.2.2.2 s0 t
theorem RM_blind {E : XE} {st : Sto} {as : List Value} : FrameBlind (va_Pc as (RM E st)) := fun a V g mk q => ⟨q.1, q.2.1, va_K.moved (u := V) (U := V.calling g mk a) (Vm.Alike.refl V.vm) q.2.2⟩
theorem wM_at {E : XE} {st : Sto} {f i : Nat} (hf : f < nM) (hi : i < cntM f) : (wM E st)[offA cntM f + i]? = some (E.2.2.1 f i, cellM E (gI st f i) (gF st f i) (gL st f i) (gD st f i) f i) := wlA_at hf hi
theorem wM_sI {E : XE} {st : Sto} {f i j : Nat} {v : Int32} {e : va_E} (hf : f < nM) (hi : i < cntM f) (he : cellM E (gI (sI st f i j v) f i) (gF st f i) (gL st f i) (gD st f i) f i = e) : (wM E st).set (offA cntM f + i) (E.2.2.1 f i, e) = wM E (sI st f i j v) := by
  refine wlA_set hf hi he (fun a b h => ?_)
  show cellM E (gI (sI st f i j v) a b) (gF st a b) (gL st a b) (gD st a b) a b = cellM E (gI st a b) (gF st a b) (gL st a b) (gD st a b) a b
  rw [gI_ne h]
theorem wM_cI {E : XE} {st : Sto} {f i sp f1 i1 dp n : Nat} {e : va_E} (hf : f1 < nM) (hi : i1 < cntM f1) (he : cellM E (gI (cI st f i sp f1 i1 dp n) f1 i1) (gF st f1 i1) (gL st f1 i1) (gD st f1 i1) f1 i1 = e) : (wM E st).set (offA cntM f1 + i1) (E.2.2.1 f1 i1, e) = wM E (cI st f i sp f1 i1 dp n) := by
  refine wlA_set hf hi he (fun a b h => ?_)
  show cellM E (gI (cI st f i sp f1 i1 dp n) a b) (gF st a b) (gL st a b) (gD st a b) a b = cellM E (gI st a b) (gF st a b) (gL st a b) (gD st a b) a b
  rw [show gI (cI st f i sp f1 i1 dp n) a b = gI st a b from cp3_ne h]
theorem wM_sF {E : XE} {st : Sto} {f i j : Nat} {v : UInt32} {e : va_E} (hf : f < nM) (hi : i < cntM f) (he : cellM E (gI st f i) (gF (sF st f i j v) f i) (gL st f i) (gD st f i) f i = e) : (wM E st).set (offA cntM f + i) (E.2.2.1 f i, e) = wM E (sF st f i j v) := by
  refine wlA_set hf hi he (fun a b h => ?_)
  show cellM E (gI st a b) (gF (sF st f i j v) a b) (gL st a b) (gD st a b) a b = cellM E (gI st a b) (gF st a b) (gL st a b) (gD st a b) a b
  rw [gF_ne h]
theorem wM_cF {E : XE} {st : Sto} {f i sp f1 i1 dp n : Nat} {e : va_E} (hf : f1 < nM) (hi : i1 < cntM f1) (he : cellM E (gI st f1 i1) (gF (cF st f i sp f1 i1 dp n) f1 i1) (gL st f1 i1) (gD st f1 i1) f1 i1 = e) : (wM E st).set (offA cntM f1 + i1) (E.2.2.1 f1 i1, e) = wM E (cF st f i sp f1 i1 dp n) := by
  refine wlA_set hf hi he (fun a b h => ?_)
  show cellM E (gI st a b) (gF (cF st f i sp f1 i1 dp n) a b) (gL st a b) (gD st a b) a b = cellM E (gI st a b) (gF st a b) (gL st a b) (gD st a b) a b
  rw [show gF (cF st f i sp f1 i1 dp n) a b = gF st a b from cp3_ne h]
theorem wM_sL {E : XE} {st : Sto} {f i j : Nat} {v : Int64} {e : va_E} (hf : f < nM) (hi : i < cntM f) (he : cellM E (gI st f i) (gF st f i) (gL (sL st f i j v) f i) (gD st f i) f i = e) : (wM E st).set (offA cntM f + i) (E.2.2.1 f i, e) = wM E (sL st f i j v) := by
  refine wlA_set hf hi he (fun a b h => ?_)
  show cellM E (gI st a b) (gF st a b) (gL (sL st f i j v) a b) (gD st a b) a b = cellM E (gI st a b) (gF st a b) (gL st a b) (gD st a b) a b
  rw [gL_ne h]
theorem wM_sD {E : XE} {st : Sto} {f i j : Nat} {v : UInt64} {e : va_E} (hf : f < nM) (hi : i < cntM f) (he : cellM E (gI st f i) (gF st f i) (gL st f i) (gD (sD st f i j v) f i) f i = e) : (wM E st).set (offA cntM f + i) (E.2.2.1 f i, e) = wM E (sD st f i j v) := by
  refine wlA_set hf hi he (fun a b h => ?_)
  show cellM E (gI st a b) (gF st a b) (gL st a b) (gD (sD st f i j v) a b) a b = cellM E (gI st a b) (gF st a b) (gL st a b) (gD st a b) a b
  rw [gD_ne h]
theorem wM_cD {E : XE} {st : Sto} {f i sp f1 i1 dp n : Nat} {e : va_E} (hf : f1 < nM) (hi : i1 < cntM f1) (he : cellM E (gI st f1 i1) (gF st f1 i1) (gL st f1 i1) (gD (cD st f i sp f1 i1 dp n) f1 i1) f1 i1 = e) : (wM E st).set (offA cntM f1 + i1) (E.2.2.1 f1 i1, e) = wM E (cD st f i sp f1 i1 dp n) := by
  refine wlA_set hf hi he (fun a b h => ?_)
  show cellM E (gI st a b) (gF st a b) (gL st a b) (gD (cD st f i sp f1 i1 dp n) a b) a b = cellM E (gI st a b) (gF st a b) (gL st a b) (gD st a b) a b
  rw [show gD (cD st f i sp f1 i1 dp n) a b = gD st a b from cp3_ne h]
def lIM (f i : Nat) : Nat := match f with
  | 12 => if i < 1 then 12 else 0
  | 13 => if i < 1 then 12 else 0
  | 14 => if i < 1 then 72 else 0
  | 15 => if i < 1 then 12 else 0
  | 16 => if i < 1 then 20 else 0
  | 17 => if i < 1 then 20 else 0
  | 18 => if i < 1 then 20 else 0
  | 19 => if i < 1 then 20 else 0
  | 20 => if i < 1 then 20 else 0
  | 21 => if i < 1 then 12 else 0
  | 22 => if i < 1 then 12 else 0
  | 23 => if i < 1 then 12 else 0
  | 24 => if i < 1 then 96 else 0
  | 25 => if i < 1 then 96 else 0
  | 27 => if i < 1 then 96 else 0
  | 28 => if i < 1 then 96 else 0
  | 29 => if i < 1 then 3 else 0
  | 30 => if i < 1 then 6 else 0
  | 31 => if i < 1 then 6 else 0
  | 34 => if i < 1 then 12 else 0
  | 35 => if i < 1 then 12 else 0
  | 36 => if i < 1 then 12 else 0
  | 39 => if i < 1 then 60 else 0
  | 40 => if i < 1 then 60 else 0
  | 41 => if i < 1 then 60 else 0
  | 42 => if i < 1 then 60 else 0
  | 48 => if i < 1 then 6 else 0
  | 49 => if i < 1 then 6 else 0
  | 64 => if i < 1 then 6 else 0
  | 67 => if i < 1 then 10 else 0
  | 68 => if i < 1 then 10 else 0
  | 70 => if i < 1 then 6 else 0
  | 71 => if i < 1 then 4 else 0
  | _ => 0
theorem cIM {f i j : Nat} (h : j < lIM f i) : f < nM ∧ i < cntM f ∧ ∀ (E : XE) (ri : Nat → Int32) (rf : Nat → UInt32) (rl : Nat → Int64) (rd : Nat → UInt64), cellM E ri rf rl rd f i = .inl (E.2.1 0, lIM f i, .inl ri) := by
  unfold lIM at h
  split at h
  · by_cases hi : i < 1
    · exact ⟨by decide, hi, fun E ri rf rl rd => by rw [show lIM 12 i = 12 from if_pos hi]; rfl⟩
    · rw [if_neg hi] at h; exact absurd h (Nat.not_lt_zero _)
  · by_cases hi : i < 1
    · exact ⟨by decide, hi, fun E ri rf rl rd => by rw [show lIM 13 i = 12 from if_pos hi]; rfl⟩
    · rw [if_neg hi] at h; exact absurd h (Nat.not_lt_zero _)
  · by_cases hi : i < 1
    · exact ⟨by decide, hi, fun E ri rf rl rd => by rw [show lIM 14 i = 72 from if_pos hi]; rfl⟩
    · rw [if_neg hi] at h; exact absurd h (Nat.not_lt_zero _)
  · by_cases hi : i < 1
    · exact ⟨by decide, hi, fun E ri rf rl rd => by rw [show lIM 15 i = 12 from if_pos hi]; rfl⟩
    · rw [if_neg hi] at h; exact absurd h (Nat.not_lt_zero _)
  · by_cases hi : i < 1
    · exact ⟨by decide, hi, fun E ri rf rl rd => by rw [show lIM 16 i = 20 from if_pos hi]; rfl⟩
    · rw [if_neg hi] at h; exact absurd h (Nat.not_lt_zero _)
  · by_cases hi : i < 1
    · exact ⟨by decide, hi, fun E ri rf rl rd => by rw [show lIM 17 i = 20 from if_pos hi]; rfl⟩
    · rw [if_neg hi] at h; exact absurd h (Nat.not_lt_zero _)
  · by_cases hi : i < 1
    · exact ⟨by decide, hi, fun E ri rf rl rd => by rw [show lIM 18 i = 20 from if_pos hi]; rfl⟩
    · rw [if_neg hi] at h; exact absurd h (Nat.not_lt_zero _)
  · by_cases hi : i < 1
    · exact ⟨by decide, hi, fun E ri rf rl rd => by rw [show lIM 19 i = 20 from if_pos hi]; rfl⟩
    · rw [if_neg hi] at h; exact absurd h (Nat.not_lt_zero _)
  · by_cases hi : i < 1
    · exact ⟨by decide, hi, fun E ri rf rl rd => by rw [show lIM 20 i = 20 from if_pos hi]; rfl⟩
    · rw [if_neg hi] at h; exact absurd h (Nat.not_lt_zero _)
  · by_cases hi : i < 1
    · exact ⟨by decide, hi, fun E ri rf rl rd => by rw [show lIM 21 i = 12 from if_pos hi]; rfl⟩
    · rw [if_neg hi] at h; exact absurd h (Nat.not_lt_zero _)
  · by_cases hi : i < 1
    · exact ⟨by decide, hi, fun E ri rf rl rd => by rw [show lIM 22 i = 12 from if_pos hi]; rfl⟩
    · rw [if_neg hi] at h; exact absurd h (Nat.not_lt_zero _)
  · by_cases hi : i < 1
    · exact ⟨by decide, hi, fun E ri rf rl rd => by rw [show lIM 23 i = 12 from if_pos hi]; rfl⟩
    · rw [if_neg hi] at h; exact absurd h (Nat.not_lt_zero _)
  · by_cases hi : i < 1
    · exact ⟨by decide, hi, fun E ri rf rl rd => by rw [show lIM 24 i = 96 from if_pos hi]; rfl⟩
    · rw [if_neg hi] at h; exact absurd h (Nat.not_lt_zero _)
  · by_cases hi : i < 1
    · exact ⟨by decide, hi, fun E ri rf rl rd => by rw [show lIM 25 i = 96 from if_pos hi]; rfl⟩
    · rw [if_neg hi] at h; exact absurd h (Nat.not_lt_zero _)
  · by_cases hi : i < 1
    · exact ⟨by decide, hi, fun E ri rf rl rd => by rw [show lIM 27 i = 96 from if_pos hi]; rfl⟩
    · rw [if_neg hi] at h; exact absurd h (Nat.not_lt_zero _)
  · by_cases hi : i < 1
    · exact ⟨by decide, hi, fun E ri rf rl rd => by rw [show lIM 28 i = 96 from if_pos hi]; rfl⟩
    · rw [if_neg hi] at h; exact absurd h (Nat.not_lt_zero _)
  · by_cases hi : i < 1
    · exact ⟨by decide, hi, fun E ri rf rl rd => by rw [show lIM 29 i = 3 from if_pos hi]; rfl⟩
    · rw [if_neg hi] at h; exact absurd h (Nat.not_lt_zero _)
  · by_cases hi : i < 1
    · exact ⟨by decide, hi, fun E ri rf rl rd => by rw [show lIM 30 i = 6 from if_pos hi]; rfl⟩
    · rw [if_neg hi] at h; exact absurd h (Nat.not_lt_zero _)
  · by_cases hi : i < 1
    · exact ⟨by decide, hi, fun E ri rf rl rd => by rw [show lIM 31 i = 6 from if_pos hi]; rfl⟩
    · rw [if_neg hi] at h; exact absurd h (Nat.not_lt_zero _)
  · by_cases hi : i < 1
    · exact ⟨by decide, hi, fun E ri rf rl rd => by rw [show lIM 34 i = 12 from if_pos hi]; rfl⟩
    · rw [if_neg hi] at h; exact absurd h (Nat.not_lt_zero _)
  · by_cases hi : i < 1
    · exact ⟨by decide, hi, fun E ri rf rl rd => by rw [show lIM 35 i = 12 from if_pos hi]; rfl⟩
    · rw [if_neg hi] at h; exact absurd h (Nat.not_lt_zero _)
  · by_cases hi : i < 1
    · exact ⟨by decide, hi, fun E ri rf rl rd => by rw [show lIM 36 i = 12 from if_pos hi]; rfl⟩
    · rw [if_neg hi] at h; exact absurd h (Nat.not_lt_zero _)
  · by_cases hi : i < 1
    · exact ⟨by decide, hi, fun E ri rf rl rd => by rw [show lIM 39 i = 60 from if_pos hi]; rfl⟩
    · rw [if_neg hi] at h; exact absurd h (Nat.not_lt_zero _)
  · by_cases hi : i < 1
    · exact ⟨by decide, hi, fun E ri rf rl rd => by rw [show lIM 40 i = 60 from if_pos hi]; rfl⟩
    · rw [if_neg hi] at h; exact absurd h (Nat.not_lt_zero _)
  · by_cases hi : i < 1
    · exact ⟨by decide, hi, fun E ri rf rl rd => by rw [show lIM 41 i = 60 from if_pos hi]; rfl⟩
    · rw [if_neg hi] at h; exact absurd h (Nat.not_lt_zero _)
  · by_cases hi : i < 1
    · exact ⟨by decide, hi, fun E ri rf rl rd => by rw [show lIM 42 i = 60 from if_pos hi]; rfl⟩
    · rw [if_neg hi] at h; exact absurd h (Nat.not_lt_zero _)
  · by_cases hi : i < 1
    · exact ⟨by decide, hi, fun E ri rf rl rd => by rw [show lIM 48 i = 6 from if_pos hi]; rfl⟩
    · rw [if_neg hi] at h; exact absurd h (Nat.not_lt_zero _)
  · by_cases hi : i < 1
    · exact ⟨by decide, hi, fun E ri rf rl rd => by rw [show lIM 49 i = 6 from if_pos hi]; rfl⟩
    · rw [if_neg hi] at h; exact absurd h (Nat.not_lt_zero _)
  · by_cases hi : i < 1
    · exact ⟨by decide, hi, fun E ri rf rl rd => by rw [show lIM 64 i = 6 from if_pos hi]; rfl⟩
    · rw [if_neg hi] at h; exact absurd h (Nat.not_lt_zero _)
  · by_cases hi : i < 1
    · exact ⟨by decide, hi, fun E ri rf rl rd => by rw [show lIM 67 i = 10 from if_pos hi]; rfl⟩
    · rw [if_neg hi] at h; exact absurd h (Nat.not_lt_zero _)
  · by_cases hi : i < 1
    · exact ⟨by decide, hi, fun E ri rf rl rd => by rw [show lIM 68 i = 10 from if_pos hi]; rfl⟩
    · rw [if_neg hi] at h; exact absurd h (Nat.not_lt_zero _)
  · by_cases hi : i < 1
    · exact ⟨by decide, hi, fun E ri rf rl rd => by rw [show lIM 70 i = 6 from if_pos hi]; rfl⟩
    · rw [if_neg hi] at h; exact absurd h (Nat.not_lt_zero _)
  · by_cases hi : i < 1
    · exact ⟨by decide, hi, fun E ri rf rl rd => by rw [show lIM 71 i = 4 from if_pos hi]; rfl⟩
    · rw [if_neg hi] at h; exact absurd h (Nat.not_lt_zero _)
  · exact absurd h (Nat.not_lt_zero _)
def lFM (f i : Nat) : Nat := match f with
  | 1 => if i < 1 then 2176 else 0
  | 2 => if i < 1 then 640 else 0
  | 43 => if i < 1 then 960 else 0
  | 44 => if i < 1 then 960 else 0
  | _ => 0
theorem cFM {f i j : Nat} (h : j < lFM f i) : f < nM ∧ i < cntM f ∧ ∀ (E : XE) (ri : Nat → Int32) (rf : Nat → UInt32) (rl : Nat → Int64) (rd : Nat → UInt64), cellM E ri rf rl rd f i = .inl (E.2.1 1, lFM f i, .inr (.inr (.inl rf))) := by
  unfold lFM at h
  split at h
  · by_cases hi : i < 1
    · exact ⟨by decide, hi, fun E ri rf rl rd => by rw [show lFM 1 i = 2176 from if_pos hi]; rfl⟩
    · rw [if_neg hi] at h; exact absurd h (Nat.not_lt_zero _)
  · by_cases hi : i < 1
    · exact ⟨by decide, hi, fun E ri rf rl rd => by rw [show lFM 2 i = 640 from if_pos hi]; rfl⟩
    · rw [if_neg hi] at h; exact absurd h (Nat.not_lt_zero _)
  · by_cases hi : i < 1
    · exact ⟨by decide, hi, fun E ri rf rl rd => by rw [show lFM 43 i = 960 from if_pos hi]; rfl⟩
    · rw [if_neg hi] at h; exact absurd h (Nat.not_lt_zero _)
  · by_cases hi : i < 1
    · exact ⟨by decide, hi, fun E ri rf rl rd => by rw [show lFM 44 i = 960 from if_pos hi]; rfl⟩
    · rw [if_neg hi] at h; exact absurd h (Nat.not_lt_zero _)
  · exact absurd h (Nat.not_lt_zero _)
def lDM (f i : Nat) : Nat := match f with
  | 37 => if i < 1 then 36 else 0
  | 38 => if i < 1 then 36 else 0
  | 46 => if i < 1 then 3 else 0
  | 47 => if i < 1 then 40 else 0
  | _ => 0
theorem cDM {f i j : Nat} (h : j < lDM f i) : f < nM ∧ i < cntM f ∧ ∀ (E : XE) (ri : Nat → Int32) (rf : Nat → UInt32) (rl : Nat → Int64) (rd : Nat → UInt64), cellM E ri rf rl rd f i = .inl (E.2.1 2, lDM f i, .inr (.inr (.inr (.inl rd)))) := by
  unfold lDM at h
  split at h
  · by_cases hi : i < 1
    · exact ⟨by decide, hi, fun E ri rf rl rd => by rw [show lDM 37 i = 36 from if_pos hi]; rfl⟩
    · rw [if_neg hi] at h; exact absurd h (Nat.not_lt_zero _)
  · by_cases hi : i < 1
    · exact ⟨by decide, hi, fun E ri rf rl rd => by rw [show lDM 38 i = 36 from if_pos hi]; rfl⟩
    · rw [if_neg hi] at h; exact absurd h (Nat.not_lt_zero _)
  · by_cases hi : i < 1
    · exact ⟨by decide, hi, fun E ri rf rl rd => by rw [show lDM 46 i = 3 from if_pos hi]; rfl⟩
    · rw [if_neg hi] at h; exact absurd h (Nat.not_lt_zero _)
  · by_cases hi : i < 1
    · exact ⟨by decide, hi, fun E ri rf rl rd => by rw [show lDM 47 i = 40 from if_pos hi]; rfl⟩
    · rw [if_neg hi] at h; exact absurd h (Nat.not_lt_zero _)
  · exact absurd h (Nat.not_lt_zero _)
def lBM (f i : Nat) : Nat := match f with
  | 74 => if i < 1 then 68 else 0
  | 75 => if i < 1 then 68 else 0
  | _ => 0
theorem cBM {f i j : Nat} (h : j < lBM f i) : f < nM ∧ i < cntM f ∧ ∀ (E : XE) (ri : Nat → Int32) (rf : Nat → UInt32) (rl : Nat → Int64) (rd : Nat → UInt64), cellM E ri rf rl rd f i = .inl (E.2.1 11, lBM f i, .inl ri) := by
  unfold lBM at h
  split at h
  · by_cases hi : i < 1
    · exact ⟨by decide, hi, fun E ri rf rl rd => by rw [show lBM 74 i = 68 from if_pos hi]; rfl⟩
    · rw [if_neg hi] at h; exact absurd h (Nat.not_lt_zero _)
  · by_cases hi : i < 1
    · exact ⟨by decide, hi, fun E ri rf rl rd => by rw [show lBM 75 i = 68 from if_pos hi]; rfl⟩
    · rw [if_neg hi] at h; exact absurd h (Nat.not_lt_zero _)
  · exact absurd h (Nat.not_lt_zero _)
def lZM (f i : Nat) : Nat := match f with
  | 26 => if i < 1 then 12 else 0
  | 32 => if i < 1 then 6 else 0
  | _ => 0
theorem cZM {f i j : Nat} (h : j < lZM f i) : f < nM ∧ i < cntM f ∧ ∀ (E : XE) (ri : Nat → Int32) (rf : Nat → UInt32) (rl : Nat → Int64) (rd : Nat → UInt64), cellM E ri rf rl rd f i = .inl (E.2.1 12, lZM f i, .inl ri) := by
  unfold lZM at h
  split at h
  · by_cases hi : i < 1
    · exact ⟨by decide, hi, fun E ri rf rl rd => by rw [show lZM 26 i = 12 from if_pos hi]; rfl⟩
    · rw [if_neg hi] at h; exact absurd h (Nat.not_lt_zero _)
  · by_cases hi : i < 1
    · exact ⟨by decide, hi, fun E ri rf rl rd => by rw [show lZM 32 i = 6 from if_pos hi]; rfl⟩
    · rw [if_neg hi] at h; exact absurd h (Nat.not_lt_zero _)
  · exact absurd h (Nat.not_lt_zero _)
section RowsM
variable {p : Program} {l : Launch} {e : Env} {R : Room} {s : State} {m : MethodId} {args : Array Value} {below : List Frame} {meth : Method} {c : Code} {H : Heap} {locs : List Loc} {cells slots : Nat} {Q : State → Prop}
variable {cc : ByteArray} {pc nL : Nat} {ls : Array Slot} {rest : List Value} {β : Type} {r : β} {Ts : List Cond} {own : String} {E : XE} {st : Sto}
theorem M_iald (C0 : CX p m c cc nL s args Ts own E) (hw : SM E s st H locs) {f i : Nat} {j : Int32} {k : Nat} {X : Option β} (h : ck (0 ≤ j.toInt ∧ j.toInt < (lIM f i : Int)) X = some r) (hk : j.toNatClampNeg = k) (hdg : decode cc pc = .ok (.iaload, 1)) (kk : X = some r → W p l e R s m args below meth c H locs cells slots Q (F0 m (pc + 1) ls (.int (gI st f i k) :: rest))) : W p l e R s m args below meth c H locs cells slots Q (F0 m pc ls (.int j :: .ref (E.2.2.1 f i) :: rest)) := by
  obtain ⟨hc, h2⟩ := ck_c h
  have hj : vp_in j (lIM f i) := vp_in_iff.mpr hc
  subst hk
  obtain ⟨hf, hi, he⟩ := cIM (Nat.not_le.mp fun q => hj (Or.inr q))
  exact va_iald C0.1.1 C0.1.2.1 C0.2 hw.1 (offA cntM f + i) 0 ((wM_at hf hi).trans (by rw [he])) rfl hj hdg (kk h2)
theorem M_ialdL (C0 : CX p m c cc nL s args Ts own E) (hw : SM E s st H locs) {f i : Nat} {j : Int32} {k : Nat} (hj : vp_in j (lIM f i)) (hk : j.toNatClampNeg = k) (hdg : decode cc pc = .ok (.iaload, 1)) (kk : W p l e R s m args below meth c H locs cells slots Q (F0 m (pc + 1) ls (.int (gI st f i k) :: rest))) : W p l e R s m args below meth c H locs cells slots Q (F0 m pc ls (.int j :: .ref (E.2.2.1 f i) :: rest)) := by
  subst hk
  obtain ⟨hf, hi, he⟩ := cIM (Nat.not_le.mp fun q => hj (Or.inr q))
  exact va_iald C0.1.1 C0.1.2.1 C0.2 hw.1 (offA cntM f + i) 0 ((wM_at hf hi).trans (by rw [he])) rfl hj hdg kk
theorem M_iast (hL : LM E) (C0 : CX p m c cc nL s args Ts own E) (hw : SM E s st H locs) {f i : Nat} {j : Int32} {k : Nat} {v : Int32} {K : Sto → Option β} (h : ck (0 ≤ j.toInt ∧ j.toInt < (lIM f i : Int)) (lt1 (sI st f i k (v)) K) = some r) (hk : j.toNatClampNeg = k) (hdg : decode cc pc = .ok (.iastore, 1)) (kk : ∀ (st1 : Sto) (H1 : Heap) (locs1 : List Loc), SM E s st1 H1 locs1 → K st1 = some r → W p l e R s m args below meth c H1 locs1 cells slots Q (F0 m (pc + 1) ls rest)) : W p l e R s m args below meth c H locs cells slots Q (F0 m pc ls (.int v :: .int j :: .ref (E.2.2.1 f i) :: rest)) := by
  obtain ⟨hc, h2⟩ := ck_c h
  have hj : vp_in j (lIM f i) := vp_in_iff.mpr hc
  subst hk
  obtain ⟨hf, hi, he⟩ := cIM (Nat.not_le.mp fun q => hj (Or.inr q))
  refine va_iast C0.1.1 C0.1.2.1 C0.2 hw.1 (hL _) hw.2 (offA cntM f + i) 0 ((wM_at hf hi).trans (by rw [he])) rfl hj hdg (fun H1 locs1 hP _ hS => kk _ H1 locs1 ⟨?_, hS⟩ (lt_c h2))
  rw [wM_sI (j := j.toNatClampNeg) (v := v) hf hi ((he _ _ _ _ _).trans (by rw [gI_self]; rfl))] at hP
  exact hP
theorem M_iastL (hL : LM E) (C0 : CX p m c cc nL s args Ts own E) (hw : SM E s st H locs) {f i : Nat} {j : Int32} {k : Nat} {v : Int32} {K : Sto → Option β} (h : lt1 (sI st f i k (v)) K = some r) (hj : vp_in j (lIM f i)) (hk : j.toNatClampNeg = k) (hdg : decode cc pc = .ok (.iastore, 1)) (kk : ∀ (st1 : Sto) (H1 : Heap) (locs1 : List Loc), SM E s st1 H1 locs1 → K st1 = some r → W p l e R s m args below meth c H1 locs1 cells slots Q (F0 m (pc + 1) ls rest)) : W p l e R s m args below meth c H locs cells slots Q (F0 m pc ls (.int v :: .int j :: .ref (E.2.2.1 f i) :: rest)) := by
  have h2 := h
  subst hk
  obtain ⟨hf, hi, he⟩ := cIM (Nat.not_le.mp fun q => hj (Or.inr q))
  refine va_iast C0.1.1 C0.1.2.1 C0.2 hw.1 (hL _) hw.2 (offA cntM f + i) 0 ((wM_at hf hi).trans (by rw [he])) rfl hj hdg (fun H1 locs1 hP _ hS => kk _ H1 locs1 ⟨?_, hS⟩ (lt_c h2))
  rw [wM_sI (j := j.toNatClampNeg) (v := v) hf hi ((he _ _ _ _ _).trans (by rw [gI_self]; rfl))] at hP
  exact hP
theorem M_fald (C0 : CX p m c cc nL s args Ts own E) (hw : SM E s st H locs) {f i : Nat} {j : Int32} {k : Nat} {X : Option β} (h : ck (0 ≤ j.toInt ∧ j.toInt < (lFM f i : Int)) X = some r) (hk : j.toNatClampNeg = k) (hdg : decode cc pc = .ok (.faload, 1)) (kk : X = some r → W p l e R s m args below meth c H locs cells slots Q (F0 m (pc + 1) ls (.float (gF st f i k) :: rest))) : W p l e R s m args below meth c H locs cells slots Q (F0 m pc ls (.int j :: .ref (E.2.2.1 f i) :: rest)) := by
  obtain ⟨hc, h2⟩ := ck_c h
  have hj : vp_in j (lFM f i) := vp_in_iff.mpr hc
  subst hk
  obtain ⟨hf, hi, he⟩ := cFM (Nat.not_le.mp fun q => hj (Or.inr q))
  exact va_fald C0.1.1 C0.1.2.1 C0.2 hw.1 (offA cntM f + i) 1 ((wM_at hf hi).trans (by rw [he])) rfl hj hdg (kk h2)
theorem M_faldL (C0 : CX p m c cc nL s args Ts own E) (hw : SM E s st H locs) {f i : Nat} {j : Int32} {k : Nat} (hj : vp_in j (lFM f i)) (hk : j.toNatClampNeg = k) (hdg : decode cc pc = .ok (.faload, 1)) (kk : W p l e R s m args below meth c H locs cells slots Q (F0 m (pc + 1) ls (.float (gF st f i k) :: rest))) : W p l e R s m args below meth c H locs cells slots Q (F0 m pc ls (.int j :: .ref (E.2.2.1 f i) :: rest)) := by
  subst hk
  obtain ⟨hf, hi, he⟩ := cFM (Nat.not_le.mp fun q => hj (Or.inr q))
  exact va_fald C0.1.1 C0.1.2.1 C0.2 hw.1 (offA cntM f + i) 1 ((wM_at hf hi).trans (by rw [he])) rfl hj hdg kk
theorem M_fast (hL : LM E) (C0 : CX p m c cc nL s args Ts own E) (hw : SM E s st H locs) {f i : Nat} {j : Int32} {k : Nat} {v : UInt32} {K : Sto → Option β} (h : ck (0 ≤ j.toInt ∧ j.toInt < (lFM f i : Int)) (lt1 (sF st f i k (v)) K) = some r) (hk : j.toNatClampNeg = k) (hdg : decode cc pc = .ok (.fastore, 1)) (kk : ∀ (st1 : Sto) (H1 : Heap) (locs1 : List Loc), SM E s st1 H1 locs1 → K st1 = some r → W p l e R s m args below meth c H1 locs1 cells slots Q (F0 m (pc + 1) ls rest)) : W p l e R s m args below meth c H locs cells slots Q (F0 m pc ls (.float v :: .int j :: .ref (E.2.2.1 f i) :: rest)) := by
  obtain ⟨hc, h2⟩ := ck_c h
  have hj : vp_in j (lFM f i) := vp_in_iff.mpr hc
  subst hk
  obtain ⟨hf, hi, he⟩ := cFM (Nat.not_le.mp fun q => hj (Or.inr q))
  refine va_fast C0.1.1 C0.1.2.1 C0.2 hw.1 (hL _) hw.2 (offA cntM f + i) 1 ((wM_at hf hi).trans (by rw [he])) rfl hj hdg (fun H1 locs1 hP _ hS => kk _ H1 locs1 ⟨?_, hS⟩ (lt_c h2))
  rw [wM_sF (j := j.toNatClampNeg) (v := v) hf hi ((he _ _ _ _ _).trans (by rw [gF_self]; rfl))] at hP
  exact hP
theorem M_fastL (hL : LM E) (C0 : CX p m c cc nL s args Ts own E) (hw : SM E s st H locs) {f i : Nat} {j : Int32} {k : Nat} {v : UInt32} {K : Sto → Option β} (h : lt1 (sF st f i k (v)) K = some r) (hj : vp_in j (lFM f i)) (hk : j.toNatClampNeg = k) (hdg : decode cc pc = .ok (.fastore, 1)) (kk : ∀ (st1 : Sto) (H1 : Heap) (locs1 : List Loc), SM E s st1 H1 locs1 → K st1 = some r → W p l e R s m args below meth c H1 locs1 cells slots Q (F0 m (pc + 1) ls rest)) : W p l e R s m args below meth c H locs cells slots Q (F0 m pc ls (.float v :: .int j :: .ref (E.2.2.1 f i) :: rest)) := by
  have h2 := h
  subst hk
  obtain ⟨hf, hi, he⟩ := cFM (Nat.not_le.mp fun q => hj (Or.inr q))
  refine va_fast C0.1.1 C0.1.2.1 C0.2 hw.1 (hL _) hw.2 (offA cntM f + i) 1 ((wM_at hf hi).trans (by rw [he])) rfl hj hdg (fun H1 locs1 hP _ hS => kk _ H1 locs1 ⟨?_, hS⟩ (lt_c h2))
  rw [wM_sF (j := j.toNatClampNeg) (v := v) hf hi ((he _ _ _ _ _).trans (by rw [gF_self]; rfl))] at hP
  exact hP
theorem M_dald (C0 : CX p m c cc nL s args Ts own E) (hw : SM E s st H locs) {f i : Nat} {j : Int32} {k : Nat} {X : Option β} (h : ck (0 ≤ j.toInt ∧ j.toInt < (lDM f i : Int)) X = some r) (hk : j.toNatClampNeg = k) (hdg : decode cc pc = .ok (.daload, 1)) (kk : X = some r → W p l e R s m args below meth c H locs cells slots Q (F0 m (pc + 1) ls (.double (gD st f i k) :: rest))) : W p l e R s m args below meth c H locs cells slots Q (F0 m pc ls (.int j :: .ref (E.2.2.1 f i) :: rest)) := by
  obtain ⟨hc, h2⟩ := ck_c h
  have hj : vp_in j (lDM f i) := vp_in_iff.mpr hc
  subst hk
  obtain ⟨hf, hi, he⟩ := cDM (Nat.not_le.mp fun q => hj (Or.inr q))
  exact va_dald C0.1.1 C0.1.2.1 C0.2 hw.1 (offA cntM f + i) 2 ((wM_at hf hi).trans (by rw [he])) rfl hj hdg (kk h2)
theorem M_daldL (C0 : CX p m c cc nL s args Ts own E) (hw : SM E s st H locs) {f i : Nat} {j : Int32} {k : Nat} (hj : vp_in j (lDM f i)) (hk : j.toNatClampNeg = k) (hdg : decode cc pc = .ok (.daload, 1)) (kk : W p l e R s m args below meth c H locs cells slots Q (F0 m (pc + 1) ls (.double (gD st f i k) :: rest))) : W p l e R s m args below meth c H locs cells slots Q (F0 m pc ls (.int j :: .ref (E.2.2.1 f i) :: rest)) := by
  subst hk
  obtain ⟨hf, hi, he⟩ := cDM (Nat.not_le.mp fun q => hj (Or.inr q))
  exact va_dald C0.1.1 C0.1.2.1 C0.2 hw.1 (offA cntM f + i) 2 ((wM_at hf hi).trans (by rw [he])) rfl hj hdg kk
theorem M_dast (hL : LM E) (C0 : CX p m c cc nL s args Ts own E) (hw : SM E s st H locs) {f i : Nat} {j : Int32} {k : Nat} {v : UInt64} {K : Sto → Option β} (h : ck (0 ≤ j.toInt ∧ j.toInt < (lDM f i : Int)) (lt1 (sD st f i k (v)) K) = some r) (hk : j.toNatClampNeg = k) (hdg : decode cc pc = .ok (.dastore, 1)) (kk : ∀ (st1 : Sto) (H1 : Heap) (locs1 : List Loc), SM E s st1 H1 locs1 → K st1 = some r → W p l e R s m args below meth c H1 locs1 cells slots Q (F0 m (pc + 1) ls rest)) : W p l e R s m args below meth c H locs cells slots Q (F0 m pc ls (.double v :: .int j :: .ref (E.2.2.1 f i) :: rest)) := by
  obtain ⟨hc, h2⟩ := ck_c h
  have hj : vp_in j (lDM f i) := vp_in_iff.mpr hc
  subst hk
  obtain ⟨hf, hi, he⟩ := cDM (Nat.not_le.mp fun q => hj (Or.inr q))
  refine va_dast C0.1.1 C0.1.2.1 C0.2 hw.1 (hL _) hw.2 (offA cntM f + i) 2 ((wM_at hf hi).trans (by rw [he])) rfl hj hdg (fun H1 locs1 hP _ hS => kk _ H1 locs1 ⟨?_, hS⟩ (lt_c h2))
  rw [wM_sD (j := j.toNatClampNeg) (v := v) hf hi ((he _ _ _ _ _).trans (by rw [gD_self]; rfl))] at hP
  exact hP
theorem M_dastL (hL : LM E) (C0 : CX p m c cc nL s args Ts own E) (hw : SM E s st H locs) {f i : Nat} {j : Int32} {k : Nat} {v : UInt64} {K : Sto → Option β} (h : lt1 (sD st f i k (v)) K = some r) (hj : vp_in j (lDM f i)) (hk : j.toNatClampNeg = k) (hdg : decode cc pc = .ok (.dastore, 1)) (kk : ∀ (st1 : Sto) (H1 : Heap) (locs1 : List Loc), SM E s st1 H1 locs1 → K st1 = some r → W p l e R s m args below meth c H1 locs1 cells slots Q (F0 m (pc + 1) ls rest)) : W p l e R s m args below meth c H locs cells slots Q (F0 m pc ls (.double v :: .int j :: .ref (E.2.2.1 f i) :: rest)) := by
  have h2 := h
  subst hk
  obtain ⟨hf, hi, he⟩ := cDM (Nat.not_le.mp fun q => hj (Or.inr q))
  refine va_dast C0.1.1 C0.1.2.1 C0.2 hw.1 (hL _) hw.2 (offA cntM f + i) 2 ((wM_at hf hi).trans (by rw [he])) rfl hj hdg (fun H1 locs1 hP _ hS => kk _ H1 locs1 ⟨?_, hS⟩ (lt_c h2))
  rw [wM_sD (j := j.toNatClampNeg) (v := v) hf hi ((he _ _ _ _ _).trans (by rw [gD_self]; rfl))] at hP
  exact hP
theorem M_bald (C0 : CX p m c cc nL s args Ts own E) (hw : SM E s st H locs) {f i : Nat} {j : Int32} {k : Nat} {X : Option β} (h : ck (0 ≤ j.toInt ∧ j.toInt < (lBM f i : Int)) X = some r) (hk : j.toNatClampNeg = k) (hdg : decode cc pc = .ok (.baload, 1)) (kk : X = some r → W p l e R s m args below meth c H locs cells slots Q (F0 m (pc + 1) ls (.int (gI st f i k) :: rest))) : W p l e R s m args below meth c H locs cells slots Q (F0 m pc ls (.int j :: .ref (E.2.2.1 f i) :: rest)) := by
  obtain ⟨hc, h2⟩ := ck_c h
  have hj : vp_in j (lBM f i) := vp_in_iff.mpr hc
  subst hk
  obtain ⟨hf, hi, he⟩ := cBM (Nat.not_le.mp fun q => hj (Or.inr q))
  exact va_bald C0.1.1 C0.1.2.1 C0.2 hw.1 (offA cntM f + i) 11 ((wM_at hf hi).trans (by rw [he])) rfl hj hdg (kk h2)
theorem M_baldL (C0 : CX p m c cc nL s args Ts own E) (hw : SM E s st H locs) {f i : Nat} {j : Int32} {k : Nat} (hj : vp_in j (lBM f i)) (hk : j.toNatClampNeg = k) (hdg : decode cc pc = .ok (.baload, 1)) (kk : W p l e R s m args below meth c H locs cells slots Q (F0 m (pc + 1) ls (.int (gI st f i k) :: rest))) : W p l e R s m args below meth c H locs cells slots Q (F0 m pc ls (.int j :: .ref (E.2.2.1 f i) :: rest)) := by
  subst hk
  obtain ⟨hf, hi, he⟩ := cBM (Nat.not_le.mp fun q => hj (Or.inr q))
  exact va_bald C0.1.1 C0.1.2.1 C0.2 hw.1 (offA cntM f + i) 11 ((wM_at hf hi).trans (by rw [he])) rfl hj hdg kk
theorem M_bast (hL : LM E) (C0 : CX p m c cc nL s args Ts own E) (hw : SM E s st H locs) {f i : Nat} {j : Int32} {k : Nat} {v : Int32} {K : Sto → Option β} (h : ck (0 ≤ j.toInt ∧ j.toInt < (lBM f i : Int)) (lt1 (sI st f i k (vp_nar .byte v)) K) = some r) (hk : j.toNatClampNeg = k) (hdg : decode cc pc = .ok (.bastore, 1)) (kk : ∀ (st1 : Sto) (H1 : Heap) (locs1 : List Loc), SM E s st1 H1 locs1 → K st1 = some r → W p l e R s m args below meth c H1 locs1 cells slots Q (F0 m (pc + 1) ls rest)) : W p l e R s m args below meth c H locs cells slots Q (F0 m pc ls (.int v :: .int j :: .ref (E.2.2.1 f i) :: rest)) := by
  obtain ⟨hc, h2⟩ := ck_c h
  have hj : vp_in j (lBM f i) := vp_in_iff.mpr hc
  subst hk
  obtain ⟨hf, hi, he⟩ := cBM (Nat.not_le.mp fun q => hj (Or.inr q))
  refine va_bast C0.1.1 C0.1.2.1 C0.2 hw.1 (hL _) hw.2 (offA cntM f + i) 11 ((wM_at hf hi).trans (by rw [he])) rfl hj hdg (fun H1 locs1 hP _ hS => kk _ H1 locs1 ⟨?_, hS⟩ (lt_c h2))
  rw [wM_sI (j := j.toNatClampNeg) (v := vp_nar .byte v) hf hi ((he _ _ _ _ _).trans (by rw [gI_self]; rfl))] at hP
  exact hP
theorem M_bastL (hL : LM E) (C0 : CX p m c cc nL s args Ts own E) (hw : SM E s st H locs) {f i : Nat} {j : Int32} {k : Nat} {v : Int32} {K : Sto → Option β} (h : lt1 (sI st f i k (vp_nar .byte v)) K = some r) (hj : vp_in j (lBM f i)) (hk : j.toNatClampNeg = k) (hdg : decode cc pc = .ok (.bastore, 1)) (kk : ∀ (st1 : Sto) (H1 : Heap) (locs1 : List Loc), SM E s st1 H1 locs1 → K st1 = some r → W p l e R s m args below meth c H1 locs1 cells slots Q (F0 m (pc + 1) ls rest)) : W p l e R s m args below meth c H locs cells slots Q (F0 m pc ls (.int v :: .int j :: .ref (E.2.2.1 f i) :: rest)) := by
  have h2 := h
  subst hk
  obtain ⟨hf, hi, he⟩ := cBM (Nat.not_le.mp fun q => hj (Or.inr q))
  refine va_bast C0.1.1 C0.1.2.1 C0.2 hw.1 (hL _) hw.2 (offA cntM f + i) 11 ((wM_at hf hi).trans (by rw [he])) rfl hj hdg (fun H1 locs1 hP _ hS => kk _ H1 locs1 ⟨?_, hS⟩ (lt_c h2))
  rw [wM_sI (j := j.toNatClampNeg) (v := vp_nar .byte v) hf hi ((he _ _ _ _ _).trans (by rw [gI_self]; rfl))] at hP
  exact hP
theorem M_zald (C0 : CX p m c cc nL s args Ts own E) (hw : SM E s st H locs) {f i : Nat} {j : Int32} {k : Nat} {X : Option β} (h : ck (0 ≤ j.toInt ∧ j.toInt < (lZM f i : Int)) X = some r) (hk : j.toNatClampNeg = k) (hdg : decode cc pc = .ok (.baload, 1)) (kk : X = some r → W p l e R s m args below meth c H locs cells slots Q (F0 m (pc + 1) ls (.int (gI st f i k) :: rest))) : W p l e R s m args below meth c H locs cells slots Q (F0 m pc ls (.int j :: .ref (E.2.2.1 f i) :: rest)) := by
  obtain ⟨hc, h2⟩ := ck_c h
  have hj : vp_in j (lZM f i) := vp_in_iff.mpr hc
  subst hk
  obtain ⟨hf, hi, he⟩ := cZM (Nat.not_le.mp fun q => hj (Or.inr q))
  exact va_zald C0.1.1 C0.1.2.1 C0.2 hw.1 (offA cntM f + i) 12 ((wM_at hf hi).trans (by rw [he])) rfl hj hdg (kk h2)
theorem M_zaldL (C0 : CX p m c cc nL s args Ts own E) (hw : SM E s st H locs) {f i : Nat} {j : Int32} {k : Nat} (hj : vp_in j (lZM f i)) (hk : j.toNatClampNeg = k) (hdg : decode cc pc = .ok (.baload, 1)) (kk : W p l e R s m args below meth c H locs cells slots Q (F0 m (pc + 1) ls (.int (gI st f i k) :: rest))) : W p l e R s m args below meth c H locs cells slots Q (F0 m pc ls (.int j :: .ref (E.2.2.1 f i) :: rest)) := by
  subst hk
  obtain ⟨hf, hi, he⟩ := cZM (Nat.not_le.mp fun q => hj (Or.inr q))
  exact va_zald C0.1.1 C0.1.2.1 C0.2 hw.1 (offA cntM f + i) 12 ((wM_at hf hi).trans (by rw [he])) rfl hj hdg kk
theorem M_zast (hL : LM E) (C0 : CX p m c cc nL s args Ts own E) (hw : SM E s st H locs) {f i : Nat} {j : Int32} {k : Nat} {v : Int32} {K : Sto → Option β} (h : ck (0 ≤ j.toInt ∧ j.toInt < (lZM f i : Int)) (lt1 (sI st f i k (vp_nar .boolean v)) K) = some r) (hk : j.toNatClampNeg = k) (hdg : decode cc pc = .ok (.bastore, 1)) (kk : ∀ (st1 : Sto) (H1 : Heap) (locs1 : List Loc), SM E s st1 H1 locs1 → K st1 = some r → W p l e R s m args below meth c H1 locs1 cells slots Q (F0 m (pc + 1) ls rest)) : W p l e R s m args below meth c H locs cells slots Q (F0 m pc ls (.int v :: .int j :: .ref (E.2.2.1 f i) :: rest)) := by
  obtain ⟨hc, h2⟩ := ck_c h
  have hj : vp_in j (lZM f i) := vp_in_iff.mpr hc
  subst hk
  obtain ⟨hf, hi, he⟩ := cZM (Nat.not_le.mp fun q => hj (Or.inr q))
  refine va_zast C0.1.1 C0.1.2.1 C0.2 hw.1 (hL _) hw.2 (offA cntM f + i) 12 ((wM_at hf hi).trans (by rw [he])) rfl hj hdg (fun H1 locs1 hP _ hS => kk _ H1 locs1 ⟨?_, hS⟩ (lt_c h2))
  rw [wM_sI (j := j.toNatClampNeg) (v := vp_nar .boolean v) hf hi ((he _ _ _ _ _).trans (by rw [gI_self]; rfl))] at hP
  exact hP
theorem M_zastL (hL : LM E) (C0 : CX p m c cc nL s args Ts own E) (hw : SM E s st H locs) {f i : Nat} {j : Int32} {k : Nat} {v : Int32} {K : Sto → Option β} (h : lt1 (sI st f i k (vp_nar .boolean v)) K = some r) (hj : vp_in j (lZM f i)) (hk : j.toNatClampNeg = k) (hdg : decode cc pc = .ok (.bastore, 1)) (kk : ∀ (st1 : Sto) (H1 : Heap) (locs1 : List Loc), SM E s st1 H1 locs1 → K st1 = some r → W p l e R s m args below meth c H1 locs1 cells slots Q (F0 m (pc + 1) ls rest)) : W p l e R s m args below meth c H locs cells slots Q (F0 m pc ls (.int v :: .int j :: .ref (E.2.2.1 f i) :: rest)) := by
  have h2 := h
  subst hk
  obtain ⟨hf, hi, he⟩ := cZM (Nat.not_le.mp fun q => hj (Or.inr q))
  refine va_zast C0.1.1 C0.1.2.1 C0.2 hw.1 (hL _) hw.2 (offA cntM f + i) 12 ((wM_at hf hi).trans (by rw [he])) rfl hj hdg (fun H1 locs1 hP _ hS => kk _ H1 locs1 ⟨?_, hS⟩ (lt_c h2))
  rw [wM_sI (j := j.toNatClampNeg) (v := vp_nar .boolean v) hf hi ((he _ _ _ _ _).trans (by rw [gI_self]; rfl))] at hP
  exact hP
theorem M_recv_0 (C0 : CX p m c cc nL s args Ts own E) (hw : SM E s st H locs) {i : Nat} (hi : i < cntM 0) : ∃ cellB : Cell, H[E.2.2.1 0 i]? = some cellB ∧ cellB.vm.isStatics = false ∧ s.vm.findClass RX12 = some cellB.cls := va_recv C0.2 hw.1 (ci := 11) (q0 := offA cntM 0 + i) (q := (RX12, TX12, 76)) rfl (wM_at (by decide) hi)
theorem M_g0_0 (C0 : CX p m c cc nL s args Ts own E) (hw : SM E s st H locs) (hin : ∀ w ∈ u_ws RX12 TX12 76, w ∈ Ts) {i : Nat} (hi : i < cntM 0) {idx : Nat} (hlink : Cond.fieldLink own idx "ColourHouseModel" "spectra" "[F" ∈ Ts) (hdg : decode cc pc = .ok (.getfield idx, 3)) (kk : W p l e R s m args below meth c H locs cells slots Q (F0 m (pc + 3) ls (.ref (E.2.2.1 1 (0)) :: rest))) : W p l e R s m args below meth c H locs cells slots Q (F0 m pc ls (.ref (E.2.2.1 0 i) :: rest)) :=
  va_get (D := E.1) (ci := 11) (C := RX12) (T := TX12) (N := 76) C0.1.1 C0.1.2.1 C0.1.2.2.2.2 hin C0.1.2.2.2.1 C0.2 hw.1 (offA cntM 0 + i) (wM_at (by decide) hi) rfl 0 (by decide) (C0.1.2.2.2.2 _ hlink) (fun _ h9 => h9) rfl hdg kk
theorem M_g0_1 (C0 : CX p m c cc nL s args Ts own E) (hw : SM E s st H locs) (hin : ∀ w ∈ u_ws RX12 TX12 76, w ∈ Ts) {i : Nat} (hi : i < cntM 0) {idx : Nat} (hlink : Cond.fieldLink own idx "ColourHouseModel" "drifts" "[F" ∈ Ts) (hdg : decode cc pc = .ok (.getfield idx, 3)) (kk : W p l e R s m args below meth c H locs cells slots Q (F0 m (pc + 3) ls (.ref (E.2.2.1 2 (0)) :: rest))) : W p l e R s m args below meth c H locs cells slots Q (F0 m pc ls (.ref (E.2.2.1 0 i) :: rest)) :=
  va_get (D := E.1) (ci := 11) (C := RX12) (T := TX12) (N := 76) C0.1.1 C0.1.2.1 C0.1.2.2.2.2 hin C0.1.2.2.2.1 C0.2 hw.1 (offA cntM 0 + i) (wM_at (by decide) hi) rfl 1 (by decide) (C0.1.2.2.2.2 _ hlink) (fun _ h9 => h9) rfl hdg kk
theorem M_g0_2 (C0 : CX p m c cc nL s args Ts own E) (hw : SM E s st H locs) (hin : ∀ w ∈ u_ws RX12 TX12 76, w ∈ Ts) {i : Nat} (hi : i < cntM 0) {idx : Nat} (hlink : Cond.fieldLink own idx "ColourHouseModel" "chips" "I" ∈ Ts) (hdg : decode cc pc = .ok (.getfield idx, 3)) (kk : W p l e R s m args below meth c H locs cells slots Q (F0 m (pc + 3) ls (.int (gI st 0 i 2) :: rest))) : W p l e R s m args below meth c H locs cells slots Q (F0 m pc ls (.ref (E.2.2.1 0 i) :: rest)) :=
  va_get (D := E.1) (ci := 11) (C := RX12) (T := TX12) (N := 76) C0.1.1 C0.1.2.1 C0.1.2.2.2.2 hin C0.1.2.2.2.1 C0.2 hw.1 (offA cntM 0 + i) (wM_at (by decide) hi) rfl 2 (by decide) (C0.1.2.2.2.2 _ hlink) (fun _ h9 => h9) rfl hdg kk
theorem M_p0_2 (hL : LM E) (C0 : CX p m c cc nL s args Ts own E) (hw : SM E s st H locs) (hin : ∀ w ∈ u_ws RX12 TX12 76, w ∈ Ts) {i : Nat} (hi : i < cntM 0) {v : Int32} {K : Sto → Option β} (h : lt1 (sI st 0 i 2 v) K = some r) {idx : Nat} (hlink : Cond.fieldLink own idx "ColourHouseModel" "chips" "I" ∈ Ts) (hdg : decode cc pc = .ok (.putfield idx, 3)) (kk : ∀ (st1 : Sto) (H1 : Heap) (locs1 : List Loc), SM E s st1 H1 locs1 → K st1 = some r → W p l e R s m args below meth c H1 locs1 cells slots Q (F0 m (pc + 3) ls rest)) : W p l e R s m args below meth c H locs cells slots Q (F0 m pc ls (.int v :: .ref (E.2.2.1 0 i) :: rest)) := by
  refine va_put (D := E.1) (ci := 11) (ty := .int) (C := RX12) (T := TX12) (N := 76) C0.1.1 C0.1.2.1 C0.1.2.2.2.2 hin tyX12 tyX12_ok nmX12 C0.1.2.2.2.1 C0.2 hw.1 (hL _) hw.2 (offA cntM 0 + i) (wM_at (by decide) hi) rfl 2 (by decide) (C0.1.2.2.2.2 _ hlink) (fun _ h9 => h9) rfl (by decide +kernel) rfl rfl (Nat.le_of_ble_eq_true rfl) hdg (fun H1 locs1 hP _ hS => kk _ H1 locs1 ⟨?_, hS⟩ (lt_c h))
  rw [wM_sI (j := 2) (v := v) (by decide) hi (by rw [gI_self]; rfl)] at hP
  exact hP
theorem M_g0_3 (C0 : CX p m c cc nL s args Ts own E) (hw : SM E s st H locs) (hin : ∀ w ∈ u_ws RX12 TX12 76, w ∈ Ts) {i : Nat} (hi : i < cntM 0) {idx : Nat} (hlink : Cond.fieldLink own idx "ColourHouseModel" "cloths" "I" ∈ Ts) (hdg : decode cc pc = .ok (.getfield idx, 3)) (kk : W p l e R s m args below meth c H locs cells slots Q (F0 m (pc + 3) ls (.int (gI st 0 i 3) :: rest))) : W p l e R s m args below meth c H locs cells slots Q (F0 m pc ls (.ref (E.2.2.1 0 i) :: rest)) :=
  va_get (D := E.1) (ci := 11) (C := RX12) (T := TX12) (N := 76) C0.1.1 C0.1.2.1 C0.1.2.2.2.2 hin C0.1.2.2.2.1 C0.2 hw.1 (offA cntM 0 + i) (wM_at (by decide) hi) rfl 3 (by decide) (C0.1.2.2.2.2 _ hlink) (fun _ h9 => h9) rfl hdg kk
theorem M_p0_3 (hL : LM E) (C0 : CX p m c cc nL s args Ts own E) (hw : SM E s st H locs) (hin : ∀ w ∈ u_ws RX12 TX12 76, w ∈ Ts) {i : Nat} (hi : i < cntM 0) {v : Int32} {K : Sto → Option β} (h : lt1 (sI st 0 i 3 v) K = some r) {idx : Nat} (hlink : Cond.fieldLink own idx "ColourHouseModel" "cloths" "I" ∈ Ts) (hdg : decode cc pc = .ok (.putfield idx, 3)) (kk : ∀ (st1 : Sto) (H1 : Heap) (locs1 : List Loc), SM E s st1 H1 locs1 → K st1 = some r → W p l e R s m args below meth c H1 locs1 cells slots Q (F0 m (pc + 3) ls rest)) : W p l e R s m args below meth c H locs cells slots Q (F0 m pc ls (.int v :: .ref (E.2.2.1 0 i) :: rest)) := by
  refine va_put (D := E.1) (ci := 11) (ty := .int) (C := RX12) (T := TX12) (N := 76) C0.1.1 C0.1.2.1 C0.1.2.2.2.2 hin tyX12 tyX12_ok nmX12 C0.1.2.2.2.1 C0.2 hw.1 (hL _) hw.2 (offA cntM 0 + i) (wM_at (by decide) hi) rfl 3 (by decide) (C0.1.2.2.2.2 _ hlink) (fun _ h9 => h9) rfl (by decide +kernel) rfl rfl (Nat.le_of_ble_eq_true rfl) hdg (fun H1 locs1 hP _ hS => kk _ H1 locs1 ⟨?_, hS⟩ (lt_c h))
  rw [wM_sI (j := 3) (v := v) (by decide) hi (by rw [gI_self]; rfl)] at hP
  exact hP
theorem M_g0_4 (C0 : CX p m c cc nL s args Ts own E) (hw : SM E s st H locs) (hin : ∀ w ∈ u_ws RX12 TX12 76, w ∈ Ts) {i : Nat} (hi : i < cntM 0) {idx : Nat} (hlink : Cond.fieldLink own idx "ColourHouseModel" "dyes" "I" ∈ Ts) (hdg : decode cc pc = .ok (.getfield idx, 3)) (kk : W p l e R s m args below meth c H locs cells slots Q (F0 m (pc + 3) ls (.int (gI st 0 i 4) :: rest))) : W p l e R s m args below meth c H locs cells slots Q (F0 m pc ls (.ref (E.2.2.1 0 i) :: rest)) :=
  va_get (D := E.1) (ci := 11) (C := RX12) (T := TX12) (N := 76) C0.1.1 C0.1.2.1 C0.1.2.2.2.2 hin C0.1.2.2.2.1 C0.2 hw.1 (offA cntM 0 + i) (wM_at (by decide) hi) rfl 4 (by decide) (C0.1.2.2.2.2 _ hlink) (fun _ h9 => h9) rfl hdg kk
theorem M_p0_4 (hL : LM E) (C0 : CX p m c cc nL s args Ts own E) (hw : SM E s st H locs) (hin : ∀ w ∈ u_ws RX12 TX12 76, w ∈ Ts) {i : Nat} (hi : i < cntM 0) {v : Int32} {K : Sto → Option β} (h : lt1 (sI st 0 i 4 v) K = some r) {idx : Nat} (hlink : Cond.fieldLink own idx "ColourHouseModel" "dyes" "I" ∈ Ts) (hdg : decode cc pc = .ok (.putfield idx, 3)) (kk : ∀ (st1 : Sto) (H1 : Heap) (locs1 : List Loc), SM E s st1 H1 locs1 → K st1 = some r → W p l e R s m args below meth c H1 locs1 cells slots Q (F0 m (pc + 3) ls rest)) : W p l e R s m args below meth c H locs cells slots Q (F0 m pc ls (.int v :: .ref (E.2.2.1 0 i) :: rest)) := by
  refine va_put (D := E.1) (ci := 11) (ty := .int) (C := RX12) (T := TX12) (N := 76) C0.1.1 C0.1.2.1 C0.1.2.2.2.2 hin tyX12 tyX12_ok nmX12 C0.1.2.2.2.1 C0.2 hw.1 (hL _) hw.2 (offA cntM 0 + i) (wM_at (by decide) hi) rfl 4 (by decide) (C0.1.2.2.2.2 _ hlink) (fun _ h9 => h9) rfl (by decide +kernel) rfl rfl (Nat.le_of_ble_eq_true rfl) hdg (fun H1 locs1 hP _ hS => kk _ H1 locs1 ⟨?_, hS⟩ (lt_c h))
  rw [wM_sI (j := 4) (v := v) (by decide) hi (by rw [gI_self]; rfl)] at hP
  exact hP
theorem M_g0_5 (C0 : CX p m c cc nL s args Ts own E) (hw : SM E s st H locs) (hin : ∀ w ∈ u_ws RX12 TX12 76, w ∈ Ts) {i : Nat} (hi : i < cntM 0) {idx : Nat} (hlink : Cond.fieldLink own idx "ColourHouseModel" "solids" "I" ∈ Ts) (hdg : decode cc pc = .ok (.getfield idx, 3)) (kk : W p l e R s m args below meth c H locs cells slots Q (F0 m (pc + 3) ls (.int (gI st 0 i 5) :: rest))) : W p l e R s m args below meth c H locs cells slots Q (F0 m pc ls (.ref (E.2.2.1 0 i) :: rest)) :=
  va_get (D := E.1) (ci := 11) (C := RX12) (T := TX12) (N := 76) C0.1.1 C0.1.2.1 C0.1.2.2.2.2 hin C0.1.2.2.2.1 C0.2 hw.1 (offA cntM 0 + i) (wM_at (by decide) hi) rfl 5 (by decide) (C0.1.2.2.2.2 _ hlink) (fun _ h9 => h9) rfl hdg kk
theorem M_p0_5 (hL : LM E) (C0 : CX p m c cc nL s args Ts own E) (hw : SM E s st H locs) (hin : ∀ w ∈ u_ws RX12 TX12 76, w ∈ Ts) {i : Nat} (hi : i < cntM 0) {v : Int32} {K : Sto → Option β} (h : lt1 (sI st 0 i 5 v) K = some r) {idx : Nat} (hlink : Cond.fieldLink own idx "ColourHouseModel" "solids" "I" ∈ Ts) (hdg : decode cc pc = .ok (.putfield idx, 3)) (kk : ∀ (st1 : Sto) (H1 : Heap) (locs1 : List Loc), SM E s st1 H1 locs1 → K st1 = some r → W p l e R s m args below meth c H1 locs1 cells slots Q (F0 m (pc + 3) ls rest)) : W p l e R s m args below meth c H locs cells slots Q (F0 m pc ls (.int v :: .ref (E.2.2.1 0 i) :: rest)) := by
  refine va_put (D := E.1) (ci := 11) (ty := .int) (C := RX12) (T := TX12) (N := 76) C0.1.1 C0.1.2.1 C0.1.2.2.2.2 hin tyX12 tyX12_ok nmX12 C0.1.2.2.2.1 C0.2 hw.1 (hL _) hw.2 (offA cntM 0 + i) (wM_at (by decide) hi) rfl 5 (by decide) (C0.1.2.2.2.2 _ hlink) (fun _ h9 => h9) rfl (by decide +kernel) rfl rfl (Nat.le_of_ble_eq_true rfl) hdg (fun H1 locs1 hP _ hS => kk _ H1 locs1 ⟨?_, hS⟩ (lt_c h))
  rw [wM_sI (j := 5) (v := v) (by decide) hi (by rw [gI_self]; rfl)] at hP
  exact hP
theorem M_g0_6 (C0 : CX p m c cc nL s args Ts own E) (hw : SM E s st H locs) (hin : ∀ w ∈ u_ws RX12 TX12 76, w ∈ Ts) {i : Nat} (hi : i < cntM 0) {idx : Nat} (hlink : Cond.fieldLink own idx "ColourHouseModel" "lots" "I" ∈ Ts) (hdg : decode cc pc = .ok (.getfield idx, 3)) (kk : W p l e R s m args below meth c H locs cells slots Q (F0 m (pc + 3) ls (.int (gI st 0 i 6) :: rest))) : W p l e R s m args below meth c H locs cells slots Q (F0 m pc ls (.ref (E.2.2.1 0 i) :: rest)) :=
  va_get (D := E.1) (ci := 11) (C := RX12) (T := TX12) (N := 76) C0.1.1 C0.1.2.1 C0.1.2.2.2.2 hin C0.1.2.2.2.1 C0.2 hw.1 (offA cntM 0 + i) (wM_at (by decide) hi) rfl 6 (by decide) (C0.1.2.2.2.2 _ hlink) (fun _ h9 => h9) rfl hdg kk
theorem M_p0_6 (hL : LM E) (C0 : CX p m c cc nL s args Ts own E) (hw : SM E s st H locs) (hin : ∀ w ∈ u_ws RX12 TX12 76, w ∈ Ts) {i : Nat} (hi : i < cntM 0) {v : Int32} {K : Sto → Option β} (h : lt1 (sI st 0 i 6 v) K = some r) {idx : Nat} (hlink : Cond.fieldLink own idx "ColourHouseModel" "lots" "I" ∈ Ts) (hdg : decode cc pc = .ok (.putfield idx, 3)) (kk : ∀ (st1 : Sto) (H1 : Heap) (locs1 : List Loc), SM E s st1 H1 locs1 → K st1 = some r → W p l e R s m args below meth c H1 locs1 cells slots Q (F0 m (pc + 3) ls rest)) : W p l e R s m args below meth c H locs cells slots Q (F0 m pc ls (.int v :: .ref (E.2.2.1 0 i) :: rest)) := by
  refine va_put (D := E.1) (ci := 11) (ty := .int) (C := RX12) (T := TX12) (N := 76) C0.1.1 C0.1.2.1 C0.1.2.2.2.2 hin tyX12 tyX12_ok nmX12 C0.1.2.2.2.1 C0.2 hw.1 (hL _) hw.2 (offA cntM 0 + i) (wM_at (by decide) hi) rfl 6 (by decide) (C0.1.2.2.2.2 _ hlink) (fun _ h9 => h9) rfl (by decide +kernel) rfl rfl (Nat.le_of_ble_eq_true rfl) hdg (fun H1 locs1 hP _ hS => kk _ H1 locs1 ⟨?_, hS⟩ (lt_c h))
  rw [wM_sI (j := 6) (v := v) (by decide) hi (by rw [gI_self]; rfl)] at hP
  exact hP
theorem M_g0_7 (C0 : CX p m c cc nL s args Ts own E) (hw : SM E s st H locs) (hin : ∀ w ∈ u_ws RX12 TX12 76, w ∈ Ts) {i : Nat} (hi : i < cntM 0) {idx : Nat} (hlink : Cond.fieldLink own idx "ColourHouseModel" "batches" "I" ∈ Ts) (hdg : decode cc pc = .ok (.getfield idx, 3)) (kk : W p l e R s m args below meth c H locs cells slots Q (F0 m (pc + 3) ls (.int (gI st 0 i 7) :: rest))) : W p l e R s m args below meth c H locs cells slots Q (F0 m pc ls (.ref (E.2.2.1 0 i) :: rest)) :=
  va_get (D := E.1) (ci := 11) (C := RX12) (T := TX12) (N := 76) C0.1.1 C0.1.2.1 C0.1.2.2.2.2 hin C0.1.2.2.2.1 C0.2 hw.1 (offA cntM 0 + i) (wM_at (by decide) hi) rfl 7 (by decide) (C0.1.2.2.2.2 _ hlink) (fun _ h9 => h9) rfl hdg kk
theorem M_p0_7 (hL : LM E) (C0 : CX p m c cc nL s args Ts own E) (hw : SM E s st H locs) (hin : ∀ w ∈ u_ws RX12 TX12 76, w ∈ Ts) {i : Nat} (hi : i < cntM 0) {v : Int32} {K : Sto → Option β} (h : lt1 (sI st 0 i 7 v) K = some r) {idx : Nat} (hlink : Cond.fieldLink own idx "ColourHouseModel" "batches" "I" ∈ Ts) (hdg : decode cc pc = .ok (.putfield idx, 3)) (kk : ∀ (st1 : Sto) (H1 : Heap) (locs1 : List Loc), SM E s st1 H1 locs1 → K st1 = some r → W p l e R s m args below meth c H1 locs1 cells slots Q (F0 m (pc + 3) ls rest)) : W p l e R s m args below meth c H locs cells slots Q (F0 m pc ls (.int v :: .ref (E.2.2.1 0 i) :: rest)) := by
  refine va_put (D := E.1) (ci := 11) (ty := .int) (C := RX12) (T := TX12) (N := 76) C0.1.1 C0.1.2.1 C0.1.2.2.2.2 hin tyX12 tyX12_ok nmX12 C0.1.2.2.2.1 C0.2 hw.1 (hL _) hw.2 (offA cntM 0 + i) (wM_at (by decide) hi) rfl 7 (by decide) (C0.1.2.2.2.2 _ hlink) (fun _ h9 => h9) rfl (by decide +kernel) rfl rfl (Nat.le_of_ble_eq_true rfl) hdg (fun H1 locs1 hP _ hS => kk _ H1 locs1 ⟨?_, hS⟩ (lt_c h))
  rw [wM_sI (j := 7) (v := v) (by decide) hi (by rw [gI_self]; rfl)] at hP
  exact hP
theorem M_g0_8 (C0 : CX p m c cc nL s args Ts own E) (hw : SM E s st H locs) (hin : ∀ w ∈ u_ws RX12 TX12 76, w ∈ Ts) {i : Nat} (hi : i < cntM 0) {idx : Nat} (hlink : Cond.fieldLink own idx "ColourHouseModel" "parts" "I" ∈ Ts) (hdg : decode cc pc = .ok (.getfield idx, 3)) (kk : W p l e R s m args below meth c H locs cells slots Q (F0 m (pc + 3) ls (.int (gI st 0 i 8) :: rest))) : W p l e R s m args below meth c H locs cells slots Q (F0 m pc ls (.ref (E.2.2.1 0 i) :: rest)) :=
  va_get (D := E.1) (ci := 11) (C := RX12) (T := TX12) (N := 76) C0.1.1 C0.1.2.1 C0.1.2.2.2.2 hin C0.1.2.2.2.1 C0.2 hw.1 (offA cntM 0 + i) (wM_at (by decide) hi) rfl 8 (by decide) (C0.1.2.2.2.2 _ hlink) (fun _ h9 => h9) rfl hdg kk
theorem M_p0_8 (hL : LM E) (C0 : CX p m c cc nL s args Ts own E) (hw : SM E s st H locs) (hin : ∀ w ∈ u_ws RX12 TX12 76, w ∈ Ts) {i : Nat} (hi : i < cntM 0) {v : Int32} {K : Sto → Option β} (h : lt1 (sI st 0 i 8 v) K = some r) {idx : Nat} (hlink : Cond.fieldLink own idx "ColourHouseModel" "parts" "I" ∈ Ts) (hdg : decode cc pc = .ok (.putfield idx, 3)) (kk : ∀ (st1 : Sto) (H1 : Heap) (locs1 : List Loc), SM E s st1 H1 locs1 → K st1 = some r → W p l e R s m args below meth c H1 locs1 cells slots Q (F0 m (pc + 3) ls rest)) : W p l e R s m args below meth c H locs cells slots Q (F0 m pc ls (.int v :: .ref (E.2.2.1 0 i) :: rest)) := by
  refine va_put (D := E.1) (ci := 11) (ty := .int) (C := RX12) (T := TX12) (N := 76) C0.1.1 C0.1.2.1 C0.1.2.2.2.2 hin tyX12 tyX12_ok nmX12 C0.1.2.2.2.1 C0.2 hw.1 (hL _) hw.2 (offA cntM 0 + i) (wM_at (by decide) hi) rfl 8 (by decide) (C0.1.2.2.2.2 _ hlink) (fun _ h9 => h9) rfl (by decide +kernel) rfl rfl (Nat.le_of_ble_eq_true rfl) hdg (fun H1 locs1 hP _ hS => kk _ H1 locs1 ⟨?_, hS⟩ (lt_c h))
  rw [wM_sI (j := 8) (v := v) (by decide) hi (by rw [gI_self]; rfl)] at hP
  exact hP
theorem M_g0_9 (C0 : CX p m c cc nL s args Ts own E) (hw : SM E s st H locs) (hin : ∀ w ∈ u_ws RX12 TX12 76, w ∈ Ts) {i : Nat} (hi : i < cntM 0) {idx : Nat} (hlink : Cond.fieldLink own idx "ColourHouseModel" "trouble" "I" ∈ Ts) (hdg : decode cc pc = .ok (.getfield idx, 3)) (kk : W p l e R s m args below meth c H locs cells slots Q (F0 m (pc + 3) ls (.int (gI st 0 i 9) :: rest))) : W p l e R s m args below meth c H locs cells slots Q (F0 m pc ls (.ref (E.2.2.1 0 i) :: rest)) :=
  va_get (D := E.1) (ci := 11) (C := RX12) (T := TX12) (N := 76) C0.1.1 C0.1.2.1 C0.1.2.2.2.2 hin C0.1.2.2.2.1 C0.2 hw.1 (offA cntM 0 + i) (wM_at (by decide) hi) rfl 9 (by decide) (C0.1.2.2.2.2 _ hlink) (fun _ h9 => h9) rfl hdg kk
theorem M_p0_9 (hL : LM E) (C0 : CX p m c cc nL s args Ts own E) (hw : SM E s st H locs) (hin : ∀ w ∈ u_ws RX12 TX12 76, w ∈ Ts) {i : Nat} (hi : i < cntM 0) {v : Int32} {K : Sto → Option β} (h : lt1 (sI st 0 i 9 v) K = some r) {idx : Nat} (hlink : Cond.fieldLink own idx "ColourHouseModel" "trouble" "I" ∈ Ts) (hdg : decode cc pc = .ok (.putfield idx, 3)) (kk : ∀ (st1 : Sto) (H1 : Heap) (locs1 : List Loc), SM E s st1 H1 locs1 → K st1 = some r → W p l e R s m args below meth c H1 locs1 cells slots Q (F0 m (pc + 3) ls rest)) : W p l e R s m args below meth c H locs cells slots Q (F0 m pc ls (.int v :: .ref (E.2.2.1 0 i) :: rest)) := by
  refine va_put (D := E.1) (ci := 11) (ty := .int) (C := RX12) (T := TX12) (N := 76) C0.1.1 C0.1.2.1 C0.1.2.2.2.2 hin tyX12 tyX12_ok nmX12 C0.1.2.2.2.1 C0.2 hw.1 (hL _) hw.2 (offA cntM 0 + i) (wM_at (by decide) hi) rfl 9 (by decide) (C0.1.2.2.2.2 _ hlink) (fun _ h9 => h9) rfl (by decide +kernel) rfl rfl (Nat.le_of_ble_eq_true rfl) hdg (fun H1 locs1 hP _ hS => kk _ H1 locs1 ⟨?_, hS⟩ (lt_c h))
  rw [wM_sI (j := 9) (v := v) (by decide) hi (by rw [gI_self]; rfl)] at hP
  exact hP
theorem M_g0_10 (C0 : CX p m c cc nL s args Ts own E) (hw : SM E s st H locs) (hin : ∀ w ∈ u_ws RX12 TX12 76, w ∈ Ts) {i : Nat} (hi : i < cntM 0) {idx : Nat} (hlink : Cond.fieldLink own idx "ColourHouseModel" "thrown" "I" ∈ Ts) (hdg : decode cc pc = .ok (.getfield idx, 3)) (kk : W p l e R s m args below meth c H locs cells slots Q (F0 m (pc + 3) ls (.int (gI st 0 i 10) :: rest))) : W p l e R s m args below meth c H locs cells slots Q (F0 m pc ls (.ref (E.2.2.1 0 i) :: rest)) :=
  va_get (D := E.1) (ci := 11) (C := RX12) (T := TX12) (N := 76) C0.1.1 C0.1.2.1 C0.1.2.2.2.2 hin C0.1.2.2.2.1 C0.2 hw.1 (offA cntM 0 + i) (wM_at (by decide) hi) rfl 10 (by decide) (C0.1.2.2.2.2 _ hlink) (fun _ h9 => h9) rfl hdg kk
theorem M_p0_10 (hL : LM E) (C0 : CX p m c cc nL s args Ts own E) (hw : SM E s st H locs) (hin : ∀ w ∈ u_ws RX12 TX12 76, w ∈ Ts) {i : Nat} (hi : i < cntM 0) {v : Int32} {K : Sto → Option β} (h : lt1 (sI st 0 i 10 v) K = some r) {idx : Nat} (hlink : Cond.fieldLink own idx "ColourHouseModel" "thrown" "I" ∈ Ts) (hdg : decode cc pc = .ok (.putfield idx, 3)) (kk : ∀ (st1 : Sto) (H1 : Heap) (locs1 : List Loc), SM E s st1 H1 locs1 → K st1 = some r → W p l e R s m args below meth c H1 locs1 cells slots Q (F0 m (pc + 3) ls rest)) : W p l e R s m args below meth c H locs cells slots Q (F0 m pc ls (.int v :: .ref (E.2.2.1 0 i) :: rest)) := by
  refine va_put (D := E.1) (ci := 11) (ty := .int) (C := RX12) (T := TX12) (N := 76) C0.1.1 C0.1.2.1 C0.1.2.2.2.2 hin tyX12 tyX12_ok nmX12 C0.1.2.2.2.1 C0.2 hw.1 (hL _) hw.2 (offA cntM 0 + i) (wM_at (by decide) hi) rfl 10 (by decide) (C0.1.2.2.2.2 _ hlink) (fun _ h9 => h9) rfl (by decide +kernel) rfl rfl (Nat.le_of_ble_eq_true rfl) hdg (fun H1 locs1 hP _ hS => kk _ H1 locs1 ⟨?_, hS⟩ (lt_c h))
  rw [wM_sI (j := 10) (v := v) (by decide) hi (by rw [gI_self]; rfl)] at hP
  exact hP
theorem M_g0_11 (C0 : CX p m c cc nL s args Ts own E) (hw : SM E s st H locs) (hin : ∀ w ∈ u_ws RX12 TX12 76, w ∈ Ts) {i : Nat} (hi : i < cntM 0) {idx : Nat} (hlink : Cond.fieldLink own idx "ColourHouseModel" "dyeCloth" "[I" ∈ Ts) (hdg : decode cc pc = .ok (.getfield idx, 3)) (kk : W p l e R s m args below meth c H locs cells slots Q (F0 m (pc + 3) ls (.ref (E.2.2.1 12 (0)) :: rest))) : W p l e R s m args below meth c H locs cells slots Q (F0 m pc ls (.ref (E.2.2.1 0 i) :: rest)) :=
  va_get (D := E.1) (ci := 11) (C := RX12) (T := TX12) (N := 76) C0.1.1 C0.1.2.1 C0.1.2.2.2.2 hin C0.1.2.2.2.1 C0.2 hw.1 (offA cntM 0 + i) (wM_at (by decide) hi) rfl 11 (by decide) (C0.1.2.2.2.2 _ hlink) (fun _ h9 => h9) rfl hdg kk
theorem M_g0_12 (C0 : CX p m c cc nL s args Ts own E) (hw : SM E s st H locs) (hin : ∀ w ∈ u_ws RX12 TX12 76, w ∈ Ts) {i : Nat} (hi : i < cntM 0) {idx : Nat} (hlink : Cond.fieldLink own idx "ColourHouseModel" "strengths" "[I" ∈ Ts) (hdg : decode cc pc = .ok (.getfield idx, 3)) (kk : W p l e R s m args below meth c H locs cells slots Q (F0 m (pc + 3) ls (.ref (E.2.2.1 13 (0)) :: rest))) : W p l e R s m args below meth c H locs cells slots Q (F0 m pc ls (.ref (E.2.2.1 0 i) :: rest)) :=
  va_get (D := E.1) (ci := 11) (C := RX12) (T := TX12) (N := 76) C0.1.1 C0.1.2.1 C0.1.2.2.2.2 hin C0.1.2.2.2.1 C0.2 hw.1 (offA cntM 0 + i) (wM_at (by decide) hi) rfl 12 (by decide) (C0.1.2.2.2.2 _ hlink) (fun _ h9 => h9) rfl hdg kk
theorem M_g0_13 (C0 : CX p m c cc nL s args Ts own E) (hw : SM E s st H locs) (hin : ∀ w ∈ u_ws RX12 TX12 76, w ∈ Ts) {i : Nat} (hi : i < cntM 0) {idx : Nat} (hlink : Cond.fieldLink own idx "ColourHouseModel" "strengthGrams" "[I" ∈ Ts) (hdg : decode cc pc = .ok (.getfield idx, 3)) (kk : W p l e R s m args below meth c H locs cells slots Q (F0 m (pc + 3) ls (.ref (E.2.2.1 14 (0)) :: rest))) : W p l e R s m args below meth c H locs cells slots Q (F0 m pc ls (.ref (E.2.2.1 0 i) :: rest)) :=
  va_get (D := E.1) (ci := 11) (C := RX12) (T := TX12) (N := 76) C0.1.1 C0.1.2.1 C0.1.2.2.2.2 hin C0.1.2.2.2.1 C0.2 hw.1 (offA cntM 0 + i) (wM_at (by decide) hi) rfl 13 (by decide) (C0.1.2.2.2.2 _ hlink) (fun _ h9 => h9) rfl hdg kk
theorem M_g0_14 (C0 : CX p m c cc nL s args Ts own E) (hw : SM E s st H locs) (hin : ∀ w ∈ u_ws RX12 TX12 76, w ∈ Ts) {i : Nat} (hi : i < cntM 0) {idx : Nat} (hlink : Cond.fieldLink own idx "ColourHouseModel" "cents" "[I" ∈ Ts) (hdg : decode cc pc = .ok (.getfield idx, 3)) (kk : W p l e R s m args below meth c H locs cells slots Q (F0 m (pc + 3) ls (.ref (E.2.2.1 15 (0)) :: rest))) : W p l e R s m args below meth c H locs cells slots Q (F0 m pc ls (.ref (E.2.2.1 0 i) :: rest)) :=
  va_get (D := E.1) (ci := 11) (C := RX12) (T := TX12) (N := 76) C0.1.1 C0.1.2.1 C0.1.2.2.2.2 hin C0.1.2.2.2.1 C0.2 hw.1 (offA cntM 0 + i) (wM_at (by decide) hi) rfl 14 (by decide) (C0.1.2.2.2.2 _ hlink) (fun _ h9 => h9) rfl hdg kk
theorem M_g0_15 (C0 : CX p m c cc nL s args Ts own E) (hw : SM E s st H locs) (hin : ∀ w ∈ u_ws RX12 TX12 76, w ∈ Ts) {i : Nat} (hi : i < cntM 0) {idx : Nat} (hlink : Cond.fieldLink own idx "ColourHouseModel" "lotDye" "[I" ∈ Ts) (hdg : decode cc pc = .ok (.getfield idx, 3)) (kk : W p l e R s m args below meth c H locs cells slots Q (F0 m (pc + 3) ls (.ref (E.2.2.1 16 (0)) :: rest))) : W p l e R s m args below meth c H locs cells slots Q (F0 m pc ls (.ref (E.2.2.1 0 i) :: rest)) :=
  va_get (D := E.1) (ci := 11) (C := RX12) (T := TX12) (N := 76) C0.1.1 C0.1.2.1 C0.1.2.2.2.2 hin C0.1.2.2.2.1 C0.2 hw.1 (offA cntM 0 + i) (wM_at (by decide) hi) rfl 15 (by decide) (C0.1.2.2.2.2 _ hlink) (fun _ h9 => h9) rfl hdg kk
theorem M_g0_16 (C0 : CX p m c cc nL s args Ts own E) (hw : SM E s st H locs) (hin : ∀ w ∈ u_ws RX12 TX12 76, w ∈ Ts) {i : Nat} (hi : i < cntM 0) {idx : Nat} (hlink : Cond.fieldLink own idx "ColourHouseModel" "lotUp" "[I" ∈ Ts) (hdg : decode cc pc = .ok (.getfield idx, 3)) (kk : W p l e R s m args below meth c H locs cells slots Q (F0 m (pc + 3) ls (.ref (E.2.2.1 17 (0)) :: rest))) : W p l e R s m args below meth c H locs cells slots Q (F0 m pc ls (.ref (E.2.2.1 0 i) :: rest)) :=
  va_get (D := E.1) (ci := 11) (C := RX12) (T := TX12) (N := 76) C0.1.1 C0.1.2.1 C0.1.2.2.2.2 hin C0.1.2.2.2.1 C0.2 hw.1 (offA cntM 0 + i) (wM_at (by decide) hi) rfl 16 (by decide) (C0.1.2.2.2.2 _ hlink) (fun _ h9 => h9) rfl hdg kk
theorem M_g0_17 (C0 : CX p m c cc nL s args Ts own E) (hw : SM E s st H locs) (hin : ∀ w ∈ u_ws RX12 TX12 76, w ∈ Ts) {i : Nat} (hi : i < cntM 0) {idx : Nat} (hlink : Cond.fieldLink own idx "ColourHouseModel" "lotDown" "[I" ∈ Ts) (hdg : decode cc pc = .ok (.getfield idx, 3)) (kk : W p l e R s m args below meth c H locs cells slots Q (F0 m (pc + 3) ls (.ref (E.2.2.1 18 (0)) :: rest))) : W p l e R s m args below meth c H locs cells slots Q (F0 m pc ls (.ref (E.2.2.1 0 i) :: rest)) :=
  va_get (D := E.1) (ci := 11) (C := RX12) (T := TX12) (N := 76) C0.1.1 C0.1.2.1 C0.1.2.2.2.2 hin C0.1.2.2.2.1 C0.2 hw.1 (offA cntM 0 + i) (wM_at (by decide) hi) rfl 17 (by decide) (C0.1.2.2.2.2 _ hlink) (fun _ h9 => h9) rfl hdg kk
theorem M_g0_18 (C0 : CX p m c cc nL s args Ts own E) (hw : SM E s st H locs) (hin : ∀ w ∈ u_ws RX12 TX12 76, w ∈ Ts) {i : Nat} (hi : i < cntM 0) {idx : Nat} (hlink : Cond.fieldLink own idx "ColourHouseModel" "lotIn" "[I" ∈ Ts) (hdg : decode cc pc = .ok (.getfield idx, 3)) (kk : W p l e R s m args below meth c H locs cells slots Q (F0 m (pc + 3) ls (.ref (E.2.2.1 19 (0)) :: rest))) : W p l e R s m args below meth c H locs cells slots Q (F0 m pc ls (.ref (E.2.2.1 0 i) :: rest)) :=
  va_get (D := E.1) (ci := 11) (C := RX12) (T := TX12) (N := 76) C0.1.1 C0.1.2.1 C0.1.2.2.2.2 hin C0.1.2.2.2.1 C0.2 hw.1 (offA cntM 0 + i) (wM_at (by decide) hi) rfl 18 (by decide) (C0.1.2.2.2.2 _ hlink) (fun _ h9 => h9) rfl hdg kk
theorem M_g0_19 (C0 : CX p m c cc nL s args Ts own E) (hw : SM E s st H locs) (hin : ∀ w ∈ u_ws RX12 TX12 76, w ∈ Ts) {i : Nat} (hi : i < cntM 0) {idx : Nat} (hlink : Cond.fieldLink own idx "ColourHouseModel" "lotLeft" "[I" ∈ Ts) (hdg : decode cc pc = .ok (.getfield idx, 3)) (kk : W p l e R s m args below meth c H locs cells slots Q (F0 m (pc + 3) ls (.ref (E.2.2.1 20 (0)) :: rest))) : W p l e R s m args below meth c H locs cells slots Q (F0 m pc ls (.ref (E.2.2.1 0 i) :: rest)) :=
  va_get (D := E.1) (ci := 11) (C := RX12) (T := TX12) (N := 76) C0.1.1 C0.1.2.1 C0.1.2.2.2.2 hin C0.1.2.2.2.1 C0.2 hw.1 (offA cntM 0 + i) (wM_at (by decide) hi) rfl 19 (by decide) (C0.1.2.2.2.2 _ hlink) (fun _ h9 => h9) rfl hdg kk
theorem M_g0_20 (C0 : CX p m c cc nL s args Ts own E) (hw : SM E s st H locs) (hin : ∀ w ∈ u_ws RX12 TX12 76, w ∈ Ts) {i : Nat} (hi : i < cntM 0) {idx : Nat} (hlink : Cond.fieldLink own idx "ColourHouseModel" "batchCloth" "[I" ∈ Ts) (hdg : decode cc pc = .ok (.getfield idx, 3)) (kk : W p l e R s m args below meth c H locs cells slots Q (F0 m (pc + 3) ls (.ref (E.2.2.1 21 (0)) :: rest))) : W p l e R s m args below meth c H locs cells slots Q (F0 m pc ls (.ref (E.2.2.1 0 i) :: rest)) :=
  va_get (D := E.1) (ci := 11) (C := RX12) (T := TX12) (N := 76) C0.1.1 C0.1.2.1 C0.1.2.2.2.2 hin C0.1.2.2.2.1 C0.2 hw.1 (offA cntM 0 + i) (wM_at (by decide) hi) rfl 20 (by decide) (C0.1.2.2.2.2 _ hlink) (fun _ h9 => h9) rfl hdg kk
theorem M_g0_21 (C0 : CX p m c cc nL s args Ts own E) (hw : SM E s st H locs) (hin : ∀ w ∈ u_ws RX12 TX12 76, w ∈ Ts) {i : Nat} (hi : i < cntM 0) {idx : Nat} (hlink : Cond.fieldLink own idx "ColourHouseModel" "batchKilos" "[I" ∈ Ts) (hdg : decode cc pc = .ok (.getfield idx, 3)) (kk : W p l e R s m args below meth c H locs cells slots Q (F0 m (pc + 3) ls (.ref (E.2.2.1 22 (0)) :: rest))) : W p l e R s m args below meth c H locs cells slots Q (F0 m pc ls (.ref (E.2.2.1 0 i) :: rest)) :=
  va_get (D := E.1) (ci := 11) (C := RX12) (T := TX12) (N := 76) C0.1.1 C0.1.2.1 C0.1.2.2.2.2 hin C0.1.2.2.2.1 C0.2 hw.1 (offA cntM 0 + i) (wM_at (by decide) hi) rfl 21 (by decide) (C0.1.2.2.2.2 _ hlink) (fun _ h9 => h9) rfl hdg kk
theorem M_g0_22 (C0 : CX p m c cc nL s args Ts own E) (hw : SM E s st H locs) (hin : ∀ w ∈ u_ws RX12 TX12 76, w ∈ Ts) {i : Nat} (hi : i < cntM 0) {idx : Nat} (hlink : Cond.fieldLink own idx "ColourHouseModel" "batchLots" "[I" ∈ Ts) (hdg : decode cc pc = .ok (.getfield idx, 3)) (kk : W p l e R s m args below meth c H locs cells slots Q (F0 m (pc + 3) ls (.ref (E.2.2.1 23 (0)) :: rest))) : W p l e R s m args below meth c H locs cells slots Q (F0 m pc ls (.ref (E.2.2.1 0 i) :: rest)) :=
  va_get (D := E.1) (ci := 11) (C := RX12) (T := TX12) (N := 76) C0.1.1 C0.1.2.1 C0.1.2.2.2.2 hin C0.1.2.2.2.1 C0.2 hw.1 (offA cntM 0 + i) (wM_at (by decide) hi) rfl 22 (by decide) (C0.1.2.2.2.2 _ hlink) (fun _ h9 => h9) rfl hdg kk
theorem M_g0_23 (C0 : CX p m c cc nL s args Ts own E) (hw : SM E s st H locs) (hin : ∀ w ∈ u_ws RX12 TX12 76, w ∈ Ts) {i : Nat} (hi : i < cntM 0) {idx : Nat} (hlink : Cond.fieldLink own idx "ColourHouseModel" "batchLot" "[I" ∈ Ts) (hdg : decode cc pc = .ok (.getfield idx, 3)) (kk : W p l e R s m args below meth c H locs cells slots Q (F0 m (pc + 3) ls (.ref (E.2.2.1 24 (0)) :: rest))) : W p l e R s m args below meth c H locs cells slots Q (F0 m pc ls (.ref (E.2.2.1 0 i) :: rest)) :=
  va_get (D := E.1) (ci := 11) (C := RX12) (T := TX12) (N := 76) C0.1.1 C0.1.2.1 C0.1.2.2.2.2 hin C0.1.2.2.2.1 C0.2 hw.1 (offA cntM 0 + i) (wM_at (by decide) hi) rfl 23 (by decide) (C0.1.2.2.2.2 _ hlink) (fun _ h9 => h9) rfl hdg kk
theorem M_g0_24 (C0 : CX p m c cc nL s args Ts own E) (hw : SM E s st H locs) (hin : ∀ w ∈ u_ws RX12 TX12 76, w ∈ Ts) {i : Nat} (hi : i < cntM 0) {idx : Nat} (hlink : Cond.fieldLink own idx "ColourHouseModel" "batchGrams" "[I" ∈ Ts) (hdg : decode cc pc = .ok (.getfield idx, 3)) (kk : W p l e R s m args below meth c H locs cells slots Q (F0 m (pc + 3) ls (.ref (E.2.2.1 25 (0)) :: rest))) : W p l e R s m args below meth c H locs cells slots Q (F0 m pc ls (.ref (E.2.2.1 0 i) :: rest)) :=
  va_get (D := E.1) (ci := 11) (C := RX12) (T := TX12) (N := 76) C0.1.1 C0.1.2.1 C0.1.2.2.2.2 hin C0.1.2.2.2.1 C0.2 hw.1 (offA cntM 0 + i) (wM_at (by decide) hi) rfl 24 (by decide) (C0.1.2.2.2.2 _ hlink) (fun _ h9 => h9) rfl hdg kk
theorem M_g0_25 (C0 : CX p m c cc nL s args Ts own E) (hw : SM E s st H locs) (hin : ∀ w ∈ u_ws RX12 TX12 76, w ∈ Ts) {i : Nat} (hi : i < cntM 0) {idx : Nat} (hlink : Cond.fieldLink own idx "ColourHouseModel" "isMeasured" "[Z" ∈ Ts) (hdg : decode cc pc = .ok (.getfield idx, 3)) (kk : W p l e R s m args below meth c H locs cells slots Q (F0 m (pc + 3) ls (.ref (E.2.2.1 26 (0)) :: rest))) : W p l e R s m args below meth c H locs cells slots Q (F0 m pc ls (.ref (E.2.2.1 0 i) :: rest)) :=
  va_get (D := E.1) (ci := 11) (C := RX12) (T := TX12) (N := 76) C0.1.1 C0.1.2.1 C0.1.2.2.2.2 hin C0.1.2.2.2.1 C0.2 hw.1 (offA cntM 0 + i) (wM_at (by decide) hi) rfl 25 (by decide) (C0.1.2.2.2.2 _ hlink) (fun _ h9 => h9) rfl hdg kk
theorem M_g0_26 (C0 : CX p m c cc nL s args Ts own E) (hw : SM E s st H locs) (hin : ∀ w ∈ u_ws RX12 TX12 76, w ∈ Ts) {i : Nat} (hi : i < cntM 0) {idx : Nat} (hlink : Cond.fieldLink own idx "ColourHouseModel" "lights" "[I" ∈ Ts) (hdg : decode cc pc = .ok (.getfield idx, 3)) (kk : W p l e R s m args below meth c H locs cells slots Q (F0 m (pc + 3) ls (.ref (E.2.2.1 27 (0)) :: rest))) : W p l e R s m args below meth c H locs cells slots Q (F0 m pc ls (.ref (E.2.2.1 0 i) :: rest)) :=
  va_get (D := E.1) (ci := 11) (C := RX12) (T := TX12) (N := 76) C0.1.1 C0.1.2.1 C0.1.2.2.2.2 hin C0.1.2.2.2.1 C0.2 hw.1 (offA cntM 0 + i) (wM_at (by decide) hi) rfl 26 (by decide) (C0.1.2.2.2.2 _ hlink) (fun _ h9 => h9) rfl hdg kk
theorem M_g0_27 (C0 : CX p m c cc nL s args Ts own E) (hw : SM E s st H locs) (hin : ∀ w ∈ u_ws RX12 TX12 76, w ∈ Ts) {i : Nat} (hi : i < cntM 0) {idx : Nat} (hlink : Cond.fieldLink own idx "ColourHouseModel" "eyes" "[I" ∈ Ts) (hdg : decode cc pc = .ok (.getfield idx, 3)) (kk : W p l e R s m args below meth c H locs cells slots Q (F0 m (pc + 3) ls (.ref (E.2.2.1 28 (0)) :: rest))) : W p l e R s m args below meth c H locs cells slots Q (F0 m pc ls (.ref (E.2.2.1 0 i) :: rest)) :=
  va_get (D := E.1) (ci := 11) (C := RX12) (T := TX12) (N := 76) C0.1.1 C0.1.2.1 C0.1.2.2.2.2 hin C0.1.2.2.2.1 C0.2 hw.1 (offA cntM 0 + i) (wM_at (by decide) hi) rfl 27 (by decide) (C0.1.2.2.2.2 _ hlink) (fun _ h9 => h9) rfl hdg kk
theorem M_g0_28 (C0 : CX p m c cc nL s args Ts own E) (hw : SM E s st H locs) (hin : ∀ w ∈ u_ws RX12 TX12 76, w ∈ Ts) {i : Nat} (hi : i < cntM 0) {idx : Nat} (hlink : Cond.fieldLink own idx "ColourHouseModel" "measures" "[I" ∈ Ts) (hdg : decode cc pc = .ok (.getfield idx, 3)) (kk : W p l e R s m args below meth c H locs cells slots Q (F0 m (pc + 3) ls (.ref (E.2.2.1 29 (0)) :: rest))) : W p l e R s m args below meth c H locs cells slots Q (F0 m pc ls (.ref (E.2.2.1 0 i) :: rest)) :=
  va_get (D := E.1) (ci := 11) (C := RX12) (T := TX12) (N := 76) C0.1.1 C0.1.2.1 C0.1.2.2.2.2 hin C0.1.2.2.2.1 C0.2 hw.1 (offA cntM 0 + i) (wM_at (by decide) hi) rfl 28 (by decide) (C0.1.2.2.2.2 _ hlink) (fun _ h9 => h9) rfl hdg kk
theorem M_g0_29 (C0 : CX p m c cc nL s args Ts own E) (hw : SM E s st H locs) (hin : ∀ w ∈ u_ws RX12 TX12 76, w ∈ Ts) {i : Nat} (hi : i < cntM 0) {idx : Nat} (hlink : Cond.fieldLink own idx "ColourHouseModel" "partWhich" "[I" ∈ Ts) (hdg : decode cc pc = .ok (.getfield idx, 3)) (kk : W p l e R s m args below meth c H locs cells slots Q (F0 m (pc + 3) ls (.ref (E.2.2.1 30 (0)) :: rest))) : W p l e R s m args below meth c H locs cells slots Q (F0 m pc ls (.ref (E.2.2.1 0 i) :: rest)) :=
  va_get (D := E.1) (ci := 11) (C := RX12) (T := TX12) (N := 76) C0.1.1 C0.1.2.1 C0.1.2.2.2.2 hin C0.1.2.2.2.1 C0.2 hw.1 (offA cntM 0 + i) (wM_at (by decide) hi) rfl 29 (by decide) (C0.1.2.2.2.2 _ hlink) (fun _ h9 => h9) rfl hdg kk
theorem M_g0_30 (C0 : CX p m c cc nL s args Ts own E) (hw : SM E s st H locs) (hin : ∀ w ∈ u_ws RX12 TX12 76, w ∈ Ts) {i : Nat} (hi : i < cntM 0) {idx : Nat} (hlink : Cond.fieldLink own idx "ColourHouseModel" "partGrams" "[I" ∈ Ts) (hdg : decode cc pc = .ok (.getfield idx, 3)) (kk : W p l e R s m args below meth c H locs cells slots Q (F0 m (pc + 3) ls (.ref (E.2.2.1 31 (0)) :: rest))) : W p l e R s m args below meth c H locs cells slots Q (F0 m pc ls (.ref (E.2.2.1 0 i) :: rest)) :=
  va_get (D := E.1) (ci := 11) (C := RX12) (T := TX12) (N := 76) C0.1.1 C0.1.2.1 C0.1.2.2.2.2 hin C0.1.2.2.2.1 C0.2 hw.1 (offA cntM 0 + i) (wM_at (by decide) hi) rfl 30 (by decide) (C0.1.2.2.2.2 _ hlink) (fun _ h9 => h9) rfl hdg kk
theorem M_g0_31 (C0 : CX p m c cc nL s args Ts own E) (hw : SM E s st H locs) (hin : ∀ w ∈ u_ws RX12 TX12 76, w ∈ Ts) {i : Nat} (hi : i < cntM 0) {idx : Nat} (hlink : Cond.fieldLink own idx "ColourHouseModel" "partLot" "[Z" ∈ Ts) (hdg : decode cc pc = .ok (.getfield idx, 3)) (kk : W p l e R s m args below meth c H locs cells slots Q (F0 m (pc + 3) ls (.ref (E.2.2.1 32 (0)) :: rest))) : W p l e R s m args below meth c H locs cells slots Q (F0 m pc ls (.ref (E.2.2.1 0 i) :: rest)) :=
  va_get (D := E.1) (ci := 11) (C := RX12) (T := TX12) (N := 76) C0.1.1 C0.1.2.1 C0.1.2.2.2.2 hin C0.1.2.2.2.1 C0.2 hw.1 (offA cntM 0 + i) (wM_at (by decide) hi) rfl 31 (by decide) (C0.1.2.2.2.2 _ hlink) (fun _ h9 => h9) rfl hdg kk
theorem M_g0_32 (C0 : CX p m c cc nL s args Ts own E) (hw : SM E s st H locs) (hin : ∀ w ∈ u_ws RX12 TX12 76, w ∈ Ts) {i : Nat} (hi : i < cntM 0) {idx : Nat} (hlink : Cond.fieldLink own idx "ColourHouseModel" "isPredicted" "Z" ∈ Ts) (hdg : decode cc pc = .ok (.getfield idx, 3)) (kk : W p l e R s m args below meth c H locs cells slots Q (F0 m (pc + 3) ls (.int (gI st 0 i 32) :: rest))) : W p l e R s m args below meth c H locs cells slots Q (F0 m pc ls (.ref (E.2.2.1 0 i) :: rest)) :=
  va_get (D := E.1) (ci := 11) (C := RX12) (T := TX12) (N := 76) C0.1.1 C0.1.2.1 C0.1.2.2.2.2 hin C0.1.2.2.2.1 C0.2 hw.1 (offA cntM 0 + i) (wM_at (by decide) hi) rfl 32 (by decide) (C0.1.2.2.2.2 _ hlink) (fun _ h9 => h9) rfl hdg kk
theorem M_p0_32 (hL : LM E) (C0 : CX p m c cc nL s args Ts own E) (hw : SM E s st H locs) (hin : ∀ w ∈ u_ws RX12 TX12 76, w ∈ Ts) {i : Nat} (hi : i < cntM 0) {v : Int32} {K : Sto → Option β} (h : lt1 (sI st 0 i 32 v) K = some r) (hn : narrow .boolean (.int v) = .int v) (hfit : Jvm.fits .boolean (.int v) = true) {idx : Nat} (hlink : Cond.fieldLink own idx "ColourHouseModel" "isPredicted" "Z" ∈ Ts) (hdg : decode cc pc = .ok (.putfield idx, 3)) (kk : ∀ (st1 : Sto) (H1 : Heap) (locs1 : List Loc), SM E s st1 H1 locs1 → K st1 = some r → W p l e R s m args below meth c H1 locs1 cells slots Q (F0 m (pc + 3) ls rest)) : W p l e R s m args below meth c H locs cells slots Q (F0 m pc ls (.int v :: .ref (E.2.2.1 0 i) :: rest)) := by
  refine va_put (D := E.1) (ci := 11) (ty := .boolean) (C := RX12) (T := TX12) (N := 76) C0.1.1 C0.1.2.1 C0.1.2.2.2.2 hin tyX12 tyX12_ok nmX12 C0.1.2.2.2.1 C0.2 hw.1 (hL _) hw.2 (offA cntM 0 + i) (wM_at (by decide) hi) rfl 32 (by decide) (C0.1.2.2.2.2 _ hlink) (fun _ h9 => h9) rfl (by decide +kernel) hn hfit (Nat.le_of_ble_eq_true rfl) hdg (fun H1 locs1 hP _ hS => kk _ H1 locs1 ⟨?_, hS⟩ (lt_c h))
  rw [wM_sI (j := 32) (v := v) (by decide) hi (by rw [gI_self]; rfl)] at hP
  exact hP
theorem M_g0_33 (C0 : CX p m c cc nL s args Ts own E) (hw : SM E s st H locs) (hin : ∀ w ∈ u_ws RX12 TX12 76, w ∈ Ts) {i : Nat} (hi : i < cntM 0) {idx : Nat} (hlink : Cond.fieldLink own idx "ColourHouseModel" "solidSort" "[I" ∈ Ts) (hdg : decode cc pc = .ok (.getfield idx, 3)) (kk : W p l e R s m args below meth c H locs cells slots Q (F0 m (pc + 3) ls (.ref (E.2.2.1 34 (0)) :: rest))) : W p l e R s m args below meth c H locs cells slots Q (F0 m pc ls (.ref (E.2.2.1 0 i) :: rest)) :=
  va_get (D := E.1) (ci := 11) (C := RX12) (T := TX12) (N := 76) C0.1.1 C0.1.2.1 C0.1.2.2.2.2 hin C0.1.2.2.2.1 C0.2 hw.1 (offA cntM 0 + i) (wM_at (by decide) hi) rfl 33 (by decide) (C0.1.2.2.2.2 _ hlink) (fun _ h9 => h9) rfl hdg kk
theorem M_g0_34 (C0 : CX p m c cc nL s args Ts own E) (hw : SM E s st H locs) (hin : ∀ w ∈ u_ws RX12 TX12 76, w ∈ Ts) {i : Nat} (hi : i < cntM 0) {idx : Nat} (hlink : Cond.fieldLink own idx "ColourHouseModel" "solidLight" "[I" ∈ Ts) (hdg : decode cc pc = .ok (.getfield idx, 3)) (kk : W p l e R s m args below meth c H locs cells slots Q (F0 m (pc + 3) ls (.ref (E.2.2.1 35 (0)) :: rest))) : W p l e R s m args below meth c H locs cells slots Q (F0 m pc ls (.ref (E.2.2.1 0 i) :: rest)) :=
  va_get (D := E.1) (ci := 11) (C := RX12) (T := TX12) (N := 76) C0.1.1 C0.1.2.1 C0.1.2.2.2.2 hin C0.1.2.2.2.1 C0.2 hw.1 (offA cntM 0 + i) (wM_at (by decide) hi) rfl 34 (by decide) (C0.1.2.2.2.2 _ hlink) (fun _ h9 => h9) rfl hdg kk
theorem M_g0_35 (C0 : CX p m c cc nL s args Ts own E) (hw : SM E s st H locs) (hin : ∀ w ∈ u_ws RX12 TX12 76, w ∈ Ts) {i : Nat} (hi : i < cntM 0) {idx : Nat} (hlink : Cond.fieldLink own idx "ColourHouseModel" "solidEye" "[I" ∈ Ts) (hdg : decode cc pc = .ok (.getfield idx, 3)) (kk : W p l e R s m args below meth c H locs cells slots Q (F0 m (pc + 3) ls (.ref (E.2.2.1 36 (0)) :: rest))) : W p l e R s m args below meth c H locs cells slots Q (F0 m pc ls (.ref (E.2.2.1 0 i) :: rest)) :=
  va_get (D := E.1) (ci := 11) (C := RX12) (T := TX12) (N := 76) C0.1.1 C0.1.2.1 C0.1.2.2.2.2 hin C0.1.2.2.2.1 C0.2 hw.1 (offA cntM 0 + i) (wM_at (by decide) hi) rfl 35 (by decide) (C0.1.2.2.2.2 _ hlink) (fun _ h9 => h9) rfl hdg kk
theorem M_g0_36 (C0 : CX p m c cc nL s args Ts own E) (hw : SM E s st H locs) (hin : ∀ w ∈ u_ws RX12 TX12 76, w ∈ Ts) {i : Nat} (hi : i < cntM 0) {idx : Nat} (hlink : Cond.fieldLink own idx "ColourHouseModel" "solidColour" "[D" ∈ Ts) (hdg : decode cc pc = .ok (.getfield idx, 3)) (kk : W p l e R s m args below meth c H locs cells slots Q (F0 m (pc + 3) ls (.ref (E.2.2.1 37 (0)) :: rest))) : W p l e R s m args below meth c H locs cells slots Q (F0 m pc ls (.ref (E.2.2.1 0 i) :: rest)) :=
  va_get (D := E.1) (ci := 11) (C := RX12) (T := TX12) (N := 76) C0.1.1 C0.1.2.1 C0.1.2.2.2.2 hin C0.1.2.2.2.1 C0.2 hw.1 (offA cntM 0 + i) (wM_at (by decide) hi) rfl 36 (by decide) (C0.1.2.2.2.2 _ hlink) (fun _ h9 => h9) rfl hdg kk
theorem M_g0_37 (C0 : CX p m c cc nL s args Ts own E) (hw : SM E s st H locs) (hin : ∀ w ∈ u_ws RX12 TX12 76, w ∈ Ts) {i : Nat} (hi : i < cntM 0) {idx : Nat} (hlink : Cond.fieldLink own idx "ColourHouseModel" "solidSize" "[D" ∈ Ts) (hdg : decode cc pc = .ok (.getfield idx, 3)) (kk : W p l e R s m args below meth c H locs cells slots Q (F0 m (pc + 3) ls (.ref (E.2.2.1 38 (0)) :: rest))) : W p l e R s m args below meth c H locs cells slots Q (F0 m pc ls (.ref (E.2.2.1 0 i) :: rest)) :=
  va_get (D := E.1) (ci := 11) (C := RX12) (T := TX12) (N := 76) C0.1.1 C0.1.2.1 C0.1.2.2.2.2 hin C0.1.2.2.2.1 C0.2 hw.1 (offA cntM 0 + i) (wM_at (by decide) hi) rfl 37 (by decide) (C0.1.2.2.2.2 _ hlink) (fun _ h9 => h9) rfl hdg kk
theorem M_g0_38 (C0 : CX p m c cc nL s args Ts own E) (hw : SM E s st H locs) (hin : ∀ w ∈ u_ws RX12 TX12 76, w ∈ Ts) {i : Nat} (hi : i < cntM 0) {idx : Nat} (hlink : Cond.fieldLink own idx "ColourHouseModel" "actKind" "[I" ∈ Ts) (hdg : decode cc pc = .ok (.getfield idx, 3)) (kk : W p l e R s m args below meth c H locs cells slots Q (F0 m (pc + 3) ls (.ref (E.2.2.1 39 (0)) :: rest))) : W p l e R s m args below meth c H locs cells slots Q (F0 m pc ls (.ref (E.2.2.1 0 i) :: rest)) :=
  va_get (D := E.1) (ci := 11) (C := RX12) (T := TX12) (N := 76) C0.1.1 C0.1.2.1 C0.1.2.2.2.2 hin C0.1.2.2.2.1 C0.2 hw.1 (offA cntM 0 + i) (wM_at (by decide) hi) rfl 38 (by decide) (C0.1.2.2.2.2 _ hlink) (fun _ h9 => h9) rfl hdg kk
theorem M_g0_39 (C0 : CX p m c cc nL s args Ts own E) (hw : SM E s st H locs) (hin : ∀ w ∈ u_ws RX12 TX12 76, w ∈ Ts) {i : Nat} (hi : i < cntM 0) {idx : Nat} (hlink : Cond.fieldLink own idx "ColourHouseModel" "actWhich" "[I" ∈ Ts) (hdg : decode cc pc = .ok (.getfield idx, 3)) (kk : W p l e R s m args below meth c H locs cells slots Q (F0 m (pc + 3) ls (.ref (E.2.2.1 40 (0)) :: rest))) : W p l e R s m args below meth c H locs cells slots Q (F0 m pc ls (.ref (E.2.2.1 0 i) :: rest)) :=
  va_get (D := E.1) (ci := 11) (C := RX12) (T := TX12) (N := 76) C0.1.1 C0.1.2.1 C0.1.2.2.2.2 hin C0.1.2.2.2.1 C0.2 hw.1 (offA cntM 0 + i) (wM_at (by decide) hi) rfl 39 (by decide) (C0.1.2.2.2.2 _ hlink) (fun _ h9 => h9) rfl hdg kk
theorem M_g0_40 (C0 : CX p m c cc nL s args Ts own E) (hw : SM E s st H locs) (hin : ∀ w ∈ u_ws RX12 TX12 76, w ∈ Ts) {i : Nat} (hi : i < cntM 0) {idx : Nat} (hlink : Cond.fieldLink own idx "ColourHouseModel" "actOne" "[I" ∈ Ts) (hdg : decode cc pc = .ok (.getfield idx, 3)) (kk : W p l e R s m args below meth c H locs cells slots Q (F0 m (pc + 3) ls (.ref (E.2.2.1 41 (0)) :: rest))) : W p l e R s m args below meth c H locs cells slots Q (F0 m pc ls (.ref (E.2.2.1 0 i) :: rest)) :=
  va_get (D := E.1) (ci := 11) (C := RX12) (T := TX12) (N := 76) C0.1.1 C0.1.2.1 C0.1.2.2.2.2 hin C0.1.2.2.2.1 C0.2 hw.1 (offA cntM 0 + i) (wM_at (by decide) hi) rfl 40 (by decide) (C0.1.2.2.2.2 _ hlink) (fun _ h9 => h9) rfl hdg kk
theorem M_g0_41 (C0 : CX p m c cc nL s args Ts own E) (hw : SM E s st H locs) (hin : ∀ w ∈ u_ws RX12 TX12 76, w ∈ Ts) {i : Nat} (hi : i < cntM 0) {idx : Nat} (hlink : Cond.fieldLink own idx "ColourHouseModel" "actTwo" "[I" ∈ Ts) (hdg : decode cc pc = .ok (.getfield idx, 3)) (kk : W p l e R s m args below meth c H locs cells slots Q (F0 m (pc + 3) ls (.ref (E.2.2.1 42 (0)) :: rest))) : W p l e R s m args below meth c H locs cells slots Q (F0 m pc ls (.ref (E.2.2.1 0 i) :: rest)) :=
  va_get (D := E.1) (ci := 11) (C := RX12) (T := TX12) (N := 76) C0.1.1 C0.1.2.1 C0.1.2.2.2.2 hin C0.1.2.2.2.1 C0.2 hw.1 (offA cntM 0 + i) (wM_at (by decide) hi) rfl 41 (by decide) (C0.1.2.2.2.2 _ hlink) (fun _ h9 => h9) rfl hdg kk
theorem M_g0_42 (C0 : CX p m c cc nL s args Ts own E) (hw : SM E s st H locs) (hin : ∀ w ∈ u_ws RX12 TX12 76, w ∈ Ts) {i : Nat} (hi : i < cntM 0) {idx : Nat} (hlink : Cond.fieldLink own idx "ColourHouseModel" "actBands" "[F" ∈ Ts) (hdg : decode cc pc = .ok (.getfield idx, 3)) (kk : W p l e R s m args below meth c H locs cells slots Q (F0 m (pc + 3) ls (.ref (E.2.2.1 43 (0)) :: rest))) : W p l e R s m args below meth c H locs cells slots Q (F0 m pc ls (.ref (E.2.2.1 0 i) :: rest)) :=
  va_get (D := E.1) (ci := 11) (C := RX12) (T := TX12) (N := 76) C0.1.1 C0.1.2.1 C0.1.2.2.2.2 hin C0.1.2.2.2.1 C0.2 hw.1 (offA cntM 0 + i) (wM_at (by decide) hi) rfl 42 (by decide) (C0.1.2.2.2.2 _ hlink) (fun _ h9 => h9) rfl hdg kk
theorem M_g0_43 (C0 : CX p m c cc nL s args Ts own E) (hw : SM E s st H locs) (hin : ∀ w ∈ u_ws RX12 TX12 76, w ∈ Ts) {i : Nat} (hi : i < cntM 0) {idx : Nat} (hlink : Cond.fieldLink own idx "ColourHouseModel" "actDrifts" "[F" ∈ Ts) (hdg : decode cc pc = .ok (.getfield idx, 3)) (kk : W p l e R s m args below meth c H locs cells slots Q (F0 m (pc + 3) ls (.ref (E.2.2.1 44 (0)) :: rest))) : W p l e R s m args below meth c H locs cells slots Q (F0 m pc ls (.ref (E.2.2.1 0 i) :: rest)) :=
  va_get (D := E.1) (ci := 11) (C := RX12) (T := TX12) (N := 76) C0.1.1 C0.1.2.1 C0.1.2.2.2.2 hin C0.1.2.2.2.1 C0.2 hw.1 (offA cntM 0 + i) (wM_at (by decide) hi) rfl 43 (by decide) (C0.1.2.2.2.2 _ hlink) (fun _ h9 => h9) rfl hdg kk
theorem M_g0_44 (C0 : CX p m c cc nL s args Ts own E) (hw : SM E s st H locs) (hin : ∀ w ∈ u_ws RX12 TX12 76, w ∈ Ts) {i : Nat} (hi : i < cntM 0) {idx : Nat} (hlink : Cond.fieldLink own idx "ColourHouseModel" "acts" "I" ∈ Ts) (hdg : decode cc pc = .ok (.getfield idx, 3)) (kk : W p l e R s m args below meth c H locs cells slots Q (F0 m (pc + 3) ls (.int (gI st 0 i 44) :: rest))) : W p l e R s m args below meth c H locs cells slots Q (F0 m pc ls (.ref (E.2.2.1 0 i) :: rest)) :=
  va_get (D := E.1) (ci := 11) (C := RX12) (T := TX12) (N := 76) C0.1.1 C0.1.2.1 C0.1.2.2.2.2 hin C0.1.2.2.2.1 C0.2 hw.1 (offA cntM 0 + i) (wM_at (by decide) hi) rfl 44 (by decide) (C0.1.2.2.2.2 _ hlink) (fun _ h9 => h9) rfl hdg kk
theorem M_p0_44 (hL : LM E) (C0 : CX p m c cc nL s args Ts own E) (hw : SM E s st H locs) (hin : ∀ w ∈ u_ws RX12 TX12 76, w ∈ Ts) {i : Nat} (hi : i < cntM 0) {v : Int32} {K : Sto → Option β} (h : lt1 (sI st 0 i 44 v) K = some r) {idx : Nat} (hlink : Cond.fieldLink own idx "ColourHouseModel" "acts" "I" ∈ Ts) (hdg : decode cc pc = .ok (.putfield idx, 3)) (kk : ∀ (st1 : Sto) (H1 : Heap) (locs1 : List Loc), SM E s st1 H1 locs1 → K st1 = some r → W p l e R s m args below meth c H1 locs1 cells slots Q (F0 m (pc + 3) ls rest)) : W p l e R s m args below meth c H locs cells slots Q (F0 m pc ls (.int v :: .ref (E.2.2.1 0 i) :: rest)) := by
  refine va_put (D := E.1) (ci := 11) (ty := .int) (C := RX12) (T := TX12) (N := 76) C0.1.1 C0.1.2.1 C0.1.2.2.2.2 hin tyX12 tyX12_ok nmX12 C0.1.2.2.2.1 C0.2 hw.1 (hL _) hw.2 (offA cntM 0 + i) (wM_at (by decide) hi) rfl 44 (by decide) (C0.1.2.2.2.2 _ hlink) (fun _ h9 => h9) rfl (by decide +kernel) rfl rfl (Nat.le_of_ble_eq_true rfl) hdg (fun H1 locs1 hP _ hS => kk _ H1 locs1 ⟨?_, hS⟩ (lt_c h))
  rw [wM_sI (j := 44) (v := v) (by decide) hi (by rw [gI_self]; rfl)] at hP
  exact hP
theorem M_g0_45 (C0 : CX p m c cc nL s args Ts own E) (hw : SM E s st H locs) (hin : ∀ w ∈ u_ws RX12 TX12 76, w ∈ Ts) {i : Nat} (hi : i < cntM 0) {idx : Nat} (hlink : Cond.fieldLink own idx "ColourHouseModel" "goal" "[D" ∈ Ts) (hdg : decode cc pc = .ok (.getfield idx, 3)) (kk : W p l e R s m args below meth c H locs cells slots Q (F0 m (pc + 3) ls (.ref (E.2.2.1 46 (0)) :: rest))) : W p l e R s m args below meth c H locs cells slots Q (F0 m pc ls (.ref (E.2.2.1 0 i) :: rest)) :=
  va_get (D := E.1) (ci := 11) (C := RX12) (T := TX12) (N := 76) C0.1.1 C0.1.2.1 C0.1.2.2.2.2 hin C0.1.2.2.2.1 C0.2 hw.1 (offA cntM 0 + i) (wM_at (by decide) hi) rfl 45 (by decide) (C0.1.2.2.2.2 _ hlink) (fun _ h9 => h9) rfl hdg kk
theorem M_g0_46 (C0 : CX p m c cc nL s args Ts own E) (hw : SM E s st H locs) (hin : ∀ w ∈ u_ws RX12 TX12 76, w ∈ Ts) {i : Nat} (hi : i < cntM 0) {idx : Nat} (hlink : Cond.fieldLink own idx "ColourHouseModel" "far" "[D" ∈ Ts) (hdg : decode cc pc = .ok (.getfield idx, 3)) (kk : W p l e R s m args below meth c H locs cells slots Q (F0 m (pc + 3) ls (.ref (E.2.2.1 47 (0)) :: rest))) : W p l e R s m args below meth c H locs cells slots Q (F0 m pc ls (.ref (E.2.2.1 0 i) :: rest)) :=
  va_get (D := E.1) (ci := 11) (C := RX12) (T := TX12) (N := 76) C0.1.1 C0.1.2.1 C0.1.2.2.2.2 hin C0.1.2.2.2.1 C0.2 hw.1 (offA cntM 0 + i) (wM_at (by decide) hi) rfl 46 (by decide) (C0.1.2.2.2.2 _ hlink) (fun _ h9 => h9) rfl hdg kk
theorem M_g0_47 (C0 : CX p m c cc nL s args Ts own E) (hw : SM E s st H locs) (hin : ∀ w ∈ u_ws RX12 TX12 76, w ∈ Ts) {i : Nat} (hi : i < cntM 0) {idx : Nat} (hlink : Cond.fieldLink own idx "ColourHouseModel" "tried" "[I" ∈ Ts) (hdg : decode cc pc = .ok (.getfield idx, 3)) (kk : W p l e R s m args below meth c H locs cells slots Q (F0 m (pc + 3) ls (.ref (E.2.2.1 48 (0)) :: rest))) : W p l e R s m args below meth c H locs cells slots Q (F0 m pc ls (.ref (E.2.2.1 0 i) :: rest)) :=
  va_get (D := E.1) (ci := 11) (C := RX12) (T := TX12) (N := 76) C0.1.1 C0.1.2.1 C0.1.2.2.2.2 hin C0.1.2.2.2.1 C0.2 hw.1 (offA cntM 0 + i) (wM_at (by decide) hi) rfl 47 (by decide) (C0.1.2.2.2.2 _ hlink) (fun _ h9 => h9) rfl hdg kk
theorem M_g0_48 (C0 : CX p m c cc nL s args Ts own E) (hw : SM E s st H locs) (hin : ∀ w ∈ u_ws RX12 TX12 76, w ∈ Ts) {i : Nat} (hi : i < cntM 0) {idx : Nat} (hlink : Cond.fieldLink own idx "ColourHouseModel" "best" "[I" ∈ Ts) (hdg : decode cc pc = .ok (.getfield idx, 3)) (kk : W p l e R s m args below meth c H locs cells slots Q (F0 m (pc + 3) ls (.ref (E.2.2.1 49 (0)) :: rest))) : W p l e R s m args below meth c H locs cells slots Q (F0 m pc ls (.ref (E.2.2.1 0 i) :: rest)) :=
  va_get (D := E.1) (ci := 11) (C := RX12) (T := TX12) (N := 76) C0.1.1 C0.1.2.1 C0.1.2.2.2.2 hin C0.1.2.2.2.1 C0.2 hw.1 (offA cntM 0 + i) (wM_at (by decide) hi) rfl 48 (by decide) (C0.1.2.2.2.2 _ hlink) (fun _ h9 => h9) rfl hdg kk
theorem M_g0_49 (C0 : CX p m c cc nL s args Ts own E) (hw : SM E s st H locs) (hin : ∀ w ∈ u_ws RX12 TX12 76, w ∈ Ts) {i : Nat} (hi : i < cntM 0) {idx : Nat} (hlink : Cond.fieldLink own idx "ColourHouseModel" "triedMany" "I" ∈ Ts) (hdg : decode cc pc = .ok (.getfield idx, 3)) (kk : W p l e R s m args below meth c H locs cells slots Q (F0 m (pc + 3) ls (.int (gI st 0 i 49) :: rest))) : W p l e R s m args below meth c H locs cells slots Q (F0 m pc ls (.ref (E.2.2.1 0 i) :: rest)) :=
  va_get (D := E.1) (ci := 11) (C := RX12) (T := TX12) (N := 76) C0.1.1 C0.1.2.1 C0.1.2.2.2.2 hin C0.1.2.2.2.1 C0.2 hw.1 (offA cntM 0 + i) (wM_at (by decide) hi) rfl 49 (by decide) (C0.1.2.2.2.2 _ hlink) (fun _ h9 => h9) rfl hdg kk
theorem M_p0_49 (hL : LM E) (C0 : CX p m c cc nL s args Ts own E) (hw : SM E s st H locs) (hin : ∀ w ∈ u_ws RX12 TX12 76, w ∈ Ts) {i : Nat} (hi : i < cntM 0) {v : Int32} {K : Sto → Option β} (h : lt1 (sI st 0 i 49 v) K = some r) {idx : Nat} (hlink : Cond.fieldLink own idx "ColourHouseModel" "triedMany" "I" ∈ Ts) (hdg : decode cc pc = .ok (.putfield idx, 3)) (kk : ∀ (st1 : Sto) (H1 : Heap) (locs1 : List Loc), SM E s st1 H1 locs1 → K st1 = some r → W p l e R s m args below meth c H1 locs1 cells slots Q (F0 m (pc + 3) ls rest)) : W p l e R s m args below meth c H locs cells slots Q (F0 m pc ls (.int v :: .ref (E.2.2.1 0 i) :: rest)) := by
  refine va_put (D := E.1) (ci := 11) (ty := .int) (C := RX12) (T := TX12) (N := 76) C0.1.1 C0.1.2.1 C0.1.2.2.2.2 hin tyX12 tyX12_ok nmX12 C0.1.2.2.2.1 C0.2 hw.1 (hL _) hw.2 (offA cntM 0 + i) (wM_at (by decide) hi) rfl 49 (by decide) (C0.1.2.2.2.2 _ hlink) (fun _ h9 => h9) rfl (by decide +kernel) rfl rfl (Nat.le_of_ble_eq_true rfl) hdg (fun H1 locs1 hP _ hS => kk _ H1 locs1 ⟨?_, hS⟩ (lt_c h))
  rw [wM_sI (j := 49) (v := v) (by decide) hi (by rw [gI_self]; rfl)] at hP
  exact hP
theorem M_g0_50 (C0 : CX p m c cc nL s args Ts own E) (hw : SM E s st H locs) (hin : ∀ w ∈ u_ws RX12 TX12 76, w ∈ Ts) {i : Nat} (hi : i < cntM 0) {idx : Nat} (hlink : Cond.fieldLink own idx "ColourHouseModel" "bestMany" "I" ∈ Ts) (hdg : decode cc pc = .ok (.getfield idx, 3)) (kk : W p l e R s m args below meth c H locs cells slots Q (F0 m (pc + 3) ls (.int (gI st 0 i 50) :: rest))) : W p l e R s m args below meth c H locs cells slots Q (F0 m pc ls (.ref (E.2.2.1 0 i) :: rest)) :=
  va_get (D := E.1) (ci := 11) (C := RX12) (T := TX12) (N := 76) C0.1.1 C0.1.2.1 C0.1.2.2.2.2 hin C0.1.2.2.2.1 C0.2 hw.1 (offA cntM 0 + i) (wM_at (by decide) hi) rfl 50 (by decide) (C0.1.2.2.2.2 _ hlink) (fun _ h9 => h9) rfl hdg kk
theorem M_p0_50 (hL : LM E) (C0 : CX p m c cc nL s args Ts own E) (hw : SM E s st H locs) (hin : ∀ w ∈ u_ws RX12 TX12 76, w ∈ Ts) {i : Nat} (hi : i < cntM 0) {v : Int32} {K : Sto → Option β} (h : lt1 (sI st 0 i 50 v) K = some r) {idx : Nat} (hlink : Cond.fieldLink own idx "ColourHouseModel" "bestMany" "I" ∈ Ts) (hdg : decode cc pc = .ok (.putfield idx, 3)) (kk : ∀ (st1 : Sto) (H1 : Heap) (locs1 : List Loc), SM E s st1 H1 locs1 → K st1 = some r → W p l e R s m args below meth c H1 locs1 cells slots Q (F0 m (pc + 3) ls rest)) : W p l e R s m args below meth c H locs cells slots Q (F0 m pc ls (.int v :: .ref (E.2.2.1 0 i) :: rest)) := by
  refine va_put (D := E.1) (ci := 11) (ty := .int) (C := RX12) (T := TX12) (N := 76) C0.1.1 C0.1.2.1 C0.1.2.2.2.2 hin tyX12 tyX12_ok nmX12 C0.1.2.2.2.1 C0.2 hw.1 (hL _) hw.2 (offA cntM 0 + i) (wM_at (by decide) hi) rfl 50 (by decide) (C0.1.2.2.2.2 _ hlink) (fun _ h9 => h9) rfl (by decide +kernel) rfl rfl (Nat.le_of_ble_eq_true rfl) hdg (fun H1 locs1 hP _ hS => kk _ H1 locs1 ⟨?_, hS⟩ (lt_c h))
  rw [wM_sI (j := 50) (v := v) (by decide) hi (by rw [gI_self]; rfl)] at hP
  exact hP
theorem M_g0_51 (C0 : CX p m c cc nL s args Ts own E) (hw : SM E s st H locs) (hin : ∀ w ∈ u_ws RX12 TX12 76, w ∈ Ts) {i : Nat} (hi : i < cntM 0) {idx : Nat} (hlink : Cond.fieldLink own idx "ColourHouseModel" "tries" "I" ∈ Ts) (hdg : decode cc pc = .ok (.getfield idx, 3)) (kk : W p l e R s m args below meth c H locs cells slots Q (F0 m (pc + 3) ls (.int (gI st 0 i 51) :: rest))) : W p l e R s m args below meth c H locs cells slots Q (F0 m pc ls (.ref (E.2.2.1 0 i) :: rest)) :=
  va_get (D := E.1) (ci := 11) (C := RX12) (T := TX12) (N := 76) C0.1.1 C0.1.2.1 C0.1.2.2.2.2 hin C0.1.2.2.2.1 C0.2 hw.1 (offA cntM 0 + i) (wM_at (by decide) hi) rfl 51 (by decide) (C0.1.2.2.2.2 _ hlink) (fun _ h9 => h9) rfl hdg kk
theorem M_p0_51 (hL : LM E) (C0 : CX p m c cc nL s args Ts own E) (hw : SM E s st H locs) (hin : ∀ w ∈ u_ws RX12 TX12 76, w ∈ Ts) {i : Nat} (hi : i < cntM 0) {v : Int32} {K : Sto → Option β} (h : lt1 (sI st 0 i 51 v) K = some r) {idx : Nat} (hlink : Cond.fieldLink own idx "ColourHouseModel" "tries" "I" ∈ Ts) (hdg : decode cc pc = .ok (.putfield idx, 3)) (kk : ∀ (st1 : Sto) (H1 : Heap) (locs1 : List Loc), SM E s st1 H1 locs1 → K st1 = some r → W p l e R s m args below meth c H1 locs1 cells slots Q (F0 m (pc + 3) ls rest)) : W p l e R s m args below meth c H locs cells slots Q (F0 m pc ls (.int v :: .ref (E.2.2.1 0 i) :: rest)) := by
  refine va_put (D := E.1) (ci := 11) (ty := .int) (C := RX12) (T := TX12) (N := 76) C0.1.1 C0.1.2.1 C0.1.2.2.2.2 hin tyX12 tyX12_ok nmX12 C0.1.2.2.2.1 C0.2 hw.1 (hL _) hw.2 (offA cntM 0 + i) (wM_at (by decide) hi) rfl 51 (by decide) (C0.1.2.2.2.2 _ hlink) (fun _ h9 => h9) rfl (by decide +kernel) rfl rfl (Nat.le_of_ble_eq_true rfl) hdg (fun H1 locs1 hP _ hS => kk _ H1 locs1 ⟨?_, hS⟩ (lt_c h))
  rw [wM_sI (j := 51) (v := v) (by decide) hi (by rw [gI_self]; rfl)] at hP
  exact hP
theorem M_g0_52 (C0 : CX p m c cc nL s args Ts own E) (hw : SM E s st H locs) (hin : ∀ w ∈ u_ws RX12 TX12 76, w ∈ Ts) {i : Nat} (hi : i < cntM 0) {idx : Nat} (hlink : Cond.fieldLink own idx "ColourHouseModel" "bestTries" "I" ∈ Ts) (hdg : decode cc pc = .ok (.getfield idx, 3)) (kk : W p l e R s m args below meth c H locs cells slots Q (F0 m (pc + 3) ls (.int (gI st 0 i 52) :: rest))) : W p l e R s m args below meth c H locs cells slots Q (F0 m pc ls (.ref (E.2.2.1 0 i) :: rest)) :=
  va_get (D := E.1) (ci := 11) (C := RX12) (T := TX12) (N := 76) C0.1.1 C0.1.2.1 C0.1.2.2.2.2 hin C0.1.2.2.2.1 C0.2 hw.1 (offA cntM 0 + i) (wM_at (by decide) hi) rfl 52 (by decide) (C0.1.2.2.2.2 _ hlink) (fun _ h9 => h9) rfl hdg kk
theorem M_p0_52 (hL : LM E) (C0 : CX p m c cc nL s args Ts own E) (hw : SM E s st H locs) (hin : ∀ w ∈ u_ws RX12 TX12 76, w ∈ Ts) {i : Nat} (hi : i < cntM 0) {v : Int32} {K : Sto → Option β} (h : lt1 (sI st 0 i 52 v) K = some r) {idx : Nat} (hlink : Cond.fieldLink own idx "ColourHouseModel" "bestTries" "I" ∈ Ts) (hdg : decode cc pc = .ok (.putfield idx, 3)) (kk : ∀ (st1 : Sto) (H1 : Heap) (locs1 : List Loc), SM E s st1 H1 locs1 → K st1 = some r → W p l e R s m args below meth c H1 locs1 cells slots Q (F0 m (pc + 3) ls rest)) : W p l e R s m args below meth c H locs cells slots Q (F0 m pc ls (.int v :: .ref (E.2.2.1 0 i) :: rest)) := by
  refine va_put (D := E.1) (ci := 11) (ty := .int) (C := RX12) (T := TX12) (N := 76) C0.1.1 C0.1.2.1 C0.1.2.2.2.2 hin tyX12 tyX12_ok nmX12 C0.1.2.2.2.1 C0.2 hw.1 (hL _) hw.2 (offA cntM 0 + i) (wM_at (by decide) hi) rfl 52 (by decide) (C0.1.2.2.2.2 _ hlink) (fun _ h9 => h9) rfl (by decide +kernel) rfl rfl (Nat.le_of_ble_eq_true rfl) hdg (fun H1 locs1 hP _ hS => kk _ H1 locs1 ⟨?_, hS⟩ (lt_c h))
  rw [wM_sI (j := 52) (v := v) (by decide) hi (by rw [gI_self]; rfl)] at hP
  exact hP
theorem M_g0_53 (C0 : CX p m c cc nL s args Ts own E) (hw : SM E s st H locs) (hin : ∀ w ∈ u_ws RX12 TX12 76, w ∈ Ts) {i : Nat} (hi : i < cntM 0) {idx : Nat} (hlink : Cond.fieldLink own idx "ColourHouseModel" "bestDistance" "D" ∈ Ts) (hdg : decode cc pc = .ok (.getfield idx, 3)) (kk : W p l e R s m args below meth c H locs cells slots Q (F0 m (pc + 3) ls (.double (gD st 0 i 53) :: rest))) : W p l e R s m args below meth c H locs cells slots Q (F0 m pc ls (.ref (E.2.2.1 0 i) :: rest)) :=
  va_get (D := E.1) (ci := 11) (C := RX12) (T := TX12) (N := 76) C0.1.1 C0.1.2.1 C0.1.2.2.2.2 hin C0.1.2.2.2.1 C0.2 hw.1 (offA cntM 0 + i) (wM_at (by decide) hi) rfl 53 (by decide) (C0.1.2.2.2.2 _ hlink) (fun _ h9 => h9) rfl hdg kk
theorem M_p0_53 (hL : LM E) (C0 : CX p m c cc nL s args Ts own E) (hw : SM E s st H locs) (hin : ∀ w ∈ u_ws RX12 TX12 76, w ∈ Ts) {i : Nat} (hi : i < cntM 0) {v : UInt64} {K : Sto → Option β} (h : lt1 (sD st 0 i 53 v) K = some r) {idx : Nat} (hlink : Cond.fieldLink own idx "ColourHouseModel" "bestDistance" "D" ∈ Ts) (hdg : decode cc pc = .ok (.putfield idx, 3)) (kk : ∀ (st1 : Sto) (H1 : Heap) (locs1 : List Loc), SM E s st1 H1 locs1 → K st1 = some r → W p l e R s m args below meth c H1 locs1 cells slots Q (F0 m (pc + 3) ls rest)) : W p l e R s m args below meth c H locs cells slots Q (F0 m pc ls (.double v :: .ref (E.2.2.1 0 i) :: rest)) := by
  refine va_put (D := E.1) (ci := 11) (ty := .double) (C := RX12) (T := TX12) (N := 76) C0.1.1 C0.1.2.1 C0.1.2.2.2.2 hin tyX12 tyX12_ok nmX12 C0.1.2.2.2.1 C0.2 hw.1 (hL _) hw.2 (offA cntM 0 + i) (wM_at (by decide) hi) rfl 53 (by decide) (C0.1.2.2.2.2 _ hlink) (fun _ h9 => h9) rfl (by decide +kernel) rfl rfl (Nat.le_of_ble_eq_true rfl) hdg (fun H1 locs1 hP _ hS => kk _ H1 locs1 ⟨?_, hS⟩ (lt_c h))
  rw [wM_sD (j := 53) (v := v) (by decide) hi (by rw [gD_self]; rfl)] at hP
  exact hP
theorem M_g0_54 (C0 : CX p m c cc nL s args Ts own E) (hw : SM E s st H locs) (hin : ∀ w ∈ u_ws RX12 TX12 76, w ∈ Ts) {i : Nat} (hi : i < cntM 0) {idx : Nat} (hlink : Cond.fieldLink own idx "ColourHouseModel" "bestCost" "J" ∈ Ts) (hdg : decode cc pc = .ok (.getfield idx, 3)) (kk : W p l e R s m args below meth c H locs cells slots Q (F0 m (pc + 3) ls (.long (gL st 0 i 54) :: rest))) : W p l e R s m args below meth c H locs cells slots Q (F0 m pc ls (.ref (E.2.2.1 0 i) :: rest)) :=
  va_get (D := E.1) (ci := 11) (C := RX12) (T := TX12) (N := 76) C0.1.1 C0.1.2.1 C0.1.2.2.2.2 hin C0.1.2.2.2.1 C0.2 hw.1 (offA cntM 0 + i) (wM_at (by decide) hi) rfl 54 (by decide) (C0.1.2.2.2.2 _ hlink) (fun _ h9 => h9) rfl hdg kk
theorem M_p0_54 (hL : LM E) (C0 : CX p m c cc nL s args Ts own E) (hw : SM E s st H locs) (hin : ∀ w ∈ u_ws RX12 TX12 76, w ∈ Ts) {i : Nat} (hi : i < cntM 0) {v : Int64} {K : Sto → Option β} (h : lt1 (sL st 0 i 54 v) K = some r) {idx : Nat} (hlink : Cond.fieldLink own idx "ColourHouseModel" "bestCost" "J" ∈ Ts) (hdg : decode cc pc = .ok (.putfield idx, 3)) (kk : ∀ (st1 : Sto) (H1 : Heap) (locs1 : List Loc), SM E s st1 H1 locs1 → K st1 = some r → W p l e R s m args below meth c H1 locs1 cells slots Q (F0 m (pc + 3) ls rest)) : W p l e R s m args below meth c H locs cells slots Q (F0 m pc ls (.long v :: .ref (E.2.2.1 0 i) :: rest)) := by
  refine va_put (D := E.1) (ci := 11) (ty := .long) (C := RX12) (T := TX12) (N := 76) C0.1.1 C0.1.2.1 C0.1.2.2.2.2 hin tyX12 tyX12_ok nmX12 C0.1.2.2.2.1 C0.2 hw.1 (hL _) hw.2 (offA cntM 0 + i) (wM_at (by decide) hi) rfl 54 (by decide) (C0.1.2.2.2.2 _ hlink) (fun _ h9 => h9) rfl (by decide +kernel) rfl rfl (Nat.le_of_ble_eq_true rfl) hdg (fun H1 locs1 hP _ hS => kk _ H1 locs1 ⟨?_, hS⟩ (lt_c h))
  rw [wM_sL (j := 54) (v := v) (by decide) hi (by rw [gL_self]; rfl)] at hP
  exact hP
theorem M_g0_55 (C0 : CX p m c cc nL s args Ts own E) (hw : SM E s st H locs) (hin : ∀ w ∈ u_ws RX12 TX12 76, w ∈ Ts) {i : Nat} (hi : i < cntM 0) {idx : Nat} (hlink : Cond.fieldLink own idx "ColourHouseModel" "isProved" "Z" ∈ Ts) (hdg : decode cc pc = .ok (.getfield idx, 3)) (kk : W p l e R s m args below meth c H locs cells slots Q (F0 m (pc + 3) ls (.int (gI st 0 i 55) :: rest))) : W p l e R s m args below meth c H locs cells slots Q (F0 m pc ls (.ref (E.2.2.1 0 i) :: rest)) :=
  va_get (D := E.1) (ci := 11) (C := RX12) (T := TX12) (N := 76) C0.1.1 C0.1.2.1 C0.1.2.2.2.2 hin C0.1.2.2.2.1 C0.2 hw.1 (offA cntM 0 + i) (wM_at (by decide) hi) rfl 55 (by decide) (C0.1.2.2.2.2 _ hlink) (fun _ h9 => h9) rfl hdg kk
theorem M_p0_55 (hL : LM E) (C0 : CX p m c cc nL s args Ts own E) (hw : SM E s st H locs) (hin : ∀ w ∈ u_ws RX12 TX12 76, w ∈ Ts) {i : Nat} (hi : i < cntM 0) {v : Int32} {K : Sto → Option β} (h : lt1 (sI st 0 i 55 v) K = some r) (hn : narrow .boolean (.int v) = .int v) (hfit : Jvm.fits .boolean (.int v) = true) {idx : Nat} (hlink : Cond.fieldLink own idx "ColourHouseModel" "isProved" "Z" ∈ Ts) (hdg : decode cc pc = .ok (.putfield idx, 3)) (kk : ∀ (st1 : Sto) (H1 : Heap) (locs1 : List Loc), SM E s st1 H1 locs1 → K st1 = some r → W p l e R s m args below meth c H1 locs1 cells slots Q (F0 m (pc + 3) ls rest)) : W p l e R s m args below meth c H locs cells slots Q (F0 m pc ls (.int v :: .ref (E.2.2.1 0 i) :: rest)) := by
  refine va_put (D := E.1) (ci := 11) (ty := .boolean) (C := RX12) (T := TX12) (N := 76) C0.1.1 C0.1.2.1 C0.1.2.2.2.2 hin tyX12 tyX12_ok nmX12 C0.1.2.2.2.1 C0.2 hw.1 (hL _) hw.2 (offA cntM 0 + i) (wM_at (by decide) hi) rfl 55 (by decide) (C0.1.2.2.2.2 _ hlink) (fun _ h9 => h9) rfl (by decide +kernel) hn hfit (Nat.le_of_ble_eq_true rfl) hdg (fun H1 locs1 hP _ hS => kk _ H1 locs1 ⟨?_, hS⟩ (lt_c h))
  rw [wM_sI (j := 55) (v := v) (by decide) hi (by rw [gI_self]; rfl)] at hP
  exact hP
theorem M_g0_56 (C0 : CX p m c cc nL s args Ts own E) (hw : SM E s st H locs) (hin : ∀ w ∈ u_ws RX12 TX12 76, w ∈ Ts) {i : Nat} (hi : i < cntM 0) {idx : Nat} (hlink : Cond.fieldLink own idx "ColourHouseModel" "isOver" "Z" ∈ Ts) (hdg : decode cc pc = .ok (.getfield idx, 3)) (kk : W p l e R s m args below meth c H locs cells slots Q (F0 m (pc + 3) ls (.int (gI st 0 i 56) :: rest))) : W p l e R s m args below meth c H locs cells slots Q (F0 m pc ls (.ref (E.2.2.1 0 i) :: rest)) :=
  va_get (D := E.1) (ci := 11) (C := RX12) (T := TX12) (N := 76) C0.1.1 C0.1.2.1 C0.1.2.2.2.2 hin C0.1.2.2.2.1 C0.2 hw.1 (offA cntM 0 + i) (wM_at (by decide) hi) rfl 56 (by decide) (C0.1.2.2.2.2 _ hlink) (fun _ h9 => h9) rfl hdg kk
theorem M_p0_56 (hL : LM E) (C0 : CX p m c cc nL s args Ts own E) (hw : SM E s st H locs) (hin : ∀ w ∈ u_ws RX12 TX12 76, w ∈ Ts) {i : Nat} (hi : i < cntM 0) {v : Int32} {K : Sto → Option β} (h : lt1 (sI st 0 i 56 v) K = some r) (hn : narrow .boolean (.int v) = .int v) (hfit : Jvm.fits .boolean (.int v) = true) {idx : Nat} (hlink : Cond.fieldLink own idx "ColourHouseModel" "isOver" "Z" ∈ Ts) (hdg : decode cc pc = .ok (.putfield idx, 3)) (kk : ∀ (st1 : Sto) (H1 : Heap) (locs1 : List Loc), SM E s st1 H1 locs1 → K st1 = some r → W p l e R s m args below meth c H1 locs1 cells slots Q (F0 m (pc + 3) ls rest)) : W p l e R s m args below meth c H locs cells slots Q (F0 m pc ls (.int v :: .ref (E.2.2.1 0 i) :: rest)) := by
  refine va_put (D := E.1) (ci := 11) (ty := .boolean) (C := RX12) (T := TX12) (N := 76) C0.1.1 C0.1.2.1 C0.1.2.2.2.2 hin tyX12 tyX12_ok nmX12 C0.1.2.2.2.1 C0.2 hw.1 (hL _) hw.2 (offA cntM 0 + i) (wM_at (by decide) hi) rfl 56 (by decide) (C0.1.2.2.2.2 _ hlink) (fun _ h9 => h9) rfl (by decide +kernel) hn hfit (Nat.le_of_ble_eq_true rfl) hdg (fun H1 locs1 hP _ hS => kk _ H1 locs1 ⟨?_, hS⟩ (lt_c h))
  rw [wM_sI (j := 56) (v := v) (by decide) hi (by rw [gI_self]; rfl)] at hP
  exact hP
theorem M_g0_57 (C0 : CX p m c cc nL s args Ts own E) (hw : SM E s st H locs) (hin : ∀ w ∈ u_ws RX12 TX12 76, w ∈ Ts) {i : Nat} (hi : i < cntM 0) {idx : Nat} (hlink : Cond.fieldLink own idx "ColourHouseModel" "hasRecipe" "Z" ∈ Ts) (hdg : decode cc pc = .ok (.getfield idx, 3)) (kk : W p l e R s m args below meth c H locs cells slots Q (F0 m (pc + 3) ls (.int (gI st 0 i 57) :: rest))) : W p l e R s m args below meth c H locs cells slots Q (F0 m pc ls (.ref (E.2.2.1 0 i) :: rest)) :=
  va_get (D := E.1) (ci := 11) (C := RX12) (T := TX12) (N := 76) C0.1.1 C0.1.2.1 C0.1.2.2.2.2 hin C0.1.2.2.2.1 C0.2 hw.1 (offA cntM 0 + i) (wM_at (by decide) hi) rfl 57 (by decide) (C0.1.2.2.2.2 _ hlink) (fun _ h9 => h9) rfl hdg kk
theorem M_p0_57 (hL : LM E) (C0 : CX p m c cc nL s args Ts own E) (hw : SM E s st H locs) (hin : ∀ w ∈ u_ws RX12 TX12 76, w ∈ Ts) {i : Nat} (hi : i < cntM 0) {v : Int32} {K : Sto → Option β} (h : lt1 (sI st 0 i 57 v) K = some r) (hn : narrow .boolean (.int v) = .int v) (hfit : Jvm.fits .boolean (.int v) = true) {idx : Nat} (hlink : Cond.fieldLink own idx "ColourHouseModel" "hasRecipe" "Z" ∈ Ts) (hdg : decode cc pc = .ok (.putfield idx, 3)) (kk : ∀ (st1 : Sto) (H1 : Heap) (locs1 : List Loc), SM E s st1 H1 locs1 → K st1 = some r → W p l e R s m args below meth c H1 locs1 cells slots Q (F0 m (pc + 3) ls rest)) : W p l e R s m args below meth c H locs cells slots Q (F0 m pc ls (.int v :: .ref (E.2.2.1 0 i) :: rest)) := by
  refine va_put (D := E.1) (ci := 11) (ty := .boolean) (C := RX12) (T := TX12) (N := 76) C0.1.1 C0.1.2.1 C0.1.2.2.2.2 hin tyX12 tyX12_ok nmX12 C0.1.2.2.2.1 C0.2 hw.1 (hL _) hw.2 (offA cntM 0 + i) (wM_at (by decide) hi) rfl 57 (by decide) (C0.1.2.2.2.2 _ hlink) (fun _ h9 => h9) rfl (by decide +kernel) hn hfit (Nat.le_of_ble_eq_true rfl) hdg (fun H1 locs1 hP _ hS => kk _ H1 locs1 ⟨?_, hS⟩ (lt_c h))
  rw [wM_sI (j := 57) (v := v) (by decide) hi (by rw [gI_self]; rfl)] at hP
  exact hP
theorem M_g0_58 (C0 : CX p m c cc nL s args Ts own E) (hw : SM E s st H locs) (hin : ∀ w ∈ u_ws RX12 TX12 76, w ∈ Ts) {i : Nat} (hi : i < cntM 0) {idx : Nat} (hlink : Cond.fieldLink own idx "ColourHouseModel" "itsCloth" "I" ∈ Ts) (hdg : decode cc pc = .ok (.getfield idx, 3)) (kk : W p l e R s m args below meth c H locs cells slots Q (F0 m (pc + 3) ls (.int (gI st 0 i 58) :: rest))) : W p l e R s m args below meth c H locs cells slots Q (F0 m pc ls (.ref (E.2.2.1 0 i) :: rest)) :=
  va_get (D := E.1) (ci := 11) (C := RX12) (T := TX12) (N := 76) C0.1.1 C0.1.2.1 C0.1.2.2.2.2 hin C0.1.2.2.2.1 C0.2 hw.1 (offA cntM 0 + i) (wM_at (by decide) hi) rfl 58 (by decide) (C0.1.2.2.2.2 _ hlink) (fun _ h9 => h9) rfl hdg kk
theorem M_p0_58 (hL : LM E) (C0 : CX p m c cc nL s args Ts own E) (hw : SM E s st H locs) (hin : ∀ w ∈ u_ws RX12 TX12 76, w ∈ Ts) {i : Nat} (hi : i < cntM 0) {v : Int32} {K : Sto → Option β} (h : lt1 (sI st 0 i 58 v) K = some r) {idx : Nat} (hlink : Cond.fieldLink own idx "ColourHouseModel" "itsCloth" "I" ∈ Ts) (hdg : decode cc pc = .ok (.putfield idx, 3)) (kk : ∀ (st1 : Sto) (H1 : Heap) (locs1 : List Loc), SM E s st1 H1 locs1 → K st1 = some r → W p l e R s m args below meth c H1 locs1 cells slots Q (F0 m (pc + 3) ls rest)) : W p l e R s m args below meth c H locs cells slots Q (F0 m pc ls (.int v :: .ref (E.2.2.1 0 i) :: rest)) := by
  refine va_put (D := E.1) (ci := 11) (ty := .int) (C := RX12) (T := TX12) (N := 76) C0.1.1 C0.1.2.1 C0.1.2.2.2.2 hin tyX12 tyX12_ok nmX12 C0.1.2.2.2.1 C0.2 hw.1 (hL _) hw.2 (offA cntM 0 + i) (wM_at (by decide) hi) rfl 58 (by decide) (C0.1.2.2.2.2 _ hlink) (fun _ h9 => h9) rfl (by decide +kernel) rfl rfl (Nat.le_of_ble_eq_true rfl) hdg (fun H1 locs1 hP _ hS => kk _ H1 locs1 ⟨?_, hS⟩ (lt_c h))
  rw [wM_sI (j := 58) (v := v) (by decide) hi (by rw [gI_self]; rfl)] at hP
  exact hP
theorem M_g0_59 (C0 : CX p m c cc nL s args Ts own E) (hw : SM E s st H locs) (hin : ∀ w ∈ u_ws RX12 TX12 76, w ∈ Ts) {i : Nat} (hi : i < cntM 0) {idx : Nat} (hlink : Cond.fieldLink own idx "ColourHouseModel" "itsLight" "I" ∈ Ts) (hdg : decode cc pc = .ok (.getfield idx, 3)) (kk : W p l e R s m args below meth c H locs cells slots Q (F0 m (pc + 3) ls (.int (gI st 0 i 59) :: rest))) : W p l e R s m args below meth c H locs cells slots Q (F0 m pc ls (.ref (E.2.2.1 0 i) :: rest)) :=
  va_get (D := E.1) (ci := 11) (C := RX12) (T := TX12) (N := 76) C0.1.1 C0.1.2.1 C0.1.2.2.2.2 hin C0.1.2.2.2.1 C0.2 hw.1 (offA cntM 0 + i) (wM_at (by decide) hi) rfl 59 (by decide) (C0.1.2.2.2.2 _ hlink) (fun _ h9 => h9) rfl hdg kk
theorem M_p0_59 (hL : LM E) (C0 : CX p m c cc nL s args Ts own E) (hw : SM E s st H locs) (hin : ∀ w ∈ u_ws RX12 TX12 76, w ∈ Ts) {i : Nat} (hi : i < cntM 0) {v : Int32} {K : Sto → Option β} (h : lt1 (sI st 0 i 59 v) K = some r) {idx : Nat} (hlink : Cond.fieldLink own idx "ColourHouseModel" "itsLight" "I" ∈ Ts) (hdg : decode cc pc = .ok (.putfield idx, 3)) (kk : ∀ (st1 : Sto) (H1 : Heap) (locs1 : List Loc), SM E s st1 H1 locs1 → K st1 = some r → W p l e R s m args below meth c H1 locs1 cells slots Q (F0 m (pc + 3) ls rest)) : W p l e R s m args below meth c H locs cells slots Q (F0 m pc ls (.int v :: .ref (E.2.2.1 0 i) :: rest)) := by
  refine va_put (D := E.1) (ci := 11) (ty := .int) (C := RX12) (T := TX12) (N := 76) C0.1.1 C0.1.2.1 C0.1.2.2.2.2 hin tyX12 tyX12_ok nmX12 C0.1.2.2.2.1 C0.2 hw.1 (hL _) hw.2 (offA cntM 0 + i) (wM_at (by decide) hi) rfl 59 (by decide) (C0.1.2.2.2.2 _ hlink) (fun _ h9 => h9) rfl (by decide +kernel) rfl rfl (Nat.le_of_ble_eq_true rfl) hdg (fun H1 locs1 hP _ hS => kk _ H1 locs1 ⟨?_, hS⟩ (lt_c h))
  rw [wM_sI (j := 59) (v := v) (by decide) hi (by rw [gI_self]; rfl)] at hP
  exact hP
theorem M_g0_60 (C0 : CX p m c cc nL s args Ts own E) (hw : SM E s st H locs) (hin : ∀ w ∈ u_ws RX12 TX12 76, w ∈ Ts) {i : Nat} (hi : i < cntM 0) {idx : Nat} (hlink : Cond.fieldLink own idx "ColourHouseModel" "itsEye" "I" ∈ Ts) (hdg : decode cc pc = .ok (.getfield idx, 3)) (kk : W p l e R s m args below meth c H locs cells slots Q (F0 m (pc + 3) ls (.int (gI st 0 i 60) :: rest))) : W p l e R s m args below meth c H locs cells slots Q (F0 m pc ls (.ref (E.2.2.1 0 i) :: rest)) :=
  va_get (D := E.1) (ci := 11) (C := RX12) (T := TX12) (N := 76) C0.1.1 C0.1.2.1 C0.1.2.2.2.2 hin C0.1.2.2.2.1 C0.2 hw.1 (offA cntM 0 + i) (wM_at (by decide) hi) rfl 60 (by decide) (C0.1.2.2.2.2 _ hlink) (fun _ h9 => h9) rfl hdg kk
theorem M_p0_60 (hL : LM E) (C0 : CX p m c cc nL s args Ts own E) (hw : SM E s st H locs) (hin : ∀ w ∈ u_ws RX12 TX12 76, w ∈ Ts) {i : Nat} (hi : i < cntM 0) {v : Int32} {K : Sto → Option β} (h : lt1 (sI st 0 i 60 v) K = some r) {idx : Nat} (hlink : Cond.fieldLink own idx "ColourHouseModel" "itsEye" "I" ∈ Ts) (hdg : decode cc pc = .ok (.putfield idx, 3)) (kk : ∀ (st1 : Sto) (H1 : Heap) (locs1 : List Loc), SM E s st1 H1 locs1 → K st1 = some r → W p l e R s m args below meth c H1 locs1 cells slots Q (F0 m (pc + 3) ls rest)) : W p l e R s m args below meth c H locs cells slots Q (F0 m pc ls (.int v :: .ref (E.2.2.1 0 i) :: rest)) := by
  refine va_put (D := E.1) (ci := 11) (ty := .int) (C := RX12) (T := TX12) (N := 76) C0.1.1 C0.1.2.1 C0.1.2.2.2.2 hin tyX12 tyX12_ok nmX12 C0.1.2.2.2.1 C0.2 hw.1 (hL _) hw.2 (offA cntM 0 + i) (wM_at (by decide) hi) rfl 60 (by decide) (C0.1.2.2.2.2 _ hlink) (fun _ h9 => h9) rfl (by decide +kernel) rfl rfl (Nat.le_of_ble_eq_true rfl) hdg (fun H1 locs1 hP _ hS => kk _ H1 locs1 ⟨?_, hS⟩ (lt_c h))
  rw [wM_sI (j := 60) (v := v) (by decide) hi (by rw [gI_self]; rfl)] at hP
  exact hP
theorem M_g0_61 (C0 : CX p m c cc nL s args Ts own E) (hw : SM E s st H locs) (hin : ∀ w ∈ u_ws RX12 TX12 76, w ∈ Ts) {i : Nat} (hi : i < cntM 0) {idx : Nat} (hlink : Cond.fieldLink own idx "ColourHouseModel" "itsStep" "I" ∈ Ts) (hdg : decode cc pc = .ok (.getfield idx, 3)) (kk : W p l e R s m args below meth c H locs cells slots Q (F0 m (pc + 3) ls (.int (gI st 0 i 61) :: rest))) : W p l e R s m args below meth c H locs cells slots Q (F0 m pc ls (.ref (E.2.2.1 0 i) :: rest)) :=
  va_get (D := E.1) (ci := 11) (C := RX12) (T := TX12) (N := 76) C0.1.1 C0.1.2.1 C0.1.2.2.2.2 hin C0.1.2.2.2.1 C0.2 hw.1 (offA cntM 0 + i) (wM_at (by decide) hi) rfl 61 (by decide) (C0.1.2.2.2.2 _ hlink) (fun _ h9 => h9) rfl hdg kk
theorem M_p0_61 (hL : LM E) (C0 : CX p m c cc nL s args Ts own E) (hw : SM E s st H locs) (hin : ∀ w ∈ u_ws RX12 TX12 76, w ∈ Ts) {i : Nat} (hi : i < cntM 0) {v : Int32} {K : Sto → Option β} (h : lt1 (sI st 0 i 61 v) K = some r) {idx : Nat} (hlink : Cond.fieldLink own idx "ColourHouseModel" "itsStep" "I" ∈ Ts) (hdg : decode cc pc = .ok (.putfield idx, 3)) (kk : ∀ (st1 : Sto) (H1 : Heap) (locs1 : List Loc), SM E s st1 H1 locs1 → K st1 = some r → W p l e R s m args below meth c H1 locs1 cells slots Q (F0 m (pc + 3) ls rest)) : W p l e R s m args below meth c H locs cells slots Q (F0 m pc ls (.int v :: .ref (E.2.2.1 0 i) :: rest)) := by
  refine va_put (D := E.1) (ci := 11) (ty := .int) (C := RX12) (T := TX12) (N := 76) C0.1.1 C0.1.2.1 C0.1.2.2.2.2 hin tyX12 tyX12_ok nmX12 C0.1.2.2.2.1 C0.2 hw.1 (hL _) hw.2 (offA cntM 0 + i) (wM_at (by decide) hi) rfl 61 (by decide) (C0.1.2.2.2.2 _ hlink) (fun _ h9 => h9) rfl (by decide +kernel) rfl rfl (Nat.le_of_ble_eq_true rfl) hdg (fun H1 locs1 hP _ hS => kk _ H1 locs1 ⟨?_, hS⟩ (lt_c h))
  rw [wM_sI (j := 61) (v := v) (by decide) hi (by rw [gI_self]; rfl)] at hP
  exact hP
theorem M_g0_62 (C0 : CX p m c cc nL s args Ts own E) (hw : SM E s st H locs) (hin : ∀ w ∈ u_ws RX12 TX12 76, w ∈ Ts) {i : Nat} (hi : i < cntM 0) {idx : Nat} (hlink : Cond.fieldLink own idx "ColourHouseModel" "itsMost" "I" ∈ Ts) (hdg : decode cc pc = .ok (.getfield idx, 3)) (kk : W p l e R s m args below meth c H locs cells slots Q (F0 m (pc + 3) ls (.int (gI st 0 i 62) :: rest))) : W p l e R s m args below meth c H locs cells slots Q (F0 m pc ls (.ref (E.2.2.1 0 i) :: rest)) :=
  va_get (D := E.1) (ci := 11) (C := RX12) (T := TX12) (N := 76) C0.1.1 C0.1.2.1 C0.1.2.2.2.2 hin C0.1.2.2.2.1 C0.2 hw.1 (offA cntM 0 + i) (wM_at (by decide) hi) rfl 62 (by decide) (C0.1.2.2.2.2 _ hlink) (fun _ h9 => h9) rfl hdg kk
theorem M_p0_62 (hL : LM E) (C0 : CX p m c cc nL s args Ts own E) (hw : SM E s st H locs) (hin : ∀ w ∈ u_ws RX12 TX12 76, w ∈ Ts) {i : Nat} (hi : i < cntM 0) {v : Int32} {K : Sto → Option β} (h : lt1 (sI st 0 i 62 v) K = some r) {idx : Nat} (hlink : Cond.fieldLink own idx "ColourHouseModel" "itsMost" "I" ∈ Ts) (hdg : decode cc pc = .ok (.putfield idx, 3)) (kk : ∀ (st1 : Sto) (H1 : Heap) (locs1 : List Loc), SM E s st1 H1 locs1 → K st1 = some r → W p l e R s m args below meth c H1 locs1 cells slots Q (F0 m (pc + 3) ls rest)) : W p l e R s m args below meth c H locs cells slots Q (F0 m pc ls (.int v :: .ref (E.2.2.1 0 i) :: rest)) := by
  refine va_put (D := E.1) (ci := 11) (ty := .int) (C := RX12) (T := TX12) (N := 76) C0.1.1 C0.1.2.1 C0.1.2.2.2.2 hin tyX12 tyX12_ok nmX12 C0.1.2.2.2.1 C0.2 hw.1 (hL _) hw.2 (offA cntM 0 + i) (wM_at (by decide) hi) rfl 62 (by decide) (C0.1.2.2.2.2 _ hlink) (fun _ h9 => h9) rfl (by decide +kernel) rfl rfl (Nat.le_of_ble_eq_true rfl) hdg (fun H1 locs1 hP _ hS => kk _ H1 locs1 ⟨?_, hS⟩ (lt_c h))
  rw [wM_sI (j := 62) (v := v) (by decide) hi (by rw [gI_self]; rfl)] at hP
  exact hP
theorem M_g0_63 (C0 : CX p m c cc nL s args Ts own E) (hw : SM E s st H locs) (hin : ∀ w ∈ u_ws RX12 TX12 76, w ∈ Ts) {i : Nat} (hi : i < cntM 0) {idx : Nat} (hlink : Cond.fieldLink own idx "ColourHouseModel" "recipes" "[I" ∈ Ts) (hdg : decode cc pc = .ok (.getfield idx, 3)) (kk : W p l e R s m args below meth c H locs cells slots Q (F0 m (pc + 3) ls (.ref (E.2.2.1 64 (0)) :: rest))) : W p l e R s m args below meth c H locs cells slots Q (F0 m pc ls (.ref (E.2.2.1 0 i) :: rest)) :=
  va_get (D := E.1) (ci := 11) (C := RX12) (T := TX12) (N := 76) C0.1.1 C0.1.2.1 C0.1.2.2.2.2 hin C0.1.2.2.2.1 C0.2 hw.1 (offA cntM 0 + i) (wM_at (by decide) hi) rfl 63 (by decide) (C0.1.2.2.2.2 _ hlink) (fun _ h9 => h9) rfl hdg kk
theorem M_g0_64 (C0 : CX p m c cc nL s args Ts own E) (hw : SM E s st H locs) (hin : ∀ w ∈ u_ws RX12 TX12 76, w ∈ Ts) {i : Nat} (hi : i < cntM 0) {idx : Nat} (hlink : Cond.fieldLink own idx "ColourHouseModel" "recipeDistance" "D" ∈ Ts) (hdg : decode cc pc = .ok (.getfield idx, 3)) (kk : W p l e R s m args below meth c H locs cells slots Q (F0 m (pc + 3) ls (.double (gD st 0 i 64) :: rest))) : W p l e R s m args below meth c H locs cells slots Q (F0 m pc ls (.ref (E.2.2.1 0 i) :: rest)) :=
  va_get (D := E.1) (ci := 11) (C := RX12) (T := TX12) (N := 76) C0.1.1 C0.1.2.1 C0.1.2.2.2.2 hin C0.1.2.2.2.1 C0.2 hw.1 (offA cntM 0 + i) (wM_at (by decide) hi) rfl 64 (by decide) (C0.1.2.2.2.2 _ hlink) (fun _ h9 => h9) rfl hdg kk
theorem M_p0_64 (hL : LM E) (C0 : CX p m c cc nL s args Ts own E) (hw : SM E s st H locs) (hin : ∀ w ∈ u_ws RX12 TX12 76, w ∈ Ts) {i : Nat} (hi : i < cntM 0) {v : UInt64} {K : Sto → Option β} (h : lt1 (sD st 0 i 64 v) K = some r) {idx : Nat} (hlink : Cond.fieldLink own idx "ColourHouseModel" "recipeDistance" "D" ∈ Ts) (hdg : decode cc pc = .ok (.putfield idx, 3)) (kk : ∀ (st1 : Sto) (H1 : Heap) (locs1 : List Loc), SM E s st1 H1 locs1 → K st1 = some r → W p l e R s m args below meth c H1 locs1 cells slots Q (F0 m (pc + 3) ls rest)) : W p l e R s m args below meth c H locs cells slots Q (F0 m pc ls (.double v :: .ref (E.2.2.1 0 i) :: rest)) := by
  refine va_put (D := E.1) (ci := 11) (ty := .double) (C := RX12) (T := TX12) (N := 76) C0.1.1 C0.1.2.1 C0.1.2.2.2.2 hin tyX12 tyX12_ok nmX12 C0.1.2.2.2.1 C0.2 hw.1 (hL _) hw.2 (offA cntM 0 + i) (wM_at (by decide) hi) rfl 64 (by decide) (C0.1.2.2.2.2 _ hlink) (fun _ h9 => h9) rfl (by decide +kernel) rfl rfl (Nat.le_of_ble_eq_true rfl) hdg (fun H1 locs1 hP _ hS => kk _ H1 locs1 ⟨?_, hS⟩ (lt_c h))
  rw [wM_sD (j := 64) (v := v) (by decide) hi (by rw [gD_self]; rfl)] at hP
  exact hP
theorem M_g0_65 (C0 : CX p m c cc nL s args Ts own E) (hw : SM E s st H locs) (hin : ∀ w ∈ u_ws RX12 TX12 76, w ∈ Ts) {i : Nat} (hi : i < cntM 0) {idx : Nat} (hlink : Cond.fieldLink own idx "ColourHouseModel" "recipeCost" "J" ∈ Ts) (hdg : decode cc pc = .ok (.getfield idx, 3)) (kk : W p l e R s m args below meth c H locs cells slots Q (F0 m (pc + 3) ls (.long (gL st 0 i 65) :: rest))) : W p l e R s m args below meth c H locs cells slots Q (F0 m pc ls (.ref (E.2.2.1 0 i) :: rest)) :=
  va_get (D := E.1) (ci := 11) (C := RX12) (T := TX12) (N := 76) C0.1.1 C0.1.2.1 C0.1.2.2.2.2 hin C0.1.2.2.2.1 C0.2 hw.1 (offA cntM 0 + i) (wM_at (by decide) hi) rfl 65 (by decide) (C0.1.2.2.2.2 _ hlink) (fun _ h9 => h9) rfl hdg kk
theorem M_p0_65 (hL : LM E) (C0 : CX p m c cc nL s args Ts own E) (hw : SM E s st H locs) (hin : ∀ w ∈ u_ws RX12 TX12 76, w ∈ Ts) {i : Nat} (hi : i < cntM 0) {v : Int64} {K : Sto → Option β} (h : lt1 (sL st 0 i 65 v) K = some r) {idx : Nat} (hlink : Cond.fieldLink own idx "ColourHouseModel" "recipeCost" "J" ∈ Ts) (hdg : decode cc pc = .ok (.putfield idx, 3)) (kk : ∀ (st1 : Sto) (H1 : Heap) (locs1 : List Loc), SM E s st1 H1 locs1 → K st1 = some r → W p l e R s m args below meth c H1 locs1 cells slots Q (F0 m (pc + 3) ls rest)) : W p l e R s m args below meth c H locs cells slots Q (F0 m pc ls (.long v :: .ref (E.2.2.1 0 i) :: rest)) := by
  refine va_put (D := E.1) (ci := 11) (ty := .long) (C := RX12) (T := TX12) (N := 76) C0.1.1 C0.1.2.1 C0.1.2.2.2.2 hin tyX12 tyX12_ok nmX12 C0.1.2.2.2.1 C0.2 hw.1 (hL _) hw.2 (offA cntM 0 + i) (wM_at (by decide) hi) rfl 65 (by decide) (C0.1.2.2.2.2 _ hlink) (fun _ h9 => h9) rfl (by decide +kernel) rfl rfl (Nat.le_of_ble_eq_true rfl) hdg (fun H1 locs1 hP _ hS => kk _ H1 locs1 ⟨?_, hS⟩ (lt_c h))
  rw [wM_sL (j := 65) (v := v) (by decide) hi (by rw [gL_self]; rfl)] at hP
  exact hP
theorem M_g0_66 (C0 : CX p m c cc nL s args Ts own E) (hw : SM E s st H locs) (hin : ∀ w ∈ u_ws RX12 TX12 76, w ∈ Ts) {i : Nat} (hi : i < cntM 0) {idx : Nat} (hlink : Cond.fieldLink own idx "ColourHouseModel" "bathLot" "[I" ∈ Ts) (hdg : decode cc pc = .ok (.getfield idx, 3)) (kk : W p l e R s m args below meth c H locs cells slots Q (F0 m (pc + 3) ls (.ref (E.2.2.1 67 (0)) :: rest))) : W p l e R s m args below meth c H locs cells slots Q (F0 m pc ls (.ref (E.2.2.1 0 i) :: rest)) :=
  va_get (D := E.1) (ci := 11) (C := RX12) (T := TX12) (N := 76) C0.1.1 C0.1.2.1 C0.1.2.2.2.2 hin C0.1.2.2.2.1 C0.2 hw.1 (offA cntM 0 + i) (wM_at (by decide) hi) rfl 66 (by decide) (C0.1.2.2.2.2 _ hlink) (fun _ h9 => h9) rfl hdg kk
theorem M_g0_67 (C0 : CX p m c cc nL s args Ts own E) (hw : SM E s st H locs) (hin : ∀ w ∈ u_ws RX12 TX12 76, w ∈ Ts) {i : Nat} (hi : i < cntM 0) {idx : Nat} (hlink : Cond.fieldLink own idx "ColourHouseModel" "bathGrams" "[I" ∈ Ts) (hdg : decode cc pc = .ok (.getfield idx, 3)) (kk : W p l e R s m args below meth c H locs cells slots Q (F0 m (pc + 3) ls (.ref (E.2.2.1 68 (0)) :: rest))) : W p l e R s m args below meth c H locs cells slots Q (F0 m pc ls (.ref (E.2.2.1 0 i) :: rest)) :=
  va_get (D := E.1) (ci := 11) (C := RX12) (T := TX12) (N := 76) C0.1.1 C0.1.2.1 C0.1.2.2.2.2 hin C0.1.2.2.2.1 C0.2 hw.1 (offA cntM 0 + i) (wM_at (by decide) hi) rfl 67 (by decide) (C0.1.2.2.2.2 _ hlink) (fun _ h9 => h9) rfl hdg kk
theorem M_g0_68 (C0 : CX p m c cc nL s args Ts own E) (hw : SM E s st H locs) (hin : ∀ w ∈ u_ws RX12 TX12 76, w ∈ Ts) {i : Nat} (hi : i < cntM 0) {idx : Nat} (hlink : Cond.fieldLink own idx "ColourHouseModel" "bathMany" "I" ∈ Ts) (hdg : decode cc pc = .ok (.getfield idx, 3)) (kk : W p l e R s m args below meth c H locs cells slots Q (F0 m (pc + 3) ls (.int (gI st 0 i 68) :: rest))) : W p l e R s m args below meth c H locs cells slots Q (F0 m pc ls (.ref (E.2.2.1 0 i) :: rest)) :=
  va_get (D := E.1) (ci := 11) (C := RX12) (T := TX12) (N := 76) C0.1.1 C0.1.2.1 C0.1.2.2.2.2 hin C0.1.2.2.2.1 C0.2 hw.1 (offA cntM 0 + i) (wM_at (by decide) hi) rfl 68 (by decide) (C0.1.2.2.2.2 _ hlink) (fun _ h9 => h9) rfl hdg kk
theorem M_p0_68 (hL : LM E) (C0 : CX p m c cc nL s args Ts own E) (hw : SM E s st H locs) (hin : ∀ w ∈ u_ws RX12 TX12 76, w ∈ Ts) {i : Nat} (hi : i < cntM 0) {v : Int32} {K : Sto → Option β} (h : lt1 (sI st 0 i 68 v) K = some r) {idx : Nat} (hlink : Cond.fieldLink own idx "ColourHouseModel" "bathMany" "I" ∈ Ts) (hdg : decode cc pc = .ok (.putfield idx, 3)) (kk : ∀ (st1 : Sto) (H1 : Heap) (locs1 : List Loc), SM E s st1 H1 locs1 → K st1 = some r → W p l e R s m args below meth c H1 locs1 cells slots Q (F0 m (pc + 3) ls rest)) : W p l e R s m args below meth c H locs cells slots Q (F0 m pc ls (.int v :: .ref (E.2.2.1 0 i) :: rest)) := by
  refine va_put (D := E.1) (ci := 11) (ty := .int) (C := RX12) (T := TX12) (N := 76) C0.1.1 C0.1.2.1 C0.1.2.2.2.2 hin tyX12 tyX12_ok nmX12 C0.1.2.2.2.1 C0.2 hw.1 (hL _) hw.2 (offA cntM 0 + i) (wM_at (by decide) hi) rfl 68 (by decide) (C0.1.2.2.2.2 _ hlink) (fun _ h9 => h9) rfl (by decide +kernel) rfl rfl (Nat.le_of_ble_eq_true rfl) hdg (fun H1 locs1 hP _ hS => kk _ H1 locs1 ⟨?_, hS⟩ (lt_c h))
  rw [wM_sI (j := 68) (v := v) (by decide) hi (by rw [gI_self]; rfl)] at hP
  exact hP
theorem M_g0_69 (C0 : CX p m c cc nL s args Ts own E) (hw : SM E s st H locs) (hin : ∀ w ∈ u_ws RX12 TX12 76, w ∈ Ts) {i : Nat} (hi : i < cntM 0) {idx : Nat} (hlink : Cond.fieldLink own idx "ColourHouseModel" "additions" "[I" ∈ Ts) (hdg : decode cc pc = .ok (.getfield idx, 3)) (kk : W p l e R s m args below meth c H locs cells slots Q (F0 m (pc + 3) ls (.ref (E.2.2.1 70 (0)) :: rest))) : W p l e R s m args below meth c H locs cells slots Q (F0 m pc ls (.ref (E.2.2.1 0 i) :: rest)) :=
  va_get (D := E.1) (ci := 11) (C := RX12) (T := TX12) (N := 76) C0.1.1 C0.1.2.1 C0.1.2.2.2.2 hin C0.1.2.2.2.1 C0.2 hw.1 (offA cntM 0 + i) (wM_at (by decide) hi) rfl 69 (by decide) (C0.1.2.2.2.2 _ hlink) (fun _ h9 => h9) rfl hdg kk
theorem M_g0_70 (C0 : CX p m c cc nL s args Ts own E) (hw : SM E s st H locs) (hin : ∀ w ∈ u_ws RX12 TX12 76, w ∈ Ts) {i : Nat} (hi : i < cntM 0) {idx : Nat} (hlink : Cond.fieldLink own idx "ColourHouseModel" "found" "[I" ∈ Ts) (hdg : decode cc pc = .ok (.getfield idx, 3)) (kk : W p l e R s m args below meth c H locs cells slots Q (F0 m (pc + 3) ls (.ref (E.2.2.1 71 (0)) :: rest))) : W p l e R s m args below meth c H locs cells slots Q (F0 m pc ls (.ref (E.2.2.1 0 i) :: rest)) :=
  va_get (D := E.1) (ci := 11) (C := RX12) (T := TX12) (N := 76) C0.1.1 C0.1.2.1 C0.1.2.2.2.2 hin C0.1.2.2.2.1 C0.2 hw.1 (offA cntM 0 + i) (wM_at (by decide) hi) rfl 70 (by decide) (C0.1.2.2.2.2 _ hlink) (fun _ h9 => h9) rfl hdg kk
theorem M_g0_71 (C0 : CX p m c cc nL s args Ts own E) (hw : SM E s st H locs) (hin : ∀ w ∈ u_ws RX12 TX12 76, w ∈ Ts) {i : Nat} (hi : i < cntM 0) {idx : Nat} (hlink : Cond.fieldLink own idx "ColourHouseModel" "hasAddition" "Z" ∈ Ts) (hdg : decode cc pc = .ok (.getfield idx, 3)) (kk : W p l e R s m args below meth c H locs cells slots Q (F0 m (pc + 3) ls (.int (gI st 0 i 71) :: rest))) : W p l e R s m args below meth c H locs cells slots Q (F0 m pc ls (.ref (E.2.2.1 0 i) :: rest)) :=
  va_get (D := E.1) (ci := 11) (C := RX12) (T := TX12) (N := 76) C0.1.1 C0.1.2.1 C0.1.2.2.2.2 hin C0.1.2.2.2.1 C0.2 hw.1 (offA cntM 0 + i) (wM_at (by decide) hi) rfl 71 (by decide) (C0.1.2.2.2.2 _ hlink) (fun _ h9 => h9) rfl hdg kk
theorem M_p0_71 (hL : LM E) (C0 : CX p m c cc nL s args Ts own E) (hw : SM E s st H locs) (hin : ∀ w ∈ u_ws RX12 TX12 76, w ∈ Ts) {i : Nat} (hi : i < cntM 0) {v : Int32} {K : Sto → Option β} (h : lt1 (sI st 0 i 71 v) K = some r) (hn : narrow .boolean (.int v) = .int v) (hfit : Jvm.fits .boolean (.int v) = true) {idx : Nat} (hlink : Cond.fieldLink own idx "ColourHouseModel" "hasAddition" "Z" ∈ Ts) (hdg : decode cc pc = .ok (.putfield idx, 3)) (kk : ∀ (st1 : Sto) (H1 : Heap) (locs1 : List Loc), SM E s st1 H1 locs1 → K st1 = some r → W p l e R s m args below meth c H1 locs1 cells slots Q (F0 m (pc + 3) ls rest)) : W p l e R s m args below meth c H locs cells slots Q (F0 m pc ls (.int v :: .ref (E.2.2.1 0 i) :: rest)) := by
  refine va_put (D := E.1) (ci := 11) (ty := .boolean) (C := RX12) (T := TX12) (N := 76) C0.1.1 C0.1.2.1 C0.1.2.2.2.2 hin tyX12 tyX12_ok nmX12 C0.1.2.2.2.1 C0.2 hw.1 (hL _) hw.2 (offA cntM 0 + i) (wM_at (by decide) hi) rfl 71 (by decide) (C0.1.2.2.2.2 _ hlink) (fun _ h9 => h9) rfl (by decide +kernel) hn hfit (Nat.le_of_ble_eq_true rfl) hdg (fun H1 locs1 hP _ hS => kk _ H1 locs1 ⟨?_, hS⟩ (lt_c h))
  rw [wM_sI (j := 71) (v := v) (by decide) hi (by rw [gI_self]; rfl)] at hP
  exact hP
theorem M_g0_72 (C0 : CX p m c cc nL s args Ts own E) (hw : SM E s st H locs) (hin : ∀ w ∈ u_ws RX12 TX12 76, w ∈ Ts) {i : Nat} (hi : i < cntM 0) {idx : Nat} (hlink : Cond.fieldLink own idx "ColourHouseModel" "least" "D" ∈ Ts) (hdg : decode cc pc = .ok (.getfield idx, 3)) (kk : W p l e R s m args below meth c H locs cells slots Q (F0 m (pc + 3) ls (.double (gD st 0 i 72) :: rest))) : W p l e R s m args below meth c H locs cells slots Q (F0 m pc ls (.ref (E.2.2.1 0 i) :: rest)) :=
  va_get (D := E.1) (ci := 11) (C := RX12) (T := TX12) (N := 76) C0.1.1 C0.1.2.1 C0.1.2.2.2.2 hin C0.1.2.2.2.1 C0.2 hw.1 (offA cntM 0 + i) (wM_at (by decide) hi) rfl 72 (by decide) (C0.1.2.2.2.2 _ hlink) (fun _ h9 => h9) rfl hdg kk
theorem M_p0_72 (hL : LM E) (C0 : CX p m c cc nL s args Ts own E) (hw : SM E s st H locs) (hin : ∀ w ∈ u_ws RX12 TX12 76, w ∈ Ts) {i : Nat} (hi : i < cntM 0) {v : UInt64} {K : Sto → Option β} (h : lt1 (sD st 0 i 72 v) K = some r) {idx : Nat} (hlink : Cond.fieldLink own idx "ColourHouseModel" "least" "D" ∈ Ts) (hdg : decode cc pc = .ok (.putfield idx, 3)) (kk : ∀ (st1 : Sto) (H1 : Heap) (locs1 : List Loc), SM E s st1 H1 locs1 → K st1 = some r → W p l e R s m args below meth c H1 locs1 cells slots Q (F0 m (pc + 3) ls rest)) : W p l e R s m args below meth c H locs cells slots Q (F0 m pc ls (.double v :: .ref (E.2.2.1 0 i) :: rest)) := by
  refine va_put (D := E.1) (ci := 11) (ty := .double) (C := RX12) (T := TX12) (N := 76) C0.1.1 C0.1.2.1 C0.1.2.2.2.2 hin tyX12 tyX12_ok nmX12 C0.1.2.2.2.1 C0.2 hw.1 (hL _) hw.2 (offA cntM 0 + i) (wM_at (by decide) hi) rfl 72 (by decide) (C0.1.2.2.2.2 _ hlink) (fun _ h9 => h9) rfl (by decide +kernel) rfl rfl (Nat.le_of_ble_eq_true rfl) hdg (fun H1 locs1 hP _ hS => kk _ H1 locs1 ⟨?_, hS⟩ (lt_c h))
  rw [wM_sD (j := 72) (v := v) (by decide) hi (by rw [gD_self]; rfl)] at hP
  exact hP
theorem M_g0_73 (C0 : CX p m c cc nL s args Ts own E) (hw : SM E s st H locs) (hin : ∀ w ∈ u_ws RX12 TX12 76, w ∈ Ts) {i : Nat} (hi : i < cntM 0) {idx : Nat} (hlink : Cond.fieldLink own idx "ColourHouseModel" "out" "[B" ∈ Ts) (hdg : decode cc pc = .ok (.getfield idx, 3)) (kk : W p l e R s m args below meth c H locs cells slots Q (F0 m (pc + 3) ls (.ref (E.2.2.1 74 (0)) :: rest))) : W p l e R s m args below meth c H locs cells slots Q (F0 m pc ls (.ref (E.2.2.1 0 i) :: rest)) :=
  va_get (D := E.1) (ci := 11) (C := RX12) (T := TX12) (N := 76) C0.1.1 C0.1.2.1 C0.1.2.2.2.2 hin C0.1.2.2.2.1 C0.2 hw.1 (offA cntM 0 + i) (wM_at (by decide) hi) rfl 73 (by decide) (C0.1.2.2.2.2 _ hlink) (fun _ h9 => h9) rfl hdg kk
theorem M_g0_74 (C0 : CX p m c cc nL s args Ts own E) (hw : SM E s st H locs) (hin : ∀ w ∈ u_ws RX12 TX12 76, w ∈ Ts) {i : Nat} (hi : i < cntM 0) {idx : Nat} (hlink : Cond.fieldLink own idx "ColourHouseModel" "letter" "[B" ∈ Ts) (hdg : decode cc pc = .ok (.getfield idx, 3)) (kk : W p l e R s m args below meth c H locs cells slots Q (F0 m (pc + 3) ls (.ref (E.2.2.1 75 (0)) :: rest))) : W p l e R s m args below meth c H locs cells slots Q (F0 m pc ls (.ref (E.2.2.1 0 i) :: rest)) :=
  va_get (D := E.1) (ci := 11) (C := RX12) (T := TX12) (N := 76) C0.1.1 C0.1.2.1 C0.1.2.2.2.2 hin C0.1.2.2.2.1 C0.2 hw.1 (offA cntM 0 + i) (wM_at (by decide) hi) rfl 74 (by decide) (C0.1.2.2.2.2 _ hlink) (fun _ h9 => h9) rfl hdg kk
theorem M_g0_75 (C0 : CX p m c cc nL s args Ts own E) (hw : SM E s st H locs) (hin : ∀ w ∈ u_ws RX12 TX12 76, w ∈ Ts) {i : Nat} (hi : i < cntM 0) {idx : Nat} (hlink : Cond.fieldLink own idx "ColourHouseModel" "outs" "I" ∈ Ts) (hdg : decode cc pc = .ok (.getfield idx, 3)) (kk : W p l e R s m args below meth c H locs cells slots Q (F0 m (pc + 3) ls (.int (gI st 0 i 75) :: rest))) : W p l e R s m args below meth c H locs cells slots Q (F0 m pc ls (.ref (E.2.2.1 0 i) :: rest)) :=
  va_get (D := E.1) (ci := 11) (C := RX12) (T := TX12) (N := 76) C0.1.1 C0.1.2.1 C0.1.2.2.2.2 hin C0.1.2.2.2.1 C0.2 hw.1 (offA cntM 0 + i) (wM_at (by decide) hi) rfl 75 (by decide) (C0.1.2.2.2.2 _ hlink) (fun _ h9 => h9) rfl hdg kk
theorem M_p0_75 (hL : LM E) (C0 : CX p m c cc nL s args Ts own E) (hw : SM E s st H locs) (hin : ∀ w ∈ u_ws RX12 TX12 76, w ∈ Ts) {i : Nat} (hi : i < cntM 0) {v : Int32} {K : Sto → Option β} (h : lt1 (sI st 0 i 75 v) K = some r) {idx : Nat} (hlink : Cond.fieldLink own idx "ColourHouseModel" "outs" "I" ∈ Ts) (hdg : decode cc pc = .ok (.putfield idx, 3)) (kk : ∀ (st1 : Sto) (H1 : Heap) (locs1 : List Loc), SM E s st1 H1 locs1 → K st1 = some r → W p l e R s m args below meth c H1 locs1 cells slots Q (F0 m (pc + 3) ls rest)) : W p l e R s m args below meth c H locs cells slots Q (F0 m pc ls (.int v :: .ref (E.2.2.1 0 i) :: rest)) := by
  refine va_put (D := E.1) (ci := 11) (ty := .int) (C := RX12) (T := TX12) (N := 76) C0.1.1 C0.1.2.1 C0.1.2.2.2.2 hin tyX12 tyX12_ok nmX12 C0.1.2.2.2.1 C0.2 hw.1 (hL _) hw.2 (offA cntM 0 + i) (wM_at (by decide) hi) rfl 75 (by decide) (C0.1.2.2.2.2 _ hlink) (fun _ h9 => h9) rfl (by decide +kernel) rfl rfl (Nat.le_of_ble_eq_true rfl) hdg (fun H1 locs1 hP _ hS => kk _ H1 locs1 ⟨?_, hS⟩ (lt_c h))
  rw [wM_sI (j := 75) (v := v) (by decide) hi (by rw [gI_self]; rfl)] at hP
  exact hP
theorem M_fin (C0 : CX p m c cc nL s args Ts own E) (hw : SM E s st H locs) {v : Option Value} {a : Array Value} : ∀ t : State, t.heap = H → s.WarmedH t.vm → QM E v st a s (.returned v) t := fun t ht hW => ⟨rfl, ⟨by rw [ht]; exact hw.1, va_K.moved hW.alike C0.2⟩, hw.2.F ht⟩
theorem M_call (hw : SM E s st H locs) {st0 : List Value} {st1 : Sto} {v : Option Value} {a : Array Value} (hr : va_Run p l e R s m args below meth c H locs cells slots 0 0 (F0 m pc ls st0) rest (QM E v st1 a) E.2.2.2) (kk : ∀ (H1 : Heap) (locs1 : List Loc), SM E s st1 H1 locs1 → W p l e R s m args below meth c H1 locs1 cells slots Q (F0 m (pc + 3) ls (v.toList ++ rest))) : W p l e R s m args below meth c H locs cells slots Q (F0 m pc ls st0) := by
  intro T hT X
  obtain ⟨v', st₀, t, T', L, h0, X', hL, e1, e2, ⟨hv, hR, hz, hk⟩, st'⟩ := hr T hT X
  cases hv
  rw [h0] at hz hk
  obtain ⟨t2, a1, b1⟩ := kk T'.heap (locs ++ L) ⟨by rw [e1]; exact hR.1, Nat.le_trans hw.2.1 (by rw [e1]; exact hz), fun q h1 h2 => by rw [e1, hk q (Nat.lt_of_lt_of_le h1 hw.2.1) h2]; exact hw.2.2.1 q h1 h2, fun q hq => by
    rcases List.mem_append.mp hq with h | h
    · exact hw.2.2.2 q h
    · exact hL q h⟩ T' rfl X'
  exact ⟨t2, st' t2 a1, b1⟩
theorem M_callV (C0 : CX p m c cc nL s args Ts own E) (hw : SM E s st H locs) {y : MethodName} {bytes : ByteArray} {maxL index n b : Nat} {ret : Option FieldType} {ws : List Cond} {rm : Room} {C : String} {As : List Value} {st1 : Sto} {v : Option Value} (hM : Met l y ws rm (va_Pc (.ref b :: As) (RM E st)) (QM E v st1) 0 0 E.2.2.2) (cw : CallW R s args own C index y bytes maxL ret ws rm 0 0 n) (hrv : ∃ cellB : Cell, H[b]? = some cellB ∧ cellB.vm.isStatics = false ∧ s.vm.findClass C = some cellB.cls) (hn : As.length = n) (hsz : ls.size = nL) {st0 : List Value} (hst : st0 = As.reverse ++ .ref b :: rest) (hrm : (rest.map fun v => v.category).sum ≤ 8) (hdg : decode cc pc = .ok (.invokevirtual index, 3)) (hf : cells ≤ R.cells ∧ slots ≤ R.slots) (kk : ∀ (H1 : Heap) (locs1 : List Loc), SM E s st1 H1 locs1 → W p l e R s m args below meth c H1 locs1 cells slots Q (F0 m (pc + 3) ls (v.toList ++ rest))) : W p l e R s m args below meth c H locs cells slots Q (F0 m pc ls st0) :=
  M_call hw (va_runV C0.1 hM cw ⟨RM_blind, hrv, fun V hV hW => ⟨rfl, by rw [hV]; exact hw.1, va_K.moved hW.alike C0.2⟩⟩ rfl hn hsz hst (by show 2 * 0 + _ ≤ 8; omega) hdg hf) kk
theorem M_callS (C0 : CX p m c cc nL s args Ts own E) (hw : SM E s st H locs) {y : MethodName} {bytes : ByteArray} {maxL index n : Nat} {ret : Option FieldType} {ws : List Cond} {rm : Room} {As : List Value} {st1 : Sto} {v : Option Value} (hM : Met l y ws rm (va_Pc As (RM E st)) (QM E v st1) 0 0 E.2.2.2) (cw : CallB R s args own index y bytes maxL ret ws rm 0 0 n ∧ (Cond.static y).before args s = true) (hn : As.length = n) (hsz : ls.size = nL) {st0 : List Value} (hst : st0 = As.reverse ++ rest) (hrm : (rest.map fun v => v.category).sum ≤ 8) (hdg : decode cc pc = .ok (.invokestatic index, 3)) (hf : cells ≤ R.cells ∧ slots ≤ R.slots) (kk : ∀ (H1 : Heap) (locs1 : List Loc), SM E s st1 H1 locs1 → W p l e R s m args below meth c H1 locs1 cells slots Q (F0 m (pc + 3) ls (v.toList ++ rest))) : W p l e R s m args below meth c H locs cells slots Q (F0 m pc ls st0) :=
  M_call hw (va_runS C0.1 hM cw ⟨RM_blind, fun V hV hW => ⟨rfl, by rw [hV]; exact hw.1, va_K.moved hW.alike C0.2⟩⟩ rfl hn hsz hst (by show 2 * 0 + _ ≤ 8; omega) hdg hf) kk
end RowsM
