/-! ===== both stores while a search runs ===== -/
/-- t, but for what search o keeps of its result, which is x's -/
def pat (o : Nat) (x t : Sto) : Sto := (fun f i j => if (f = 16 ∨ f = 50 ∨ f = 51) ∧ i = o then gI x f i j else gI t f i j, t.2.1, fun f i j => if f = 16 ∧ i = o then gL x f i j else gL t f i j, fun f i j => if f = 16 ∧ i = o then gD x f i j else gD t f i j)
def RelS (x : Sto) (o : Nat) (t m : Sto) : Prop := RelC t m ∧ Cur (pat o x t) m
/-- what a search may change in the class's store -/
def KF (o : Nat) (t y : Sto) : Prop := (∀ f i j, ¬ (i = o ∧ (f = 16 ∨ (45 ≤ f ∧ f ≤ 51))) → gI y f i j = gI t f i j) ∧ (∀ f i j, f ≠ 44 → gF y f i j = gF t f i j) ∧ (∀ f i j, ¬ (f = 16 ∧ i = o) → f ≠ 14 → ¬ (39 ≤ f ∧ f ≤ 43) → gD y f i j = gD t f i j) ∧ (∀ f i j, ¬ (f = 16 ∧ i = o) → gL y f i j = gL t f i j)
/-- what a search may change in the reference's store -/
def FM (m n : Sto) : Prop := (∀ f i j, ¬ (f = 0 ∧ (j = 9 ∨ j = 10 ∨ (49 ≤ j ∧ j ≤ 51) ∨ j = 56 ∨ (58 ≤ j ∧ j ≤ 62) ∨ j = 68)) → f ≠ 48 → f ≠ 49 → f ≠ 67 → f ≠ 68 → f ≠ 71 → gI n f i j = gI m f i j) ∧ (∀ f i j, ¬ (f = 1 ∧ 2144 ≤ j) → gF n f i j = gF m f i j) ∧ (∀ f i j, ¬ (f = 0 ∧ (j = 53 ∨ j = 72)) → f ≠ 46 → gD n f i j = gD m f i j) ∧ (∀ f i j, ¬ (f = 0 ∧ j = 54) → gL n f i j = gL m f i j)
theorem KF_r (o : Nat) (t : Sto) : KF o t t := ⟨fun _ _ _ _ => rfl, fun _ _ _ _ => rfl, fun _ _ _ _ _ _ => rfl, fun _ _ _ _ => rfl⟩
theorem KF_t {o : Nat} {a b c : Sto} (h : KF o a b) (k : KF o b c) : KF o a c := ⟨fun f i j q => (k.1 f i j q).trans (h.1 f i j q), fun f i j q => (k.2.1 f i j q).trans (h.2.1 f i j q), fun f i j q q2 q3 => (k.2.2.1 f i j q q2 q3).trans (h.2.2.1 f i j q q2 q3), fun f i j q => (k.2.2.2 f i j q).trans (h.2.2.2 f i j q)⟩
theorem FM_r (m : Sto) : FM m m := ⟨fun _ _ _ _ _ _ _ _ _ => rfl, fun _ _ _ _ => rfl, fun _ _ _ _ _ => rfl, fun _ _ _ _ => rfl⟩
theorem FM_t {a b c : Sto} (h : FM a b) (k : FM b c) : FM a c := ⟨fun f i j q q2 q3 q4 q5 q6 => (k.1 f i j q q2 q3 q4 q5 q6).trans (h.1 f i j q q2 q3 q4 q5 q6), fun f i j q => (k.2.1 f i j q).trans (h.2.1 f i j q), fun f i j q q2 => (k.2.2.1 f i j q q2).trans (h.2.2.1 f i j q q2), fun f i j q => (k.2.2.2 f i j q).trans (h.2.2.2 f i j q)⟩
theorem KF_I {o : Nat} {t : Sto} {f i j : Nat} {v : Int32} (h : i = o ∧ (f = 16 ∨ (45 ≤ f ∧ f ≤ 51))) : KF o t (sI t f i j v) := ⟨fun a b c q => by rw [gI_sI, if_neg (by omega)], fun _ _ _ _ => rfl, fun _ _ _ _ _ _ => rfl, fun _ _ _ _ => rfl⟩
theorem KF_FI {o : Nat} {s t : Sto} {f i a n : Nat} {c : Nat → Int32} (h : FillI f i a n c s t) (q : i = o ∧ (f = 16 ∨ (45 ≤ f ∧ f ≤ 51))) : KF o s t := ⟨fun a b c z => by rw [h.1, if_neg (by omega)], fun _ _ _ _ => by rw [h.2.1], fun _ _ _ _ _ _ => by rw [h.2.2.1], fun _ _ _ _ => by rw [h.2.2.2]⟩
theorem KF_S {o : Nat} {s t : Sto} (h : SameX s t) : KF o s t := ⟨fun _ _ _ _ => by rw [h.1], fun f i j q => (h.2.2.1 f i j q).symm, fun f i j _ q2 q3 => (h.2.2.2 f i j q2 (by omega) (by omega) (by omega) (by omega) (by omega)).symm, fun _ _ _ _ => by rw [h.2.1]⟩
theorem KF_D {o : Nat} {t : Sto} {j : Nat} {v : UInt64} : KF o t (sD t 16 o j v) := ⟨fun _ _ _ _ => rfl, fun _ _ _ _ => rfl, fun a b c q _ _ => by rw [gD_sD, if_neg (by omega)], fun _ _ _ _ => rfl⟩
theorem KF_L {o : Nat} {t : Sto} {j : Nat} {v : Int64} : KF o t (sL t 16 o j v) := ⟨fun _ _ _ _ => rfl, fun _ _ _ _ => rfl, fun _ _ _ _ _ _ => rfl, fun a b c q => by rw [gL_sL, if_neg (by omega)]⟩
theorem FM_I {m : Sto} {f i j : Nat} {v : Int32} (h : (f = 0 ∧ (j = 9 ∨ j = 10 ∨ (49 ≤ j ∧ j ≤ 51) ∨ j = 56 ∨ (58 ≤ j ∧ j ≤ 62) ∨ j = 68)) ∨ f = 48 ∨ f = 49 ∨ f = 67 ∨ f = 68 ∨ f = 71) : FM m (sI m f i j v) := ⟨fun a b c q _ _ _ _ _ => by rw [gI_sI, if_neg (by omega)], fun _ _ _ _ => rfl, fun _ _ _ _ _ => rfl, fun _ _ _ _ => rfl⟩
theorem FM_O {m : Sto} {i o n : Nat} {v : Nat → UInt32} (h : 2144 ≤ o) : FM m (putO m 1 i o n v) := ⟨fun _ _ _ _ _ _ _ _ _ => rfl, fun a b c q => putO_g (by omega), fun _ _ _ _ _ => rfl, fun _ _ _ _ => rfl⟩
theorem FM_D {m : Sto} {f i j : Nat} {v : UInt64} (h : (f = 0 ∧ (j = 53 ∨ j = 72)) ∨ f = 46) : FM m (sD m f i j v) := ⟨fun _ _ _ _ _ _ _ _ _ => rfl, fun _ _ _ _ => rfl, fun a b c q _ => by rw [gD_sD, if_neg (by omega)], fun _ _ _ _ => rfl⟩
theorem FM_pD {m : Sto} {n : Nat} {v : Nat → UInt64} : FM m (putD m 46 0 n v) := ⟨fun _ _ _ _ _ _ _ _ _ => rfl, fun _ _ _ _ => rfl, fun a b c _ q => putD_g (by omega), fun _ _ _ _ => rfl⟩
theorem FM_L {m : Sto} {v : Int64} : FM m (sL m 0 0 54 v) := ⟨fun _ _ _ _ _ _ _ _ _ => rfl, fun _ _ _ _ => rfl, fun _ _ _ _ _ => rfl, fun a b c q => by rw [gL_sL, if_neg (by omega)]⟩
theorem KF_KX {o : Nat} {t y : Sto} (h : KF o t y) : KX t y := ⟨fun f i j q => h.1 f i j (by omega), fun f i j q => h.2.1 f i j (by omega), fun f i j q => h.2.2.1 f i j (by omega) (by omega) (by omega)⟩
theorem FM_KM {m n : Sto} (h : FM m n) : KM m n := ⟨fun f i j q => h.1 f i j (by omega) (by omega) (by omega) (by omega) (by omega) (by omega), fun f i j q => h.2.1 f i j (by omega), fun f i j q => h.2.2.1 f i j (by omega) (by omega)⟩
theorem FM_SCM {m n : Sto} (h : FM m n) : SCM m n := ⟨fun f i j q => h.1 f i j (by omega) (by omega) (by omega) (by omega) (by omega) (by omega), fun j q => h.2.1 1 0 j (by omega), h.2.2.1 0 0 64 (by omega) (by omega), h.2.2.2 0 0 65 (by omega)⟩
theorem RelS_f {x t y m n : Sto} {o : Nat} (h : RelS x o t m) (a : KF o t y) (b : FM m n) : RelS x o y n := by
  refine ⟨RelC_keep (KF_KX a) (FM_KM b) h.1, Cur_f (x := pat o x t) (y := pat o x y) ⟨fun f i j q => ?_, fun f i j q => a.2.1 f i j (by omega), fun f i j q => ?_, ?_⟩ (FM_SCM b) h.2⟩
  · show (if (f = 16 ∨ f = 50 ∨ f = 51) ∧ i = o then gI x f i j else gI y f i j) = (if (f = 16 ∨ f = 50 ∨ f = 51) ∧ i = o then gI x f i j else gI t f i j)
    by_cases z : (f = 16 ∨ f = 50 ∨ f = 51) ∧ i = o
    · rw [if_pos z, if_pos z]
    · rw [if_neg z, if_neg z]; exact a.1 f i j (by omega)
  · show (if f = 16 ∧ i = o then gD x f i j else gD y f i j) = (if f = 16 ∧ i = o then gD x f i j else gD t f i j)
    by_cases z : f = 16 ∧ i = o
    · rw [if_pos z, if_pos z]
    · rw [if_neg z, if_neg z]; exact a.2.2.1 f i j z (by omega) (by omega)
  · funext f i j
    show (if f = 16 ∧ i = o then gL x f i j else gL y f i j) = (if f = 16 ∧ i = o then gL x f i j else gL t f i j)
    by_cases z : f = 16 ∧ i = o
    · rw [if_pos z, if_pos z]
    · rw [if_neg z, if_neg z]; exact a.2.2.2 f i j z
theorem RelS_0 {x m : Sto} (o : Nat) (h : Rel x m) : RelS x o x m := by
  refine ⟨h.1, Cur_f (x := x) (m := m) ⟨fun f i j q => ?_, fun _ _ _ _ => rfl, fun f i j q => ?_, ?_⟩ (SCM_r m) h.2.2⟩
  · show (if (f = 16 ∨ f = 50 ∨ f = 51) ∧ i = o then gI x f i j else gI x f i j) = _
    rw [ite_self]
  · show (if f = 16 ∧ i = o then gD x f i j else gD x f i j) = _
    rw [ite_self]
  · funext f i j
    show (if f = 16 ∧ i = o then gL x f i j else gL x f i j) = _
    rw [ite_self]
theorem RelS_B {x t m : Sto} {o : Nat} (h : RelS x o t m) : CurB t m := h.2.2.1
theorem RelS_A {x t m : Sto} {o : Nat} (h : RelS x o t m) : CurA t m := h.2.1
