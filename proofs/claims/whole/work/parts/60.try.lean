/-! ===== stores: rows put at once; the class's mix ===== -/
theorem dadd_0 {q : UInt64} (h : fnn q) : FP.dadd q FP.dconst0 = q := by
  refine fnn_eq ?_
  have h1 := dadd_ex (m := q.toNat) h zero_f (Nat.le_of_lt h) (by rw [zero_n, un_0, Nat.add_zero])
  rw [h1]
def fstP (G : Nat → Nat) (g : UInt64) : Nat → Nat
  | 0 => 0
  | n + 1 => if fstP G g n < n then fstP G g n else if g.toNat ≤ (FP.i2d (nI (G n))).toNat then n else n + 1
theorem fstP_is (G : Nat → Nat) (g : UInt64) : ∀ n, isP n G g (fstP G g n)
  | 0 => ⟨Nat.le_refl _, fun j h => absurd h (Nat.not_lt_zero j), fun h => absurd h (Nat.not_lt_zero 0)⟩
  | n + 1 => by
    obtain ⟨h1, h2, h3⟩ := fstP_is G g n
    unfold fstP
    by_cases e : fstP G g n < n
    · rw [if_pos e]
      exact ⟨by omega, h2, fun _ => h3 e⟩
    · rw [if_neg e]
      have e2 : fstP G g n = n := by omega
      rw [e2] at h2
      by_cases c : g.toNat ≤ (FP.i2d (nI (G n))).toNat
      · rw [if_pos c]
        exact ⟨by omega, h2, fun _ => c⟩
      · rw [if_neg c]
        refine ⟨Nat.le_refl _, fun j hj => ?_, fun h => absurd h (Nat.lt_irrefl _)⟩
        rcases Nat.lt_succ_iff_lt_or_eq.mp hj with q | q
        · exact h2 j q
        · subst q; omega
def dyeC (n : Nat) (G : Nat → Nat) (O : Nat → UInt64) (g : UInt64) : UInt64 := if n = 0 then FP.dconst0 else if g.toNat = 0 then FP.dconst0 else dyeV n G O g (fstP G g n)
theorem dyeC_b {n : Nat} {G : Nat → Nat} {O : Nat → UInt64} {g : UInt64} {cg : Nat} (h : DyeOk n G O) (hg : iv cg g) (lg : lw 1013 g) (hc : cg ≤ 10000000000) (hc2 : 2 ≤ cg) : iv (1024 * cg) (dyeC n G O g) ∧ lw 625 (dyeC n G O g) := by
  unfold dyeC
  split
  · exact ⟨iv_zero, lw_zero⟩
  split
  · exact ⟨iv_zero, lw_zero⟩
  · exact dyeV_b h (by omega) (fstP_is G g n) hg lg hc hc2
theorem ixc {n N : Nat} (h : n < N) (hN : N ≤ 2 ^ 31) : 0 ≤ (nI n).toInt ∧ (nI n).toInt < (N : Int) := by
  rw [nI_toInt (by omega)]; omega
theorem ixz {N : Nat} (h : 0 < N) : 0 ≤ (0 : Int32).toInt ∧ (0 : Int32).toInt < (N : Int) := ⟨by decide, by rw [show (0 : Int32).toInt = 0 from rfl]; omega⟩
theorem nI_cl {n : Nat} (h : n < 2 ^ 31) : (nI n).toNatClampNeg = n := by
  show (nI n).toInt.toNat = n
  rw [nI_toInt h]; rfl
theorem nI_s (n : Nat) : nI n + Int32.ofInt 1 = nI (n + 1) := nI_1 n
theorem nI_gt {N n : Nat} (hN : N < 2 ^ 31) (h : n < N) : ¬ nI N ≤ nI n := fun q => by
  have := (nI_leI hN (by omega)).mp q; omega
def putD (s : Sto) (f i n : Nat) (v : Nat → UInt64) : Sto := (s.1, s.2.1, s.2.2.1, fun a b c => if a = f ∧ b = i ∧ c < n then v c else s.2.2.2 a b c)
def putF (s : Sto) (f i n : Nat) (v : Nat → UInt32) : Sto := (s.1, fun a b c => if a = f ∧ b = i ∧ c < n then v c else s.2.1 a b c, s.2.2.1, s.2.2.2)
theorem putD_0 (s : Sto) (f i : Nat) (v : Nat → UInt64) : putD s f i 0 v = s := by
  obtain ⟨a, b, c, d⟩ := s
  refine Prod.ext rfl (Prod.ext rfl (Prod.ext rfl ?_))
  funext x y z
  exact if_neg (fun h => Nat.not_lt_zero z h.2.2)
theorem putF_0 (s : Sto) (f i : Nat) (v : Nat → UInt32) : putF s f i 0 v = s := by
  obtain ⟨a, b, c, d⟩ := s
  refine Prod.ext rfl (Prod.ext ?_ rfl)
  funext x y z
  exact if_neg (fun h => Nat.not_lt_zero z h.2.2)
theorem putD_s (s : Sto) (f i n : Nat) (v : Nat → UInt64) : sD (putD s f i n v) f i n (v n) = putD s f i (n + 1) v := by
  refine Prod.ext rfl (Prod.ext rfl (Prod.ext rfl ?_))
  funext x y z
  show (if x = f ∧ y = i ∧ z = n then v n else if x = f ∧ y = i ∧ z < n then v z else s.2.2.2 x y z) = if x = f ∧ y = i ∧ z < n + 1 then v z else s.2.2.2 x y z
  by_cases h : x = f ∧ y = i
  · by_cases h2 : z = n
    · rw [if_pos ⟨h.1, h.2, h2⟩, if_pos ⟨h.1, h.2, by omega⟩, h2]
    · rw [if_neg (fun q => h2 q.2.2)]
      by_cases h3 : z < n
      · rw [if_pos ⟨h.1, h.2, h3⟩, if_pos ⟨h.1, h.2, by omega⟩]
      · rw [if_neg (fun q => h3 q.2.2), if_neg (fun q => h3 (by omega))]
  · rw [if_neg (fun q => h ⟨q.1, q.2.1⟩), if_neg (fun q => h ⟨q.1, q.2.1⟩), if_neg (fun q => h ⟨q.1, q.2.1⟩)]
theorem putF_s (s : Sto) (f i n : Nat) (v : Nat → UInt32) : sF (putF s f i n v) f i n (v n) = putF s f i (n + 1) v := by
  refine Prod.ext rfl (Prod.ext ?_ rfl)
  funext x y z
  show (if x = f ∧ y = i ∧ z = n then v n else if x = f ∧ y = i ∧ z < n then v z else s.2.1 x y z) = if x = f ∧ y = i ∧ z < n + 1 then v z else s.2.1 x y z
  by_cases h : x = f ∧ y = i
  · by_cases h2 : z = n
    · rw [if_pos ⟨h.1, h.2, h2⟩, if_pos ⟨h.1, h.2, by omega⟩, h2]
    · rw [if_neg (fun q => h2 q.2.2)]
      by_cases h3 : z < n
      · rw [if_pos ⟨h.1, h.2, h3⟩, if_pos ⟨h.1, h.2, by omega⟩]
      · rw [if_neg (fun q => h3 q.2.2), if_neg (fun q => h3 (by omega))]
  · rw [if_neg (fun q => h ⟨q.1, q.2.1⟩), if_neg (fun q => h ⟨q.1, q.2.1⟩), if_neg (fun q => h ⟨q.1, q.2.1⟩)]
theorem putD_g {s : Sto} {f i n a b c : Nat} {v : Nat → UInt64} (h : ¬ (a = f ∧ b = i ∧ c < n)) : gD (putD s f i n v) a b c = gD s a b c := if_neg h
theorem putD_h {s : Sto} {f i n c : Nat} {v : Nat → UInt64} (h : c < n) : gD (putD s f i n v) f i c = v c := if_pos ⟨rfl, rfl, h⟩
theorem putF_g {s : Sto} {f i n a b c : Nat} {v : Nat → UInt32} (h : ¬ (a = f ∧ b = i ∧ c < n)) : gF (putF s f i n v) a b c = gF s a b c := if_neg h
theorem putF_h {s : Sto} {f i n c : Nat} {v : Nat → UInt32} (h : c < n) : gF (putF s f i n v) f i c = v c := if_pos ⟨rfl, rfl, h⟩
theorem putD_p (s : Sto) (f i n : Nat) (v w : Nat → UInt64) : putD (putD s f i n v) f i n w = putD s f i n w := by
  refine Prod.ext rfl (Prod.ext rfl (Prod.ext rfl ?_))
  funext x y z
  show (if x = f ∧ y = i ∧ z < n then w z else if x = f ∧ y = i ∧ z < n then v z else s.2.2.2 x y z) = if x = f ∧ y = i ∧ z < n then w z else s.2.2.2 x y z
  split <;> rfl
theorem putD_e {s : Sto} {f i n : Nat} {v w : Nat → UInt64} (h : ∀ k, k < n → v k = w k) : putD s f i n v = putD s f i n w := by
  refine Prod.ext rfl (Prod.ext rfl (Prod.ext rfl ?_))
  funext x y z
  show (if x = f ∧ y = i ∧ z < n then v z else s.2.2.2 x y z) = if x = f ∧ y = i ∧ z < n then w z else s.2.2.2 x y z
  by_cases q : x = f ∧ y = i ∧ z < n
  · rw [if_pos q, if_pos q, h z q.2.2]
  · rw [if_neg q, if_neg q]
theorem putD_self {s : Sto} {f i n : Nat} {v : Nat → UInt64} (h : ∀ k, k < n → v k = gD s f i k) : putD s f i n v = s := by
  obtain ⟨a, b, c, d⟩ := s
  refine Prod.ext rfl (Prod.ext rfl (Prod.ext rfl ?_))
  funext x y z
  show (if x = f ∧ y = i ∧ z < n then v z else d x y z) = d x y z
  by_cases q : x = f ∧ y = i ∧ z < n
  · rw [if_pos q, h z q.2.2, q.1, q.2.1]; rfl
  · rw [if_neg q]
/-- sixteen turns that each put one double -/
theorem loopD {body : Int32 × Sto → Option ((Int32 × Sto) ⊕ Sto)} {s : Sto} {f i : Nat} (v : Nat → UInt64) (N : Nat) (hN : N < 4000) (hs : ∀ k, k < N → body (nI k, putD s f i k v) = some (.inl (nI (k + 1), sD (putD s f i k v) f i k (v k)))) (hx : body (nI N, putD s f i N v) = some (.inr (putD s f i N v))) : lp body 4000 ((0 : Int32), s) = some (putD s f i N v) := by
  have h := lp_seq (body := body) (fun k => (nI k, putD s f i k v)) (r := putD s f i N v) N 4000 0 (fun j _ hj => by
    rw [hs j (by omega)]
    rw [putD_s]) (by rw [Nat.zero_add]; exact hx) hN
  rw [putD_0] at h
  exact h
theorem loopF {body : Int32 × Sto → Option ((Int32 × Sto) ⊕ Sto)} {s : Sto} {f i : Nat} (v : Nat → UInt32) (N : Nat) (hN : N < 4000) (hs : ∀ k, k < N → body (nI k, putF s f i k v) = some (.inl (nI (k + 1), sF (putF s f i k v) f i k (v k)))) (hx : body (nI N, putF s f i N v) = some (.inr (putF s f i N v))) : lp body 4000 ((0 : Int32), s) = some (putF s f i N v) := by
  have h := lp_seq (body := body) (fun k => (nI k, putF s f i k v)) (r := putF s f i N v) N 4000 0 (fun j _ hj => by
    rw [hs j (by omega)]
    rw [putF_s]) (by rw [Nat.zero_add]; exact hx) hN
  rw [putF_0] at h
  exact h
