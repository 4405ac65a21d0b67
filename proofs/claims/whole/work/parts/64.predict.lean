/-! ===== predict ===== -/
def putO (s : Sto) (f i o n : Nat) (v : Nat → UInt32) : Sto := (s.1, fun a b c => if a = f ∧ b = i ∧ o ≤ c ∧ c < o + n then v (c - o) else s.2.1 a b c, s.2.2.1, s.2.2.2)
theorem putO_0 (s : Sto) (f i o : Nat) (v : Nat → UInt32) : putO s f i o 0 v = s := by
  obtain ⟨a, b, c, d⟩ := s
  refine Prod.ext rfl (Prod.ext ?_ rfl)
  funext x y z
  exact if_neg (fun h => by omega)
theorem putO_s (s : Sto) (f i o n : Nat) (v : Nat → UInt32) : sF (putO s f i o n v) f i (o + n) (v n) = putO s f i o (n + 1) v := by
  refine Prod.ext rfl (Prod.ext ?_ rfl)
  funext x y z
  show (if x = f ∧ y = i ∧ z = o + n then v n else if x = f ∧ y = i ∧ o ≤ z ∧ z < o + n then v (z - o) else s.2.1 x y z) = if x = f ∧ y = i ∧ o ≤ z ∧ z < o + (n + 1) then v (z - o) else s.2.1 x y z
  by_cases h : x = f ∧ y = i
  · by_cases h2 : z = o + n
    · rw [if_pos ⟨h.1, h.2, h2⟩, if_pos ⟨h.1, h.2, by omega, by omega⟩, h2, Nat.add_sub_cancel_left]
    · rw [if_neg (fun q => h2 q.2.2)]
      by_cases h3 : o ≤ z ∧ z < o + n
      · rw [if_pos ⟨h.1, h.2, h3⟩, if_pos ⟨h.1, h.2, by omega, by omega⟩]
      · rw [if_neg (fun q => h3 q.2.2), if_neg (fun q => h3 (by omega))]
  · rw [if_neg (fun q => h ⟨q.1, q.2.1⟩), if_neg (fun q => h ⟨q.1, q.2.1⟩), if_neg (fun q => h ⟨q.1, q.2.1⟩)]
theorem putO_g {s : Sto} {f i o n a b c : Nat} {v : Nat → UInt32} (h : ¬ (a = f ∧ b = i ∧ o ≤ c ∧ c < o + n)) : gF (putO s f i o n v) a b c = gF s a b c := if_neg h
theorem putO_h {s : Sto} {f i o n c : Nat} {v : Nat → UInt32} (h : c < n) : gF (putO s f i o n v) f i (o + c) = v c := by
  refine (if_pos ⟨rfl, rfl, by omega, by omega⟩).trans ?_
  rw [Nat.add_sub_cancel_left]
theorem loopO {body : Int32 × Sto → Option ((Int32 × Sto) ⊕ Sto)} {s : Sto} {f i o : Nat} (v : Nat → UInt32) (N : Nat) (hN : N < 4000) (hs : ∀ k, k < N → body (nI k, putO s f i o k v) = some (.inl (nI (k + 1), sF (putO s f i o k v) f i (o + k) (v k)))) (hx : body (nI N, putO s f i o N v) = some (.inr (putO s f i o N v))) : lp body 4000 ((0 : Int32), s) = some (putO s f i o N v) := by
  have h := lp_seq (body := body) (fun k => (nI k, putO s f i o k v)) (r := putO s f i o N v) N 4000 0 (fun j _ hj => by
    rw [hs j (by omega)]
    rw [putO_s]) (by rw [Nat.zero_add]; exact hx) hN
  rw [putO_0] at h
  exact h
theorem cF_put (s : Sto) (f i g j n : Nat) : cF s f i 0 g j 0 n = putF s g j n (fun k => gF s f i k) := by
  refine Prod.ext rfl (Prod.ext ?_ rfl)
  funext a b c
  show (if a = g ∧ b = j ∧ 0 ≤ c ∧ c < 0 + n then s.2.1 f i (0 + (c - 0)) else s.2.1 a b c) = if a = g ∧ b = j ∧ c < n then s.2.1 f i c else s.2.1 a b c
  by_cases h : a = g ∧ b = j ∧ c < n
  · rw [if_pos ⟨h.1, h.2.1, Nat.zero_le _, by omega⟩, if_pos h, Nat.zero_add, Nat.sub_zero]
  · rw [if_neg (fun q => h ⟨q.1, q.2.1, by omega⟩), if_neg h]
/-- the band that is predicted on a cloth -/
def pB (x : Sto) (c k : Nat) : UInt32 := bandV (qSum (qtn (gF x 6 c k)) (ptC x k) (iN x 0 0 11))
theorem pq_b {x : Sto} (h : CoreOk x) (hp : PartsOk x) {c k : Nat} (hc : c < cN x 1) (hk : k < 16) : iv 1024 (qtn (gF x 6 c k)) ∧ lw 625 (qtn (gF x 6 c k)) ∧ iv 61440000001024 (qSum (qtn (gF x 6 c k)) (ptC x k) (iN x 0 0 11)) ∧ lw 600 (qSum (qtn (gF x 6 c k)) (ptC x k) (iN x 0 0 11)) := by
  obtain ⟨_, _, q1, q2⟩ := qtn_b (h.2.2.1 c hc k hk)
  have n6 := hp.1.2
  obtain ⟨s1, s2⟩ := qSum_b ⟨q1, lw_mono q2 (show 625 ≤ 860 by decide)⟩ (N := iN x 0 0 11) (by omega) (ptC_b h hp hk) _ (Nat.le_refl _)
  exact ⟨q1, lw_mono q2 (by decide), iv_mono s1 (by omega), lw_mono s2 (by decide)⟩
theorem pB_b {x : Sto} (h : CoreOk x) (hp : PartsOk x) {c k : Nat} (hc : c < cN x 1) (hk : k < 16) : fl2 (pB x c k) ∧ fX12_bandOf (qSum (qtn (gF x 6 c k)) (ptC x k) (iN x 0 0 11)) = some (pB x c k) := by
  obtain ⟨_, _, s1, s2⟩ := pq_b h hp hc hk
  have := bandV_b s1 (by decide) s2
  exact ⟨this.1, this.2.1⟩
theorem SameX_I {s t : Sto} (h : SameX s t) (f i j : Nat) (v : Int32) : SameX (sI s f i j v) (sI t f i j v) := by
  obtain ⟨h1, h2, h3, h4⟩ := h
  refine ⟨?_, h2, h3, h4⟩
  funext a b c
  rw [gI_sI, gI_sI, h1]
theorem SameX_F {s t : Sto} (h : SameX s t) (f i n : Nat) (v : Nat → UInt32) : SameX (putF s f i n v) (putF t f i n v) := by
  obtain ⟨h1, h2, h3, h4⟩ := h
  refine ⟨h1, h2, fun a b c q => ?_, h4⟩
  show (if a = f ∧ b = i ∧ c < n then v c else s.2.1 a b c) = if a = f ∧ b = i ∧ c < n then v c else t.2.1 a b c
  rw [show s.2.1 a b c = t.2.1 a b c from h3 a b c q]
theorem putF_e {s : Sto} {f i n : Nat} {v w : Nat → UInt32} (h : ∀ k, k < n → v k = w k) : putF s f i n v = putF s f i n w := by
  refine Prod.ext rfl (Prod.ext ?_ rfl)
  funext x y z
  show (if x = f ∧ y = i ∧ z < n then v z else s.2.1 x y z) = if x = f ∧ y = i ∧ z < n then w z else s.2.1 x y z
  by_cases q : x = f ∧ y = i ∧ z < n
  · rw [if_pos q, if_pos q, h z q.2.2]
  · rw [if_neg q, if_neg q]
theorem xPredict {x : Sto} {c : Nat} (h : CoreOk x) (hp : PartsOk x) (hc : c < cN x 1) : ∃ x', fX11_predict (nI c) x = some (1, x') ∧ SameX (sI (sI (sI (putF x 2 0 16 (pB x c)) 0 0 2 1) 0 0 11 0) 0 0 19 0) x' := by
  have c8 : c < 8 := Nat.lt_of_lt_of_le hc (h.1 1 (by decide)).2
  have hth : fX11_isThere (1 : Int32) (nI c) x = some 1 := by
    rcases xThere h (a := 1) (by decide) (nI c) with ⟨_, _, _, e⟩ | ⟨e, _⟩
    · exact e
    · exact absurd rfl (e c hc)
  have S1 : SameX x (putD x 43 0 16 fun k => qtn (gF x 6 c k)) := SameX_pD (by decide)
  have hP1 : PartsOk (putD x 43 0 16 fun k => qtn (gF x 6 c k)) := hp
  have eP : ∀ k p, ptC (putD x 43 0 16 fun k => qtn (gF x 6 c k)) k p = ptC x k p := fun k p => partC_S S1 _ _ _ k
  have hloop := xParts (CoreOk_S S1 h) hP1 (fun k hk => by
    rw [putD_h hk]
    exact ⟨(pq_b h hp hc hk).1, (pq_b h hp hc hk).2.1⟩)
  have e2 : (putD (putD x 43 0 16 fun k => qtn (gF x 6 c k)) 43 0 16 fun k => qSum (gD (putD x 43 0 16 fun k => qtn (gF x 6 c k)) 43 0 k) (ptC (putD x 43 0 16 fun k => qtn (gF x 6 c k)) k) (iN (putD x 43 0 16 fun k => qtn (gF x 6 c k)) 0 0 11)) = putD x 43 0 16 fun k => qSum (qtn (gF x 6 c k)) (ptC x k) (iN x 0 0 11) := by
    rw [putD_p]
    refine putD_e fun k hk => ?_
    rw [putD_h hk]
    have : ptC (putD x 43 0 16 fun k => qtn (gF x 6 c k)) k = ptC x k := funext (eP k)
    rw [this]
    rfl
  rw [e2] at hloop
  have hres := xResult (st := putD x 43 0 16 fun k => qSum (qtn (gF x 6 c k)) (ptC x k) (iN x 0 0 11)) (c := 61440000001024) (by decide) (fun k hk => by
    rw [putD_h hk]
    exact ⟨(pq_b h hp hc hk).2.2.1, (pq_b h hp hc hk).2.2.2⟩)
  refine ⟨sI (sI (sI (putF (putF (putD x 43 0 16 fun k => qSum (qtn (gF x 6 c k)) (ptC x k) (iN x 0 0 11)) 44 0 16 fun k => bandV (gD (putD x 43 0 16 fun k => qSum (qtn (gF x 6 c k)) (ptC x k) (iN x 0 0 11)) 43 0 k)) 2 0 16 (pB x c)) 0 0 2 1) 0 0 11 0) 0 0 19 0, ?_, SameX_I (SameX_I (SameX_I (SameX_F (SameX_t (SameX_pD (by decide)) SameX_pF) 2 0 16 (pB x c)) 0 0 2 1) 0 0 11 0) 0 0 19 0⟩
  unfold fX11_predict
  rw [hth, Option.bind_some, if_neg (by decide), ck_t (by exact ixl (by omega) (by omega)), nI_cl (by omega), xBegin (show lFX 6 c = 16 from if_pos c8) (fun k hk => h.2.2.1 c hc k hk), Option.bind_some, hloop, Option.bind_some, hres, Option.bind_some]
  dsimp only [un2]
  unfold fX11_copyRow
  rw [ck_t (by decide), lt1_e, Option.bind_some, lt1_e, lt1_e, cF_put]
  unfold fX11_accept
  rw [lt1_e, Option.bind_some]
  dsimp only [un2]
  rw [ck_t (by decide)]
  refine congrArg (fun s => some ((1 : Int32), sI (sI (sI s 0 0 2 1) 0 0 11 0) 0 0 19 0)) (putF_e fun k hk => ?_)
  rw [putF_h hk, putD_h hk]
  rfl
