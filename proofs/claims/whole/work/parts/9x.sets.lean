/-! ===== the reference's loops over sets ===== -/
def mL3 (a5 v63 : Int32) : Int32 × Sto → Option ((Int32 × Sto) ⊕ Sto) := un2 fun (v160 : Int32) (t161 : Sto) =>
                                           if gI t161 0 (0) 4 ≤ v160 then (
                                            some (.inr t161)) else (
                                            if v63 ≤ (2 : Int32) then (
                                             some (.inr t161)) else (
                                             if gI t161 0 (0) 56 = 0 then (
                                              (fX12_isOf a5 v160 t161).bind (fun (v170 : Int32) =>
                                               if v170 = 0 then (
                                                lt1 (v160 + Int32.ofInt (1)) fun (v178 : Int32) =>
                                                some (.inl (v178, t161))) else (
                                                lt1 (sI t161 (48) (0) (4) v160) fun (t173 : Sto) =>
                                                lt1 (sI t173 0 (0) 49 (3 : Int32)) fun (t174 : Sto) =>
                                                (fX12_tryGrams t174).bind (fun (t175 : Sto) =>
                                                 lt1 (v160 + Int32.ofInt (1)) fun (v177 : Int32) =>
                                                 some (.inl (v177, t175)))))) else (
                                              some (.inr t161))))
def mL2 (a5 v63 : Int32) : Int32 × Sto → Option ((Int32 × Sto) ⊕ Sto) := un2 fun (v138 : Int32) (t139 : Sto) =>
                                  if gI t139 0 (0) 4 ≤ v138 then (
                                   some (.inr t139)) else (
                                   if v63 ≤ (1 : Int32) then (
                                    some (.inr t139)) else (
                                    if gI t139 0 (0) 56 = 0 then (
                                     (fX12_isOf a5 v138 t139).bind (fun (v148 : Int32) =>
                                      if v148 = 0 then (
                                       lt1 (v138 + Int32.ofInt (1)) fun (v183 : Int32) =>
                                       some (.inl (v183, t139))) else (
                                       lt1 (sI t139 (48) (0) (2) v138) fun (t151 : Sto) =>
                                       jn (fun (t155 : Sto) =>
                                        lt1 (v138 + (1 : Int32)) fun (v156 : Int32) =>
                                        (lp (mL3 a5 v63) 4000 (v156, t155)).bind
                                         (fun (t162 : Sto) =>
                                          lt1 (v138 + Int32.ofInt (1)) fun (v166 : Int32) =>
                                          some (.inl (v166, t162)))) fun K152 =>
                                       if v63 = (2 : Int32) then (
                                        lt1 (sI t151 0 (0) 49 (2 : Int32)) fun (t180 : Sto) =>
                                        (fX12_tryGrams t180).bind (fun (t181 : Sto) =>
                                         K152 t181)) else (
                                        K152 t151)))) else (
                                     some (.inr t139))))
def mL1 (a5 v63 : Int32) : Int32 × Sto → Option ((Int32 × Sto) ⊕ Sto) := un2 fun (v117 : Int32) (t118 : Sto) =>
                          if gI t118 0 (0) 4 ≤ v117 then (
                           some (.inr t118)) else (
                           if gI t118 0 (0) 56 = 0 then (
                            (fX12_isOf a5 v117 t118).bind (fun (v126 : Int32) =>
                             if v126 = 0 then (
                              lt1 (v117 + Int32.ofInt (1)) fun (v188 : Int32) =>
                              some (.inl (v188, t118))) else (
                              lt1 (sI t118 (48) (0) (0) v117) fun (t129 : Sto) =>
                              jn (fun (t133 : Sto) =>
                               lt1 (v117 + (1 : Int32)) fun (v134 : Int32) =>
                               (lp (mL2 a5 v63) 4000 (v134, t133)).bind
                                (fun (t140 : Sto) =>
                                 lt1 (v117 + Int32.ofInt (1)) fun (v144 : Int32) =>
                                 some (.inl (v144, t140)))) fun K130 =>
                              if v63 = (1 : Int32) then (
                               lt1 (sI t129 0 (0) 49 (1 : Int32)) fun (t185 : Sto) =>
                               (fX12_tryGrams t185).bind (fun (t186 : Sto) =>
                                K130 t186)) else (
                               K130 t129)))) else (
                            some (.inr t118)))
/-- how many of the set are below v -/
def rk (sel : Nat → Bool) : Nat → Nat
  | 0 => 0
  | v + 1 => rk sel v + (if sel v then 1 else 0)
theorem rk_m (sel : Nat → Bool) {u v : Nat} (h : u ≤ v) : rk sel u ≤ rk sel v := by
  induction h with
  | refl => exact Nat.le_refl _
  | step _ ih => exact Nat.le_trans ih (Nat.le_add_right _ _)
section
variable {x : Sto} {l e c n a st T : Nat} {D : Nat → Nat} {W : Nat → Nat → Nat} {gr : Nat → UInt32} {X1 : Sto} {s : Nat} {i g : Nat → Nat} {m : Sto} {sel : Nat → Bool} {cnt : Nat} {a5 : Int32}
theorem Nx_i {i' : Nat → Nat} (h : Nx x l e c n a st T D W gr X1 s i g m) (e1 : ∀ k, k < s → i k = i' k) : Nx x l e c n a st T D W gr X1 s i' g m := by
  obtain ⟨s0, i0, g0, h1, h2⟩ := h
  refine ⟨s0, i0, g0, h1, fun X hX hC => ?_⟩
  obtain ⟨Y, y1, y2, y3⟩ := h2 X hX hC
  refine ⟨Y, y1, y2, y3.1, y3.2.1, fun k hk => ?_⟩
  have := y3.2.2 k hk
  dsimp only at this ⊢
  rw [e1 k hk] at this
  exact this
theorem IV_i {i' : Nat → Nat} (h : IV x l e c n a st T D W gr X1 s i g m) (e1 : ∀ k, k < s → i k = i' k) : IV x l e c n a st T D W gr X1 s i' g m := by
  obtain ⟨k, X, k1, k9, hX, hR, hs, hM, hb, hC, h0, hc⟩ := h
  refine ⟨k, X, k1, k9, hX, hR, hs, hM, hb, ⟨hC.1, hC.2.1, fun q hq => ?_⟩, h0, hc⟩
  have := hC.2.2 q hq
  dsimp only at this ⊢
  rw [e1 q hq] at this
  exact this
/-- the sets of s things are done -/
def End (x : Sto) (l e c n a st T : Nat) (D : Nat → Nat) (W : Nat → Nat → Nat) (gr : Nat → UInt32) (X1 : Sto) (s : Nat) (m : Sto) : Prop := IV x l e c n a st T D W gr X1 (min s n) (fun k => n - min s n + k) (fun _ => T) m
/-- before the sets of s things that begin with j or more -/
def O1 (x : Sto) (l e c n a st T : Nat) (D : Nat → Nat) (W : Nat → Nat → Nat) (gr : Nat → UInt32) (X1 : Sto) (s j : Nat) (m : Sto) : Prop := (j + s ≤ n ∧ Nx x l e c n a st T D W gr X1 s (fun k => j + k) (fun _ => 1) m) ∨ (n < j + s ∧ End x l e c n a st T D W gr X1 s m) ∨ FL x l e c n a st T D W gr X1 m
def i2 (j0 j : Nat) (k : Nat) : Nat := if k = 0 then j0 else j + k - 1
def i3 (j0 j1 j : Nat) (k : Nat) : Nat := if k = 0 then j0 else if k = 1 then j1 else j
def O2 (x : Sto) (l e c n a st T : Nat) (D : Nat → Nat) (W : Nat → Nat → Nat) (gr : Nat → UInt32) (X1 : Sto) (s j0 j : Nat) (m : Sto) : Prop := (j + s ≤ n + 1 ∧ Nx x l e c n a st T D W gr X1 s (i2 j0 j) (fun _ => 1) m) ∨ (n + 1 < j + s ∧ O1 x l e c n a st T D W gr X1 s (j0 + 1) m) ∨ FL x l e c n a st T D W gr X1 m
def O3 (x : Sto) (l e c n a st T : Nat) (D : Nat → Nat) (W : Nat → Nat → Nat) (gr : Nat → UInt32) (X1 : Sto) (j0 j1 j : Nat) (m : Sto) : Prop := (j + 1 ≤ n ∧ Nx x l e c n a st T D W gr X1 3 (i3 j0 j1 j) (fun _ => 1) m) ∨ (n < j + 1 ∧ O2 x l e c n a st T D W gr X1 3 j0 (j1 + 1) m) ∨ FL x l e c n a st T D W gr X1 m
theorem nxB {p : Nat} {i' : Nat → Nat} (hE : Env x l e c n a st T D gr) (h : IV x l e c n a st T D W gr X1 s i (fun _ => T) m) (s3 : s ≤ 3) (sn : s ≤ n) (hin : ∀ k, k < s → i k < n) (hp : p < s) (hlt : i p < n - s + p) (hge : ∀ q, p < q → q < s → n - s + q ≤ i q) (e1 : ∀ k, k < s → (if k < p then i k else i p + 1 + k - p) = i' k) : Nx x l e c n a st T D W gr X1 s i' (fun _ => 1) m := by
  obtain ⟨_, _, _, _, e5, e6, _, e8, _⟩ := hE
  exact Nx_i (i := fun j => if j < p then i j else i p + 1 + j - p) ⟨s, i, fun _ => T, h, fun X hX hC => advB hX hC s3 (by omega) e6 sn (by omega) hin (fun _ _ => rfl) hp hlt hge⟩ e1
/-- behind a set of one -/
theorem o1_1 {j : Nat} (hE : Env x l e c n a st T D gr) (hj : j < n) (h : IV x l e c n a st T D W gr X1 1 (fun k => j + k) (fun _ => T) m) : O1 x l e c n a st T D W gr X1 1 (j + 1) m := by
  by_cases q : j + 1 + 1 ≤ n
  · exact Or.inl ⟨q, nxB (p := 0) hE h (by decide) (by omega) (fun k hk => by omega) (by decide) (by omega) (fun q _ _ => by omega) (fun k hk => by rw [if_neg (by omega)]; omega)⟩
  · refine Or.inr (Or.inl ⟨by omega, ?_⟩)
    unfold End
    rw [Nat.min_eq_left (by omega)]
    exact IV_i h (fun k hk => by omega)
theorem o1_2 {j0 : Nat} (hE : Env x l e c n a st T D gr) (hj : j0 + 1 < n) (h : IV x l e c n a st T D W gr X1 2 (i2 j0 (n - 1)) (fun _ => T) m) : O1 x l e c n a st T D W gr X1 2 (j0 + 1) m := by
  by_cases q : j0 + 1 + 2 ≤ n
  · refine Or.inl ⟨q, nxB (p := 0) hE h (by decide) (by omega) (fun k hk => ?_) (by decide) ?_ (fun q _ _ => ?_) (fun k hk => ?_)⟩
    · unfold i2; split <;> omega
    · show j0 < _
      omega
    · unfold i2; rw [if_neg (by omega)]; omega
    · rw [if_neg (by omega)]
      show j0 + 1 + k - 0 = _
      omega
  · refine Or.inr (Or.inl ⟨by omega, ?_⟩)
    unfold End
    rw [Nat.min_eq_left (by omega)]
    exact IV_i h (fun k hk => by unfold i2; split <;> omega)
theorem o2_2 {j0 j : Nat} (hE : Env x l e c n a st T D gr) (h0 : j0 < j) (hj : j < n) (h : IV x l e c n a st T D W gr X1 2 (i2 j0 j) (fun _ => T) m) : O2 x l e c n a st T D W gr X1 2 j0 (j + 1) m := by
  by_cases q : j + 1 + 2 ≤ n + 1
  · refine Or.inl ⟨q, nxB (p := 1) hE h (by decide) (by omega) (fun k hk => ?_) (by decide) ?_ (fun q _ _ => by omega) (fun k hk => ?_)⟩
    · unfold i2; split <;> omega
    · show j + 1 - 1 < _
      omega
    · unfold i2
      by_cases z : k = 0
      · rw [if_pos (by omega), if_pos z, if_pos z]
      · rw [if_neg (by omega), if_neg z, if_neg (by decide)]; omega
  · refine Or.inr (Or.inl ⟨by omega, ?_⟩)
    have : j = n - 1 := by omega
    subst this
    exact o1_2 hE (by omega) h
theorem o1_3 {j0 : Nat} (hE : Env x l e c n a st T D gr) (hj : j0 + 2 < n) (h : IV x l e c n a st T D W gr X1 3 (i3 j0 (n - 2) (n - 1)) (fun _ => T) m) : O1 x l e c n a st T D W gr X1 3 (j0 + 1) m := by
  by_cases q : j0 + 1 + 3 ≤ n
  · refine Or.inl ⟨q, nxB (p := 0) hE h (by decide) (by omega) (fun k hk => ?_) (by decide) ?_ (fun q q1 q2 => ?_) (fun k hk => ?_)⟩
    · unfold i3; split <;> (try split) <;> omega
    · show j0 < _
      omega
    · unfold i3; rw [if_neg (by omega)]; split <;> omega
    · rw [if_neg (by omega)]
      show j0 + 1 + k - 0 = _
      omega
  · refine Or.inr (Or.inl ⟨by omega, ?_⟩)
    unfold End
    rw [Nat.min_eq_left (by omega)]
    exact IV_i h (fun k hk => by unfold i3; split <;> (try split) <;> omega)
theorem o2_3 {j0 j1 : Nat} (hE : Env x l e c n a st T D gr) (h0 : j0 < j1) (hj : j1 + 1 < n) (h : IV x l e c n a st T D W gr X1 3 (i3 j0 j1 (n - 1)) (fun _ => T) m) : O2 x l e c n a st T D W gr X1 3 j0 (j1 + 1) m := by
  by_cases q : j1 + 1 + 3 ≤ n + 1
  · refine Or.inl ⟨q, nxB (p := 1) hE h (by decide) (by omega) (fun k hk => ?_) (by decide) ?_ (fun q q1 q2 => ?_) (fun k hk => ?_)⟩
    · unfold i3; split <;> (try split) <;> omega
    · show j1 < _
      omega
    · unfold i3; rw [if_neg (by omega), if_neg (by omega)]; omega
    · unfold i2
      by_cases z : k = 0
      · rw [if_pos (by omega), if_pos z, z]; rfl
      · rw [if_neg (by omega), if_neg z]
        show j1 + 1 + k - 1 = _
        omega
  · refine Or.inr (Or.inl ⟨by omega, ?_⟩)
    have : j1 = n - 2 := by omega
    subst this
    exact o1_3 hE (by omega) h
theorem o3_3 {j0 j1 j : Nat} (hE : Env x l e c n a st T D gr) (h0 : j0 < j1) (h1 : j1 < j) (hj : j < n) (h : IV x l e c n a st T D W gr X1 3 (i3 j0 j1 j) (fun _ => T) m) : O3 x l e c n a st T D W gr X1 j0 j1 (j + 1) m := by
  by_cases q : j + 1 + 1 ≤ n
  · refine Or.inl ⟨q, nxB (p := 2) hE h (by decide) (by omega) (fun k hk => ?_) (by decide) ?_ (fun q q1 q2 => by omega) (fun k hk => ?_)⟩
    · unfold i3; split <;> (try split) <;> omega
    · show j < _
      omega
    · unfold i3
      by_cases z : k = 0
      · rw [if_pos (by omega), if_pos z, if_pos z]
      · by_cases z1 : k = 1
        · rw [if_pos (by omega), if_neg z, if_pos z1, if_neg z, if_pos z1]
        · rw [if_neg (by omega), if_neg z, if_neg z1, if_neg (by decide), if_neg (by decide)]; omega
  · refine Or.inr (Or.inl ⟨by omega, ?_⟩)
    have : j = n - 1 := by omega
    subst this
    exact o2_3 hE h0 (by omega) h
end
