/-! ===== the reference's loops of a correction: all pairs; and its end ===== -/
section
variable {x : Sto} {l e n b nb cnt room st T : Nat} {L H lf D lim need : Nat → Nat} {sel : Nat → Bool} {W : Nat → Nat → Nat} {gr : Nat → UInt32} {X0 m : Sto} {C : Nat → Sto → Sto → Prop}
def mCD (b st T u : Nat) : Int32 × Sto → Option ((Int32 × Sto) ⊕ Sto) := un2 fun (v242 : Int32) (t243 : Sto) =>
                            if gI t243 0 (0) 6 ≤ v242 then (
                             some (.inr t243)) else (
                             ((lp (σ := (Int32 × Sto)) (ρ := Sto) (un2 fun (v249 : Int32) (t250 : Sto) =>
                                if nI T < v249 then (
                                 some (.inr t250)) else (
                                 ((lp (σ := (Int32 × Sto)) (ρ := Sto) (un2 fun (v256 : Int32) (t257 : Sto) =>
                                    if nI T < v256 then (
                                     some (.inr t257)) else (
                                     (fX12_tryAddition (nI b) (nI u) (nI st * v249) v242 (nI st * v256) t257).bind (fun (t260 : Sto) =>
                                      lt1 (v256 + Int32.ofInt (1)) fun (v262 : Int32) =>
                                      some (.inl (v262, t260))))) 4000 ((1 : Int32), t250)).bind
                                  (fun (t258 : Sto) =>
                                   lt1 (v249 + Int32.ofInt (1)) fun (v263 : Int32) =>
                                   some (.inl (v263, t258)))))) 4000 ((1 : Int32), t243)).bind
                              (fun (t251 : Sto) =>
                               lt1 (v242 + Int32.ofInt (1)) fun (v264 : Int32) =>
                               some (.inl (v264, t251)))))
theorem c_v {u : Nat} (hC : C = Co x l e n room st D lim need W gr b X0) (hE : EnC x l e n b nb cnt room st T L H lf D lim need sel gr) (hu : u < cnt) (h : B2 C n (rk sel u) m) : ∃ z, lp (mCD b st T u) 4000 (nI (u + 1), m) = some z ∧ B2 C n (rk sel (u + 1)) z := by
  obtain ⟨_, hb, hx, es, et, er, en, eD, eq, eno⟩ := id hE
  by_cases hs : sel u = true
  · have hrn := rk_m sel (u := u + 1) (v := cnt) (by omega)
    rw [rk_t hs, ← en] at hrn
    obtain ⟨w, w1, w2⟩ := lp_u (u0 := u + 1) (m := m) hb.2.2.1 (F := fun v242 t243 => lp (σ := (Int32 × Sto)) (ρ := Sto) (un2 fun (v249 : Int32) (t250 : Sto) =>
                                if nI T < v249 then (
                                 some (.inr t250)) else (
                                 ((lp (σ := (Int32 × Sto)) (ρ := Sto) (un2 fun (v256 : Int32) (t257 : Sto) =>
                                    if nI T < v256 then (
                                     some (.inr t257)) else (
                                     (fX12_tryAddition (nI b) (nI u) (nI st * v249) v242 (nI st * v256) t257).bind (fun (t260 : Sto) =>
                                      lt1 (v256 + Int32.ofInt (1)) fun (v262 : Int32) =>
                                      some (.inl (v262, t260))))) 4000 ((1 : Int32), t250)).bind
                                  (fun (t258 : Sto) =>
                                   lt1 (v249 + Int32.ofInt (1)) fun (v263 : Int32) =>
                                   some (.inl (v263, t258)))))) 4000 ((1 : Int32), t243)) (fun v t => B3 C n (rk sel u) (rk sel v) t) (fun v t hI => A1_GM hC hE (S_B3 hC) hI) (by omega) (by
      rw [rk_t hs]; exact B3_0 h) (fun v t hv1 hv hI => c_uv hC hE hs rfl (by omega) hv hI)
    refine ⟨w, w1, ?_⟩
    rw [rk_t hs]
    rw [← en] at w2
    exact B3_n (by omega) w2
  · rw [rk_f hs]
    have c20 := hb.2.2.1
    exact lp_u (u0 := u + 1) (m := m) hb.2.2.1 (F := fun v242 t243 => lp (σ := (Int32 × Sto)) (ρ := Sto) (un2 fun (v249 : Int32) (t250 : Sto) =>
                                if nI T < v249 then (
                                 some (.inr t250)) else (
                                 ((lp (σ := (Int32 × Sto)) (ρ := Sto) (un2 fun (v256 : Int32) (t257 : Sto) =>
                                    if nI T < v256 then (
                                     some (.inr t257)) else (
                                     (fX12_tryAddition (nI b) (nI u) (nI st * v249) v242 (nI st * v256) t257).bind (fun (t260 : Sto) =>
                                      lt1 (v256 + Int32.ofInt (1)) fun (v262 : Int32) =>
                                      some (.inl (v262, t260))))) 4000 ((1 : Int32), t250)).bind
                                  (fun (t258 : Sto) =>
                                   lt1 (v249 + Int32.ofInt (1)) fun (v263 : Int32) =>
                                   some (.inl (v263, t258)))))) 4000 ((1 : Int32), t243)) (fun _ t => B2 C n (rk sel u) t) (fun v t hI => A1_GM hC hE (S_B2 hC) hI) (by omega) h (fun v t hv1 hv hI =>
      lp_j (F := fun v249 t250 => lp (σ := (Int32 × Sto)) (ρ := Sto) (un2 fun (v256 : Int32) (t257 : Sto) =>
                                    if nI T < v256 then (
                                     some (.inr t257)) else (
                                     (fX12_tryAddition (nI b) (nI u) (nI st * v249) (nI v) (nI st * v256) t257).bind (fun (t260 : Sto) =>
                                      lt1 (v256 + Int32.ofInt (1)) fun (v262 : Int32) =>
                                      some (.inl (v262, t260))))) 4000 ((1 : Int32), t250)) et.2 (fun _ t => B2 C n (rk sel u) t) hI (fun j t j1 j2 hI =>
        lp_j (F := fun v256 t257 => fX12_tryAddition (nI b) (nI u) (nI st * nI j) (nI v) (nI st * v256) t257) et.2 (fun _ t => B2 C n (rk sel u) t) hI (fun j' t' j3 j4 hI' => by
          rw [stj, stj]
          exact no_2 hC hE (S_B2 hC) hI' hu hv (by omega) j2 j4 (fun z => eno u hu hs j j1 j2 ⟨z.1.1, z.1.2.1⟩))))
theorem c_s2 (hC : C = Co x l e n room st D lim need W gr b X0) (hE : EnC x l e n b nb cnt room st T L H lf D lim need sel gr) (h : A1 C n n m) : ∃ r, lp (σ := (Int32 × Sto)) (ρ := Sto) (un2 fun (v234 : Int32) (t235 : Sto) =>
                        if gI t235 0 (0) 6 ≤ v234 then (
                         some (.inr t235)) else (
                         lt1 (v234 + (1 : Int32)) fun (v238 : Int32) =>
                         ((lp (σ := (Int32 × Sto)) (ρ := Sto) (un2 fun (v242 : Int32) (t243 : Sto) =>
                            if gI t243 0 (0) 6 ≤ v242 then (
                             some (.inr t243)) else (
                             ((lp (σ := (Int32 × Sto)) (ρ := Sto) (un2 fun (v249 : Int32) (t250 : Sto) =>
                                if nI T < v249 then (
                                 some (.inr t250)) else (
                                 ((lp (σ := (Int32 × Sto)) (ρ := Sto) (un2 fun (v256 : Int32) (t257 : Sto) =>
                                    if nI T < v256 then (
                                     some (.inr t257)) else (
                                     (fX12_tryAddition (nI b) v234 (nI st * v249) v242 (nI st * v256) t257).bind (fun (t260 : Sto) =>
                                      lt1 (v256 + Int32.ofInt (1)) fun (v262 : Int32) =>
                                      some (.inl (v262, t260))))) 4000 ((1 : Int32), t250)).bind
                                  (fun (t258 : Sto) =>
                                   lt1 (v249 + Int32.ofInt (1)) fun (v263 : Int32) =>
                                   some (.inl (v263, t258)))))) 4000 ((1 : Int32), t243)).bind
                              (fun (t251 : Sto) =>
                               lt1 (v242 + Int32.ofInt (1)) fun (v264 : Int32) =>
                               some (.inl (v264, t251)))))) 4000 (v238, t235)).bind
                          (fun (t244 : Sto) =>
                           lt1 (v234 + Int32.ofInt (1)) fun (v265 : Int32) =>
                           some (.inl (v265, t244)))))) 4000 ((0 : Int32), m) = some r ∧ B2 C n n r := by
  obtain ⟨_, hb, hx, es, et, er, en, eD, eq, eno⟩ := id hE
  have := lp_u (u0 := 0) (m := m) hb.2.2.1 (F := fun v234 t235 => lp (σ := (Int32 × Sto)) (ρ := Sto) (un2 fun (v242 : Int32) (t243 : Sto) =>
                            if gI t243 0 (0) 6 ≤ v242 then (
                             some (.inr t243)) else (
                             ((lp (σ := (Int32 × Sto)) (ρ := Sto) (un2 fun (v249 : Int32) (t250 : Sto) =>
                                if nI T < v249 then (
                                 some (.inr t250)) else (
                                 ((lp (σ := (Int32 × Sto)) (ρ := Sto) (un2 fun (v256 : Int32) (t257 : Sto) =>
                                    if nI T < v256 then (
                                     some (.inr t257)) else (
                                     (fX12_tryAddition (nI b) v234 (nI st * v249) v242 (nI st * v256) t257).bind (fun (t260 : Sto) =>
                                      lt1 (v256 + Int32.ofInt (1)) fun (v262 : Int32) =>
                                      some (.inl (v262, t260))))) 4000 ((1 : Int32), t250)).bind
                                  (fun (t258 : Sto) =>
                                   lt1 (v249 + Int32.ofInt (1)) fun (v263 : Int32) =>
                                   some (.inl (v263, t258)))))) 4000 ((1 : Int32), t243)).bind
                              (fun (t251 : Sto) =>
                               lt1 (v242 + Int32.ofInt (1)) fun (v264 : Int32) =>
                               some (.inl (v264, t251)))))) 4000 (v234 + (1 : Int32), t235)) (fun u t => B2 C n (rk sel u) t) (fun u t hI => A1_GM hC hE (S_B2 hC) hI) (Nat.zero_le _) (Or.inl ⟨Or.inl rfl, h⟩) (fun u t _ hu hI => by
    have := c_v hC hE hu hI
    rw [nI_1]
    exact this)
  rw [← en] at this
  exact this
/-- the class's search ends -/
theorem cEnds {r : Sto} (hC : C = Co x l e n room st D lim need W gr b X0) (hE : EnC x l e n b nb cnt room st T L H lf D lim need sel gr) (h : B2 C n n r) : ∃ k Y c, (∃ Z, lp (cLB b) 4000 (0, X0) = some Z ∧ fX8_end 1 Z = some (sI (sI Y 16 1 11 c) 16 1 12 1)) ∧ RelS x 1 Y r ∧ BestC Y r k ∧ k ≤ 1000 ∧ ((gI r 0 0 56 = 0 ∧ c = 1) ∨ (gI r 0 0 56 = 1 ∧ c = 0)) := by
  have n20 := En_n hE
  have fuel : ∀ {k X}, k ≤ 1000 → XC b X0 k X → ∃ f, lp (cLB b) 4000 (0, X0) = lp (cLB b) (f + 1) (nI k, X) := fun {k X} k9 hX => by
    refine ⟨3999 - k, ?_⟩
    have := hX (3999 - k + 1)
    rw [show 3999 - k + 1 + k = 4000 by omega] at this
    exact this
  have exit1000 : ∀ X, cLB b (nI 1000, X) = some (.inr X) := fun X => by
    unfold cLB
    dsimp only [un2]
    rw [if_pos (show (1000 : Int32) ≤ nI 1000 by decide)]
  have hend : (∃ k X Y, k ≤ 1000 ∧ C k X r ∧ gI r 0 0 56 = 0 ∧ fX8_advance 1 X = some (0, Y) ∧ AX1 X Y) ∨ FC C r := by
    rcases h with ⟨h1, h2⟩ | ⟨⟨h1, h2⟩, h3⟩ | h
    · rcases h2 with ⟨h3, h4⟩ | ⟨h3, h4⟩ | h2
      · exact Or.inl (sc_end hC hE h4 (by omega) (by decide) (Nat.zero_le _) (fun q hq => absurd hq (Nat.not_lt_zero q)) (by omega))
      · exact Or.inl (sc_end hC hE h4 (by omega) (by decide) (by omega) (fun q hq => by omega) (by omega))
      · exact Or.inr h2
    · refine Or.inl (sc_end hC hE h3 (by omega) (by decide) (by omega) (fun q hq => ?_) (by omega))
      unfold pr; split <;> omega
    · exact Or.inr h
  subst hC
  rcases hend with ⟨k, X, Y, k9, hc, h0, y1, y2⟩ | ⟨X, Y, hc, h0, hA, hAX⟩
  · obtain ⟨c1, c2, c3, c4, c5, c6⟩ := hc
    obtain ⟨f, hf⟩ := fuel k9 c1
    have hend : ∀ Z, (k < 1000 → Z = Y) → (k = 1000 → Z = X) → fX8_end 1 Z = some (sI (sI Y 16 1 11 1) 16 1 12 1) := fun Z z1 z2 => by
      unfold fX8_end
      by_cases q : k = 1000
      · rw [z2 q, c5.1, if_neg (by rw [q]; decide), y1, Option.bind_some]
        dsimp only [un2]
        rw [if_pos rfl, lt1_e, lt1_e]
      · rw [z1 (by omega), (AX1_B c5 y2).1, if_pos (show nI k < (1000 : Int32) from (nI_ltJ (a := k) (b := 1000) (by omega) (by decide)).mpr (by omega)), lt1_e, lt1_e]
    refine ⟨k, Y, 1, ?_, RelS_f c2 (AX1_KF y2) (FM_r r), AX1_B c5 y2, k9, Or.inl ⟨h0, rfl⟩⟩
    by_cases q : k = 1000
    · refine ⟨X, ?_, hend X (fun z => absurd z (by omega)) (fun _ => rfl)⟩
      rw [hf]
      refine lp_x ?_
      rw [q]; exact exit1000 X
    · refine ⟨Y, ?_, hend Y (fun _ => rfl) (fun z => absurd z q)⟩
      rw [hf]
      refine lp_x ?_
      unfold cLB
      dsimp only [un2]
      rw [if_neg (show ¬ (1000 : Int32) ≤ nI k from nI_gt (N := 1000) (by decide) (by omega)), y1, Option.bind_some]
      dsimp only [un2]
      rw [if_pos rfl]
  · obtain ⟨c1, c2, c3, c4, c5, c6⟩ := hc
    obtain ⟨f, hf⟩ := fuel (Nat.le_refl 1000) c1
    refine ⟨1000, Y, 0, ⟨X, ?_, ?_⟩, RelS_f c2 (AX1_KF hAX) (FM_r r), AX1_B c5 hAX, Nat.le_refl _, Or.inr ⟨h0, rfl⟩⟩
    · rw [hf]
      refine lp_x ?_
      exact exit1000 X
    · unfold fX8_end
      rw [c5.1, if_neg (by decide), hA, Option.bind_some]
      dsimp only [un2]
      rw [if_neg (show ¬ (1 : Int32) = 0 by decide), lt1_e, lt1_e]
end
