/-! ===== the reference's loops of a correction: two lots ===== -/
def pr (r q k : Nat) : Nat := if k = 0 then r else q
/-- before the sets of two lots that begin with r or more -/
def B2 (C : Nat → Sto → Sto → Prop) (n r : Nat) (m : Sto) : Prop := ((r = 0 ∨ n < 2) ∧ A1 C n n m) ∨ ((0 < r ∧ 2 ≤ n) ∧ SC C n (n + 1 + 20 * (min r (n - 1) - 1) + (n - 1)) 2 (pr (min r (n - 1) - 1) (n - 1)) m) ∨ FC C m
/-- before the set (r, q) -/
def B3 (C : Nat → Sto → Sto → Prop) (n r q : Nat) (m : Sto) : Prop := (q = r + 1 ∧ B2 C n r m) ∨ (r + 1 < q ∧ SC C n (n + 1 + 20 * r + (q - 1)) 2 (pr r (q - 1)) m) ∨ FC C m
section
variable {x : Sto} {l e n b nb cnt room st T : Nat} {L H lf D lim need : Nat → Nat} {sel : Nat → Bool} {W : Nat → Nat → Nat} {gr : Nat → UInt32} {X0 m : Sto} {C : Nat → Sto → Sto → Prop}
theorem S_B2 {r : Nat} (hC : C = Co x l e n room st D lim need W gr b X0) : Stb C (B2 C n r) := S_or (S_and (S_A1 hC)) (S_or (S_and (S_SC hC)) (S_FC hC))
theorem S_B3 {r q : Nat} (hC : C = Co x l e n room st D lim need W gr b X0) : Stb C (B3 C n r q) := S_or (S_and (S_B2 hC)) (S_or (S_and (S_SC hC)) (S_FC hC))
theorem B3_st {r q : Nat} (hC : C = Co x l e n room st D lim need W gr b X0) (hE : EnC x l e n b nb cnt room st T L H lf D lim need sel gr) (h : B3 C n r q m) (hr : r < q) (hq : q < n) : FC C m ∨ ((room < need r + need q → SC C n (n + 1 + 20 * r + q) 2 (pr r q) m) ∧ (¬ room < need r + need q → NC C st D 2 (pr r q) (fun _ => 1) m)) := by
  have n20 := En_n hE
  have e1 : nsum (fun k => need (pr r q k)) 2 = need r + need q := by
    show 0 + need r + need q = _
    omega
  have n1 := (En_rm hE (show r < n by omega)).1
  have n2 := (En_rm hE hq).1
  have hin : ∀ k, k < 2 → pr r q k < n := fun k _ => by unfold pr; split <;> omega
  have mono : ∀ {R : Nat}, R + 1 ≤ n + 1 + 20 * r + q → ((room < need r + need q → SC C n (R + 1) 2 (pr r q) m) ∧ (¬ room < need r + need q → NC C st D 2 (pr r q) (fun _ => 1) m)) → FC C m ∨ ((room < need r + need q → SC C n (n + 1 + 20 * r + q) 2 (pr r q) m) ∧ (¬ room < need r + need q → NC C st D 2 (pr r q) (fun _ => 1) m)) := fun hR z => Or.inr ⟨fun y => sc_mono (z.1 y) hR, z.2⟩
  rcases h with ⟨h1, h2⟩ | ⟨h1, h2⟩ | h
  · rcases h2 with ⟨h3, h4⟩ | ⟨⟨h3, h4⟩, h5⟩ | h2
    · have r0 : r = 0 := by omega
      rcases h4 with ⟨h5, _⟩ | ⟨_, h5⟩ | h4
      · omega
      · have := sc_st (s := 2) (i := pr r q) hC hE h5 (by omega) (by decide) hin (fun Z hZ hH => by
          obtain ⟨y, y1, y2, y3⟩ := cNextC hZ hH n20 (by decide) (fun q hq => by omega) (by decide) (by omega)
          exact ⟨y, y1, y2, Cd_e (i := fun j => j) y3 (fun k hk => by unfold pr; split <;> omega) (fun _ _ => rfl)⟩) (by rw [e1]; omega)
        rw [e1] at this
        exact mono (by omega) this
      · exact Or.inl h4
    · have em : min r (n - 1) = r := by omega
      rw [em] at h5
      have := sc_st (s := 2) (i := pr r q) hC hE h5 (by omega) (by decide) hin (fun Z hZ hH => by
        obtain ⟨y, y1, y2, y3⟩ := cNextB (p := 0) hZ hH (by decide) n20 (by decide) (by omega) (by decide) (show r - 1 < n - 2 + 0 by omega) (fun q q1 q2 => by
          show n - 2 + q ≤ pr (r - 1) (n - 1) q
          unfold pr
          rw [if_neg (by omega)]; omega)
        exact ⟨y, y1, y2, Cd_e (i := fun j => if j < 0 then pr (r - 1) (n - 1) j else pr (r - 1) (n - 1) 0 + 1 + j - 0) y3 (fun k hk => by
          rw [if_neg (by omega)]
          show r - 1 + 1 + k - 0 = pr r q k
          unfold pr; split <;> omega) (fun _ _ => rfl)⟩) (by rw [e1]; omega)
      rw [e1] at this
      exact mono (by omega) this
    · exact Or.inl h2
  · have := sc_st (s := 2) (i := pr r q) hC hE h2 (by omega) (by decide) hin (fun Z hZ hH => by
      obtain ⟨y, y1, y2, y3⟩ := cNextB (p := 1) hZ hH (by decide) n20 (by decide) (by omega) (by decide) (show q - 1 < n - 2 + 1 by omega) (fun q q1 q2 => by omega)
      exact ⟨y, y1, y2, Cd_e (i := fun j => if j < 1 then pr r (q - 1) j else pr r (q - 1) 1 + 1 + j - 1) y3 (fun k hk => by
        obtain rfl | rfl : k = 0 ∨ k = 1 := by omega
        · rfl
        · show q - 1 + 1 + 1 - 1 = q
          omega) (fun _ _ => rfl)⟩) (by rw [e1]; omega)
    rw [e1] at this
    exact mono (by omega) this
  · exact Or.inl h
theorem B3_0 {r : Nat} {t : Sto} (h : B2 C n r t) : B3 C n r (r + 1) t := Or.inl ⟨rfl, h⟩
theorem B3_n {r : Nat} {t : Sto} (hr : r < n) (h : B3 C n r n t) : B2 C n (r + 1) t := by
  rcases h with ⟨h1, h2⟩ | ⟨h1, h2⟩ | h
  · rcases h2 with ⟨h3, h4⟩ | ⟨⟨h3, h4⟩, h5⟩ | h2
    · exact Or.inl ⟨Or.inr (by omega), h4⟩
    · refine Or.inr (Or.inl ⟨⟨by omega, h4⟩, ?_⟩)
      rw [show min (r + 1) (n - 1) = min r (n - 1) by omega]; exact h5
    · exact Or.inr (Or.inr h2)
  · refine Or.inr (Or.inl ⟨⟨by omega, by omega⟩, ?_⟩)
    rw [show min (r + 1) (n - 1) - 1 = r by omega]; exact h2
  · exact Or.inr (Or.inr h)
/-- all times of two lots -/
theorem c_uv {u v r : Nat} (hC : C = Co x l e n room st D lim need W gr b X0) (hE : EnC x l e n b nb cnt room st T L H lf D lim need sel gr) (hsu : sel u = true) (hr' : r = rk sel u) (huv : u < v) (hv : v < cnt) (h : B3 C n r (rk sel v) m) : ∃ z, lp (σ := (Int32 × Sto)) (ρ := Sto) (un2 fun (v249 : Int32) (t250 : Sto) =>
                                if nI T < v249 then (
                                 some (.inr t250)) else (
                                 ((lp (σ := (Int32 × Sto)) (ρ := Sto) (un2 fun (v256 : Int32) (t257 : Sto) =>
                                    if nI T < v256 then (
                                     some (.inr t257)) else (
                                     (fX12_tryAddition (nI b) (nI u) (nI st * v249) (nI v) (nI st * v256) t257).bind (fun (t260 : Sto) =>
                                      lt1 (v256 + Int32.ofInt (1)) fun (v262 : Int32) =>
                                      some (.inl (v262, t260))))) 4000 ((1 : Int32), t250)).bind
                                  (fun (t258 : Sto) =>
                                   lt1 (v249 + Int32.ofInt (1)) fun (v263 : Int32) =>
                                   some (.inl (v263, t258)))))) 4000 ((1 : Int32), m) = some z ∧ B3 C n r (rk sel (v + 1)) z := by
  obtain ⟨_, hb, hx, es, et, er, en, eD, eq, eno⟩ := id hE
  have hu : u < cnt := by omega
  have ne : u ≠ v := by omega
  -- a loop that changes nothing
  have dull : ∀ {P : Sto → Prop}, P m → (∀ t j j', 1 ≤ j → j ≤ T → 1 ≤ j' → j' ≤ T → P t → ∃ w, fX12_tryAddition (nI b) (nI u) (nI (j * st)) (nI v) (nI (j' * st)) t = some w ∧ P w) → ∃ z, lp (σ := (Int32 × Sto)) (ρ := Sto) (un2 fun (v249 : Int32) (t250 : Sto) =>
                                if nI T < v249 then (
                                 some (.inr t250)) else (
                                 ((lp (σ := (Int32 × Sto)) (ρ := Sto) (un2 fun (v256 : Int32) (t257 : Sto) =>
                                    if nI T < v256 then (
                                     some (.inr t257)) else (
                                     (fX12_tryAddition (nI b) (nI u) (nI st * v249) (nI v) (nI st * v256) t257).bind (fun (t260 : Sto) =>
                                      lt1 (v256 + Int32.ofInt (1)) fun (v262 : Int32) =>
                                      some (.inl (v262, t260))))) 4000 ((1 : Int32), t250)).bind
                                  (fun (t258 : Sto) =>
                                   lt1 (v249 + Int32.ofInt (1)) fun (v263 : Int32) =>
                                   some (.inl (v263, t258)))))) 4000 ((1 : Int32), m) = some z ∧ P z := fun {P} hm hs =>
    lp_j (F := fun v249 t250 => lp (σ := (Int32 × Sto)) (ρ := Sto) (un2 fun (v256 : Int32) (t257 : Sto) =>
                                    if nI T < v256 then (
                                     some (.inr t257)) else (
                                     (fX12_tryAddition (nI b) (nI u) (nI st * v249) (nI v) (nI st * v256) t257).bind (fun (t260 : Sto) =>
                                      lt1 (v256 + Int32.ofInt (1)) fun (v262 : Int32) =>
                                      some (.inl (v262, t260))))) 4000 ((1 : Int32), t250)) et.2 (fun _ t => P t) hm (fun j t j1 j2 hI =>
      lp_j (F := fun v256 t257 => fX12_tryAddition (nI b) (nI u) (nI st * nI j) (nI v) (nI st * v256) t257) et.2 (fun _ t => P t) hI (fun j' t' j3 j4 hI' => by
        rw [stj, stj]
        exact hs t' j j' j1 j2 j3 j4 hI'))
  by_cases hsv : sel v = true
  · have hDu := eD u hu hsu
    have hDv := eD v hv hsv
    have hruv := rk_m sel (u := u + 1) (v := v) (by omega)
    rw [rk_t hsu] at hruv
    have hrn := rk_m sel (u := v + 1) (v := cnt) (by omega)
    rw [rk_t hsv, ← en] at hrn
    rw [rk_t hsv]
    rw [← hr'] at hDu hruv
    generalize rk sel v = q at h hDv hruv hrn
    have hq : q < n := by omega
    have hr : r < n := by omega
    obtain ⟨q1, q2, q3, q4, q5⟩ := eq r hr
    obtain ⟨k1, k2, k3, k4, k5⟩ := eq q hq
    have c20 := hb.2.2.1
    have fin : ∀ w, SC C n (n + 1 + 20 * r + q) 2 (pr r q) w ∨ FC C w → B3 C n r (q + 1) w := fun w hw => hw.elim (fun z => Or.inr (Or.inl ⟨by omega, z⟩)) (fun z => Or.inr (Or.inr z))
    have fcl : FC C m → ∃ z, lp (σ := (Int32 × Sto)) (ρ := Sto) (un2 fun (v249 : Int32) (t250 : Sto) =>
                                if nI T < v249 then (
                                 some (.inr t250)) else (
                                 ((lp (σ := (Int32 × Sto)) (ρ := Sto) (un2 fun (v256 : Int32) (t257 : Sto) =>
                                    if nI T < v256 then (
                                     some (.inr t257)) else (
                                     (fX12_tryAddition (nI b) (nI u) (nI st * v249) (nI v) (nI st * v256) t257).bind (fun (t260 : Sto) =>
                                      lt1 (v256 + Int32.ofInt (1)) fun (v262 : Int32) =>
                                      some (.inl (v262, t260))))) 4000 ((1 : Int32), t250)).bind
                                  (fun (t258 : Sto) =>
                                   lt1 (v249 + Int32.ofInt (1)) fun (v263 : Int32) =>
                                   some (.inl (v263, t258)))))) 4000 ((1 : Int32), m) = some z ∧ B3 C n r (q + 1) z := fun h => by
      obtain ⟨w, w1, w2⟩ := dull h (fun t j j' _ _ _ _ hI => ⟨t, fl_t (FC_1 hI) _ _ _ _ _, hI⟩)
      exact ⟨w, w1, fin w (Or.inr w2)⟩
    -- both places are there just where there is room
    have hroom : ¬ room < need r + need q ↔ plc L nb (D r) < 8 ∧ cp2 L nb (D r) (D q) < 8 := by
      have pu := (plc_e L nb (D r)).1
      have pv := (plc_e L nb (D q)).1
      have nb8 := hb.2.1
      have ep : cp2 L nb (D r) (D q) = if plc L nb (D q) < nb then plc L nb (D q) else cn1 L nb (D r) := rfl
      have ec : cn1 L nb (D r) = if plc L nb (D r) < nb then nb else nb + 1 := rfl
      rw [q5, k5, ep, ec, er]
      by_cases z1 : plc L nb (D r) < nb
      · rw [if_pos z1, if_pos z1]
        by_cases z2 : plc L nb (D q) < nb
        · rw [if_pos z2, if_pos z2]; omega
        · rw [if_neg z2, if_neg z2]; omega
      · rw [if_neg z1, if_neg z1]
        by_cases z2 : plc L nb (D q) < nb
        · rw [if_pos z2, if_pos z2]; omega
        · rw [if_neg z2, if_neg z2]; omega
    have uv : D r ≠ D q := by rw [hDu, hDv]; exact ne
    rcases B3_st hC hE h (by omega) hq with h | ⟨h1, h2⟩
    · exact fcl h
    · by_cases rm : room < need r + need q
      · obtain ⟨w, w1, w2⟩ := dull (h1 rm) (fun t j j' _ hj _ hj' hI => no_2 hC hE (S_SC hC) hI hu hv ne hj hj' (fun z => by
          refine hroom.mpr ⟨?_, ?_⟩ rm
          · rw [hDu]; exact z.1.2.2
          · rw [hDu, hDv]; exact z.2.2.2))
        exact ⟨w, w1, fin w (Or.inl w2)⟩
      · obtain ⟨p8, p8'⟩ := hroom.mp rm
        have key := lp_j (m := m) (F := fun v249 t250 => lp (σ := (Int32 × Sto)) (ρ := Sto) (un2 fun (v256 : Int32) (t257 : Sto) =>
                                    if nI T < v256 then (
                                     some (.inr t257)) else (
                                     (fX12_tryAddition (nI b) (nI u) (nI st * v249) (nI v) (nI st * v256) t257).bind (fun (t260 : Sto) =>
                                      lt1 (v256 + Int32.ofInt (1)) fun (v262 : Int32) =>
                                      some (.inl (v262, t260))))) 4000 ((1 : Int32), t250)) et.2 (fun j t => (j ≤ lim r ∧ NC C st D 2 (pr r q) (pr j 1) t) ∨ (lim r < j ∧ IC C st D 2 (pr r q) (pr (lim r) (lim q)) t) ∨ FC C t) (Or.inl ⟨q2, by
          have := h2 rm
          obtain ⟨k, X, Y, z1, z2, z3, z4, z5, z6⟩ := this
          exact ⟨k, X, Y, z1, z2, z3, z4, z5, Cd_e z6 (fun _ _ => rfl) (fun k hk => by unfold pr; split <;> rfl)⟩⟩) (fun j t j1 j2 hI => ?_)
        · obtain ⟨w, w1, w2⟩ := key
          refine ⟨w, w1, fin w ?_⟩
          rcases w2 with ⟨z1, z2⟩ | ⟨z1, z2⟩ | z
          · omega
          · exact Or.inl (ic_sc hC hE z2 (by decide) (fun k _ => by unfold pr; split <;> omega) (fun k _ => by unfold pr; split <;> rfl))
          · exact Or.inr z
        · by_cases jl : lim r < j
          · -- the first lot's times are over
            have hI2 : IC C st D 2 (pr r q) (pr (lim r) (lim q)) t ∨ FC C t := by
              rcases hI with ⟨z1, z2⟩ | ⟨z1, z2⟩ | z
              · omega
              · exact Or.inl z2
              · exact Or.inr z
            obtain ⟨w, w1, w2⟩ := lp_j (F := fun v256 t257 => fX12_tryAddition (nI b) (nI u) (nI st * nI j) (nI v) (nI st * v256) t257) et.2 (fun _ t => IC C st D 2 (pr r q) (pr (lim r) (lim q)) t ∨ FC C t) hI2 (fun j' t' j3 j4 hI' => by
              rw [stj, stj]
              exact no_2 hC hE (S_or (S_IC hC) (S_FC hC)) hI' hu hv ne j2 j4 (fun z => by
                have := (q4 j j2).mpr (by rw [hDu]; exact ⟨z.1.1, z.1.2.1⟩)
                omega))
            exact ⟨w, w1, w2.elim (fun z => Or.inr (Or.inl ⟨by omega, z⟩)) (fun z => Or.inr (Or.inr z))⟩
          · have hI2 : NC C st D 2 (pr r q) (pr j 1) t ∨ FC C t := by
              rcases hI with ⟨z1, z2⟩ | ⟨z1, z2⟩ | z
              · exact Or.inl z2
              · omega
              · exact Or.inr z
            obtain ⟨w, w1, w2⟩ := lp_j (m := t) (F := fun v256 t257 => fX12_tryAddition (nI b) (nI u) (nI st * nI j) (nI v) (nI st * v256) t257) et.2 (fun j' t => (j' ≤ lim q ∧ NC C st D 2 (pr r q) (pr j j') t) ∨ (lim q < j' ∧ ((j + 1 ≤ lim r ∧ NC C st D 2 (pr r q) (pr (j + 1) 1) t) ∨ (lim r < j + 1 ∧ IC C st D 2 (pr r q) (pr (lim r) (lim q)) t))) ∨ FC C t) (hI2.elim (fun z => Or.inl ⟨k2, z⟩) (fun z => Or.inr (Or.inr z))) (fun j' t' j3 j4 hI' => by
              rw [stj, stj]
              rcases hI' with ⟨z1, z2⟩ | ⟨z1, z2⟩ | z
              · obtain ⟨w, w1, w2⟩ := yes_2 (r := r) (q := q) (j := j) (j' := j') hC hE z2 rfl rfl rfl rfl hr hq uv (by omega) z1 p8 p8'
                rw [hDu, hDv] at w1
                refine ⟨w, w1, ?_⟩
                have hin : ∀ k, k < 2 → pr r q k < n := fun k _ => by unfold pr; split <;> omega
                rcases w2 with w2 | w2
                · by_cases e : j' = lim q
                  · subst e
                    right; left
                    refine ⟨by omega, ?_⟩
                    by_cases f : j = lim r
                    · subst f
                      exact Or.inr ⟨by omega, w2⟩
                    · refine Or.inl ⟨by omega, ic_nx (p := 0) hC hE w2 (by decide) hin (by decide) (show j < lim r by omega) (fun k hk => ?_) (fun k q1 q2 => ?_) (fun k hk => ?_)⟩
                      · obtain rfl | rfl : k = 0 ∨ k = 1 := by omega
                        · show j ≤ lim r
                          omega
                        · exact Nat.le_refl (lim q)
                      · obtain rfl : k = 1 := by omega
                        exact Nat.le_refl (lim q)
                      · obtain rfl | rfl : k = 0 ∨ k = 1 := by omega
                        · rfl
                        · rfl
                  · refine Or.inl ⟨by omega, ic_nx (p := 1) hC hE w2 (by decide) hin (by decide) (show j' < lim q by omega) (fun k hk => ?_) (fun k q1 q2 => by omega) (fun k hk => ?_)⟩
                    · obtain rfl | rfl : k = 0 ∨ k = 1 := by omega
                      · show j ≤ lim r
                        omega
                      · show j' ≤ lim q
                        omega
                    · obtain rfl | rfl : k = 0 ∨ k = 1 := by omega
                      · rfl
                      · rfl
                · exact Or.inr (Or.inr w2)
              · obtain ⟨w, w1, w2⟩ := no_2 hC hE (S_or (S_and (A := j + 1 ≤ lim r) (S_NC (s := 2) (i := pr r q) (g := pr (j + 1) 1) hC)) (S_and (A := lim r < j + 1) (S_IC (s := 2) (i := pr r q) (g := pr (lim r) (lim q)) hC))) z2 hu hv ne j2 j4 (fun z => by
                  have := (k4 j' j4).mpr (by rw [hDv]; exact ⟨z.2.1, z.2.2.1⟩)
                  omega)
                exact ⟨w, w1, Or.inr (Or.inl ⟨by omega, w2⟩)⟩
              · exact ⟨t', fl_t (FC_1 z) _ _ _ _ _, Or.inr (Or.inr z)⟩)
            refine ⟨w, w1, ?_⟩
            rcases w2 with ⟨z1, z2⟩ | ⟨z1, z2⟩ | z
            · omega
            · exact z2.elim Or.inl (fun y => Or.inr (Or.inl y))
            · exact Or.inr (Or.inr z)
  · rw [rk_f hsv]
    exact dull h (fun t j j' j1 j2 j3 j4 hI => no_2 hC hE (S_B3 hC) hI hu hv ne j2 j4 (fun z => eno v hv hsv j' j3 j4 ⟨z.2.1, z.2.2.1⟩))
end
