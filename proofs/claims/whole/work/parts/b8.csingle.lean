/-! ===== the reference's loops of a correction: one lot ===== -/
theorem stj (st j : Nat) : nI st * nI j = nI (j * st) := by rw [pk_mul, Nat.mul_comm]
theorem lp_j {T : Nat} (T12 : T ≤ 12) {F : Int32 → Sto → Option Sto} (I : Nat → Sto → Prop) {m : Sto} (h1 : I 1 m) (hs : ∀ j t, 1 ≤ j → j ≤ T → I j t → ∃ w, F (nI j) t = some w ∧ I (j + 1) w) : ∃ r, lp (σ := (Int32 × Sto)) (ρ := Sto) (un2 fun (v : Int32) (t : Sto) => if nI T < v then (some (.inr t)) else ((F v t).bind (fun (t' : Sto) => lt1 (v + Int32.ofInt (1)) fun (v' : Int32) => some (.inl (v', t'))))) 4000 ((1 : Int32), m) = some r ∧ I (T + 1) r := by
  refine lp_inv (fun k (w : Int32 × Sto) => w.1 = nI (1 + k) ∧ I (1 + k) w.2) _ T (fun k w hk hI => ?_) T 4000 0 _ (by omega) ⟨rfl, h1⟩ (by omega)
  obtain ⟨v, t⟩ := w
  obtain ⟨hI1, hI2⟩ := hI
  have hI1 : v = nI (1 + k) := hI1
  have hI2 : I (1 + k) t := hI2
  subst hI1
  dsimp only [un2]
  by_cases q : k = T
  · subst q
    exact Or.inl ⟨t, if_pos ((nI_ltJ (by omega) (by omega)).mpr (by omega)), by rw [Nat.add_comm]; exact hI2⟩
  · obtain ⟨w, w1, w2⟩ := hs (1 + k) t (by omega) (by omega) hI2
    refine Or.inr ⟨by omega, (nI (1 + (k + 1)), w), ?_, rfl, w2⟩
    rw [if_neg (fun z => by have := (nI_ltJ (by omega) (by omega)).mp z; omega), w1, Option.bind_some, lt1_e, nI_s, Nat.add_assoc]
theorem lp_u {cnt u0 : Nat} (c20 : cnt ≤ 20) {F : Int32 → Sto → Option Sto} (I : Nat → Sto → Prop) (hc : ∀ j t, I j t → gI t 0 0 6 = nI cnt) {m : Sto} (h0 : u0 ≤ cnt) (h1 : I u0 m) (hs : ∀ j t, u0 ≤ j → j < cnt → I j t → ∃ w, F (nI j) t = some w ∧ I (j + 1) w) : ∃ r, lp (σ := (Int32 × Sto)) (ρ := Sto) (un2 fun (v : Int32) (t : Sto) => if gI t 0 (0) 6 ≤ v then (some (.inr t)) else ((F v t).bind (fun (t' : Sto) => lt1 (v + Int32.ofInt (1)) fun (v' : Int32) => some (.inl (v', t'))))) 4000 (nI u0, m) = some r ∧ I cnt r := by
  refine lp_inv (fun k (w : Int32 × Sto) => w.1 = nI (u0 + k) ∧ I (u0 + k) w.2) _ (cnt - u0) (fun k w hk hI => ?_) (cnt - u0) 4000 0 _ (by omega) ⟨rfl, h1⟩ (by omega)
  obtain ⟨v, t⟩ := w
  obtain ⟨hI1, hI2⟩ := hI
  have hI1 : v = nI (u0 + k) := hI1
  have hI2 : I (u0 + k) t := hI2
  subst hI1
  dsimp only [un2]
  rw [hc _ _ hI2]
  by_cases q : k = cnt - u0
  · have e : u0 + k = cnt := by omega
    rw [e] at hI2 ⊢
    exact Or.inl ⟨t, if_pos (Int32.le_refl _), hI2⟩
  · obtain ⟨w, w1, w2⟩ := hs (u0 + k) t (by omega) (by omega) hI2
    refine Or.inr ⟨by omega, (nI (u0 + (k + 1)), w), ?_, rfl, w2⟩
    rw [if_neg (nI_gt (by omega) (by omega)), w1, Option.bind_some, lt1_e, nI_s, Nat.add_assoc]
theorem fl_t {m : Sto} (h : gI m 0 0 56 = 1) (a1 a2 a3 a4 a5 : Int32) : fX12_tryAddition a1 a2 a3 a4 a5 m = some m := by
  unfold fX12_tryAddition
  rw [h, if_neg (show ¬ (1 : Int32) = 0 by decide)]
theorem FC_1 {C : Nat → Sto → Sto → Prop} {m : Sto} (h : FC C m) : gI m 0 0 56 = 1 := by
  obtain ⟨X, Y, h2, h3, h4⟩ := h
  exact h3
/-- before the sets of one lot that begin with r or more -/
def A1 (C : Nat → Sto → Sto → Prop) (n r : Nat) (m : Sto) : Prop := (r = 0 ∧ SC C n 0 0 (fun k => k) m) ∨ (0 < r ∧ SC C n r 1 (fun _ => r - 1) m) ∨ FC C m
section
variable {x : Sto} {l e n b nb cnt room st T : Nat} {L H lf D lim need : Nat → Nat} {sel : Nat → Bool} {W : Nat → Nat → Nat} {gr : Nat → UInt32} {X0 m : Sto} {C : Nat → Sto → Sto → Prop}
theorem S_A1 {r : Nat} (hC : C = Co x l e n room st D lim need W gr b X0) : Stb C (A1 C n r) := S_or (S_and (S_SC hC)) (S_or (S_and (S_SC hC)) (S_FC hC))
theorem En_rm (hE : EnC x l e n b nb cnt room st T L H lf D lim need sel gr) {r : Nat} (hr : r < n) : need r ≤ 1 ∧ (room < need r ↔ ¬ plc L nb (D r) < 8) := by
  obtain ⟨_, hb, _, _, _, er, _, _, eq, _⟩ := hE
  have h := (eq r hr).2.2.2.2
  have p1 := (plc_e L nb (D r)).1
  have nb8 := hb.2.1
  rw [h, er]
  split <;> omega
theorem A1_st {r : Nat} (hC : C = Co x l e n room st D lim need W gr b X0) (hE : EnC x l e n b nb cnt room st T L H lf D lim need sel gr) (h : A1 C n r m) (hr : r < n) : FC C m ∨ ((room < need r → SC C n (r + 1) 1 (fun _ => r) m) ∧ (¬ room < need r → NC C st D 1 (fun _ => r) (fun _ => 1) m)) := by
  have n20 := En_n hE
  have e1 : nsum (fun k => need r) 1 = need r := Nat.zero_add _
  have n1 := (En_rm hE hr).1
  rcases h with ⟨h1, h2⟩ | ⟨h1, h2⟩ | h
  · subst h1
    have := sc_st (s := 1) (i := fun _ => 0) hC hE h2 (by omega) (by decide) (fun k _ => hr) (fun Z hZ hH => by
      obtain ⟨y, y1, y2, y3⟩ := cNextC hZ hH n20 (by decide) (fun q hq => absurd hq (Nat.not_lt_zero q)) (by decide) hr
      exact ⟨y, y1, y2, Cd_e (i := fun j => j) y3 (fun k hk => by omega) (fun _ _ => rfl)⟩) (by rw [e1]; omega)
    rw [e1] at this
    exact Or.inr this
  · have := sc_st (s := 1) (i := fun _ => r) hC hE h2 (by omega) (by decide) (fun k _ => hr) (fun Z hZ hH => by
      obtain ⟨y, y1, y2, y3⟩ := cNextB (p := 0) hZ hH (by decide) n20 (by decide) (by omega) (by decide) (by omega) (fun q q1 q2 => by omega)
      exact ⟨y, y1, y2, Cd_e (i := fun j => if j < 0 then r - 1 else r - 1 + 1 + j - 0) y3 (fun k hk => by rw [if_neg (by omega)]; omega) (fun _ _ => rfl)⟩) (by rw [e1]; omega)
    rw [e1] at this
    exact Or.inr this
  · exact Or.inl h
/-- all times of one lot -/
theorem c_u1 {u : Nat} (hC : C = Co x l e n room st D lim need W gr b X0) (hE : EnC x l e n b nb cnt room st T L H lf D lim need sel gr) (hu : u < cnt) (h : A1 C n (rk sel u) m) : ∃ r, lp (σ := (Int32 × Sto)) (ρ := Sto) (un2 fun (v223 : Int32) (t224 : Sto) =>
                          if nI T < v223 then (
                           some (.inr t224)) else (
                           (fX12_tryAddition (nI b) (nI u) (nI st * v223) (-1 : Int32) (0 : Int32) t224).bind (fun (t227 : Sto) =>
                            lt1 (v223 + Int32.ofInt (1)) fun (v229 : Int32) =>
                            some (.inl (v229, t227))))) 4000 ((1 : Int32), m) = some r ∧ A1 C n (rk sel (u + 1)) r := by
  obtain ⟨_, hb, hx, es, et, er, en, eD, eq, eno⟩ := id hE
  have fc : ∀ {w : Sto} {R : Nat}, FC C w → A1 C n R w := fun h => Or.inr (Or.inr h)
  by_cases hs : sel u = true
  · have hD := eD u hu hs
    have hrn := rk_m sel (u := u + 1) (v := cnt) (by omega)
    rw [rk_t hs, ← en] at hrn
    rw [rk_t hs]
    generalize rk sel u = r at h hD hrn
    have hr : r < n := by omega
    obtain ⟨q1, q2, q3, q4, q5⟩ := eq r hr
    have hrm := (En_rm hE hr).2
    have fin : ∀ w, SC C n (r + 1) 1 (fun _ => r) w ∨ FC C w → A1 C n (r + 1) w := fun w hw => hw.elim (fun z => Or.inr (Or.inl ⟨by omega, sc_i z (fun k _ => by omega)⟩)) fc
    rcases A1_st hC hE h hr with h | ⟨h1, h2⟩
    · obtain ⟨w, w1, w2⟩ := lp_j (F := fun v t => fX12_tryAddition (nI b) (nI u) (nI st * v) (-1 : Int32) (0 : Int32) t) et.2 (fun _ t => FC C t) h (fun j t _ _ hI => ⟨t, fl_t (FC_1 hI) _ _ _ _ _, hI⟩)
      exact ⟨w, w1, fc w2⟩
    · by_cases rm : room < need r
      · obtain ⟨w, w1, w2⟩ := lp_j (F := fun v t => fX12_tryAddition (nI b) (nI u) (nI st * v) (-1 : Int32) (0 : Int32) t) et.2 (fun _ t => SC C n (r + 1) 1 (fun _ => r) t) (h1 rm) (fun j t _ hj hI => by
          rw [stj]
          exact no_1 hC hE (S_SC hC) hI hu hj (fun z => by rw [hD] at hrm; exact (hrm.mp rm) z.2.2) _ _)
        exact ⟨w, w1, fin w (Or.inl w2)⟩
      · have p8 : plc L nb (D r) < 8 := by
          by_cases z : plc L nb (D r) < 8
          · exact z
          · exact absurd (hrm.mpr z) rm
        obtain ⟨w, w1, w2⟩ := lp_j (F := fun v t => fX12_tryAddition (nI b) (nI u) (nI st * v) (-1 : Int32) (0 : Int32) t) et.2 (fun j t => (j ≤ lim r ∧ NC C st D 1 (fun _ => r) (fun _ => j) t) ∨ (lim r < j ∧ IC C st D 1 (fun _ => r) (fun _ => lim r) t) ∨ FC C t) (Or.inl ⟨q2, h2 rm⟩) (fun j t j1 hj hI => by
          rw [stj]
          rcases hI with ⟨z1, z2⟩ | ⟨z1, z2⟩ | z
          · obtain ⟨w, w1, w2⟩ := yes_1 hC hE z2 rfl rfl hr z1 p8 0
            rw [hD] at w1
            refine ⟨w, w1, ?_⟩
            rcases w2 with w2 | w2
            · by_cases e : j = lim r
              · subst e
                exact Or.inr (Or.inl ⟨by omega, w2⟩)
              · exact Or.inl ⟨by omega, ic_nx (p := 0) hC hE w2 (by decide) (fun k _ => hr) (by decide) (show j < lim r by omega) (fun q _ => z1) (fun q q1 q2 => by omega) (fun k hk => by rw [if_neg (by omega), if_pos (by omega)])⟩
            · exact Or.inr (Or.inr w2)
          · obtain ⟨w, w1, w2⟩ := no_1 hC hE (S_IC hC) z2 hu hj (fun y => by
              have := (q4 j hj).mpr (by rw [hD]; exact ⟨y.1, y.2.1⟩)
              omega) (-1) 0
            exact ⟨w, w1, Or.inr (Or.inl ⟨by omega, w2⟩)⟩
          · exact ⟨t, fl_t (FC_1 z) _ _ _ _ _, Or.inr (Or.inr z)⟩)
        refine ⟨w, w1, fin w ?_⟩
        rcases w2 with ⟨z1, z2⟩ | ⟨z1, z2⟩ | z
        · omega
        · exact Or.inl (ic_sc hC hE z2 (by decide) (fun k _ => hr) (fun _ _ => rfl))
        · exact Or.inr z
  · rw [rk_f hs]
    exact lp_j (F := fun v t => fX12_tryAddition (nI b) (nI u) (nI st * v) (-1 : Int32) (0 : Int32) t) et.2 (fun _ t => A1 C n (rk sel u) t) h (fun j t j1 hj hI => by
      rw [stj]
      exact no_1 hC hE (S_A1 hC) hI hu hj (fun y => eno u hu hs j j1 hj ⟨y.1, y.2.1⟩) _ _)
theorem A1_GM {t : Sto} (hC : C = Co x l e n room st D lim need W gr b X0) (hE : EnC x l e n b nb cnt room st T L H lf D lim need sel gr) {P : Sto → Prop} (hP : Stb C P) (h : P t) : gI t 0 0 6 = nI cnt := by
  obtain ⟨⟨k, X, h1⟩, _⟩ := hP.2 t h
  exact (C_GM hC hE h1).2.2.2
/-- all lots -/
theorem c_s1 (hC : C = Co x l e n room st D lim need W gr b X0) (hE : EnC x l e n b nb cnt room st T L H lf D lim need sel gr) (h : SC C n 0 0 (fun k => k) m) : ∃ r, lp (σ := (Int32 × Sto)) (ρ := Sto) (un2 fun (v216 : Int32) (t217 : Sto) =>
                      if gI t217 0 (0) 6 ≤ v216 then (
                       some (.inr t217)) else (
                       ((lp (σ := (Int32 × Sto)) (ρ := Sto) (un2 fun (v223 : Int32) (t224 : Sto) =>
                          if nI T < v223 then (
                           some (.inr t224)) else (
                           (fX12_tryAddition (nI b) v216 (nI st * v223) (-1 : Int32) (0 : Int32) t224).bind (fun (t227 : Sto) =>
                            lt1 (v223 + Int32.ofInt (1)) fun (v229 : Int32) =>
                            some (.inl (v229, t227))))) 4000 ((1 : Int32), t217)).bind
                        (fun (t225 : Sto) =>
                         lt1 (v216 + Int32.ofInt (1)) fun (v230 : Int32) =>
                         some (.inl (v230, t225)))))) 4000 ((0 : Int32), m) = some r ∧ A1 C n n r := by
  obtain ⟨_, hb, hx, es, et, er, en, eD, eq, eno⟩ := id hE
  have := lp_u (u0 := 0) (m := m) hb.2.2.1 (F := fun v216 t217 => lp (σ := (Int32 × Sto)) (ρ := Sto) (un2 fun (v223 : Int32) (t224 : Sto) =>
                          if nI T < v223 then (
                           some (.inr t224)) else (
                           (fX12_tryAddition (nI b) v216 (nI st * v223) (-1 : Int32) (0 : Int32) t224).bind (fun (t227 : Sto) =>
                            lt1 (v223 + Int32.ofInt (1)) fun (v229 : Int32) =>
                            some (.inl (v229, t227))))) 4000 ((1 : Int32), t217)) (fun u t => A1 C n (rk sel u) t) (fun u t hI => A1_GM hC hE (S_A1 hC) hI) (Nat.zero_le _) (Or.inl ⟨rfl, h⟩) (fun u t _ hu hI => c_u1 hC hE hu hI)
  rw [← en] at this
  exact this
end
