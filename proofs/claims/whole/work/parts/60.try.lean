theorem fnn_of {x : UInt64} {n : Nat} (h : x.toNat = n) (hn : n < 9218868437227405312) : fnn x := by
  unfold fnn; rw [h]; exact hn
theorem negI {d : Nat} (h : d < 2 ^ 62) : (-lN d).toInt = -(d : Int) := by
  have e : (lN d).toInt = (d : Int) := pk_lT (by omega)
  rw [Int64.toInt_neg, e]
  exact Int.bmod_eq_of_le (by omega) (by omega)
theorem subI {a b : Nat} (h1 : a < b + 2 ^ 62) (h2 : b < a + 2 ^ 62) : (lN a - lN b).toInt = (a : Int) - b := by
  rcases Nat.le_total b a with h | h
  · rw [lN_sub h, pk_lT (by omega)]; omega
  · have e : lN a - lN b = -(lN b - lN a) := (Int64.neg_sub).symm
    rw [e, lN_sub h, negI (by omega)]; omega
theorem nr_spec {S G t : Nat} (hr : isRoot (S * 2 ^ 52) t) (h1 : G ≤ t + 9) (h2 : t ≤ G + 9) (ht : t < 2 ^ 53) (ht2 : 100 ≤ t) : fX7_nearestRoot (lN S) (lN G) = some (lN t) := by
  unfold fX7_nearestRoot
  obtain ⟨q, k1, k2⟩ := lp_inv (body := un2 fun (v4 : Int32) (v5 : Int64) =>
     if (16 : Int32) ≤ v4 then (
      some (.inr (.inr v5))) else (
      lt1 ((lN S <<< ((52 : Int32).toInt64 &&& 63)) - (v5 * v5)) fun (v8 : Int64) =>
      if lg_cmp v8 v5 ≤ 0 then (
       if 0 < lg_cmp v8 (-v5) then (
        some (.inr (.inl v5))) else (
        lt1 (v5 - (1 : Int64)) fun (v11 : Int64) =>
        lt1 (v4 + Int32.ofInt (1)) fun (v12 : Int32) =>
        some (.inl (v12, v11)))) else (
       lt1 (v5 + (1 : Int64)) fun (v13 : Int64) =>
       lt1 (v4 + Int32.ofInt (1)) fun (v14 : Int32) =>
       some (.inl (v14, v13))))) (fun i s => ∃ g, s = (nI i, lN g) ∧ t ≤ g + (9 - i) ∧ g ≤ t + (9 - i)) (fun r => r = (Sum.inl (lN t) : Int64 ⊕ Int64)) 9 (fun i s hi ⟨g, e, g1, g2⟩ => by
      subst e
      dsimp only [un2]
      have hlt : ¬ (16 : Int32) ≤ nI i := fun h => by have := (nI_leI (by decide) (by omega)).mp (show nI 16 ≤ nI i from h); omega
      have es : lN S <<< ((52 : Int32).toInt64 &&& 63) = lN (S * 2 ^ 52) := wb_shl S (k := 52) (by decide)
      rw [if_neg hlt, lt1_e, es, lN_mul]
      obtain ⟨r1, r2⟩ := hr
      obtain ⟨N, hN⟩ : ∃ N, N = S * 2 ^ 52 := ⟨_, rfl⟩
      rw [← hN] at r1 r2 ⊢
      have m1 : t * t ≤ (g + 9) * (g + 9) := mulle (by omega) (by omega)
      have m2 : g * g ≤ (t + 9) * (t + 9) := mulle (by omega) (by omega)
      rw [Nat.mul_add, Nat.add_mul] at m1 m2
      have hs := subI (a := N) (b := g * g) (by omega) (by omega)
      have hg : (lN g).toInt = (g : Int) := pk_lT (by omega)
      have hng : (-lN g).toInt = -(g : Int) := negI (by omega)
      have c1 : lg_cmp (lN N - lN (g * g)) (lN g) ≤ 0 ↔ N ≤ g * g + g := by
        rw [lg_cmp_le, Int64.le_iff_toInt_le, hs, hg]; omega
      have c2 : 0 < lg_cmp (lN N - lN (g * g)) (-lN g) ↔ g * g < N + g := by
        rw [lg_cmp_gt, Int64.lt_iff_toInt_lt, hs, hng]; omega
      by_cases a1 : N ≤ g * g + g
      · rw [if_pos (c1.mpr a1)]
        by_cases a2 : g * g < N + g
        · left
          rw [if_pos (c2.mpr a2)]
          exact ⟨_, rfl, by rw [isRoot_uniq (N := N) ⟨a2, a1⟩ ⟨r1, r2⟩]⟩
        · right
          have : t < g := by
            refine Nat.lt_of_not_le (fun h => ?_)
            have e2 : t * t = t + t * (t - 1) := by
              obtain ⟨u, rfl⟩ : ∃ u, t = u + 1 := ⟨t - 1, by omega⟩
              rw [Nat.add_sub_cancel, Nat.mul_succ (u + 1) u]; omega
            have e3 : g * g = g + g * (g - 1) := by
              obtain ⟨u, rfl⟩ : ∃ u, g = u + 1 := ⟨g - 1, by omega⟩
              rw [Nat.add_sub_cancel, Nat.mul_succ (u + 1) u]; omega
            have : g * (g - 1) ≤ t * (t - 1) := mulle h (by omega)
            omega
          refine ⟨by omega, (nI (i + 1), lN (g - 1)), ?_, g - 1, rfl, by omega, by omega⟩
          rw [if_neg (fun h => a2 (c2.mp h)), lt1_e, lt1_e, show nI i + Int32.ofInt 1 = nI (i + 1) from nI_1 i, show (1 : Int64) = lN 1 from rfl, lN_sub (by omega)]
      · right
        have : g < t := by
          refine Nat.lt_of_not_le (fun h => ?_)
          have : t * t ≤ g * g := mulle h h
          omega
        refine ⟨by omega, (nI (i + 1), lN (g + 1)), ?_, g + 1, rfl, by omega, by omega⟩
        rw [if_neg (fun h => a1 (c1.mp h)), lt1_e, lt1_e, show nI i + Int32.ofInt 1 = nI (i + 1) from nI_1 i, lN_1]) 9 4000 0 ((0 : Int32), lN G) (by omega) ⟨G, rfl, by omega, by omega⟩ (by omega)
  rw [k1, k2]
  rfl
theorem sc_a {xn v i : Nat} (h : i < (xn / 2 ^ 52 - 1023) / 2) (q : v + 2 * i * 2 ^ 52 = xn) : 1025 * 2 ^ 52 ≤ v := by omega
theorem sc_b {xn v i n : Nat} (q : v + 2 * i * 2 ^ 52 = xn) (h : n + 2 * 2 ^ 52 = v) : n + 2 * (i + 1) * 2 ^ 52 = xn := by
  generalize 2 ^ 52 = M at *
  subst h; subst q
  rw [Nat.mul_add, Nat.add_mul, Nat.mul_one]; omega
theorem sc_e {n v : Nat} (h : n + 2 * 2 ^ 52 = v) : v + 1021 * 2 ^ 52 = n + 1023 * 2 ^ 52 := by
  generalize 2 ^ 52 = M at *
  omega
theorem sc_f {n v : Nat} (h : n + 2 ^ 52 = v) : v + 1022 * 2 ^ 52 = n + 1023 * 2 ^ 52 := by
  generalize 2 ^ 52 = M at *
  omega
theorem sc_c {n v : Nat} (h : n + 2 * 2 ^ 52 = v) (k : 1025 * 2 ^ 52 ≤ v) : 2 ^ 52 ≤ n := by omega
theorem sc_d {n u w i : Nat} (h : n + 2 ^ 52 = u) (q : u + i * 2 ^ 52 = w) (hw : 1000 * 2 ^ 52 ≤ w) (hi : i ≤ 300) : 2 ^ 52 ≤ n := by omega
abbrev scUp (a1 : UInt64) : Option (UInt64 × UInt64) :=
   ((lp (σ := (Int32 × UInt64 × UInt64)) (ρ := (UInt64 × UInt64)) (un3 fun (v5 : Int32) (v6 : UInt64) (v7 : UInt64) =>
      if (1100 : Int32) ≤ v5 then (
       some (.inr (v7, v6))) else (
       if Op.cmpValue (FP.dcmp v7 (4616189618054758400 : UInt64)) CmpOp.l < 0 then (
        some (.inr (v7, v6))) else (
        nd (FP.dmul v7 (4598175219545276416 : UInt64)) fun (v56 : UInt64) =>
        nd (FP.dmul v6 (4611686018427387904 : UInt64)) fun (v57 : UInt64) =>
        lt1 (v5 + Int32.ofInt (1)) fun (v58 : Int32) =>
        some (.inl (v58, v57, v56))))) 4000 ((0 : Int32), FP.dconst1, a1)))
theorem sc_up {x : UInt64} (h1 : 500 * 2 ^ 52 ≤ x.toNat) (h2 : x.toNat < 1500 * 2 ^ 52) : ∃ q u, scUp x = some (q, u) ∧ q.toNat + 2 * ((x.toNat / 2 ^ 52 - 1023) / 2) * 2 ^ 52 = x.toNat ∧ u.toNat = (1023 + (x.toNat / 2 ^ 52 - 1023) / 2) * 2 ^ 52 := by
  obtain ⟨xn, hx⟩ : ∃ xn, xn = x.toNat := ⟨_, rfl⟩
  rw [← hx] at h1 h2 ⊢
  have c4 : (4616189618054758400 : UInt64).toNat = 1025 * 2 ^ 52 := by decide +kernel
  have c4f : fnn (4616189618054758400 : UInt64) := by unfold fnn; decide +kernel
  obtain ⟨r, k1, k2, k3⟩ := lp_inv (body := un3 fun (v5 : Int32) (v6 : UInt64) (v7 : UInt64) =>
      if (1100 : Int32) ≤ v5 then (
       some (.inr (v7, v6))) else (
       if Op.cmpValue (FP.dcmp v7 (4616189618054758400 : UInt64)) CmpOp.l < 0 then (
        some (.inr (v7, v6))) else (
        nd (FP.dmul v7 (4598175219545276416 : UInt64)) fun (v56 : UInt64) =>
        nd (FP.dmul v6 (4611686018427387904 : UInt64)) fun (v57 : UInt64) =>
        lt1 (v5 + Int32.ofInt (1)) fun (v58 : Int32) =>
        some (.inl (v58, v57, v56))))) (fun i s => s.1 = nI i ∧ s.2.1.toNat = (1023 + i) * 2 ^ 52 ∧ s.2.2.toNat + 2 * i * 2 ^ 52 = xn) (fun r => r.1.toNat + 2 * ((xn / 2 ^ 52 - 1023) / 2) * 2 ^ 52 = xn ∧ r.2.toNat = (1023 + (xn / 2 ^ 52 - 1023) / 2) * 2 ^ 52) ((xn / 2 ^ 52 - 1023) / 2) (fun i s hi ⟨q1, q2, q3⟩ => by
      obtain ⟨k, u, v⟩ := s
      dsimp only at q1 q2 q3
      subst q1
      dsimp only [un3]
      have hvf : fnn v := pw_fnn (K := 1500) (show v.toNat < 1500 * 2 ^ 52 by omega) (by decide)
      have huf : fnn u := pw_fnn (K := 1600) (show u.toNat < 1600 * 2 ^ 52 by omega) (by decide)
      have hc := (cmp_n hvf c4f CmpOp.l).1
      rw [c4] at hc
      rw [if_neg (fun h => by have := (nI_leI (by decide) (by omega)).mp (show nI 1100 ≤ nI i from h); omega)]
      by_cases h : i < (xn / 2 ^ 52 - 1023) / 2
      · right
        obtain ⟨nv, hnv⟩ : ∃ nv, nv + 2 * 2 ^ 52 = v.toNat := ⟨v.toNat - 2 * 2 ^ 52, by omega⟩
        have hv : (FP.dmul v (4598175219545276416 : UInt64)).toNat = nv := dmul_p2 (p := 1021) (by omega) (by decide +kernel) (by decide) (by decide) hvf (sc_e hnv) (sc_c hnv (sc_a h q3)) (show _ < 9218868437227405312 by omega)
        have hu : (FP.dmul u (4611686018427387904 : UInt64)).toNat = u.toNat + 2 ^ 52 := dmul_p2 (p := 1024) (by omega) (by decide +kernel) (by decide) (by decide) huf (by omega) (by omega) (show _ < 9218868437227405312 by omega)
        refine ⟨h, (nI (i + 1), FP.dmul u (4611686018427387904 : UInt64), FP.dmul v (4598175219545276416 : UInt64)), ?_, rfl, by dsimp only; rw [hu]; omega, hv ▸ sc_b q3 hnv⟩
        rw [if_neg (fun g => by have := hc.mp g; omega), nd_t (n64_of (fnn_of hv (by omega))), nd_t (n64_of (fnn_of hu (by omega))), lt1_e, show nI i + Int32.ofInt 1 = nI (i + 1) from nI_1 i]
      · left
        have e : i = (xn / 2 ^ 52 - 1023) / 2 := by omega
        refine ⟨(v, u), ?_, by rw [← e]; exact q3, by rw [← e]; exact q2⟩
        rw [if_pos (hc.mpr (by omega))]) ((xn / 2 ^ 52 - 1023) / 2) 4000 0 ((0 : Int32), FP.dconst1, x) (by omega) ⟨rfl, (by decide +kernel : (FP.dconst1 : UInt64).toNat = (1023 + 0) * 2 ^ 52), by dsimp only; omega⟩ (by omega)
  exact ⟨r.1, r.2, k1, k2, k3⟩
abbrev scDn (v8 v9 : UInt64) : Option (UInt64 × UInt64) :=
     ((lp (σ := (Int32 × UInt64 × UInt64)) (ρ := (UInt64 × UInt64)) (un3 fun (v16 : Int32) (v17 : UInt64) (v18 : UInt64) =>
        if (1100 : Int32) ≤ v16 then (
         some (.inr (v17, v18))) else (
         if 0 ≤ Op.cmpValue (FP.dcmp v17 FP.dconst1) CmpOp.g then (
          some (.inr (v17, v18))) else (
          nd (FP.dmul v17 (4616189618054758400 : UInt64)) fun (v51 : UInt64) =>
          nd (FP.dmul v18 (4602678819172646912 : UInt64)) fun (v52 : UInt64) =>
          lt1 (v16 + Int32.ofInt (1)) fun (v53 : Int32) =>
          some (.inl (v53, v51, v52))))) 4000 ((0 : Int32), v8, v9)))
theorem sc_dn {x w : UInt64} (h1 : 500 * 2 ^ 52 ≤ x.toNat) (h2 : x.toNat < 1025 * 2 ^ 52) (h3 : 1000 * 2 ^ 52 ≤ w.toNat) (h4 : w.toNat ≤ 1300 * 2 ^ 52) : ∃ q u, scDn x w = some (q, u) ∧ q.toNat = x.toNat + 2 * ((1024 - x.toNat / 2 ^ 52) / 2) * 2 ^ 52 ∧ u.toNat + (1024 - x.toNat / 2 ^ 52) / 2 * 2 ^ 52 = w.toNat := by
  obtain ⟨xn, hx⟩ : ∃ xn, xn = x.toNat := ⟨_, rfl⟩
  obtain ⟨wn, hw⟩ : ∃ wn, wn = w.toNat := ⟨_, rfl⟩
  rw [← hx] at h1 h2 ⊢
  rw [← hw] at h3 h4 ⊢
  have c1 : (FP.dconst1 : UInt64).toNat = 1023 * 2 ^ 52 := by decide +kernel
  have c1f : fnn FP.dconst1 := by unfold fnn; decide +kernel
  obtain ⟨r, k1, k2, k3⟩ := lp_inv (body := un3 fun (v16 : Int32) (v17 : UInt64) (v18 : UInt64) =>
        if (1100 : Int32) ≤ v16 then (
         some (.inr (v17, v18))) else (
         if 0 ≤ Op.cmpValue (FP.dcmp v17 FP.dconst1) CmpOp.g then (
          some (.inr (v17, v18))) else (
          nd (FP.dmul v17 (4616189618054758400 : UInt64)) fun (v51 : UInt64) =>
          nd (FP.dmul v18 (4602678819172646912 : UInt64)) fun (v52 : UInt64) =>
          lt1 (v16 + Int32.ofInt (1)) fun (v53 : Int32) =>
          some (.inl (v53, v51, v52))))) (fun i s => s.1 = nI i ∧ s.2.1.toNat = xn + 2 * i * 2 ^ 52 ∧ s.2.2.toNat + i * 2 ^ 52 = wn) (fun r => r.1.toNat = xn + 2 * ((1024 - xn / 2 ^ 52) / 2) * 2 ^ 52 ∧ r.2.toNat + (1024 - xn / 2 ^ 52) / 2 * 2 ^ 52 = wn) ((1024 - xn / 2 ^ 52) / 2) (fun i s hi ⟨q1, q2, q3⟩ => by
      obtain ⟨k, v, u⟩ := s
      dsimp only at q1 q2 q3
      subst q1
      dsimp only [un3]
      have hvf : fnn v := pw_fnn (K := 1500) (show v.toNat < 1500 * 2 ^ 52 by omega) (by decide)
      have huf : fnn u := pw_fnn (K := 1600) (show u.toNat < 1600 * 2 ^ 52 by omega) (by decide)
      have hc := (cmp_n hvf c1f CmpOp.g).2.2.2.1
      rw [c1] at hc
      rw [if_neg (fun h => by have := (nI_leI (by decide) (by omega)).mp (show nI 1100 ≤ nI i from h); omega)]
      by_cases h : i < (1024 - xn / 2 ^ 52) / 2
      · right
        have hv : (FP.dmul v (4616189618054758400 : UInt64)).toNat = v.toNat + 2 * 2 ^ 52 := dmul_p2 (p := 1025) (by omega) (by decide +kernel) (by decide) (by decide) hvf (by omega) (by omega) (show _ < 9218868437227405312 by omega)
        obtain ⟨nu, hnu⟩ : ∃ nu, nu + 2 ^ 52 = u.toNat := ⟨u.toNat - 2 ^ 52, by omega⟩
        have hu : (FP.dmul u (4602678819172646912 : UInt64)).toNat = nu := dmul_p2 (p := 1022) (by omega) (by decide +kernel) (by decide) (by decide) huf (sc_f hnu) (sc_d hnu q3 h3 (by omega)) (show _ < 9218868437227405312 by omega)
        refine ⟨h, (nI (i + 1), FP.dmul v (4616189618054758400 : UInt64), FP.dmul u (4602678819172646912 : UInt64)), ?_, rfl, by dsimp only; rw [hv]; omega, by dsimp only; rw [hu]; omega⟩
        rw [if_neg (fun g => by have := hc.mp g; omega), nd_t (n64_of (fnn_of hv (by omega))), nd_t (n64_of (fnn_of hu (by omega))), lt1_e, show nI i + Int32.ofInt 1 = nI (i + 1) from nI_1 i]
      · left
        have e : i = (1024 - xn / 2 ^ 52) / 2 := by omega
        refine ⟨(v, u), ?_, by rw [← e]; exact q2, by rw [← e]; exact q3⟩
        rw [if_pos (hc.mpr (by omega))]) ((1024 - xn / 2 ^ 52) / 2) 4000 0 ((0 : Int32), x, w) (by omega) ⟨rfl, by dsimp only; omega, by dsimp only; omega⟩ (by omega)
  exact ⟨r.1, r.2, k1, k2, k3⟩
