theorem un_mk {m E f M e : Nat} (h : m = E * 2 ^ 52 + f) (hf : f < 2 ^ 52) (hM : 2 ^ 52 + f = M) (he : E = e + 1) : un m = M * 2 ^ e := by
  have e1 : m % 2 ^ 52 = f := by omega
  have e2 : m / 2 ^ 52 = E := by omega
  rw [un_hi (by omega), e1, e2, hM, he, Nat.add_sub_cancel]
theorem nt_guess {s : UInt64} {S : Nat} (hs : fnn s) (us : un s.toNat = S * 2 ^ 1021) (hS : 2 ^ 53 ≤ S) (hS2 : S < 2 ^ 55) :
    fnn (FP.dmul s (4599616371426034975 : UInt64)) ∧ fnn (FP.dadd (4604390187031047700 : UInt64) (FP.dmul s (4599616371426034975 : UInt64))) ∧ ∃ A, un (FP.dadd (4604390187031047700 : UInt64) (FP.dmul s (4599616371426034975 : UInt64))).toNat = A * 2 ^ 1021 ∧ 33 * S + 69 * 2 ^ 53 ≤ 100 * A + 2500 ∧ 100 * A ≤ 33 * S + 69 * 2 ^ 53 + 2500 := by
  obtain ⟨P, hP⟩ : ∃ P, P = 2 ^ 1021 := ⟨_, rfl⟩
  have hP0 : 0 < P := by rw [hP]; exact Nat.two_pow_pos _
  have hc : fnn (4599616371426034975 : UInt64) := by unfold fnn; decide
  have hd : fnn (4604390187031047700 : UInt64) := by unfold fnn; decide
  have e8 : ∀ c, c * 2 ^ 1024 = 8 * c * P := fun c => by
    rw [hP, show (1024 : Nat) = 1021 + 3 from rfl, Nat.pow_add, show (2 : Nat) ^ 3 = 8 from rfl, Nat.mul_comm (2 ^ 1021) 8, ← Nat.mul_assoc, Nat.mul_comm c 8]
  have ud : un (4604390187031047700 : UInt64).toNat = 6214967485771284 * P := by
    rw [hP]
    exact un_mk (E := 1022) (f := 1711367858400788) (M := 6214967485771284) (e := 1021) (by decide +kernel) (by decide) (by decide) (by decide)
  have uc : 2 * un (4599616371426034975 : UInt64).toNat = 5944751508129055 * P := by
    have h : un (4599616371426034975 : UInt64).toNat = 5944751508129055 * 2 ^ 1020 := un_mk (E := 1021) (f := 1441151880758559) (M := 5944751508129055) (e := 1020) (by decide +kernel) (by decide) (by decide) (by decide)
    rw [h, hP, Nat.mul_left_comm, ← Nat.pow_succ']
  have e1074 : (2 : Nat) ^ 1074 = 2 ^ 53 * P := by rw [hP, ← Nat.pow_add]
  have us' : un s.toNat = S * P := by rw [us, hP]
  obtain ⟨K, hK⟩ : ∃ K, K = S * 5944751508129055 / 2 ^ 57 := ⟨_, rfl⟩
  obtain ⟨_, mu, ml⟩ := dmul_b hs hc
  obtain ⟨m1, hm1, um1⟩ := un_rep 1024 (K + 1) (by omega) (by decide)
  obtain ⟨m0, hm0, um0⟩ := un_rep 1024 K (by omega) (by decide)
  rw [e8] at um1 um0
  have hprod : 2 * (un s.toNat * un (4599616371426034975 : UInt64).toNat) = (S * 5944751508129055) * (P * P) := by
    rw [Nat.mul_left_comm, uc, us', Nat.mul_mul_mul_comm]
  have q1 : (FP.dmul s (4599616371426034975 : UInt64)).toNat ≤ m1 := by
    refine mu m1 ?_
    refine Nat.le_of_mul_le_mul_left ?_ (show 0 < 2 by decide)
    rw [hprod, um1, e1074]
    calc (S * 5944751508129055) * (P * P) ≤ (2 ^ 57 * (K + 1)) * (P * P) := Nat.mul_le_mul_right _ (by omega)
      _ = 2 * (8 * (K + 1) * P * (2 ^ 53 * P)) := by
        rw [Nat.mul_mul_mul_comm (8 * (K + 1)), ← Nat.mul_assoc 2]
        exact congrArg (· * (P * P)) (by omega)
  have q0 : m0 ≤ (FP.dmul s (4599616371426034975 : UInt64)).toNat := by
    refine ml m0 (Nat.le_of_lt hm0) ?_
    refine Nat.le_of_mul_le_mul_left ?_ (show 0 < 2 by decide)
    rw [hprod, um0, e1074]
    calc 2 * (8 * K * P * (2 ^ 53 * P)) = (2 ^ 57 * K) * (P * P) := by
          rw [Nat.mul_mul_mul_comm (8 * K), ← Nat.mul_assoc 2]
          exact congrArg (· * (P * P)) (by omega)
      _ ≤ (S * 5944751508129055) * (P * P) := Nat.mul_le_mul_right _ (by omega)
  have hq : fnn (FP.dmul s (4599616371426034975 : UInt64)) := Nat.lt_of_le_of_lt q1 hm1
  have uq1 : un (FP.dmul s (4599616371426034975 : UInt64)).toNat ≤ 8 * (K + 1) * P := by rw [← um1]; exact un_le.mpr q1
  have uq0 : 8 * K * P ≤ un (FP.dmul s (4599616371426034975 : UInt64)).toNat := by rw [← um0]; exact un_le.mpr q0
  obtain ⟨_, au, al⟩ := dadd_b hd hq
  obtain ⟨d1, hd1, ud1⟩ := un_rep 1024 ((6214967485771284 + 8 * (K + 1)) / 8 + 1) (by omega) (by decide)
  obtain ⟨d0, hd0, ud0⟩ := un_rep 1024 ((6214967485771284 + 8 * K) / 8) (by omega) (by decide)
  rw [e8] at ud1 ud0
  generalize FP.dmul s (4599616371426034975 : UInt64) = q at *
  have t1 : (FP.dadd (4604390187031047700 : UInt64) q).toNat ≤ d1 := by
    refine au d1 ?_
    rw [ud, ud1]
    have : (6214967485771284 + 8 * (K + 1)) * P ≤ (8 * ((6214967485771284 + 8 * (K + 1)) / 8 + 1)) * P := Nat.mul_le_mul_right _ (by omega)
    rw [Nat.add_mul] at this
    omega
  have t0 : d0 ≤ (FP.dadd (4604390187031047700 : UInt64) q).toNat := by
    refine al d0 (Nat.le_of_lt hd0) ?_
    rw [ud, ud0]
    have : (8 * ((6214967485771284 + 8 * K) / 8)) * P ≤ (6214967485771284 + 8 * K) * P := Nat.mul_le_mul_right _ (by omega)
    rw [Nat.add_mul] at this
    omega
  have ht : fnn (FP.dadd (4604390187031047700 : UInt64) q) := Nat.lt_of_le_of_lt t1 hd1
  obtain ⟨F, k, hF, hk, uF⟩ := un_ck ht
  have ut1 : un (FP.dadd (4604390187031047700 : UInt64) q).toNat ≤ 8 * ((6214967485771284 + 8 * (K + 1)) / 8 + 1) * P := by rw [← ud1]; exact un_le.mpr t1
  have ut0 : 8 * ((6214967485771284 + 8 * K) / 8) * P ≤ un (FP.dadd (4604390187031047700 : UInt64) q).toNat := by rw [← ud0]; exact un_le.mpr t0
  have hk1 : 1021 ≤ k := by
    refine Nat.le_of_not_lt (fun h => ?_)
    have h1 : F * 2 ^ k ≤ (2 ^ 53 - 1) * P := by
      rw [hP]
      exact mulle (by omega) (Nat.pow_le_pow_right (by decide) (by omega))
    have h2 : (2 ^ 53 - 1 + 1) * P ≤ (8 * ((6214967485771284 + 8 * K) / 8)) * P := Nat.mul_le_mul_right _ (by omega)
    rw [Nat.add_mul, Nat.one_mul] at h2
    rw [uF] at ut0
    omega
  obtain ⟨j, rfl⟩ : ∃ j, k = j + 1021 := ⟨k - 1021, by omega⟩
  have e : un (FP.dadd (4604390187031047700 : UInt64) q).toNat = (F * 2 ^ j) * P := by
    rw [uF, hP, Nat.pow_add, Nat.mul_assoc]
  rw [e] at ut0 ut1
  have h1 := Nat.le_of_mul_le_mul_right ut0 hP0
  have h2 := Nat.le_of_mul_le_mul_right ut1 hP0
  exact ⟨hq, ht, F * 2 ^ j, by rw [e, hP], by omega, by omega⟩
def ntE : Nat → Nat
  | 0 => 630503947831870
  | 1 => 29500000000010
  | 2 => 64500000010
  | 3 => 310010
  | _ => 11
theorem ntE_s : ∀ i, i < 4 → ntE i * ntE i ≤ 2 * (2 ^ 53 - 8) * (ntE (i + 1) - 10) ∧ 10 ≤ ntE (i + 1) ∧ 8 ≤ ntE i ∧ ntE i ≤ 2 ^ 51 := by decide
abbrev ntLoop (v19 v25 : UInt64) : Option UInt64 :=
       ((lp (σ := (Int32 × UInt64)) (ρ := UInt64) (un2 fun (v29 : Int32) (v30 : UInt64) =>
          if (4 : Int32) ≤ v29 then (
           some (.inr v30)) else (
           nd (FP.ddiv v19 v30) fun (v39 : UInt64) =>
           nd (FP.dadd v30 v39) fun (v40 : UInt64) =>
           nd (FP.dmul v40 (4602678819172646912 : UInt64)) fun (v41 : UInt64) =>
           lt1 (v29 + Int32.ofInt (1)) fun (v42 : Int32) =>
           some (.inl (v42, v41)))) 4000 ((0 : Int32), v25)))
theorem nt_loop {s g : UInt64} {S A r : Nat} (hs : fnn s) (us : un s.toNat = S * 2 ^ 1021) (hS : 2 ^ 53 ≤ S) (hS2 : S < 2 ^ 55) (hg : fnn g) (ug : un g.toNat = A * 2 ^ 1021) (hr1 : r * r ≤ S * 2 ^ 53) (hr2 : S * 2 ^ 53 ≤ r * r + 2 * r) (g1 : 2 ^ 53 ≤ r) (g2 : r < 2 ^ 54) (a1 : A ≤ r + ntE 0) (a2 : r ≤ A + ntE 0) (a3 : 2 ^ 53 - 8 ≤ A) :
    ∃ w B, ntLoop s g = some w ∧ fnn w ∧ un w.toNat = B * 2 ^ 1021 ∧ B ≤ r + 11 ∧ r ≤ B + 11 := by
  obtain ⟨P, hP⟩ : ∃ P, P = 2 ^ 1021 := ⟨_, rfl⟩
  rw [← hP] at ug ⊢
  obtain ⟨w, h1, h2, B, h3, h4, h5⟩ := lp_inv (body := un2 fun (v29 : Int32) (v30 : UInt64) =>
          if (4 : Int32) ≤ v29 then (
           some (.inr v30)) else (
           nd (FP.ddiv s v30) fun (v39 : UInt64) =>
           nd (FP.dadd v30 v39) fun (v40 : UInt64) =>
           nd (FP.dmul v40 (4602678819172646912 : UInt64)) fun (v41 : UInt64) =>
           lt1 (v29 + Int32.ofInt (1)) fun (v42 : Int32) =>
           some (.inl (v42, v41)))) (fun i q => q.1 = nI i ∧ fnn q.2 ∧ ∃ A, un q.2.toNat = A * P ∧ A ≤ r + ntE i ∧ r ≤ A + ntE i ∧ 2 ^ 53 - 8 ≤ A) (fun w => fnn w ∧ ∃ B, un w.toNat = B * P ∧ B ≤ r + 11 ∧ r ≤ B + 11) 4 (fun i q hi ⟨q1, q2, A, q3, q4, q5, q6⟩ => by
      obtain ⟨k, v⟩ := q
      dsimp only at q1 q2 q3
      subst q1
      dsimp only [un2]
      by_cases h : i < 4
      · right
        obtain ⟨f1, f2, f3, f4⟩ := ntE_s i h
        have hA2 : A ≤ 5 * 2 ^ 52 := by clear us; omega
        obtain ⟨n1, n2, n3, A', n4, n5, n6⟩ := nt_step hs q2 us (by rw [q3, hP]) hS hS2 (Nat.le_trans (by decide) q6) hA2
        rw [← hP] at n4
        obtain ⟨p1, p2⟩ := nt_err (b := ntE (i + 1) - 10) n5 n6 hr1 hr2 q4 q5 q6 (by omega) (by omega) f1
        refine ⟨h, (nI (i + 1), FP.dmul (FP.dadd v (FP.ddiv s v)) (4602678819172646912 : UInt64)), ?_, rfl, n3, A', n4, by omega, ?_, by omega⟩
        · rw [if_neg (fun h => by have := (nI_leI (by decide) (by omega)).mp (show nI 4 ≤ nI i from h); omega), nd_t (n64_of n1), nd_t (n64_of n2), nd_t (n64_of n3), lt1_e, show nI i + Int32.ofInt 1 = nI (i + 1) from nI_1 i]
        · have : 8 ≤ ntE (i + 1) := by omega
          omega
      · left
        have e : i = 4 := by omega
        subst e
        exact ⟨v, if_pos ((nI_leI (by decide) (by decide)).mpr (Nat.le_refl 4)), q2, A, q3, q4, q5⟩) 4 4000 0 ((0 : Int32), g) (by omega) ⟨rfl, hg, A, ug, a1, a2, a3⟩ (by omega)
  exact ⟨w, B, h1, h2, h3, h4, h5⟩
