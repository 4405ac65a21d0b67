/-! ===== the roots: both are the whole number nearest to the exact root ===== -/
def isRoot (N r : Nat) : Prop := r * r < N + r ∧ N ≤ r * r + r
theorem isRoot_uniq {N r q : Nat} (h : isRoot N r) (k : isRoot N q) : r = q := by
  obtain ⟨h1, h2⟩ := h
  obtain ⟨k1, k2⟩ := k
  rcases Nat.lt_trichotomy r q with g | g | g
  · exfalso
    have : (r + 1) * r ≤ q * (q - 1) := Nat.mul_le_mul g (by omega)
    have e1 : (r + 1) * r = r * r + r := Nat.succ_mul _ _
    have e2 : q * (q - 1) + q = q * q := by
      obtain ⟨t, rfl⟩ : ∃ t, q = t + 1 := ⟨q - 1, by omega⟩
      rw [Nat.add_sub_cancel, Nat.mul_succ (t + 1) t]
    omega
  · exact g
  · exfalso
    have : (q + 1) * q ≤ r * (r - 1) := Nat.mul_le_mul g (by omega)
    have e1 : (q + 1) * q = q * q + q := Nat.succ_mul _ _
    have e2 : r * (r - 1) + r = r * r := by
      obtain ⟨t, rfl⟩ : ∃ t, r = t + 1 := ⟨r - 1, by omega⟩
      rw [Nat.add_sub_cancel, Nat.mul_succ (t + 1) t]
    omega
theorem isRoot_lt {m r : Nat} (hm : m ≤ 2 ^ 54 - 2) (h : isRoot (m * 2 ^ 52) r) : r < 2 ^ 53 := by
  refine Nat.lt_of_not_le (fun g => ?_)
  have h1 := h.1
  have e2 : r * (r - 1) + r = r * r := by
    obtain ⟨t, rfl⟩ : ∃ t, r = t + 1 := ⟨r - 1, by omega⟩
    rw [Nat.add_sub_cancel, Nat.mul_succ (t + 1) t]
  have : 2 ^ 53 * (2 ^ 53 - 1) ≤ r * (r - 1) := Nat.mul_le_mul g (by omega)
  have : m * 2 ^ 52 ≤ (2 ^ 54 - 2) * 2 ^ 52 := Nat.mul_le_mul_right _ hm
  omega
theorem isRoot_of {N R L : Nat} (h : R * R + L = 4 * N) (hL : L ≤ 2 * R) (hR : 2 ≤ R) : isRoot N (R / 2 + if R % 2 = 1 then 1 else 0) := by
  obtain ⟨g, hg⟩ : ∃ g, g = R / 2 := ⟨_, rfl⟩
  rcases Nat.mod_two_eq_zero_or_one R with o | o
  · have e : R = 2 * g := by omega
    have e2 : R * R = 4 * (g * g) := by rw [e, Nat.mul_mul_mul_comm]
    rw [if_neg (by omega), Nat.add_zero, ← hg]
    constructor
    · show g * g < N + g
      omega
    · show N ≤ g * g + g
      omega
  · have e : R = 2 * g + 1 := by omega
    have e2 : R * R = 4 * (g * g) + 4 * g + 1 := by
      rw [e, Nat.mul_add, Nat.add_mul, Nat.mul_mul_mul_comm]; omega
    have e3 : (g + 1) * (g + 1) = g * g + 2 * g + 1 := by
      rw [Nat.mul_add, Nat.add_mul]; omega
    rw [if_pos o, ← hg]
    constructor
    · show (g + 1) * (g + 1) < N + (g + 1)
      omega
    · show N ≤ (g + 1) * (g + 1) + (g + 1)
      omega
theorem shrL {a k : Nat} (ha : a < 2 ^ 62) (hk : k < 64) : lN a >>> ((nI k).toInt64 &&& 63) = lN (a / 2 ^ k) := by
  refine pf_shr ?_ ha
  rw [wb_c k hk]
  show ((BitVec.ofNat 64 k).smod 64).toNat = k
  rw [wb_sm k hk]
  exact Nat.mod_eq_of_lt (by omega)
theorem or_small {a b k p : Nat} (hp : 2 ^ k = p) (hb : b < p) (h : a * p + b < 2 ^ 64) : lN (a * p) ||| lN b = lN (a * p + b) := g_or hp hb h
/-- what of the number stands in the first places -/
def rtP (m i : Nat) : Nat := if i ≤ 27 then m / 2 ^ (54 - 2 * i) else m * 4 ^ (i - 27)
theorem rtP_lo {m i : Nat} (h : i ≤ 26) : rtP m (i + 1) = 4 * rtP m i + m / 2 ^ (2 * (26 - i)) % 4 := by
  unfold rtP
  rw [if_pos (by omega), if_pos (by omega), show 54 - 2 * (i + 1) = 2 * (26 - i) by omega, show 54 - 2 * i = 2 * (26 - i) + 2 by omega, Nat.pow_add, ← Nat.div_div_eq_div_mul]
  omega
theorem rtP_hi {m i : Nat} (h : 27 ≤ i) : rtP m (i + 1) = 4 * rtP m i := by
  unfold rtP
  rw [if_neg (by omega)]
  by_cases e : i = 27
  · subst e
    rw [if_pos (by omega)]
    show m * 4 ^ 1 = 4 * (m / 2 ^ 0)
    omega
  · rw [if_neg (by omega), show i + 1 - 27 = i - 27 + 1 by omega, Nat.pow_succ, ← Nat.mul_assoc, Nat.mul_comm 4]
def rtI (i : Nat) : Int32 := if i ≤ 53 then nI (53 - i) else -1
theorem rtI_s (i : Nat) (h : i ≤ 53) : rtI i + Int32.ofInt (-1) = rtI (i + 1) := by
  have : ∀ i, i ≤ 53 → rtI i + Int32.ofInt (-1) = rtI (i + 1) := by decide +kernel
  exact this i h
theorem rtI_n {i : Nat} (h : i ≤ 54) : rtI i < 0 ↔ i = 54 := by
  have : ∀ i, i ≤ 54 → (rtI i < 0 ↔ i = 54) := by decide +kernel
  exact this i h
theorem rtI_c {i : Nat} (h : i ≤ 53) : rtI i < (27 : Int32) ↔ 27 ≤ i := by
  have : ∀ i, i ≤ 53 → (rtI i < (27 : Int32) ↔ 27 ≤ i) := by decide +kernel
  exact this i h
theorem rtI_v {i : Nat} (h : i ≤ 26) : (2 : Int32) * (rtI i - (27 : Int32)) = nI (2 * (26 - i)) := by
  have : ∀ i, i ≤ 26 → (2 : Int32) * (rtI i - (27 : Int32)) = nI (2 * (26 - i)) := by decide +kernel
  exact this i h
abbrev rtBody (v9 : Int64) : (Int32 × Int64 × Int64) → Option ((Int32 × Int64 × Int64) ⊕ (Int64 × Int64)) := un3 fun (v14 : Int32) (v15 : Int64) (v16 : Int64) =>
        if v14 < 0 then (
         some (.inr (v16, v15))) else (
         jn (fun (v46 : Int64) =>
          lt1 ((v15 <<< ((2 : Int32).toInt64 &&& 63)) ||| v46) fun (v47 : Int64) =>
          lt1 ((v16 <<< ((2 : Int32).toInt64 &&& 63)) ||| (1 : Int64)) fun (v48 : Int64) =>
          lt1 (v16 <<< ((1 : Int32).toInt64 &&& 63)) fun (v49 : Int64) =>
          if 0 ≤ lg_cmp v47 v48 then (
           lt1 (v47 - v48) fun (v51 : Int64) =>
           lt1 (v49 ||| (1 : Int64)) fun (v52 : Int64) =>
           lt1 (v14 + Int32.ofInt (-1)) fun (v53 : Int32) =>
           some (.inl (v53, v51, v52))) else (
           lt1 (v14 + Int32.ofInt (-1)) fun (v54 : Int32) =>
           some (.inl (v54, v47, v49)))) fun K43 =>
         if v14 < (27 : Int32) then (
          K43 (0 : Int64)) else (
          K43 ((v9 >>> (((2 : Int32) * (v14 - (27 : Int32))).toInt64 &&& 63)) &&& (3 : Int64))))
theorem rt_step {m i L R b : Nat} (hi : i ≤ 53) (hP : R * R + L = rtP m i) (hL : L ≤ 2 * R) (hR : R < 2 ^ i) (hb : b < 4) (hP2 : rtP m (i + 1) = 4 * rtP m i + b) :
    ∃ s' : Int32 × Int64 × Int64, (lt1 ((lN L <<< ((2 : Int32).toInt64 &&& 63)) ||| lN b) fun (v47 : Int64) =>
          lt1 ((lN R <<< ((2 : Int32).toInt64 &&& 63)) ||| (1 : Int64)) fun (v48 : Int64) =>
          lt1 (lN R <<< ((1 : Int32).toInt64 &&& 63)) fun (v49 : Int64) =>
          if 0 ≤ lg_cmp v47 v48 then (
           lt1 (v47 - v48) fun (v51 : Int64) =>
           lt1 (v49 ||| (1 : Int64)) fun (v52 : Int64) =>
           lt1 (rtI i + Int32.ofInt (-1)) fun (v53 : Int32) =>
           (some (.inl (v53, v51, v52)) : Option ((Int32 × Int64 × Int64) ⊕ (Int64 × Int64)))) else (
           lt1 (rtI i + Int32.ofInt (-1)) fun (v54 : Int32) =>
           some (.inl (v54, v47, v49)))) = some (.inl s') ∧ ∃ L' R', s' = (rtI (i + 1), lN L', lN R') ∧ R' * R' + L' = rtP m (i + 1) ∧ L' ≤ 2 * R' ∧ R' < 2 ^ (i + 1) := by
  have hR54 : R < 2 ^ 53 := Nat.lt_of_lt_of_le hR (Nat.pow_le_pow_right (by decide) hi)
  have e1 : lN L <<< ((2 : Int32).toInt64 &&& 63) = lN (L * 2 ^ 2) := wb_shl L (k := 2) (by decide)
  have e2 : lN R <<< ((2 : Int32).toInt64 &&& 63) = lN (R * 2 ^ 2) := wb_shl R (k := 2) (by decide)
  have e3 : lN R <<< ((1 : Int32).toInt64 &&& 63) = lN (R * 2 ^ 1) := wb_shl R (k := 1) (by decide)
  have o1 : lN (L * 2 ^ 2) ||| lN b = lN (L * 2 ^ 2 + b) := or_small rfl hb (by omega)
  have o2 : lN (R * 2 ^ 2) ||| (1 : Int64) = lN (R * 2 ^ 2 + 1) := or_small (b := 1) rfl (by decide) (by omega)
  have o3 : lN (R * 2 ^ 1) ||| (1 : Int64) = lN (R * 2 ^ 1 + 1) := or_small (b := 1) rfl (by decide) (by omega)
  have hpw : 2 ^ (i + 1) = 2 * 2 ^ i := by rw [Nat.pow_succ, Nat.mul_comm]
  rw [lt1_e, lt1_e, lt1_e, e1, e2, e3, o1, o2, rtI_s i hi]
  by_cases hc : R * 2 ^ 2 + 1 ≤ L * 2 ^ 2 + b
  · rw [if_pos ((lg_cmp_ge _ _).mpr ((pk_lLE (by omega) (by omega)).mpr hc)), lt1_e, lt1_e, lt1_e, o3, lN_sub hc]
    refine ⟨_, rfl, _, _, rfl, ?_, by omega, by omega⟩
    have q : (R * 2 ^ 1 + 1) * (R * 2 ^ 1 + 1) = 4 * (R * R) + 4 * R + 1 := by
      have : (R * 2 ^ 1) * (R * 2 ^ 1) = 4 * (R * R) := by rw [Nat.mul_mul_mul_comm, Nat.mul_comm]
      rw [Nat.mul_add, Nat.add_mul, this]; omega
    omega
  · rw [if_neg (fun h => hc ((pk_lLE (by omega) (by omega)).mp ((lg_cmp_ge _ _).mp h))), lt1_e]
    refine ⟨_, rfl, _, _, rfl, ?_, by omega, by omega⟩
    have q : (R * 2 ^ 1) * (R * 2 ^ 1) = 4 * (R * R) := by rw [Nat.mul_mul_mul_comm, Nat.mul_comm]
    omega
theorem rt_loop {m : Nat} (hm : m < 2 ^ 54) : ∃ R L, lp (rtBody (lN m)) 4000 ((53 : Int32), (0 : Int64), (0 : Int64)) = some (lN R, lN L) ∧ R * R + L = 4 * (m * 2 ^ 52) ∧ L ≤ 2 * R ∧ R < 2 ^ 54 := by
  obtain ⟨q, h1, R, L, h2, h3, h4, h5⟩ := lp_inv (body := rtBody (lN m)) (fun i s => ∃ L R, s = (rtI i, lN L, lN R) ∧ R * R + L = rtP m i ∧ L ≤ 2 * R ∧ R < 2 ^ i) (fun r => ∃ R L, r = (lN R, lN L) ∧ R * R + L = rtP m 54 ∧ L ≤ 2 * R ∧ R < 2 ^ 54) 54 (fun i s hi ⟨L, R, e, hP, hL, hR⟩ => by
      subst e
      dsimp only [rtBody, un3]
      by_cases hlt : i ≤ 53
      · right
        rw [if_neg (fun h => by have := (rtI_n hi).mp h; omega), jn_e]
        by_cases hc : 27 ≤ i
        · rw [if_pos ((rtI_c hlt).mpr hc)]
          obtain ⟨s', g1, g2⟩ := rt_step (m := m) (b := 0) hlt hP hL hR (by decide) (rtP_hi hc)
          exact ⟨by omega, s', g1, g2⟩
        · rw [if_neg (fun h => hc ((rtI_c hlt).mp h)), rtI_v (by omega), shrL (by omega) (by omega)]
          have hd : m / 2 ^ (2 * (26 - i)) ≤ m := Nat.div_le_self _ _
          have ea : lN (m / 2 ^ (2 * (26 - i))) &&& (3 : Int64) = lN (m / 2 ^ (2 * (26 - i)) % 4) := g_mask (s := 2) rfl (by decide) (by omega)
          rw [ea]
          obtain ⟨s', g1, g2⟩ := rt_step (m := m) (b := m / 2 ^ (2 * (26 - i)) % 4) hlt hP hL hR (Nat.mod_lt _ (by decide)) (rtP_lo (by omega))
          exact ⟨by omega, s', g1, g2⟩
      · left
        have e : i = 54 := by omega
        subst e
        rw [if_pos ((rtI_n hi).mpr rfl)]
        exact ⟨_, rfl, R, L, rfl, hP, hL, hR⟩) 54 4000 0 ((53 : Int32), (0 : Int64), (0 : Int64)) (by omega) ⟨0, 0, rfl, by
          unfold rtP
          rw [if_pos (by omega)]
          have : m / 2 ^ (54 - 2 * 0) = 0 := Nat.div_eq_of_lt hm
          omega, by omega, by decide⟩ (by omega)
  refine ⟨R, L, by rw [h1, h2], ?_, h4, h5⟩
  rw [h3]
  unfold rtP
  rw [if_neg (by omega)]
  show m * 18014398509481984 = _
  omega
theorem isNaN_64 {x : UInt64} (h : FP.Core.val64 x ≠ .nan) : fmJxe99ae_doubleToLongBits_ccdee x = some x.toInt64 := by
  have hc : Op.cmpValue (FP.dcmp x x) CmpOp.l = 0 := ((cmp_k h h CmpOp.l).2.2.1).mpr rfl
  unfold fmJxe99ae_doubleToLongBits_ccdee fmJxe99ae_isNaN_b9ae7
  rw [if_pos hc]
  rfl
theorem isNaN_32 {x : UInt32} (h : FP.Core.val32 x ≠ .nan) : fmJxf58ca_floatToIntBits_5c35a x = some x.toInt32 := by
  have hc : Op.cmpValue (FP.fcmp x x) CmpOp.l = 0 := by
    rw [show FP.fcmp x x = some (compare (FP.Core.fkey x) (FP.Core.fkey x)) from FP.Core.fcmp_key h h]
    exact ((cmp_int CmpOp.l).2.2.1).mpr rfl
  unfold fmJxf58ca_floatToIntBits_5c35a fmJxf58ca_isNaN_12338
  rw [if_pos hc]
  rfl
theorem rx_par : ∀ E, E < 2048 → ((((lN E).toInt32 - (1075 : Int32)) &&& (1 : Int32) = 0) ↔ E % 2 = 1) := by decide +kernel
abbrev rx_e (v10 : Int32) : Int64 := (((((v10 - (54 : Int32)) / (2 : Int32)) + (1 : Int32)) + (1023 : Int32)).toInt64) <<< ((52 : Int32).toInt64 &&& 63)
theorem rx_odd : ∀ E, E < 1500 → 500 ≤ E → E % 2 = 1 → rx_e ((lN E).toInt32 - (1075 : Int32)) = lN ((E + 919) / 2 * 2 ^ 52) := by decide +kernel
theorem rx_even : ∀ E, E < 1500 → 500 ≤ E → E % 2 = 0 → rx_e ((lN E).toInt32 - (1075 : Int32) + Int32.ofInt (-1)) = lN ((E + 919) / 2 * 2 ^ 52) := by decide +kernel
theorem rx_sn : ∀ p, p < 2047 → vn_snl2d (lN (p * 2 ^ 52)) = false := by decide +kernel
theorem rx_pb : ∀ p, p < 2047 → (lN (p * 2 ^ 52)).toUInt64.toNat = p * 2 ^ 52 := by decide +kernel
theorem shrL63 {a k : Nat} (ha : a < 2 ^ 63) (hk : k < 64) : lN a >>> ((nI k).toInt64 &&& 63) = lN (a / 2 ^ k) := by
  have hd : a / 2 ^ k ≤ a := Nat.div_le_self _ _
  have hD : ((((nI k).toInt64 &&& 63) : Int64).toBitVec.smod 64).toNat = k := by
    rw [wb_c k hk]
    show ((BitVec.ofNat 64 k).smod 64).toNat = k
    rw [wb_sm k hk]
    exact Nat.mod_eq_of_lt (by omega)
  apply Int64.toInt_inj.mp
  have e : (lN a >>> ((nI k).toInt64 &&& 63)).toInt = (lN a).toInt >>> k := by
    refine Eq.trans ?_ (congrArg (fun j => (lN a).toInt >>> j) hD)
    exact BitVec.toInt_sshiftRight ..
  rw [e, Int.shiftRight_eq_div_pow, pf_lI ha, pf_lI (by omega)]
  rfl
abbrev rxEnd (v10 : Int32) (v17 v62 : Int64) : Option UInt64 :=
         lt1 ((v17 >>> ((1 : Int32).toInt64 &&& 63)) + v62) fun (v63 : Int64) =>
         ck (¬ (2 : Int32) = 0) (
          ck (vn_snl2d ((((((v10 - (54 : Int32)) / (2 : Int32)) + (1 : Int32)) + (1023 : Int32)).toInt64) <<< ((52 : Int32).toInt64 &&& 63)) = false) (
           nd (FP.dmul (FP.l2d v63) (((((((v10 - (54 : Int32)) / (2 : Int32)) + (1 : Int32)) + (1023 : Int32)).toInt64) <<< ((52 : Int32).toInt64 &&& 63)).toUInt64)) fun (v64 : UInt64) =>
           some v64))
theorem rx_fin {v10 : Int32} {R u p : Nat} (hR : R < 2 ^ 54) (hu : R / 2 + u < 2 ^ 53) (he : rx_e v10 = lN (p * 2 ^ 52)) (hp : 1 ≤ p) (hp2 : p ≤ 1300) :
    ∃ y, rxEnd v10 (lN R) (lN u) = some y ∧ fnn y ∧ un y.toNat = (R / 2 + u) * 2 ^ (p + 51) := by
  have e1 : lN R >>> ((1 : Int32).toInt64 &&& 63) = lN (R / 2 ^ 1) := shrL (k := 1) (by omega) (by decide)
  obtain ⟨f1, f2⟩ := l2d_lN (n := R / 2 + u) (by omega)
  obtain ⟨k, hk, ek⟩ := un_rep (p + 51) (R / 2 + u) hu (by omega)
  have hP := rx_pb p (by omega)
  have hPf : fnn (lN (p * 2 ^ 52)).toUInt64 := by
    unfold fnn; rw [hP]
    exact Nat.lt_of_le_of_lt (Nat.mul_le_mul_right (2 ^ 52) hp2) (by decide)
  have hd : (FP.dmul (FP.l2d (lN (R / 2 + u))) (lN (p * 2 ^ 52)).toUInt64).toNat = k := by
    refine dmul_ex f1 hPf (Nat.le_of_lt hk) ?_
    rw [f2, hP, un_pw hp, ek, Nat.mul_assoc, Nat.mul_assoc, Nat.mul_comm (2 ^ 1074)]
  have hf : fnn (FP.dmul (FP.l2d (lN (R / 2 + u))) (lN (p * 2 ^ 52)).toUInt64) := by unfold fnn; rw [hd]; exact hk
  refine ⟨FP.dmul (FP.l2d (lN (R / 2 + u))) (lN (p * 2 ^ 52)).toUInt64, ?_, hf, by rw [hd, ek]⟩
  unfold rxEnd
  rw [show (((((v10 - (54 : Int32)) / (2 : Int32)) + (1 : Int32)) + (1023 : Int32)).toInt64) <<< ((52 : Int32).toInt64 &&& 63) = lN (p * 2 ^ 52) from he, lt1_e, e1, lN_add, ck_t (by decide), ck_t (rx_sn p (by omega)), show R / 2 ^ 1 + u = R / 2 + u by omega, nd_t (n64_of hf)]
abbrev rxRest (v9 : Int64) (v10 : Int32) : Option UInt64 :=
     ((lp (σ := (Int32 × Int64 × Int64)) (ρ := (Int64 × Int64)) (rtBody v9) 4000 ((53 : Int32), (0 : Int64), (0 : Int64))).bind
      (un2 fun (v17 : Int64) (v18 : Int64) =>
       jn (fun (_u : Unit) =>
        jn (fun (v62 : Int64) => rxEnd v10 v17 v62) fun K59 =>
        if (0 : Int32) = 0 then (
         K59 (0 : Int64)) else (
         K59 (1 : Int64))) fun K56 =>
       if lg_cmp (v17 &&& (1 : Int64)) (1 : Int64) = 0 then (
        jn (fun (_u : Unit) =>
         jn (fun (v73 : Int64) => rxEnd v10 v17 v73) fun K70 =>
         if (1 : Int32) = 0 then (
          K70 (0 : Int64)) else (
          K70 (1 : Int64))) fun K67 =>
        if lg_cmp v18 (0 : Int64) = 0 then (
         if lg_cmp (v17 &&& (2 : Int64)) (2 : Int64) = 0 then (
          K67 ()) else (
          K56 ())) else (
         K67 ())) else (
        K56 ())))
theorem rx_rest {m p : Nat} {v10 : Int32} (hm : 2 ^ 52 ≤ m) (hm2 : m ≤ 2 ^ 54 - 2) (he : rx_e v10 = lN (p * 2 ^ 52)) (hp : 1 ≤ p) (hp2 : p ≤ 1300) :
    ∃ y r, rxRest (lN m) v10 = some y ∧ fnn y ∧ isRoot (m * 2 ^ 52) r ∧ un y.toNat = r * 2 ^ (p + 51) := by
  obtain ⟨R, L, h1, h2, h3, h4⟩ := rt_loop (m := m) (by omega)
  have hR2 : 2 ≤ R := by
    refine Nat.le_of_not_lt (fun g => ?_)
    have : R = 0 ∨ R = 1 := by omega
    rcases this with e | e <;> (subst e; omega)
  have hr := isRoot_of h2 h3 hR2
  have hlt := isRoot_lt hm2 hr
  unfold rxRest
  rw [h1, Option.bind_some]
  dsimp only [un2]
  have ea : lN R &&& (1 : Int64) = lN (R % 2) := g_and1 (by omega)
  rw [jn_e, ea, show (1 : Int64) = lN 1 from rfl]
  by_cases o : R % 2 = 1
  · rw [if_pos o] at hr hlt
    obtain ⟨y, y1, y2, y3⟩ := rx_fin (u := 1) h4 hlt he hp hp2
    have hK : jn (fun (v73 : Int64) => rxEnd v10 (lN R) v73) (fun K70 => if (1 : Int32) = 0 then (K70 (0 : Int64)) else (K70 (lN 1))) = some y := by
      rw [jn_e, if_neg (by decide)]
      exact y1
    refine ⟨y, _, ?_, y2, hr, y3⟩
    rw [if_pos ((lg_cmp_eq _ _).mpr (by rw [o])), jn_e]
    by_cases hL0 : L = 0
    · exfalso
      have e2 : R * R % 4 = 1 := by
        have : R = 2 * (R / 2) + 1 := by omega
        rw [this, Nat.mul_add, Nat.add_mul, Nat.mul_mul_mul_comm]; omega
      omega
    · rw [if_neg (c := lg_cmp (lN L) 0 = 0) (fun h => hL0 ((pk_lEQ (by omega) (by decide)).mp (show lN L = lN 0 from (lg_cmp_eq _ _).mp (show lg_cmp (lN L) 0 = 0 from h))))]
      exact hK
  · rw [if_neg o] at hr hlt
    obtain ⟨y, y1, y2, y3⟩ := rx_fin (u := 0) h4 hlt he hp hp2
    refine ⟨y, _, ?_, y2, hr, y3⟩
    rw [if_neg (fun h => o ((pk_lEQ (by omega) (by decide)).mp ((lg_cmp_eq _ _).mp h))), jn_e, if_pos rfl]
    exact y1
/-- the mantissa of an even power, and the power, of a normal double's bits -/
def rtS (n : Nat) : Nat := if n / 2 ^ 52 % 2 = 1 then 2 ^ 52 + n % 2 ^ 52 else 2 * (2 ^ 52 + n % 2 ^ 52)
theorem rtS_b (n : Nat) : 2 ^ 52 ≤ rtS n ∧ rtS n ≤ 2 ^ 54 - 2 := by
  unfold rtS
  split <;> omega
theorem m_root {x : UInt64} (h1 : 500 * 2 ^ 52 ≤ x.toNat) (h2 : x.toNat < 1500 * 2 ^ 52) :
    ∃ y r, fX12_rootOf x = some y ∧ fnn y ∧ isRoot (rtS x.toNat * 2 ^ 52) r ∧ un y.toNat = r * 2 ^ ((x.toNat / 2 ^ 52 + 919) / 2 + 51) := by
  have hxf : fnn x := pw_fnn h2 (by decide)
  have hz : fnn FP.dconst0 := by unfold fnn; decide
  have hz0 : (FP.dconst0 : UInt64).toNat = 0 := rfl
  obtain ⟨E, hE⟩ : ∃ E, E = x.toNat / 2 ^ 52 := ⟨_, rfl⟩
  have hE1 : 500 ≤ E := by omega
  have hE2 : E < 1500 := by omega
  unfold fX12_rootOf
  rw [if_neg (fun q => by have := ((cmp_n hxf hz CmpOp.l).2.2.1).mp q; omega), isNaN_64 (fnn_nn hxf), Option.bind_some, ← lN_toInt64]
  have e1 : lN x.toNat >>> ((52 : Int32).toInt64 &&& 63) = lN (x.toNat / 2 ^ 52) := shrL63 (k := 52) (by omega) (by decide)
  have e2 : lN x.toNat &&& (4503599627370495 : Int64) = lN (x.toNat % 2 ^ 52) := g_mask (s := 52) rfl (by decide) (by omega)
  have e3 : lN (x.toNat % 2 ^ 52) ||| (4503599627370496 : Int64) = lN (x.toNat % 2 ^ 52 + 1 * 2 ^ 52) := g_or' (k := 52) (b := 1) rfl (Nat.mod_lt _ (by decide)) (by omega)
  rw [lt1_e, lt1_e, e1, e2, e3, jn_e, ← hE]
  by_cases o : E % 2 = 1
  · obtain ⟨y, r, q1, q2, q3, q4⟩ := rx_rest (m := rtS x.toNat) (rtS_b _).1 (rtS_b _).2 (rx_odd E hE2 hE1 o) (by omega) (by omega)
    refine ⟨y, r, ?_, q2, q3, q4⟩
    rw [if_pos ((rx_par E (by omega)).mpr o)]
    have em : x.toNat % 2 ^ 52 + 1 * 2 ^ 52 = rtS x.toNat := by
      unfold rtS; rw [← hE, if_pos o]; omega
    rw [em]
    exact q1
  · obtain ⟨y, r, q1, q2, q3, q4⟩ := rx_rest (m := rtS x.toNat) (rtS_b _).1 (rtS_b _).2 (rx_even E hE2 hE1 (by omega)) (by omega) (by omega)
    refine ⟨y, r, ?_, q2, q3, q4⟩
    rw [if_neg (fun h => o ((rx_par E (by omega)).mp h)), lt1_e, lt1_e]
    have e4 : lN (x.toNat % 2 ^ 52 + 1 * 2 ^ 52) <<< ((1 : Int32).toInt64 &&& 63) = lN ((x.toNat % 2 ^ 52 + 1 * 2 ^ 52) * 2 ^ 1) := wb_shl _ (k := 1) (by decide)
    have em : (x.toNat % 2 ^ 52 + 1 * 2 ^ 52) * 2 ^ 1 = rtS x.toNat := by
      unfold rtS; rw [← hE, if_neg o]; omega
    rw [e4, em]
    exact q1
theorem d2l_floor {w : UInt64} (hw : fnn w) (hb : un w.toNat / 2 ^ 1074 < 2 ^ 62) : FP.d2l w = lN (un w.toNat / 2 ^ 1074) := by
  obtain ⟨c, q, h1, h2, h3⟩ := fnn_fin hw
  apply Int64.toInt_inj.mp
  rw [FP.Core.d2l_val (fnn_nn hw), h1, h3, pk_lT (by omega)]
  generalize hz : un w.toNat / 2 ^ 1074 = z at hb
  show max (-2 ^ 63) (min (2 ^ 63 - 1) (FP.Core.signed false (un w.toNat / FP.Core.one64))) = (z : Int)
  rw [show un w.toNat / FP.Core.one64 = z from hz]
  show max (-2 ^ 63) (min (2 ^ 63 - 1) (z : Int)) = (z : Int)
  omega
theorem mulle {a b c d : Nat} (h : a ≤ b) (k : c ≤ d) : a * c ≤ b * d := Nat.mul_le_mul h k
/-- one step of Newton's, in units of 2^-53 -/
theorem nt_step {s g : UInt64} {S A : Nat} (hs : fnn s) (hg : fnn g) (us : un s.toNat = S * 2 ^ 1021) (ug : un g.toNat = A * 2 ^ 1021) (hS : 2 ^ 53 ≤ S) (hS2 : S < 2 ^ 55) (hA : 3 * 2 ^ 51 ≤ A) (hA2 : A ≤ 5 * 2 ^ 52) :
    fnn (FP.ddiv s g) ∧ fnn (FP.dadd g (FP.ddiv s g)) ∧ fnn (FP.dmul (FP.dadd g (FP.ddiv s g)) (4602678819172646912 : UInt64)) ∧ ∃ A', un (FP.dmul (FP.dadd g (FP.ddiv s g)) (4602678819172646912 : UInt64)).toNat = A' * 2 ^ 1021 ∧ 2 * (A * A') ≤ A * A + S * 2 ^ 53 + 16 * A ∧ A * A + S * 2 ^ 53 ≤ 2 * (A * A') + 16 * A := by
  obtain ⟨P, hP⟩ : ∃ P, P = 2 ^ 1021 := ⟨_, rfl⟩
  have hP0 : 0 < P := by rw [hP]; exact Nat.two_pow_pos _
  obtain ⟨K, hK⟩ : ∃ K, K = S * 2 ^ 53 / (8 * A) := ⟨_, rfl⟩
  have hK1 : (8 * A) * K ≤ S * 2 ^ 53 := by rw [hK]; exact Nat.mul_div_le _ _
  have hK2 : S * 2 ^ 53 < (8 * A) * (K + 1) := by rw [hK]; exact Nat.lt_mul_div_succ _ (by omega)
  have hKb : K ≤ 2 ^ 53 * 2 / 3 := by
    have : (8 * (3 * 2 ^ 51)) * K ≤ (8 * A) * K := mulle (by omega) (Nat.le_refl _)
    omega
  have hKl : 2 ^ 54 / 40 ≤ K + 1 := by
    have : (8 * A) * (K + 1) ≤ (8 * (5 * 2 ^ 52)) * (K + 1) := mulle (by omega) (Nat.le_refl _)
    omega
  have e8 : ∀ c, c * 2 ^ 1024 = 8 * c * P := fun c => by
    rw [hP, show (1024 : Nat) = 1021 + 3 from rfl, Nat.pow_add, show (2 : Nat) ^ 3 = 8 from rfl, Nat.mul_comm (2 ^ 1021) 8, ← Nat.mul_assoc, Nat.mul_comm c 8]
  have e1074 : (2 : Nat) ^ 1074 = 2 ^ 53 * P := by rw [hP, ← Nat.pow_add]
  have us' : un s.toNat = S * P := by rw [us, hP]
  have ug' : un g.toNat = A * P := by rw [ug, hP]
  have hg0 : g.toNat ≠ 0 := fun h => by
    rw [h, un_0] at ug'
    have := Nat.mul_pos (show 0 < A by omega) hP0
    omega
  obtain ⟨_, du, dl⟩ := ddiv_b hs hg hg0
  obtain ⟨m1, hm1, um1⟩ := un_rep 1024 (K + 1) (by omega) (by decide)
  obtain ⟨m0, hm0, um0⟩ := un_rep 1024 K (by omega) (by decide)
  rw [e8] at um1 um0
  have q1 : (FP.ddiv s g).toNat ≤ m1 := by
    refine du m1 ?_
    rw [us', ug', um1, e1074]
    calc S * P * (2 ^ 53 * P) = (S * 2 ^ 53) * (P * P) := Nat.mul_mul_mul_comm ..
      _ ≤ ((8 * A) * (K + 1)) * (P * P) := Nat.mul_le_mul_right _ (Nat.le_of_lt hK2)
      _ = 8 * (K + 1) * P * (A * P) := by
        rw [Nat.mul_mul_mul_comm (8 * (K + 1)), Nat.mul_assoc 8 A, Nat.mul_comm A, ← Nat.mul_assoc 8]
  have q0 : m0 ≤ (FP.ddiv s g).toNat := by
    refine dl m0 (Nat.le_of_lt hm0) ?_
    rw [us', ug', um0, e1074]
    calc 8 * K * P * (A * P) = ((8 * A) * K) * (P * P) := by
          rw [Nat.mul_mul_mul_comm (8 * K), Nat.mul_assoc 8 A, Nat.mul_comm A, ← Nat.mul_assoc 8]
      _ ≤ (S * 2 ^ 53) * (P * P) := Nat.mul_le_mul_right _ hK1
      _ = S * P * (2 ^ 53 * P) := (Nat.mul_mul_mul_comm ..).symm
  have hq : fnn (FP.ddiv s g) := Nat.lt_of_le_of_lt q1 hm1
  obtain ⟨_, au, al⟩ := dadd_b hg hq
  obtain ⟨d1, hd1, ud1⟩ := un_rep 1024 ((A + 8 * (K + 1)) / 8 + 1) (by omega) (by decide)
  obtain ⟨d0, hd0, ud0⟩ := un_rep 1024 ((A + 8 * K) / 8) (by omega) (by decide)
  rw [e8] at ud1 ud0
  have uq1 : un (FP.ddiv s g).toNat ≤ 8 * (K + 1) * P := by rw [← um1]; exact un_le.mpr q1
  have uq0 : 8 * K * P ≤ un (FP.ddiv s g).toNat := by rw [← um0]; exact un_le.mpr q0
  have t1 : (FP.dadd g (FP.ddiv s g)).toNat ≤ d1 := by
    refine au d1 ?_
    rw [ug', ud1]
    have : (A + 8 * (K + 1)) * P ≤ (8 * ((A + 8 * (K + 1)) / 8 + 1)) * P := Nat.mul_le_mul_right _ (by omega)
    rw [Nat.add_mul] at this
    omega
  have t0 : d0 ≤ (FP.dadd g (FP.ddiv s g)).toNat := by
    refine al d0 (Nat.le_of_lt hd0) ?_
    rw [ug', ud0]
    have : (8 * ((A + 8 * K) / 8)) * P ≤ (A + 8 * K) * P := Nat.mul_le_mul_right _ (by omega)
    rw [Nat.add_mul] at this
    omega
  have ht : fnn (FP.dadd g (FP.ddiv s g)) := Nat.lt_of_le_of_lt t1 hd1
  obtain ⟨F, k, hF, hk, uF⟩ := un_ck ht
  have ut1 : un (FP.dadd g (FP.ddiv s g)).toNat ≤ 8 * ((A + 8 * (K + 1)) / 8 + 1) * P := by rw [← ud1]; exact un_le.mpr t1
  have ut0 : 8 * ((A + 8 * K) / 8) * P ≤ un (FP.dadd g (FP.ddiv s g)).toNat := by rw [← ud0]; exact un_le.mpr t0
  have hk1 : 1022 ≤ k := by
    refine Nat.le_of_not_lt (fun h => ?_)
    have h1 : F * 2 ^ k ≤ (2 ^ 53 - 1) * P := by
      rw [hP]
      exact mulle (by omega) (Nat.pow_le_pow_right (by decide) (by omega))
    have h2 : (2 ^ 53 - 1 + 1) * P ≤ (8 * ((A + 8 * K) / 8)) * P := Nat.mul_le_mul_right _ (by omega)
    rw [Nat.add_mul, Nat.one_mul] at h2
    rw [uF] at ut0
    omega
  obtain ⟨j, rfl⟩ : ∃ j, k = 1021 + j + 1 := ⟨k - 1022, by omega⟩
  obtain ⟨z1, z2⟩ := hlv_ex hF hk ht uF
  refine ⟨hq, ht, z1, F * 2 ^ j, ?_, ?_, ?_⟩
  · rw [z2, Nat.add_comm 1021 j, Nat.pow_add, ← Nat.mul_assoc]
  · have e : un (FP.dadd g (FP.ddiv s g)).toNat = 2 * (F * 2 ^ j) * P := by
      rw [uF, hP, show 1021 + j + 1 = j + 1 + 1021 by omega, Nat.pow_add, Nat.pow_succ, ← Nat.mul_assoc, ← Nat.mul_assoc, Nat.mul_comm (F * 2 ^ j) 2]
    rw [e] at ut1
    have h1 : 2 * (F * 2 ^ j) ≤ 8 * ((A + 8 * (K + 1)) / 8 + 1) := Nat.le_of_mul_le_mul_right ut1 hP0
    have h2 : A * (2 * (F * 2 ^ j)) ≤ A * (A + 8 * K + 16) := Nat.mul_le_mul_left _ (by omega)
    rw [Nat.mul_left_comm] at h2
    rw [Nat.mul_add, Nat.mul_add, Nat.mul_left_comm A 8 K, ← Nat.mul_assoc 8 A K] at h2
    omega
  · have e : un (FP.dadd g (FP.ddiv s g)).toNat = 2 * (F * 2 ^ j) * P := by
      rw [uF, hP, show 1021 + j + 1 = j + 1 + 1021 by omega, Nat.pow_add, Nat.pow_succ, ← Nat.mul_assoc, ← Nat.mul_assoc, Nat.mul_comm (F * 2 ^ j) 2]
    rw [e] at ut0
    have h1 : 8 * ((A + 8 * K) / 8) ≤ 2 * (F * 2 ^ j) := Nat.le_of_mul_le_mul_right ut0 hP0
    have h2 : A * (A + 8 * K) ≤ A * (2 * (F * 2 ^ j) + 7) := Nat.mul_le_mul_left _ (by omega)
    rw [Nat.mul_add, Nat.mul_add, Nat.mul_left_comm A 8 K, ← Nat.mul_assoc 8 A K, Nat.mul_left_comm A 2] at h2
    rw [Nat.mul_add, Nat.mul_one] at hK2
    omega
/-- the error of a step -/
theorem nt_err {A B r N E L b : Nat} (h1 : 2 * (A * B) ≤ A * A + N + 16 * A) (h2 : A * A + N ≤ 2 * (A * B) + 16 * A) (hr1 : r * r ≤ N) (hr2 : N ≤ r * r + 2 * r) (e1 : A ≤ r + E) (e2 : r ≤ A + E) (hL : L ≤ A) (hr : r ≤ 2 * A) (hA : 0 < A) (hb : E * E ≤ 2 * L * b) : B ≤ r + (b + 10) ∧ r ≤ B + 8 := by
  have hd : (A : Int) * A + r * r ≤ 2 * (A * r) + E * E := by
    have : 0 ≤ ((E : Int) - (A - r)) * (E + (A - r)) := Int.mul_nonneg (by omega) (by omega)
    grind
  have hd0 : 2 * ((A : Int) * r) ≤ A * A + r * r := by
    have : 0 ≤ ((A : Int) - r) * (A - r) := by
      rcases Int.le_total (A : Int) r with h | h
      · have := Int.mul_nonneg (show (0 : Int) ≤ r - A by omega) (show (0 : Int) ≤ r - A by omega)
        grind
      · exact Int.mul_nonneg (by omega) (by omega)
    grind
  have hb2 : E * E ≤ 2 * A * b := Nat.le_trans hb (Nat.mul_le_mul_right _ (by omega))
  have a1 : 2 * ((A : Int) * B) ≤ A * A + N + 16 * A := by exact_mod_cast h1
  have a2 : (A : Int) * A + N ≤ 2 * (A * B) + 16 * A := by exact_mod_cast h2
  have a3 : (r : Int) * r ≤ N := by exact_mod_cast hr1
  have a4 : (N : Int) ≤ r * r + 2 * r := by exact_mod_cast hr2
  have a5 : (E : Int) * E ≤ 2 * A * b := by exact_mod_cast hb2
  have A0 : (0 : Int) < 2 * A := by omega
  constructor
  · have : 2 * (A : Int) * B ≤ 2 * A * (r + (b + 10)) := by
      have : (r : Int) ≤ 2 * A := by omega
      grind
    have := Int.le_of_mul_le_mul_left this A0
    omega
  · have : 2 * (A : Int) * r ≤ 2 * A * (B + 8) := by grind
    have := Int.le_of_mul_le_mul_left this A0
    omega
theorem sqrt_ex (N : Nat) : ∃ r, r * r ≤ N ∧ N ≤ r * r + 2 * r := by
  induction N with
  | zero => exact ⟨0, Nat.le_refl _, Nat.zero_le _⟩
  | succ n ih =>
    obtain ⟨r, h1, h2⟩ := ih
    by_cases h : n + 1 ≤ r * r + 2 * r
    · exact ⟨r, by omega, h⟩
    · have e : (r + 1) * (r + 1) = r * r + 2 * r + 1 := by rw [Nat.mul_add, Nat.add_mul]; omega
      exact ⟨r + 1, by omega, by omega⟩
/-- the first guess, in units of 2^-53: off by less than 7 in a hundred -/
theorem nt_start {S A r : Nat} (h1 : 33 * S + 69 * 2 ^ 53 ≤ 100 * A + 2500) (h2 : 100 * A ≤ 33 * S + 69 * 2 ^ 53 + 2500) (hr1 : r * r ≤ S * 2 ^ 53) (hr2 : S * 2 ^ 53 ≤ r * r + 2 * r) (hS : 2 ^ 53 ≤ S) (hS2 : S < 2 ^ 55) : 2 ^ 53 ≤ r ∧ r < 2 ^ 54 ∧ A ≤ r + 630503947831870 ∧ r ≤ A + 630503947831870 := by
  have g1 : 2 ^ 53 ≤ r := by
    refine Nat.le_of_not_lt (fun h => ?_)
    have : r * r ≤ (2 ^ 53 - 1) * (2 ^ 53 - 1) := mulle (by omega) (by omega)
    omega
  have g2 : r < 2 ^ 54 := by
    refine Nat.lt_of_not_le (fun h => ?_)
    have : 2 ^ 54 * 2 ^ 54 ≤ r * r := mulle h h
    omega
  have a3 : (r : Int) * r ≤ S * 2 ^ 53 := by exact_mod_cast hr1
  have a4 : (S : Int) * 2 ^ 53 ≤ r * r + 2 * r := by exact_mod_cast hr2
  refine ⟨g1, g2, ?_, ?_⟩
  · have p : 0 ≤ ((r : Int) - 2 ^ 53) * (2 ^ 54 - r) := Int.mul_nonneg (by omega) (by omega)
    have q : (r : Int) * r ≤ 3 * 2 ^ 53 * r - 2 * 2 ^ 106 := by grind
    omega
  · have p : 0 ≤ (66 * (r : Int) - 100 * 2 ^ 53) * (66 * (r : Int) - 100 * 2 ^ 53) := by
      rcases Int.le_total 0 (66 * (r : Int) - 100 * 2 ^ 53) with h | h
      · exact Int.mul_nonneg h h
      · have := Int.mul_nonneg (show (0 : Int) ≤ -(66 * (r : Int) - 100 * 2 ^ 53) by omega) (show (0 : Int) ≤ -(66 * (r : Int) - 100 * 2 ^ 53) by omega)
        grind
    have q : 4356 * ((r : Int) * r) ≥ 13200 * 2 ^ 53 * r - 10000 * 2 ^ 106 := by grind
    omega
theorem un_mk {m E f M e : Nat} (h : m = E * 2 ^ 52 + f) (hf : f < 2 ^ 52) (hM : 2 ^ 52 + f = M) (he : E = e + 1) : un m = M * 2 ^ e := by
  have e1 : m % 2 ^ 52 = f := by omega
  have e2 : m / 2 ^ 52 = E := by omega
  rw [un_hi (by omega), e1, e2, hM, he, Nat.add_sub_cancel]
theorem nt_guess {s : UInt64} {S : Nat} (hs : fnn s) (us : un s.toNat = S * 2 ^ 1021) (hS : 2 ^ 53 ≤ S) (hS2 : S < 2 ^ 55) :
    fnn (FP.dmul s (4599616371426034975 : UInt64)) ∧ fnn (FP.dadd (4604390187031047700 : UInt64) (FP.dmul s (4599616371426034975 : UInt64))) ∧ ∃ A, un (FP.dadd (4604390187031047700 : UInt64) (FP.dmul s (4599616371426034975 : UInt64))).toNat = A * 2 ^ 1021 ∧ 33 * S + 69 * 2 ^ 53 ≤ 100 * A + 2500 ∧ 100 * A ≤ 33 * S + 69 * 2 ^ 53 + 2500 := by
  obtain ⟨P, hP⟩ : ∃ P, P = 2 ^ 1021 := ⟨_, rfl⟩
  have hP0 : 0 < P := by rw [hP]; exact Nat.two_pow_pos _
  have hc : fnn (4599616371426034975 : UInt64) := by unfold fnn; decide
  have hd : fnn (4604390187031047700 : UInt64) := by unfold fnn; decide
  have e8 : ∀ c, c * 2 ^ 1024 = 8 * c * P := fun c => by
    rw [hP, show (1024 : Nat) = 1021 + 3 from rfl, Nat.pow_add, show (2 : Nat) ^ 3 = 8 from rfl, Nat.mul_comm (2 ^ 1021) 8, ← Nat.mul_assoc, Nat.mul_comm c 8]
  have ud : un (4604390187031047700 : UInt64).toNat = 6214967485771284 * P := by
    rw [hP]
    exact un_mk (E := 1022) (f := 1711367858400788) (M := 6214967485771284) (e := 1021) (by decide +kernel) (by decide) (by decide) (by decide)
  have uc : 2 * un (4599616371426034975 : UInt64).toNat = 5944751508129055 * P := by
    have h : un (4599616371426034975 : UInt64).toNat = 5944751508129055 * 2 ^ 1020 := un_mk (E := 1021) (f := 1441151880758559) (M := 5944751508129055) (e := 1020) (by decide +kernel) (by decide) (by decide) (by decide)
    rw [h, hP, Nat.mul_left_comm, ← Nat.pow_succ']
  have e1074 : (2 : Nat) ^ 1074 = 2 ^ 53 * P := by rw [hP, ← Nat.pow_add]
  have us' : un s.toNat = S * P := by rw [us, hP]
  obtain ⟨K, hK⟩ : ∃ K, K = S * 5944751508129055 / 2 ^ 57 := ⟨_, rfl⟩
  obtain ⟨_, mu, ml⟩ := dmul_b hs hc
  obtain ⟨m1, hm1, um1⟩ := un_rep 1024 (K + 1) (by omega) (by decide)
  obtain ⟨m0, hm0, um0⟩ := un_rep 1024 K (by omega) (by decide)
  rw [e8] at um1 um0
  have hprod : 2 * (un s.toNat * un (4599616371426034975 : UInt64).toNat) = (S * 5944751508129055) * (P * P) := by
    rw [Nat.mul_left_comm, uc, us', Nat.mul_mul_mul_comm]
  have q1 : (FP.dmul s (4599616371426034975 : UInt64)).toNat ≤ m1 := by
    refine mu m1 ?_
    refine Nat.le_of_mul_le_mul_left ?_ (show 0 < 2 by decide)
    rw [hprod, um1, e1074]
    calc (S * 5944751508129055) * (P * P) ≤ (2 ^ 57 * (K + 1)) * (P * P) := Nat.mul_le_mul_right _ (by omega)
      _ = 2 * (8 * (K + 1) * P * (2 ^ 53 * P)) := by
        rw [Nat.mul_mul_mul_comm (8 * (K + 1)), ← Nat.mul_assoc 2]
        exact congrArg (· * (P * P)) (by omega)
  have q0 : m0 ≤ (FP.dmul s (4599616371426034975 : UInt64)).toNat := by
    refine ml m0 (Nat.le_of_lt hm0) ?_
    refine Nat.le_of_mul_le_mul_left ?_ (show 0 < 2 by decide)
    rw [hprod, um0, e1074]
    calc 2 * (8 * K * P * (2 ^ 53 * P)) = (2 ^ 57 * K) * (P * P) := by
          rw [Nat.mul_mul_mul_comm (8 * K), ← Nat.mul_assoc 2]
          exact congrArg (· * (P * P)) (by omega)
      _ ≤ (S * 5944751508129055) * (P * P) := Nat.mul_le_mul_right _ (by omega)
  have hq : fnn (FP.dmul s (4599616371426034975 : UInt64)) := Nat.lt_of_le_of_lt q1 hm1
  have uq1 : un (FP.dmul s (4599616371426034975 : UInt64)).toNat ≤ 8 * (K + 1) * P := by rw [← um1]; exact un_le.mpr q1
  have uq0 : 8 * K * P ≤ un (FP.dmul s (4599616371426034975 : UInt64)).toNat := by rw [← um0]; exact un_le.mpr q0
  obtain ⟨_, au, al⟩ := dadd_b hd hq
  obtain ⟨d1, hd1, ud1⟩ := un_rep 1024 ((6214967485771284 + 8 * (K + 1)) / 8 + 1) (by omega) (by decide)
  obtain ⟨d0, hd0, ud0⟩ := un_rep 1024 ((6214967485771284 + 8 * K) / 8) (by omega) (by decide)
  rw [e8] at ud1 ud0
  generalize FP.dmul s (4599616371426034975 : UInt64) = q at *
  have t1 : (FP.dadd (4604390187031047700 : UInt64) q).toNat ≤ d1 := by
    refine au d1 ?_
    rw [ud, ud1]
    have : (6214967485771284 + 8 * (K + 1)) * P ≤ (8 * ((6214967485771284 + 8 * (K + 1)) / 8 + 1)) * P := Nat.mul_le_mul_right _ (by omega)
    rw [Nat.add_mul] at this
    omega
  have t0 : d0 ≤ (FP.dadd (4604390187031047700 : UInt64) q).toNat := by
    refine al d0 (Nat.le_of_lt hd0) ?_
    rw [ud, ud0]
    have : (8 * ((6214967485771284 + 8 * K) / 8)) * P ≤ (6214967485771284 + 8 * K) * P := Nat.mul_le_mul_right _ (by omega)
    rw [Nat.add_mul] at this
    omega
  have ht : fnn (FP.dadd (4604390187031047700 : UInt64) q) := Nat.lt_of_le_of_lt t1 hd1
  obtain ⟨F, k, hF, hk, uF⟩ := un_ck ht
  have ut1 : un (FP.dadd (4604390187031047700 : UInt64) q).toNat ≤ 8 * ((6214967485771284 + 8 * (K + 1)) / 8 + 1) * P := by rw [← ud1]; exact un_le.mpr t1
  have ut0 : 8 * ((6214967485771284 + 8 * K) / 8) * P ≤ un (FP.dadd (4604390187031047700 : UInt64) q).toNat := by rw [← ud0]; exact un_le.mpr t0
  have hk1 : 1021 ≤ k := by
    refine Nat.le_of_not_lt (fun h => ?_)
    have h1 : F * 2 ^ k ≤ (2 ^ 53 - 1) * P := by
      rw [hP]
      exact mulle (by omega) (Nat.pow_le_pow_right (by decide) (by omega))
    have h2 : (2 ^ 53 - 1 + 1) * P ≤ (8 * ((6214967485771284 + 8 * K) / 8)) * P := Nat.mul_le_mul_right _ (by omega)
    rw [Nat.add_mul, Nat.one_mul] at h2
    rw [uF] at ut0
    omega
  obtain ⟨j, rfl⟩ : ∃ j, k = j + 1021 := ⟨k - 1021, by omega⟩
  have e : un (FP.dadd (4604390187031047700 : UInt64) q).toNat = (F * 2 ^ j) * P := by
    rw [uF, hP, Nat.pow_add, Nat.mul_assoc]
  rw [e] at ut0 ut1
  have h1 := Nat.le_of_mul_le_mul_right ut0 hP0
  have h2 := Nat.le_of_mul_le_mul_right ut1 hP0
  exact ⟨hq, ht, F * 2 ^ j, by rw [e, hP], by omega, by omega⟩
def ntE : Nat → Nat
  | 0 => 630503947831870
  | 1 => 29500000000010
  | 2 => 64500000010
  | 3 => 310010
  | _ => 11
theorem ntE_s : ∀ i, i < 4 → ntE i * ntE i ≤ 2 * (2 ^ 53 - 8) * (ntE (i + 1) - 10) ∧ 10 ≤ ntE (i + 1) ∧ 8 ≤ ntE i ∧ ntE i ≤ 2 ^ 51 := by decide
abbrev ntLoop (v19 v25 : UInt64) : Option UInt64 :=
       ((lp (σ := (Int32 × UInt64)) (ρ := UInt64) (un2 fun (v29 : Int32) (v30 : UInt64) =>
          if (4 : Int32) ≤ v29 then (
           some (.inr v30)) else (
           nd (FP.ddiv v19 v30) fun (v39 : UInt64) =>
           nd (FP.dadd v30 v39) fun (v40 : UInt64) =>
           nd (FP.dmul v40 (4602678819172646912 : UInt64)) fun (v41 : UInt64) =>
           lt1 (v29 + Int32.ofInt (1)) fun (v42 : Int32) =>
           some (.inl (v42, v41)))) 4000 ((0 : Int32), v25)))
theorem nt_loop {s g : UInt64} {S A r : Nat} (hs : fnn s) (us : un s.toNat = S * 2 ^ 1021) (hS : 2 ^ 53 ≤ S) (hS2 : S < 2 ^ 55) (hg : fnn g) (ug : un g.toNat = A * 2 ^ 1021) (hr1 : r * r ≤ S * 2 ^ 53) (hr2 : S * 2 ^ 53 ≤ r * r + 2 * r) (g1 : 2 ^ 53 ≤ r) (g2 : r < 2 ^ 54) (a1 : A ≤ r + ntE 0) (a2 : r ≤ A + ntE 0) (a3 : 2 ^ 53 - 8 ≤ A) :
    ∃ w B, ntLoop s g = some w ∧ fnn w ∧ un w.toNat = B * 2 ^ 1021 ∧ B ≤ r + 11 ∧ r ≤ B + 11 := by
  obtain ⟨P, hP⟩ : ∃ P, P = 2 ^ 1021 := ⟨_, rfl⟩
  rw [← hP] at ug ⊢
  obtain ⟨w, h1, h2, B, h3, h4, h5⟩ := lp_inv (body := un2 fun (v29 : Int32) (v30 : UInt64) =>
          if (4 : Int32) ≤ v29 then (
           some (.inr v30)) else (
           nd (FP.ddiv s v30) fun (v39 : UInt64) =>
           nd (FP.dadd v30 v39) fun (v40 : UInt64) =>
           nd (FP.dmul v40 (4602678819172646912 : UInt64)) fun (v41 : UInt64) =>
           lt1 (v29 + Int32.ofInt (1)) fun (v42 : Int32) =>
           some (.inl (v42, v41)))) (fun i q => q.1 = nI i ∧ fnn q.2 ∧ ∃ A, un q.2.toNat = A * P ∧ A ≤ r + ntE i ∧ r ≤ A + ntE i ∧ 2 ^ 53 - 8 ≤ A) (fun w => fnn w ∧ ∃ B, un w.toNat = B * P ∧ B ≤ r + 11 ∧ r ≤ B + 11) 4 (fun i q hi ⟨q1, q2, A, q3, q4, q5, q6⟩ => by
      obtain ⟨k, v⟩ := q
      dsimp only at q1 q2 q3
      subst q1
      dsimp only [un2]
      by_cases h : i < 4
      · right
        obtain ⟨f1, f2, f3, f4⟩ := ntE_s i h
        have hA2 : A ≤ 5 * 2 ^ 52 := by clear us; omega
        obtain ⟨n1, n2, n3, A', n4, n5, n6⟩ := nt_step hs q2 us (by rw [q3, hP]) hS hS2 (Nat.le_trans (by decide) q6) hA2
        rw [← hP] at n4
        obtain ⟨p1, p2⟩ := nt_err (b := ntE (i + 1) - 10) n5 n6 hr1 hr2 q4 q5 q6 (by omega) (by omega) f1
        refine ⟨h, (nI (i + 1), FP.dmul (FP.dadd v (FP.ddiv s v)) (4602678819172646912 : UInt64)), ?_, rfl, n3, A', n4, by omega, ?_, by omega⟩
        · rw [if_neg (fun h => by have := (nI_leI (by decide) (by omega)).mp (show nI 4 ≤ nI i from h); omega), nd_t (n64_of n1), nd_t (n64_of n2), nd_t (n64_of n3), lt1_e, show nI i + Int32.ofInt 1 = nI (i + 1) from nI_1 i]
        · have : 8 ≤ ntE (i + 1) := by omega
          omega
      · left
        have e : i = 4 := by omega
        subst e
        exact ⟨v, if_pos ((nI_leI (by decide) (by decide)).mpr (Nat.le_refl 4)), q2, A, q3, q4, q5⟩) 4 4000 0 ((0 : Int32), g) (by omega) ⟨rfl, hg, A, ug, a1, a2, a3⟩ (by omega)
  exact ⟨w, B, h1, h2, h3, h4, h5⟩
theorem fnn_of {x : UInt64} {n : Nat} (h : x.toNat = n) (hn : n < 9218868437227405312) : fnn x := by
  unfold fnn; rw [h]; exact hn
theorem negI {d : Nat} (h : d < 2 ^ 62) : (-lN d).toInt = -(d : Int) := by
  have e : (lN d).toInt = (d : Int) := pk_lT (by omega)
  rw [Int64.toInt_neg, e]
  exact Int.bmod_eq_of_le (by omega) (by omega)
theorem subI {a b : Nat} (h1 : a < b + 2 ^ 62) (h2 : b < a + 2 ^ 62) : (lN a - lN b).toInt = (a : Int) - b := by
  rcases Nat.le_total b a with h | h
  · rw [lN_sub h, pk_lT (by omega)]; omega
  · have e : lN a - lN b = -(lN b - lN a) := (Int64.neg_sub).symm
    rw [e, lN_sub h, negI (by omega)]; omega
theorem nr_spec {S G t : Nat} (hr : isRoot (S * 2 ^ 52) t) (h1 : G ≤ t + 9) (h2 : t ≤ G + 9) (ht : t < 2 ^ 53) (ht2 : 100 ≤ t) : fX7_nearestRoot (lN S) (lN G) = some (lN t) := by
  unfold fX7_nearestRoot
  obtain ⟨q, k1, k2⟩ := lp_inv (body := un2 fun (v4 : Int32) (v5 : Int64) =>
     if (16 : Int32) ≤ v4 then (
      some (.inr (.inr v5))) else (
      lt1 ((lN S <<< ((52 : Int32).toInt64 &&& 63)) - (v5 * v5)) fun (v8 : Int64) =>
      if lg_cmp v8 v5 ≤ 0 then (
       if 0 < lg_cmp v8 (-v5) then (
        some (.inr (.inl v5))) else (
        lt1 (v5 - (1 : Int64)) fun (v11 : Int64) =>
        lt1 (v4 + Int32.ofInt (1)) fun (v12 : Int32) =>
        some (.inl (v12, v11)))) else (
       lt1 (v5 + (1 : Int64)) fun (v13 : Int64) =>
       lt1 (v4 + Int32.ofInt (1)) fun (v14 : Int32) =>
       some (.inl (v14, v13))))) (fun i s => ∃ g, s = (nI i, lN g) ∧ t ≤ g + (9 - i) ∧ g ≤ t + (9 - i)) (fun r => r = (Sum.inl (lN t) : Int64 ⊕ Int64)) 9 (fun i s hi ⟨g, e, g1, g2⟩ => by
      subst e
      dsimp only [un2]
      have hlt : ¬ (16 : Int32) ≤ nI i := fun h => by have := (nI_leI (by decide) (by omega)).mp (show nI 16 ≤ nI i from h); omega
      have es : lN S <<< ((52 : Int32).toInt64 &&& 63) = lN (S * 2 ^ 52) := wb_shl S (k := 52) (by decide)
      rw [if_neg hlt, lt1_e, es, lN_mul]
      obtain ⟨r1, r2⟩ := hr
      obtain ⟨N, hN⟩ : ∃ N, N = S * 2 ^ 52 := ⟨_, rfl⟩
      rw [← hN] at r1 r2 ⊢
      have m1 : t * t ≤ (g + 9) * (g + 9) := mulle (by omega) (by omega)
      have m2 : g * g ≤ (t + 9) * (t + 9) := mulle (by omega) (by omega)
      rw [Nat.mul_add, Nat.add_mul] at m1 m2
      have hs := subI (a := N) (b := g * g) (by omega) (by omega)
      have hg : (lN g).toInt = (g : Int) := pk_lT (by omega)
      have hng : (-lN g).toInt = -(g : Int) := negI (by omega)
      have c1 : lg_cmp (lN N - lN (g * g)) (lN g) ≤ 0 ↔ N ≤ g * g + g := by
        rw [lg_cmp_le, Int64.le_iff_toInt_le, hs, hg]; omega
      have c2 : 0 < lg_cmp (lN N - lN (g * g)) (-lN g) ↔ g * g < N + g := by
        rw [lg_cmp_gt, Int64.lt_iff_toInt_lt, hs, hng]; omega
      by_cases a1 : N ≤ g * g + g
      · rw [if_pos (c1.mpr a1)]
        by_cases a2 : g * g < N + g
        · left
          rw [if_pos (c2.mpr a2)]
          exact ⟨_, rfl, by rw [isRoot_uniq (N := N) ⟨a2, a1⟩ ⟨r1, r2⟩]⟩
        · right
          have : t < g := by
            refine Nat.lt_of_not_le (fun h => ?_)
            have e2 : t * t = t + t * (t - 1) := by
              obtain ⟨u, rfl⟩ : ∃ u, t = u + 1 := ⟨t - 1, by omega⟩
              rw [Nat.add_sub_cancel, Nat.mul_succ (u + 1) u]; omega
            have e3 : g * g = g + g * (g - 1) := by
              obtain ⟨u, rfl⟩ : ∃ u, g = u + 1 := ⟨g - 1, by omega⟩
              rw [Nat.add_sub_cancel, Nat.mul_succ (u + 1) u]; omega
            have : g * (g - 1) ≤ t * (t - 1) := mulle h (by omega)
            omega
          refine ⟨by omega, (nI (i + 1), lN (g - 1)), ?_, g - 1, rfl, by omega, by omega⟩
          rw [if_neg (fun h => a2 (c2.mp h)), lt1_e, lt1_e, show nI i + Int32.ofInt 1 = nI (i + 1) from nI_1 i, show (1 : Int64) = lN 1 from rfl, lN_sub (by omega)]
      · right
        have : g < t := by
          refine Nat.lt_of_not_le (fun h => ?_)
          have : t * t ≤ g * g := mulle h h
          omega
        refine ⟨by omega, (nI (i + 1), lN (g + 1)), ?_, g + 1, rfl, by omega, by omega⟩
        rw [if_neg (fun h => a1 (c1.mp h)), lt1_e, lt1_e, show nI i + Int32.ofInt 1 = nI (i + 1) from nI_1 i, lN_1]) 9 4000 0 ((0 : Int32), lN G) (by omega) ⟨G, rfl, by omega, by omega⟩ (by omega)
  rw [k1, k2]
  rfl
theorem sc_a {xn v i : Nat} (h : i < (xn / 2 ^ 52 - 1023) / 2) (q : v + 2 * i * 2 ^ 52 = xn) : 1025 * 2 ^ 52 ≤ v := by omega
theorem sc_b {xn v i n : Nat} (q : v + 2 * i * 2 ^ 52 = xn) (h : n + 2 * 2 ^ 52 = v) : n + 2 * (i + 1) * 2 ^ 52 = xn := by
  generalize 2 ^ 52 = M at *
  subst h; subst q
  rw [Nat.mul_add, Nat.add_mul, Nat.mul_one]; omega
theorem sc_e {n v : Nat} (h : n + 2 * 2 ^ 52 = v) : v + 1021 * 2 ^ 52 = n + 1023 * 2 ^ 52 := by
  generalize 2 ^ 52 = M at *
  omega
theorem sc_f {n v : Nat} (h : n + 2 ^ 52 = v) : v + 1022 * 2 ^ 52 = n + 1023 * 2 ^ 52 := by
  generalize 2 ^ 52 = M at *
  omega
theorem sc_c {n v : Nat} (h : n + 2 * 2 ^ 52 = v) (k : 1025 * 2 ^ 52 ≤ v) : 2 ^ 52 ≤ n := by omega
theorem sc_d {n u w i : Nat} (h : n + 2 ^ 52 = u) (q : u + i * 2 ^ 52 = w) (hw : 1000 * 2 ^ 52 ≤ w) (hi : i ≤ 300) : 2 ^ 52 ≤ n := by omega
abbrev scUp (a1 : UInt64) : Option (UInt64 × UInt64) :=
   ((lp (σ := (Int32 × UInt64 × UInt64)) (ρ := (UInt64 × UInt64)) (un3 fun (v5 : Int32) (v6 : UInt64) (v7 : UInt64) =>
      if (1100 : Int32) ≤ v5 then (
       some (.inr (v7, v6))) else (
       if Op.cmpValue (FP.dcmp v7 (4616189618054758400 : UInt64)) CmpOp.l < 0 then (
        some (.inr (v7, v6))) else (
        nd (FP.dmul v7 (4598175219545276416 : UInt64)) fun (v56 : UInt64) =>
        nd (FP.dmul v6 (4611686018427387904 : UInt64)) fun (v57 : UInt64) =>
        lt1 (v5 + Int32.ofInt (1)) fun (v58 : Int32) =>
        some (.inl (v58, v57, v56))))) 4000 ((0 : Int32), FP.dconst1, a1)))
theorem sc_up {x : UInt64} (h1 : 500 * 2 ^ 52 ≤ x.toNat) (h2 : x.toNat < 1500 * 2 ^ 52) : ∃ q u, scUp x = some (q, u) ∧ q.toNat + 2 * ((x.toNat / 2 ^ 52 - 1023) / 2) * 2 ^ 52 = x.toNat ∧ u.toNat = (1023 + (x.toNat / 2 ^ 52 - 1023) / 2) * 2 ^ 52 := by
  obtain ⟨xn, hx⟩ : ∃ xn, xn = x.toNat := ⟨_, rfl⟩
  rw [← hx] at h1 h2 ⊢
  have c4 : (4616189618054758400 : UInt64).toNat = 1025 * 2 ^ 52 := by decide +kernel
  have c4f : fnn (4616189618054758400 : UInt64) := by unfold fnn; decide +kernel
  obtain ⟨r, k1, k2, k3⟩ := lp_inv (body := un3 fun (v5 : Int32) (v6 : UInt64) (v7 : UInt64) =>
      if (1100 : Int32) ≤ v5 then (
       some (.inr (v7, v6))) else (
       if Op.cmpValue (FP.dcmp v7 (4616189618054758400 : UInt64)) CmpOp.l < 0 then (
        some (.inr (v7, v6))) else (
        nd (FP.dmul v7 (4598175219545276416 : UInt64)) fun (v56 : UInt64) =>
        nd (FP.dmul v6 (4611686018427387904 : UInt64)) fun (v57 : UInt64) =>
        lt1 (v5 + Int32.ofInt (1)) fun (v58 : Int32) =>
        some (.inl (v58, v57, v56))))) (fun i s => s.1 = nI i ∧ s.2.1.toNat = (1023 + i) * 2 ^ 52 ∧ s.2.2.toNat + 2 * i * 2 ^ 52 = xn) (fun r => r.1.toNat + 2 * ((xn / 2 ^ 52 - 1023) / 2) * 2 ^ 52 = xn ∧ r.2.toNat = (1023 + (xn / 2 ^ 52 - 1023) / 2) * 2 ^ 52) ((xn / 2 ^ 52 - 1023) / 2) (fun i s hi ⟨q1, q2, q3⟩ => by
      obtain ⟨k, u, v⟩ := s
      dsimp only at q1 q2 q3
      subst q1
      dsimp only [un3]
      have hvf : fnn v := pw_fnn (K := 1500) (show v.toNat < 1500 * 2 ^ 52 by omega) (by decide)
      have huf : fnn u := pw_fnn (K := 1600) (show u.toNat < 1600 * 2 ^ 52 by omega) (by decide)
      have hc := (cmp_n hvf c4f CmpOp.l).1
      rw [c4] at hc
      rw [if_neg (fun h => by have := (nI_leI (by decide) (by omega)).mp (show nI 1100 ≤ nI i from h); omega)]
      by_cases h : i < (xn / 2 ^ 52 - 1023) / 2
      · right
        obtain ⟨nv, hnv⟩ : ∃ nv, nv + 2 * 2 ^ 52 = v.toNat := ⟨v.toNat - 2 * 2 ^ 52, by omega⟩
        have hv : (FP.dmul v (4598175219545276416 : UInt64)).toNat = nv := dmul_p2 (p := 1021) (by omega) (by decide +kernel) (by decide) (by decide) hvf (sc_e hnv) (sc_c hnv (sc_a h q3)) (show _ < 9218868437227405312 by omega)
        have hu : (FP.dmul u (4611686018427387904 : UInt64)).toNat = u.toNat + 2 ^ 52 := dmul_p2 (p := 1024) (by omega) (by decide +kernel) (by decide) (by decide) huf (by omega) (by omega) (show _ < 9218868437227405312 by omega)
        refine ⟨h, (nI (i + 1), FP.dmul u (4611686018427387904 : UInt64), FP.dmul v (4598175219545276416 : UInt64)), ?_, rfl, by dsimp only; rw [hu]; omega, hv ▸ sc_b q3 hnv⟩
        rw [if_neg (fun g => by have := hc.mp g; omega), nd_t (n64_of (fnn_of hv (by omega))), nd_t (n64_of (fnn_of hu (by omega))), lt1_e, show nI i + Int32.ofInt 1 = nI (i + 1) from nI_1 i]
      · left
        have e : i = (xn / 2 ^ 52 - 1023) / 2 := by omega
        refine ⟨(v, u), ?_, by rw [← e]; exact q3, by rw [← e]; exact q2⟩
        rw [if_pos (hc.mpr (by omega))]) ((xn / 2 ^ 52 - 1023) / 2) 4000 0 ((0 : Int32), FP.dconst1, x) (by omega) ⟨rfl, (by decide +kernel : (FP.dconst1 : UInt64).toNat = (1023 + 0) * 2 ^ 52), by dsimp only; omega⟩ (by omega)
  exact ⟨r.1, r.2, k1, k2, k3⟩
abbrev scDn (v8 v9 : UInt64) : Option (UInt64 × UInt64) :=
     ((lp (σ := (Int32 × UInt64 × UInt64)) (ρ := (UInt64 × UInt64)) (un3 fun (v16 : Int32) (v17 : UInt64) (v18 : UInt64) =>
        if (1100 : Int32) ≤ v16 then (
         some (.inr (v17, v18))) else (
         if 0 ≤ Op.cmpValue (FP.dcmp v17 FP.dconst1) CmpOp.g then (
          some (.inr (v17, v18))) else (
          nd (FP.dmul v17 (4616189618054758400 : UInt64)) fun (v51 : UInt64) =>
          nd (FP.dmul v18 (4602678819172646912 : UInt64)) fun (v52 : UInt64) =>
          lt1 (v16 + Int32.ofInt (1)) fun (v53 : Int32) =>
          some (.inl (v53, v51, v52))))) 4000 ((0 : Int32), v8, v9)))
theorem sc_dn {x w : UInt64} (h1 : 500 * 2 ^ 52 ≤ x.toNat) (h2 : x.toNat < 1025 * 2 ^ 52) (h3 : 1000 * 2 ^ 52 ≤ w.toNat) (h4 : w.toNat ≤ 1300 * 2 ^ 52) : ∃ q u, scDn x w = some (q, u) ∧ q.toNat = x.toNat + 2 * ((1024 - x.toNat / 2 ^ 52) / 2) * 2 ^ 52 ∧ u.toNat + (1024 - x.toNat / 2 ^ 52) / 2 * 2 ^ 52 = w.toNat := by
  obtain ⟨xn, hx⟩ : ∃ xn, xn = x.toNat := ⟨_, rfl⟩
  obtain ⟨wn, hw⟩ : ∃ wn, wn = w.toNat := ⟨_, rfl⟩
  rw [← hx] at h1 h2 ⊢
  rw [← hw] at h3 h4 ⊢
  have c1 : (FP.dconst1 : UInt64).toNat = 1023 * 2 ^ 52 := by decide +kernel
  have c1f : fnn FP.dconst1 := by unfold fnn; decide +kernel
  obtain ⟨r, k1, k2, k3⟩ := lp_inv (body := un3 fun (v16 : Int32) (v17 : UInt64) (v18 : UInt64) =>
        if (1100 : Int32) ≤ v16 then (
         some (.inr (v17, v18))) else (
         if 0 ≤ Op.cmpValue (FP.dcmp v17 FP.dconst1) CmpOp.g then (
          some (.inr (v17, v18))) else (
          nd (FP.dmul v17 (4616189618054758400 : UInt64)) fun (v51 : UInt64) =>
          nd (FP.dmul v18 (4602678819172646912 : UInt64)) fun (v52 : UInt64) =>
          lt1 (v16 + Int32.ofInt (1)) fun (v53 : Int32) =>
          some (.inl (v53, v51, v52))))) (fun i s => s.1 = nI i ∧ s.2.1.toNat = xn + 2 * i * 2 ^ 52 ∧ s.2.2.toNat + i * 2 ^ 52 = wn) (fun r => r.1.toNat = xn + 2 * ((1024 - xn / 2 ^ 52) / 2) * 2 ^ 52 ∧ r.2.toNat + (1024 - xn / 2 ^ 52) / 2 * 2 ^ 52 = wn) ((1024 - xn / 2 ^ 52) / 2) (fun i s hi ⟨q1, q2, q3⟩ => by
      obtain ⟨k, v, u⟩ := s
      dsimp only at q1 q2 q3
      subst q1
      dsimp only [un3]
      have hvf : fnn v := pw_fnn (K := 1500) (show v.toNat < 1500 * 2 ^ 52 by omega) (by decide)
      have huf : fnn u := pw_fnn (K := 1600) (show u.toNat < 1600 * 2 ^ 52 by omega) (by decide)
      have hc := (cmp_n hvf c1f CmpOp.g).2.2.2.1
      rw [c1] at hc
      rw [if_neg (fun h => by have := (nI_leI (by decide) (by omega)).mp (show nI 1100 ≤ nI i from h); omega)]
      by_cases h : i < (1024 - xn / 2 ^ 52) / 2
      · right
        have hv : (FP.dmul v (4616189618054758400 : UInt64)).toNat = v.toNat + 2 * 2 ^ 52 := dmul_p2 (p := 1025) (by omega) (by decide +kernel) (by decide) (by decide) hvf (by omega) (by omega) (show _ < 9218868437227405312 by omega)
        obtain ⟨nu, hnu⟩ : ∃ nu, nu + 2 ^ 52 = u.toNat := ⟨u.toNat - 2 ^ 52, by omega⟩
        have hu : (FP.dmul u (4602678819172646912 : UInt64)).toNat = nu := dmul_p2 (p := 1022) (by omega) (by decide +kernel) (by decide) (by decide) huf (sc_f hnu) (sc_d hnu q3 h3 (by omega)) (show _ < 9218868437227405312 by omega)
        refine ⟨h, (nI (i + 1), FP.dmul v (4616189618054758400 : UInt64), FP.dmul u (4602678819172646912 : UInt64)), ?_, rfl, by dsimp only; rw [hv]; omega, by dsimp only; rw [hu]; omega⟩
        rw [if_neg (fun g => by have := hc.mp g; omega), nd_t (n64_of (fnn_of hv (by omega))), nd_t (n64_of (fnn_of hu (by omega))), lt1_e, show nI i + Int32.ofInt 1 = nI (i + 1) from nI_1 i]
      · left
        have e : i = (1024 - xn / 2 ^ 52) / 2 := by omega
        refine ⟨(v, u), ?_, by rw [← e]; exact q2, by rw [← e]; exact q3⟩
        rw [if_pos (hc.mpr (by omega))]) ((1024 - xn / 2 ^ 52) / 2) 4000 0 ((0 : Int32), x, w) (by omega) ⟨rfl, by dsimp only; omega, by dsimp only; omega⟩ (by omega)
  exact ⟨r.1, r.2, k1, k2, k3⟩
theorem sc_all {x : UInt64} (h1 : 500 * 2 ^ 52 ≤ x.toNat) (h2 : x.toNat < 1500 * 2 ^ 52) : ∃ q u s w, scUp x = some (q, u) ∧ scDn q u = some (s, w) ∧ fnn s ∧ un s.toNat = 2 * rtS x.toNat * 2 ^ 1021 ∧ w.toNat = (x.toNat / 2 ^ 52 + 1023) / 2 * 2 ^ 52 := by
  obtain ⟨q, u, a1, a2, a3⟩ := sc_up h1 h2
  have b1 : 500 * 2 ^ 52 ≤ q.toNat := by omega
  have b2 : q.toNat < 1025 * 2 ^ 52 := by omega
  obtain ⟨s, w, c1, c2, c3⟩ := sc_dn (x := q) (w := u) b1 b2 (by omega) (by omega)
  obtain ⟨f, hf⟩ : ∃ f, f = x.toNat % 2 ^ 52 := ⟨_, rfl⟩
  have hf2 : f < 2 ^ 52 := by omega
  refine ⟨q, u, s, w, a1, c1, ?_, ?_, by omega⟩
  · exact fnn_of (n := s.toNat) rfl (by omega)
  · unfold rtS
    rw [← hf]
    by_cases o : x.toNat / 2 ^ 52 % 2 = 1
    · have e : s.toNat = 1023 * 2 ^ 52 + f := by omega
      rw [if_pos o, un_mk (E := 1023) (e := 1022) e hf2 rfl rfl, Nat.mul_comm 2, Nat.mul_assoc, ← Nat.pow_succ']
    · have e : s.toNat = 1024 * 2 ^ 52 + f := by omega
      rw [if_neg o, un_mk (E := 1024) (e := 1023) e hf2 rfl rfl, ← Nat.mul_assoc, Nat.mul_comm (2 * 2), Nat.mul_assoc, show (2 * 2 : Nat) = 2 ^ 2 from rfl, ← Nat.pow_add]
theorem x_root {x : UInt64} (h1 : 500 * 2 ^ 52 ≤ x.toNat) (h2 : x.toNat < 1500 * 2 ^ 52) :
    ∃ y r, fX7_rootOf x = some y ∧ fnn y ∧ isRoot (rtS x.toNat * 2 ^ 52) r ∧ un y.toNat = r * 2 ^ ((x.toNat / 2 ^ 52 + 919) / 2 + 51) := by
  obtain ⟨q, u, s, w, k1, k2, fs, us, hw⟩ := sc_all h1 h2
  obtain ⟨S, hS⟩ : ∃ S, S = rtS x.toNat := ⟨_, rfl⟩
  have hS1 : 2 ^ 52 ≤ S := by rw [hS]; exact (rtS_b _).1
  have hS2 : S ≤ 2 ^ 54 - 2 := by rw [hS]; exact (rtS_b _).2
  obtain ⟨U, hU⟩ : ∃ U, U = (x.toNat / 2 ^ 52 + 1023) / 2 := ⟨_, rfl⟩
  have hU1 : 700 ≤ U := by omega
  have hU2 : U ≤ 1300 := by omega
  have hUe : (x.toNat / 2 ^ 52 + 919) / 2 + 51 = U - 1 := by omega
  rw [← hS] at us ⊢
  rw [hUe]
  rw [← hU] at hw
  have hxf : fnn x := pw_fnn h2 (by decide)
  have hz : fnn FP.dconst0 := by unfold fnn; decide
  have hz0 : (FP.dconst0 : UInt64).toNat = 0 := rfl
  have hx0 : 0 < Op.cmpValue (FP.dcmp x FP.dconst0) CmpOp.l := ((cmp_n hxf hz CmpOp.l).2.1).mpr (by omega)
  clear hU hUe h1 h2
  obtain ⟨r, r1, r2⟩ := sqrt_ex (2 * S * 2 ^ 53)
  obtain ⟨v1, v2, A, v3, v4, v5⟩ := nt_guess fs us (by omega) (by omega)
  obtain ⟨g1, g2, g3, g4⟩ := nt_start v4 v5 r1 r2 (by omega) (by omega)
  obtain ⟨g, B, n1, n2, n3, n4, n5⟩ := nt_loop fs us (by omega) (by omega) v2 v3 r1 r2 g1 g2 g3 g4 (by clear us v3; omega)
  have hsq : r * r + (2 * S * 2 ^ 53 - r * r) = 4 * (S * 2 ^ 52) := by clear us v3 n3; omega
  have hr := isRoot_of hsq (by clear us v3 n3; omega) (by omega)
  have ht := isRoot_lt hS2 hr
  obtain ⟨t, htt⟩ : ∃ t, t = r / 2 + if r % 2 = 1 then 1 else 0 := ⟨_, rfl⟩
  rw [← htt] at hr ht
  have htb : r / 2 ≤ t ∧ t ≤ r / 2 + 1 := by rw [htt]; split <;> omega
  clear htt
  have bP : (4841369599423283200 : UInt64).toNat = (1023 + 52) * 2 ^ 52 := by decide +kernel
  obtain ⟨m1, m2⟩ := dmul_up (x := s) (P := (4841369599423283200 : UInt64)) (j := 52) fs bP (by decide) (by
    rw [us]; exact pow_lt_of (j := 55) (show 2 * S < 2 ^ 55 by clear us v3 n3; omega) (by decide))
  obtain ⟨m3, m4⟩ := dmul_up (x := g) (P := (4841369599423283200 : UInt64)) (j := 52) n2 bP (by decide) (by
    rw [n3]; exact pow_lt_of (j := 55) (show B < 2 ^ 55 by clear us v3 n3; omega) (by decide))
  have e1074 : (2 : Nat) ^ 1074 = 2 * (2 ^ 1021 * 2 ^ 52) := by rw [← Nat.pow_add, ← Nat.pow_succ']
  have hpp : 0 < 2 ^ 1021 * 2 ^ 52 := Nat.mul_pos (Nat.two_pow_pos _) (Nat.two_pow_pos _)
  have d1 : un (FP.dmul s (4841369599423283200 : UInt64)).toNat / 2 ^ 1074 = S := by
    rw [m2, us, e1074, Nat.mul_assoc (2 * S), Nat.mul_comm 2 S, Nat.mul_assoc S 2]
    exact Nat.mul_div_cancel _ (Nat.mul_pos (by decide) hpp)
  have d2 : un (FP.dmul g (4841369599423283200 : UInt64)).toNat / 2 ^ 1074 = B / 2 := by
    rw [m4, n3, e1074, Nat.mul_assoc B]
    exact Nat.mul_div_mul_right _ _ hpp
  have f1 := d2l_floor m1 (by rw [d1]; clear us v3 n3 m2 m4 e1074 hpp; omega)
  have f2 := d2l_floor m3 (by rw [d2]; clear us v3 n3 m2 m4 e1074 hpp; omega)
  rw [d1] at f1
  rw [d2] at f2
  have hn := nr_spec (S := S) (G := B / 2) hr (by clear us v3 n3 m2 m4 e1074 hpp; omega) (by clear us v3 n3 m2 m4 e1074 hpp; omega) ht (by clear us v3 n3 m2 m4 e1074 hpp; omega)
  obtain ⟨l1, l2⟩ := l2d_lN (n := t) (by omega)
  have bPf : fnn (4841369599423283200 : UInt64) := by unfold fnn; decide +kernel
  obtain ⟨z1, hz1, uz1⟩ := un_rep 1022 t ht (by decide)
  have hd : (FP.ddiv (FP.l2d (lN t)) (4841369599423283200 : UInt64)).toNat = z1 := by
    refine ddiv_ex l1 bPf (by rw [bP]; decide) (Nat.le_of_lt hz1) ?_
    rw [l2, uz1, bP, un_pw (by decide), Nat.mul_assoc, Nat.mul_assoc, ← Nat.pow_add, ← Nat.pow_add]
  have hdf : fnn (FP.ddiv (FP.l2d (lN t)) (4841369599423283200 : UInt64)) := by unfold fnn; rw [hd]; exact hz1
  obtain ⟨z2, hz2, uz2⟩ := un_rep (U - 1) t ht (by omega)
  have hwf : fnn w := fnn_of hw (by omega)
  have hm : (FP.dmul (FP.ddiv (FP.l2d (lN t)) (4841369599423283200 : UInt64)) w).toNat = z2 := by
    refine dmul_ex hdf hwf (Nat.le_of_lt hz2) ?_
    rw [hd, uz1, hw, un_pw (by omega), uz2, Nat.mul_assoc, Nat.mul_assoc, ← Nat.pow_add, ← Nat.pow_add, pow_e (show 1022 + (U + 51) = U - 1 + 1074 by omega)]
  have hmf : fnn (FP.dmul (FP.ddiv (FP.l2d (lN t)) (4841369599423283200 : UInt64)) w) := by unfold fnn; rw [hm]; exact hz2
  refine ⟨_, t, ?_, hmf, hr, by rw [hm, uz2]⟩
  unfold fX7_rootOf
  rw [if_pos hx0]
  refine (congrArg (fun o => Option.bind o _) (show _ = some (q, u) from k1)).trans ?_
  rw [Option.bind_some]
  dsimp only [un2]
  refine (congrArg (fun o => Option.bind o _) (show _ = some (s, w) from k2)).trans ?_
  rw [Option.bind_some]
  dsimp only [un2]
  rw [nd_t (n64_of v1), nd_t (n64_of v2)]
  refine (congrArg (fun o => Option.bind o _) (show _ = some g from n1)).trans ?_
  rw [Option.bind_some, nd_t (n64_of m1), nd_t (n64_of m3), f1, f2, hn, Option.bind_some, nd_t (n64_of hdf), nd_t (n64_of hmf)]
theorem root_same {x : UInt64} (h1 : 500 * 2 ^ 52 ≤ x.toNat) (h2 : x.toNat < 1500 * 2 ^ 52) : ∃ y, fX7_rootOf x = some y ∧ fX12_rootOf x = some y ∧ pw ((x.toNat / 2 ^ 52 + 1025) / 2) y := by
  obtain ⟨y, r, a1, a2, a3, a4⟩ := x_root h1 h2
  obtain ⟨z, q, b1, b2, b3, b4⟩ := m_root h1 h2
  have e : r = q := isRoot_uniq a3 b3
  subst e
  refine ⟨y, a1, by rw [b1, fnn_eq (b4.trans a4.symm)], ?_⟩
  refine pw_of_un ?_ (by omega)
  rw [a4]
  exact pow_lt_of (j := 53) (isRoot_lt (rtS_b _).2 a3) (by omega)
theorem root_zero {x : UInt64} (h : x.toNat = 0) : fX7_rootOf x = some FP.dconst0 ∧ fX12_rootOf x = some FP.dconst0 := by
  have hz : fnn FP.dconst0 := by unfold fnn; decide
  have hx : fnn x := by unfold fnn; rw [h]; decide
  have hz0 : (FP.dconst0 : UInt64).toNat = 0 := rfl
  unfold fX7_rootOf fX12_rootOf
  rw [if_neg (fun q => by have := ((cmp_n hx hz CmpOp.l).2.1).mp q; omega), if_pos (((cmp_n hx hz CmpOp.l).2.2.1).mpr (by rw [h]; rfl))]
  exact ⟨rfl, rfl⟩
