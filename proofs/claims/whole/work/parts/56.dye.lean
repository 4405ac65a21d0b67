/-! ===== what a dye adds ===== -/
theorem i2d_b2 {a : Nat} (h1 : 1 ≤ a) (h2 : a ≤ 100000) : fnn (FP.i2d (nI a)) ∧ 1023 * 2 ^ 52 ≤ (FP.i2d (nI a)).toNat ∧ pw 1040 (FP.i2d (nI a)) ∧ un (FP.i2d (nI a)).toNat = a * 2 ^ 1074 := by
  obtain ⟨f, u⟩ := i2d_nI (n := a) (by omega)
  refine ⟨f, ?_, ?_, u⟩
  · refine un_le.mp ?_
    rw [u, un_pw (by decide)]
    exact Nat.le_mul_of_pos_left _ h1
  · refine pw_of_un ?_ (by decide)
    rw [u]
    exact pow_lt_of (j := 17) (by omega) (by decide)
theorem rt0_b {g : UInt64} {cg a : Nat} (hg : iv cg g) (lg : lw 1013 g) (h1 : 1 ≤ a) (h2 : a ≤ 100000) : iv cg (FP.ddiv g (FP.i2d (nI a))) ∧ lw 996 (FP.ddiv g (FP.i2d (nI a))) := by
  obtain ⟨f, l, p, u⟩ := i2d_b2 h1 h2
  exact ⟨iv_div hg f l, lw_mono (lw_div lg hg.2 f p (by omega) (by decide) (by decide) (by decide) (by decide)) (by decide)⟩
theorem rtm_b {g : UInt64} {cg a b : Nat} (hg : iv cg g) (lg : lw 1013 g) (h1 : 1 ≤ a) (h2 : b ≤ 100000) (hab : a < b) (ga : (FP.i2d (nI a)).toNat < g.toNat) (gb : g.toNat ≤ (FP.i2d (nI b)).toNat) :
    fnn (FP.dsub g (FP.i2d (nI a))) ∧ fnn (FP.dsub (FP.i2d (nI b)) (FP.i2d (nI a))) ∧ iv 1 (FP.ddiv (FP.dsub g (FP.i2d (nI a))) (FP.dsub (FP.i2d (nI b)) (FP.i2d (nI a)))) ∧ lw 944 (FP.ddiv (FP.dsub g (FP.i2d (nI a))) (FP.dsub (FP.i2d (nI b)) (FP.i2d (nI a)))) := by
  obtain ⟨fa, la, pa, ua⟩ := i2d_b2 (a := a) h1 (by omega)
  obtain ⟨fb, lb, pb, ub⟩ := i2d_b2 (a := b) (by omega) h2
  have t1 := iv_sub hg fa (Nat.le_of_lt ga)
  have t2 : lw 961 (FP.dsub g (FP.i2d (nI a))) := lw_mono (lw_sub lg (lw_mono (Or.inr la) (by decide)) hg.2 fa (Nat.le_of_lt ga) (by decide) (by decide)) (by decide)
  have hab2 : (FP.i2d (nI a)).toNat ≤ (FP.i2d (nI b)).toNat := by omega
  have hd := dsub_b fb fa hab2
  obtain ⟨w, hw⟩ : ∃ w, w = FP.dsub (FP.i2d (nI b)) (FP.i2d (nI a)) := ⟨_, rfl⟩
  rw [← hw] at hd ⊢
  obtain ⟨m, hm, um⟩ := un_rep 1074 (b - a) (by omega) (by decide)
  have hwm : w.toNat = m := Nat.le_antisymm (hd.2.1 m (by rw [um, ua, ub, ← Nat.add_mul]; exact Nat.mul_le_mul_right _ (by omega))) (hd.2.2 m (Nat.le_of_lt hm) (by rw [um, ua, ub, ← Nat.add_mul]; exact Nat.mul_le_mul_right _ (by omega)))
  have uw : un w.toNat = (b - a) * 2 ^ 1074 := by rw [hwm, um]
  have fw : fnn w := by unfold fnn; rw [hwm]; exact hm
  have pw0 : pw 1040 w := pw_of_un (by rw [uw]; exact pow_lt_of (j := 17) (by omega) (by decide)) (by decide)
  have w0 : w.toNat ≠ 0 := fun h => by
    rw [h, un_0] at uw
    have := Nat.mul_pos (show 0 < b - a by omega) p1074
    omega
  have hle : un (FP.dsub g (FP.i2d (nI a))).toNat ≤ un w.toNat := by
    refine un_le.mpr ((dsub_b hg.2 fa (Nat.le_of_lt ga)).2.1 _ ?_)
    have e : un w.toNat + un (FP.i2d (nI a)).toNat = un (FP.i2d (nI b)).toNat := by
      rw [uw, ua, ub, ← Nat.add_mul, Nat.sub_add_cancel (Nat.le_of_lt hab)]
    rw [e]
    exact un_le.mpr gb
  have hq : (FP.ddiv (FP.dsub g (FP.i2d (nI a))) w).toNat ≤ 1023 * 2 ^ 52 := by
    refine (ddiv_b t1.2 fw w0).2.1 _ ?_
    rw [un_pw (by decide), Nat.mul_comm]
    exact Nat.mul_le_mul_left _ hle
  have hqf : fnn (FP.ddiv (FP.dsub g (FP.i2d (nI a))) w) := pw_fnn (K := 1024) (show _ < 1024 * 2 ^ 52 by omega) (by decide)
  refine ⟨t1.2, fw, ⟨?_, hqf⟩, lw_mono (lw_div t2 t1.2 fw pw0 w0 (by decide) (by decide) (by decide) (by decide)) (by decide)⟩
  have := un_le.mpr hq
  rw [un_pw (by decide)] at this
  rw [Nat.one_mul]
  exact this
theorem ctE_b {o q : UInt64} {cg : Nat} (ho : iv 1024 o) (lo : lw 808 o) (hq : iv cg q) (lq : lw 996 q) (hc : cg ≤ 10000000000) : iv (1024 * cg) (FP.dmul o q) ∧ lw 625 (FP.dmul o q) :=
  ⟨iv_mul ho hq (by omega), lw_mono (lw_mul lo lq ho.2 hq.2 (by decide) (by decide) (by decide) (by decide)) (by decide)⟩
theorem ctM_b {lo hi q : UInt64} (h1 : iv 1024 lo) (h2 : iv 1024 hi) (l1 : lw 808 lo) (l2 : lw 808 hi) (hq : iv 1 q) (lq : lw 944 q) : vf_n64 (FP.dsub hi lo) ∧ vf_n64 (FP.dmul (FP.dsub hi lo) q) ∧ iv 2048 (FP.dadd lo (FP.dmul (FP.dsub hi lo) q)) ∧ lw 625 (FP.dadd lo (FP.dmul (FP.dsub hi lo) q)) := by
  rcases Nat.lt_or_ge hi.toNat lo.toNat with h | h
  · have e := dsub_lt h1.2 h2.2 h
    have b1 := iv_sub h1 h2.2 (Nat.le_of_lt h)
    have b2 : lw 756 (FP.dsub lo hi) := lw_mono (lw_sub l1 l2 h1.2 h2.2 (Nat.le_of_lt h) (by decide) (by decide)) (by decide)
    have m1 : mg 1034 (FP.dsub lo hi) := pw_mg (iv_pw (j := 11) b1 (by decide)) (by decide)
    have m2 : mg 1024 q := pw_mg (iv_pw (j := 1) hq (by decide)) (by decide)
    have b3 : iv 1024 (FP.dmul (FP.dsub lo hi) q) := iv_mono (iv_mul b1 hq (by decide)) (by decide)
    have b4 : lw 677 (FP.dmul (FP.dsub lo hi) q) := lw_mono (lw_mul b2 lq b1.2 hq.2 (by decide) (by decide) (by decide) (by decide)) (by decide)
    have b5 : (FP.dmul (FP.dsub lo hi) q).toNat ≤ lo.toNat := by
      have s1 : (FP.dsub lo hi).toNat ≤ lo.toNat := (dsub_b h1.2 h2.2 (Nat.le_of_lt h)).2.1 _ (Nat.le_add_right _ _)
      refine Nat.le_trans ((dmul_b b1.2 hq.2).2.1 (FP.dsub lo hi).toNat (Nat.mul_le_mul_left _ ?_)) s1
      exact Nat.le_trans hq.1 (Nat.le_of_eq (Nat.one_mul _))
    have m3 : mg 1034 (FP.dmul (FP.dsub lo hi) q) := pw_mg (iv_pw (j := 11) b3 (by decide)) (by decide)
    have em : FP.dmul (FP.dneg (FP.dsub lo hi)) q = FP.dneg (FP.dmul (FP.dsub lo hi) q) := dmul_neg m1 m2 (by decide)
    have ea : FP.dadd lo (FP.dneg (FP.dmul (FP.dsub lo hi) q)) = FP.dsub lo (FP.dmul (FP.dsub lo hi) q) := by
      show FP.Core.dadd _ _ = FP.Core.dsub _ _
      rw [FP.Core.dsub_eq, ← FP.dneg_core]
      exact (FP.Core.notNaN_iff _).mpr (mg_nn m3 (by decide))
    rw [e, em, ea]
    exact ⟨mg_n64 (dneg_mg m1 (by decide)) (by decide), mg_n64 (dneg_mg m3 (by decide)) (by decide), iv_mono (iv_sub h1 b3.2 b5) (by decide), lw_mono (lw_sub (lw_mono l1 (by decide)) b4 h1.2 b3.2 b5 (by decide) (by decide)) (by decide)⟩
  · have b1 := iv_sub h2 h1.2 h
    have b2 : lw 756 (FP.dsub hi lo) := lw_mono (lw_sub l2 l1 h2.2 h1.2 h (by decide) (by decide)) (by decide)
    have b3 : iv 1024 (FP.dmul (FP.dsub hi lo) q) := iv_mono (iv_mul b1 hq (by decide)) (by decide)
    have b4 : lw 677 (FP.dmul (FP.dsub hi lo) q) := lw_mono (lw_mul b2 lq b1.2 hq.2 (by decide) (by decide) (by decide) (by decide)) (by decide)
    exact ⟨n64_of b1.2, n64_of b3.2, iv_mono (iv_add h1 b3 (by decide)) (by decide), lw_mono (lw_add (lw_mono l1 (by decide)) b4 h1.2 b3.2 (by decide)) (by decide)⟩
/-- the place of the first strength that is not below g -/
def isP (n : Nat) (G : Nat → Nat) (g : UInt64) (p : Nat) : Prop := p ≤ n ∧ (∀ j, j < p → (FP.i2d (nI (G j))).toNat < g.toNat) ∧ (p < n → g.toNat ≤ (FP.i2d (nI (G p))).toNat)
theorem isP_ex (G : Nat → Nat) (g : UInt64) : ∀ n, ∃ p, isP n G g p
  | 0 => ⟨0, Nat.le_refl _, fun j h => absurd h (Nat.not_lt_zero j), fun h => absurd h (Nat.not_lt_zero 0)⟩
  | n + 1 => by
    obtain ⟨p, h1, h2, h3⟩ := isP_ex G g n
    by_cases e : p < n
    · exact ⟨p, by omega, h2, fun _ => h3 e⟩
    · have e : p = n := by omega
      subst e
      by_cases c : g.toNat ≤ (FP.i2d (nI (G p))).toNat
      · exact ⟨p, by omega, h2, fun _ => c⟩
      · refine ⟨p + 1, Nat.le_refl _, fun j hj => ?_, fun h => absurd h (Nat.lt_irrefl _)⟩
        rcases Nat.lt_succ_iff_lt_or_eq.mp hj with q | q
        · exact h2 j q
        · subst q; omega
/-- a dye's strengths, as far as they matter here -/
def DyeOk (n : Nat) (G : Nat → Nat) (O : Nat → UInt64) : Prop := n ≤ 6 ∧ (∀ j, j < n → 1 ≤ G j ∧ G j ≤ 100000) ∧ (∀ j, j + 1 < n → G j < G (j + 1)) ∧ ∀ j, j < n → iv 1024 (O j) ∧ lw 808 (O j)
def dyeV (n : Nat) (G : Nat → Nat) (O : Nat → UInt64) (g : UInt64) (p : Nat) : UInt64 :=
  if p = 0 then FP.dmul (O 0) (FP.ddiv g (FP.i2d (nI (G 0))))
  else if p = n then FP.dmul (O (n - 1)) (FP.ddiv g (FP.i2d (nI (G (n - 1)))))
  else FP.dadd (O (p - 1)) (FP.dmul (FP.dsub (O p) (O (p - 1))) (FP.ddiv (FP.dsub g (FP.i2d (nI (G (p - 1))))) (FP.dsub (FP.i2d (nI (G p))) (FP.i2d (nI (G (p - 1)))))))
theorem dyeV_b {n : Nat} {G : Nat → Nat} {O : Nat → UInt64} {g : UInt64} {p cg : Nat} (h : DyeOk n G O) (hn : 1 ≤ n) (hp : isP n G g p) (hg : iv cg g) (lg : lw 1013 g) (hc : cg ≤ 10000000000) (hc2 : 2 ≤ cg) : iv (1024 * cg) (dyeV n G O g p) ∧ lw 625 (dyeV n G O g p) := by
  unfold dyeV
  split
  · obtain ⟨r1, r2⟩ := rt0_b hg lg (h.2.1 0 (by omega)).1 (h.2.1 0 (by omega)).2
    exact ctE_b (h.2.2.2 0 (by omega)).1 (h.2.2.2 0 (by omega)).2 r1 r2 hc
  split
  · obtain ⟨r1, r2⟩ := rt0_b hg lg (h.2.1 (n - 1) (by omega)).1 (h.2.1 (n - 1) (by omega)).2
    exact ctE_b (h.2.2.2 (n - 1) (by omega)).1 (h.2.2.2 (n - 1) (by omega)).2 r1 r2 hc
  · rename_i p0 pn
    have := hp.1
    have hgi := h.2.2.1 (p - 1) (by omega)
    rw [show p - 1 + 1 = p by omega] at hgi
    obtain ⟨_, _, r1, r2⟩ := rtm_b hg lg (h.2.1 (p - 1) (by omega)).1 (h.2.1 p (by omega)).2 hgi (hp.2.1 (p - 1) (by omega)) (hp.2.2 (by omega))
    obtain ⟨_, _, z1, z2⟩ := ctM_b (h.2.2.2 (p - 1) (by omega)).1 (h.2.2.2 p (by omega)).1 (h.2.2.2 (p - 1) (by omega)).2 (h.2.2.2 p (by omega)).2 r1 r2
    exact ⟨iv_mono z1 (by omega), z2⟩
/-! ===== stores: rows put at once; the class's mix ===== -/
theorem dadd_0 {q : UInt64} (h : fnn q) : FP.dadd q FP.dconst0 = q := by
  refine fnn_eq ?_
  have h1 := dadd_ex (m := q.toNat) h zero_f (Nat.le_of_lt h) (by rw [zero_n, un_0, Nat.add_zero])
  rw [h1]
def fstP (G : Nat → Nat) (g : UInt64) : Nat → Nat
  | 0 => 0
  | n + 1 => if fstP G g n < n then fstP G g n else if g.toNat ≤ (FP.i2d (nI (G n))).toNat then n else n + 1
theorem fstP_is (G : Nat → Nat) (g : UInt64) : ∀ n, isP n G g (fstP G g n)
  | 0 => ⟨Nat.le_refl _, fun j h => absurd h (Nat.not_lt_zero j), fun h => absurd h (Nat.not_lt_zero 0)⟩
  | n + 1 => by
    obtain ⟨h1, h2, h3⟩ := fstP_is G g n
    unfold fstP
    by_cases e : fstP G g n < n
    · rw [if_pos e]
      exact ⟨by omega, h2, fun _ => h3 e⟩
    · rw [if_neg e]
      have e2 : fstP G g n = n := by omega
      rw [e2] at h2
      by_cases c : g.toNat ≤ (FP.i2d (nI (G n))).toNat
      · rw [if_pos c]
        exact ⟨by omega, h2, fun _ => c⟩
      · rw [if_neg c]
        refine ⟨Nat.le_refl _, fun j hj => ?_, fun h => absurd h (Nat.lt_irrefl _)⟩
        rcases Nat.lt_succ_iff_lt_or_eq.mp hj with q | q
        · exact h2 j q
        · subst q; omega
def dyeC (n : Nat) (G : Nat → Nat) (O : Nat → UInt64) (g : UInt64) : UInt64 := if n = 0 then FP.dconst0 else if g.toNat = 0 then FP.dconst0 else dyeV n G O g (fstP G g n)
theorem dyeC_b {n : Nat} {G : Nat → Nat} {O : Nat → UInt64} {g : UInt64} {cg : Nat} (h : DyeOk n G O) (hg : iv cg g) (lg : lw 1013 g) (hc : cg ≤ 10000000000) (hc2 : 2 ≤ cg) : iv (1024 * cg) (dyeC n G O g) ∧ lw 625 (dyeC n G O g) := by
  unfold dyeC
  split
  · exact ⟨iv_zero, lw_zero⟩
  split
  · exact ⟨iv_zero, lw_zero⟩
  · exact dyeV_b h (by omega) (fstP_is G g n) hg lg hc hc2
theorem ixc {n N : Nat} (h : n < N) (hN : N ≤ 2 ^ 31) : 0 ≤ (nI n).toInt ∧ (nI n).toInt < (N : Int) := by
  rw [nI_toInt (by omega)]; omega
theorem ixz {N : Nat} (h : 0 < N) : 0 ≤ (0 : Int32).toInt ∧ (0 : Int32).toInt < (N : Int) := ⟨by decide, by rw [show (0 : Int32).toInt = 0 from rfl]; omega⟩
theorem nI_cl {n : Nat} (h : n < 2 ^ 31) : (nI n).toNatClampNeg = n := by
  show (nI n).toInt.toNat = n
  rw [nI_toInt h]; rfl
theorem nI_s (n : Nat) : nI n + Int32.ofInt 1 = nI (n + 1) := nI_1 n
theorem nI_gt {N n : Nat} (hN : N < 2 ^ 31) (h : n < N) : ¬ nI N ≤ nI n := fun q => by
  have := (nI_leI hN (by omega)).mp q; omega
def putD (s : Sto) (f i n : Nat) (v : Nat → UInt64) : Sto := (s.1, s.2.1, s.2.2.1, fun a b c => if a = f ∧ b = i ∧ c < n then v c else s.2.2.2 a b c)
def putF (s : Sto) (f i n : Nat) (v : Nat → UInt32) : Sto := (s.1, fun a b c => if a = f ∧ b = i ∧ c < n then v c else s.2.1 a b c, s.2.2.1, s.2.2.2)
theorem putD_0 (s : Sto) (f i : Nat) (v : Nat → UInt64) : putD s f i 0 v = s := by
  obtain ⟨a, b, c, d⟩ := s
  refine Prod.ext rfl (Prod.ext rfl (Prod.ext rfl ?_))
  funext x y z
  exact if_neg (fun h => Nat.not_lt_zero z h.2.2)
theorem putF_0 (s : Sto) (f i : Nat) (v : Nat → UInt32) : putF s f i 0 v = s := by
  obtain ⟨a, b, c, d⟩ := s
  refine Prod.ext rfl (Prod.ext ?_ rfl)
  funext x y z
  exact if_neg (fun h => Nat.not_lt_zero z h.2.2)
theorem putD_s (s : Sto) (f i n : Nat) (v : Nat → UInt64) : sD (putD s f i n v) f i n (v n) = putD s f i (n + 1) v := by
  refine Prod.ext rfl (Prod.ext rfl (Prod.ext rfl ?_))
  funext x y z
  show (if x = f ∧ y = i ∧ z = n then v n else if x = f ∧ y = i ∧ z < n then v z else s.2.2.2 x y z) = if x = f ∧ y = i ∧ z < n + 1 then v z else s.2.2.2 x y z
  by_cases h : x = f ∧ y = i
  · by_cases h2 : z = n
    · rw [if_pos ⟨h.1, h.2, h2⟩, if_pos ⟨h.1, h.2, by omega⟩, h2]
    · rw [if_neg (fun q => h2 q.2.2)]
      by_cases h3 : z < n
      · rw [if_pos ⟨h.1, h.2, h3⟩, if_pos ⟨h.1, h.2, by omega⟩]
      · rw [if_neg (fun q => h3 q.2.2), if_neg (fun q => h3 (by omega))]
  · rw [if_neg (fun q => h ⟨q.1, q.2.1⟩), if_neg (fun q => h ⟨q.1, q.2.1⟩), if_neg (fun q => h ⟨q.1, q.2.1⟩)]
theorem putF_s (s : Sto) (f i n : Nat) (v : Nat → UInt32) : sF (putF s f i n v) f i n (v n) = putF s f i (n + 1) v := by
  refine Prod.ext rfl (Prod.ext ?_ rfl)
  funext x y z
  show (if x = f ∧ y = i ∧ z = n then v n else if x = f ∧ y = i ∧ z < n then v z else s.2.1 x y z) = if x = f ∧ y = i ∧ z < n + 1 then v z else s.2.1 x y z
  by_cases h : x = f ∧ y = i
  · by_cases h2 : z = n
    · rw [if_pos ⟨h.1, h.2, h2⟩, if_pos ⟨h.1, h.2, by omega⟩, h2]
    · rw [if_neg (fun q => h2 q.2.2)]
      by_cases h3 : z < n
      · rw [if_pos ⟨h.1, h.2, h3⟩, if_pos ⟨h.1, h.2, by omega⟩]
      · rw [if_neg (fun q => h3 q.2.2), if_neg (fun q => h3 (by omega))]
  · rw [if_neg (fun q => h ⟨q.1, q.2.1⟩), if_neg (fun q => h ⟨q.1, q.2.1⟩), if_neg (fun q => h ⟨q.1, q.2.1⟩)]
theorem putD_g {s : Sto} {f i n a b c : Nat} {v : Nat → UInt64} (h : ¬ (a = f ∧ b = i ∧ c < n)) : gD (putD s f i n v) a b c = gD s a b c := if_neg h
theorem putD_h {s : Sto} {f i n c : Nat} {v : Nat → UInt64} (h : c < n) : gD (putD s f i n v) f i c = v c := if_pos ⟨rfl, rfl, h⟩
theorem putF_g {s : Sto} {f i n a b c : Nat} {v : Nat → UInt32} (h : ¬ (a = f ∧ b = i ∧ c < n)) : gF (putF s f i n v) a b c = gF s a b c := if_neg h
theorem putF_h {s : Sto} {f i n c : Nat} {v : Nat → UInt32} (h : c < n) : gF (putF s f i n v) f i c = v c := if_pos ⟨rfl, rfl, h⟩
theorem putD_p (s : Sto) (f i n : Nat) (v w : Nat → UInt64) : putD (putD s f i n v) f i n w = putD s f i n w := by
  refine Prod.ext rfl (Prod.ext rfl (Prod.ext rfl ?_))
  funext x y z
  show (if x = f ∧ y = i ∧ z < n then w z else if x = f ∧ y = i ∧ z < n then v z else s.2.2.2 x y z) = if x = f ∧ y = i ∧ z < n then w z else s.2.2.2 x y z
  split <;> rfl
theorem putD_e {s : Sto} {f i n : Nat} {v w : Nat → UInt64} (h : ∀ k, k < n → v k = w k) : putD s f i n v = putD s f i n w := by
  refine Prod.ext rfl (Prod.ext rfl (Prod.ext rfl ?_))
  funext x y z
  show (if x = f ∧ y = i ∧ z < n then v z else s.2.2.2 x y z) = if x = f ∧ y = i ∧ z < n then w z else s.2.2.2 x y z
  by_cases q : x = f ∧ y = i ∧ z < n
  · rw [if_pos q, if_pos q, h z q.2.2]
  · rw [if_neg q, if_neg q]
theorem putD_self {s : Sto} {f i n : Nat} {v : Nat → UInt64} (h : ∀ k, k < n → v k = gD s f i k) : putD s f i n v = s := by
  obtain ⟨a, b, c, d⟩ := s
  refine Prod.ext rfl (Prod.ext rfl (Prod.ext rfl ?_))
  funext x y z
  show (if x = f ∧ y = i ∧ z < n then v z else d x y z) = d x y z
  by_cases q : x = f ∧ y = i ∧ z < n
  · rw [if_pos q, h z q.2.2, q.1, q.2.1]; rfl
  · rw [if_neg q]
/-- sixteen turns that each put one double -/
theorem loopD {body : Int32 × Sto → Option ((Int32 × Sto) ⊕ Sto)} {s : Sto} {f i : Nat} (v : Nat → UInt64) (N : Nat) (hN : N < 4000) (hs : ∀ k, k < N → body (nI k, putD s f i k v) = some (.inl (nI (k + 1), sD (putD s f i k v) f i k (v k)))) (hx : body (nI N, putD s f i N v) = some (.inr (putD s f i N v))) : lp body 4000 ((0 : Int32), s) = some (putD s f i N v) := by
  have h := lp_seq (body := body) (fun k => (nI k, putD s f i k v)) (r := putD s f i N v) N 4000 0 (fun j _ hj => by
    rw [hs j (by omega)]
    rw [putD_s]) (by rw [Nat.zero_add]; exact hx) hN
  rw [putD_0] at h
  exact h
theorem loopF {body : Int32 × Sto → Option ((Int32 × Sto) ⊕ Sto)} {s : Sto} {f i : Nat} (v : Nat → UInt32) (N : Nat) (hN : N < 4000) (hs : ∀ k, k < N → body (nI k, putF s f i k v) = some (.inl (nI (k + 1), sF (putF s f i k v) f i k (v k)))) (hx : body (nI N, putF s f i N v) = some (.inr (putF s f i N v))) : lp body 4000 ((0 : Int32), s) = some (putF s f i N v) := by
  have h := lp_seq (body := body) (fun k => (nI k, putF s f i k v)) (r := putF s f i N v) N 4000 0 (fun j _ hj => by
    rw [hs j (by omega)]
    rw [putF_s]) (by rw [Nat.zero_add]; exact hx) hN
  rw [putF_0] at h
  exact h
