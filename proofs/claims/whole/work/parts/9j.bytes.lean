/-! ===== bytes, and a row packed ===== -/
theorem byte_of (x : Int32) : ∃ b, b < 256 ∧ x &&& 255 = nI b := by
  obtain ⟨n, _, rfl⟩ := wb_of32 x
  exact ⟨n % 256, Nat.mod_lt _ (by decide), fa_mask n 8⟩
theorem byte_and {b : Nat} (h : b < 256) : nI b &&& 255 = nI b := (fa_mask b 8).trans (by rw [Nat.mod_eq_of_lt (by omega)])
theorem byte_mand {b : Nat} (h : b < 256) : (nI b).toInt8.toInt32 &&& 255 = nI b := (bp_b (nI b)).trans (byte_and h)
theorem byte_8 (x : Int32) : x.toInt8.toInt32.toInt8 = x.toInt8 := by rw [← fa_byte_low, bp_b, fa_byte_low]
theorem byte_sh (v : Int32) {s : Nat} (hs : s ≤ 24) : ((v.toUInt32 >>> ((nI s).toUInt32 &&& Int32.toUInt32 31)).toInt32 &&& 255) = (v >>> (nI s &&& 31)) &&& 255 := b_ext fun i hi => by
  rw [b_and, b_and, b_255, b_ushr s (by omega), b_sshr s (by omega) v hi]
  by_cases q : i < 8
  · rw [if_pos (by omega)]
  · rw [decide_eq_false q, Bool.and_false, Bool.and_false]
/-- byte k of a word, as the class keeps it -/
def xB (v : Int32) (k : Nat) : Int32 := ((v.toUInt32 >>> (((24 : Int32) - ((8 : Int32) * nI k)).toUInt32 &&& Int32.toUInt32 31)).toInt32) &&& (255 : Int32)
/-- byte k of a word, as the reference keeps it -/
def mB (v : Int32) (k : Nat) : Int32 := (v >>> (((24 : Int32) - ((8 : Int32) * nI k)) &&& 31)).toInt8.toInt32
theorem byte_both (v : Int32) {k : Nat} (hk : k < 4) : ∃ b, b < 256 ∧ xB v k = nI b ∧ mB v k = (nI b).toInt8.toInt32 := by
  unfold xB mB
  have e : (24 : Int32) - ((8 : Int32) * nI k) = nI (24 - 8 * k) := by
    show nI 24 - nI 8 * nI k = _
    rw [pk_mul, pk_sub (by omega)]
  rw [e]
  obtain ⟨b, h1, h2⟩ := byte_of (v >>> (nI (24 - 8 * k) &&& 31))
  refine ⟨b, h1, (byte_sh v (by omega)).trans h2, ?_⟩
  rw [← h2, fa_byte_low]
theorem ex_bind {α β : Type} {o : Option α} {K : α → Option β} {P : α → Prop} {Q : β → Prop} (h : ∃ r, o = some r ∧ P r) (k : ∀ r, P r → ∃ u, K r = some u ∧ Q u) : ∃ u, o.bind K = some u ∧ Q u := by
  obtain ⟨r, rfl, h⟩ := h
  exact k r h
/-- t has family f's cells o .. o+n-1 as c gives them, else is s -/
def Fill (f o n : Nat) (c : Nat → Int32) (s t : Sto) : Prop := (∀ g i j, gI t g i j = if g = f ∧ i = 0 ∧ o ≤ j ∧ j < o + n then c (j - o) else gI s g i j) ∧ gF t = gF s ∧ gD t = gD s ∧ gL t = gL s
theorem Fill_0 (f o : Nat) (c : Nat → Int32) (s : Sto) : Fill f o 0 c s s := ⟨fun g i j => by rw [if_neg (by omega)], rfl, rfl, rfl⟩
theorem Fill_s {f o n : Nat} {c : Nat → Int32} {s t : Sto} (h : Fill f o n c s t) : Fill f o (n + 1) c s (sI t f 0 (o + n) (c n)) := ⟨fun g i j => by
  rw [gI_sI, h.1]
  by_cases q : g = f ∧ i = 0 ∧ j = o + n
  · rw [if_pos q, if_pos (by omega), show j - o = n by omega]
  · rw [if_neg q]
    by_cases r : g = f ∧ i = 0 ∧ o ≤ j ∧ j < o + n
    · rw [if_pos r, if_pos (by omega)]
    · rw [if_neg r, if_neg (by omega)], h.2⟩
theorem Fill_a {f o n k : Nat} {c d : Nat → Int32} {s t u : Sto} (h : Fill f o n c s t) (g : Fill f (o + n) k d t u) (e : ∀ j, j < k → d j = c (n + j)) : Fill f o (n + k) c s u := ⟨fun a i j => by
  rw [g.1, h.1]
  by_cases q : a = f ∧ i = 0 ∧ o + n ≤ j ∧ j < o + n + k
  · rw [if_pos q, if_pos (by omega), e _ (by omega), show n + (j - (o + n)) = j - o by omega]
  · rw [if_neg q]
    by_cases r : a = f ∧ i = 0 ∧ o ≤ j ∧ j < o + n
    · rw [if_pos r, if_pos (by omega)]
    · rw [if_neg r, if_neg (by omega)], g.2.1.trans h.2.1, g.2.2.1.trans h.2.2.1, g.2.2.2.trans h.2.2.2⟩
theorem xPut (v : Int32) {t : Sto} {o : Nat} (ho : o + 4 ≤ 68) : ∃ u, fX5_put (nI o) v t = some u ∧ Fill 52 o 4 (xB v) t u := by
  unfold fX5_put
  refine ex_bind (lp_inv (fun k (s : Int32 × Sto) => s.1 = nI k ∧ Fill 52 o k (xB v) t s.2) (fun r => Fill 52 o 4 (xB v) t r) 4 (fun k s hk hI => ?_) 4 4000 0 _ rfl ⟨rfl, Fill_0 _ _ _ _⟩ (by decide)) (fun r hr => ⟨r, rfl, hr⟩)
  obtain ⟨s1, s2⟩ := s
  obtain ⟨hI1, hI2⟩ := hI
  have hI1 : s1 = nI k := hI1
  subst hI1
  dsimp only [un2]
  by_cases q : k = 4
  · subst q
    exact Or.inl ⟨s2, if_pos (show nI 4 ≤ nI 4 by decide), hI2⟩
  · refine Or.inr ⟨by omega, (nI (k + 1), sI s2 52 0 (o + k) (xB v k)), ?_, rfl, Fill_s hI2⟩
    rw [if_neg (show ¬ (4 : Int32) ≤ nI k from nI_gt (N := 4) (by decide) (by omega)), nI_add, show lIX 52 0 = 68 from rfl, ck_t (by exact ixl (by omega) (by omega)), nI_cl (by omega), lt1_e, lt1_e, nI_s]
    rfl
theorem mFour (v : Int32) {t : Sto} {o : Nat} (ho : o + 4 ≤ 68) : ∃ u, fX12_four (nI o) v t = some u ∧ Fill 74 o 4 (mB v) t u := by
  unfold fX12_four
  refine ex_bind (lp_inv (fun k (s : Int32 × Sto) => s.1 = nI k ∧ Fill 74 o k (mB v) t s.2) (fun r => Fill 74 o 4 (mB v) t r) 4 (fun k s hk hI => ?_) 4 4000 0 _ rfl ⟨rfl, Fill_0 _ _ _ _⟩ (by decide)) (fun r hr => ⟨r, rfl, hr⟩)
  obtain ⟨s1, s2⟩ := s
  obtain ⟨hI1, hI2⟩ := hI
  have hI1 : s1 = nI k := hI1
  subst hI1
  dsimp only [un2]
  by_cases q : k = 4
  · subst q
    exact Or.inl ⟨s2, if_pos (show nI 4 ≤ nI 4 by decide), hI2⟩
  · refine Or.inr ⟨by omega, (nI (k + 1), sI s2 74 0 (o + k) (mB v k)), ?_, rfl, Fill_s hI2⟩
    rw [if_neg (show ¬ (4 : Int32) ≤ nI k from nI_gt (N := 4) (by decide) (by omega)), nI_add, show lBM 74 0 = 68 from rfl, ck_t (by exact ixl (by omega) (by omega)), nI_cl (by omega), vp_nar_byte, byte_8, lt1_e, lt1_e, nI_s]
    rfl
/-- the sum of the first n bytes -/
def hsum (c : Nat → Int32) : Nat → Int32
  | 0 => 17
  | n + 1 => hsum c n * 31 + c n
theorem hsum_c {c d : Nat → Int32} : ∀ n, (∀ k, k < n → c k = d k) → hsum c n = hsum d n
  | 0, _ => rfl
  | n + 1, h => by
    show hsum c n * 31 + c n = hsum d n * 31 + d n
    rw [hsum_c n (fun k hk => h k (by omega)), h n (by omega)]
theorem xSum {t : Sto} {f i : Nat} (hl : lIX f i = 68) : fX5_sumOf f i t = some (hsum (fun q => gI t f i q) 64) := by
  unfold fX5_sumOf
  refine (congrArg (fun o => Option.bind o _) (lp_seq0 (fun k => (nI k, hsum (fun q => gI t f i q) k)) (r := hsum (fun q => gI t f i q) 64) 64 4000 rfl (fun k hk => ?_) ?_ (by decide))).trans ?_
  · dsimp only [un2]
    rw [if_neg (show ¬ (64 : Int32) ≤ nI k from nI_gt (N := 64) (by decide) hk), hl, ck_t (by exact ixl (by omega) (by omega)), nI_cl (by omega), lt1_e, lt1_e, nI_s]
    rfl
  · dsimp only [un2]
    exact if_pos (show nI 64 ≤ nI 64 by decide)
  · rw [Option.bind_some]
theorem mSum {t : Sto} {f i : Nat} {c : Nat → Int32} (hl : lBM f i = 68) (hc : ∀ q, q < 64 → gI t f i q &&& 255 = c q) : fX12_sumOf f i t = some (hsum c 64) := by
  unfold fX12_sumOf
  refine (congrArg (fun o => Option.bind o _) (lp_seq0 (fun k => (nI k, hsum c k)) (r := hsum c 64) 64 4000 rfl (fun k hk => ?_) ?_ (by decide))).trans ?_
  · dsimp only [un2]
    rw [if_neg (show ¬ (64 : Int32) ≤ nI k from nI_gt (N := 64) (by decide) hk), hl, ck_t (by exact ixl (by omega) (by omega)), nI_cl (by omega), hc k hk, lt1_e, lt1_e, nI_s, Int32.mul_comm]
    rfl
  · dsimp only [un2]
    exact if_pos (show nI 64 ≤ nI 64 by decide)
  · rw [Option.bind_some]
theorem Cur_mail {x y m n : Sto} (a1 : ∀ f i j, (f = 0 ∧ j < 19) ∨ f = 12 ∨ f = 16 ∨ f = 35 ∨ f = 37 ∨ f = 50 ∨ f = 51 → gI y f i j = gI x f i j) (a2 : ∀ f i j, f = 1 ∨ f = 2 → gF y f i j = gF x f i j) (a3 : ∀ f i j, f = 13 ∨ f = 16 → gD y f i j = gD x f i j) (a4 : gL y = gL x) (b1 : ∀ f i j, (f = 0 ∧ (j = 8 ∨ j = 32 ∨ j = 52 ∨ j = 55 ∨ j = 57 ∨ j = 71)) ∨ (27 ≤ f ∧ f ≤ 32) ∨ f = 64 ∨ f = 70 → gI n f i j = gI m f i j) (b2 : ∀ j, j < 16 ∨ (784 ≤ j ∧ j < 800) → gF n 1 0 j = gF m 1 0 j) (b3 : gD n 0 0 64 = gD m 0 0 64) (b4 : gL n 0 0 65 = gL m 0 0 65) (hE : CurE y n) (h : Cur x m) : Cur y n := by
  have h0 := Cur_f (x := x) (y := (fun a b c => if a = 17 ∨ a = 52 ∨ a = 53 then gI x a b c else gI y a b c, y.2)) (m := m) (n := (fun a b c => if a = 74 ∨ a = 75 ∨ (a = 0 ∧ c = 75) then gI m a b c else gI n a b c, n.2)) ⟨fun f i j q => ?_, a2, a3, a4⟩ ⟨fun f i j q => ?_, b2, b3, b4⟩ h
  · obtain ⟨hA, hB, hC, hD, _⟩ := h0
    exact ⟨hA, hB, hC, hD, hE⟩
  · by_cases z : f = 17 ∨ f = 52 ∨ f = 53
    · exact if_pos z
    · exact (if_neg z).trans (a1 f i j (by omega))
  · by_cases z : f = 74 ∨ f = 75 ∨ (f = 0 ∧ j = 75)
    · exact if_pos z
    · exact (if_neg z).trans (b1 f i j (by omega))
