/-! ===== a candidate's row and gap, by the class ===== -/
def mRow (t : Sto) (c N : Nat) (pc : Nat → Nat → UInt64) (k : Nat) : UInt32 := bandV (qSum (qtn (gF t 6 c k)) (fun p => pc p k) N)
def PcOk (N : Nat) (pc : Nat → Nat → UInt64) : Prop := ∀ k, k < 16 → ∀ p, p < N → iv 10240000000000 (pc p k) ∧ lw 625 (pc p k)
theorem mQ_b {t : Sto} {c N : Nat} {pc : Nat → Nat → UInt64} (hx : CoreOk t) (hc : c < cN t 1) (N10 : N ≤ 10) (hpc : PcOk N pc) {k : Nat} (hk : k < 16) : ∀ n, n ≤ N → iv (1024 + 10 * 10240000000000) (qSum (qtn (gF t 6 c k)) (fun p => pc p k) n) ∧ lw 625 (qSum (qtn (gF t 6 c k)) (fun p => pc p k) n) := fun n hn => by
  obtain ⟨_, _, q1, q2⟩ := qtn_b (hx.2.2.1 c hc k hk)
  obtain ⟨s1, s2⟩ := qSum_b ⟨q1, lw_mono q2 (show 625 ≤ 860 by decide)⟩ (N := N) (by omega) (hpc k hk) n hn
  exact ⟨iv_mono s1 (by omega), s2⟩
theorem mRow_b {t : Sto} {c N : Nat} {pc : Nat → Nat → UInt64} (hx : CoreOk t) (hc : c < cN t 1) (N10 : N ≤ 10) (hpc : PcOk N pc) {k : Nat} (hk : k < 16) : fl2 (mRow t c N pc k) ∧ fX12_bandOf (qSum (qtn (gF t 6 c k)) (fun p => pc p k) N) = some (mRow t c N pc k) := by
  obtain ⟨s1, s2⟩ := mQ_b hx hc N10 hpc hk N (Nat.le_refl _)
  have := bandV_b s1 (by decide) (lw_mono s2 (show 600 ≤ 625 by decide))
  exact ⟨this.1, this.2.1⟩
theorem xMade {t m : Sto} {l e c N : Nat} {pc : Nat → Nat → UInt64} {gr : Nat → UInt32} (hB : CurB t m) (hx : CoreOk t) (hl : l < 6) (he : e < 2) (hc : c < cN t 1) (N10 : N ≤ 10) (hpc : PcOk N pc) (ha : Aim t (Wt t l e)) (hg : ∀ k, k < 3 → gD t 41 0 k = colV gr (Wt t l e) k) (hgr : ∀ k, k < 16 → fl2 (gr k)) : ∃ y, (∀ {β : Type} (K : UInt64 × Sto → Option β), ((fX6_result (putD t 43 0 16 (fun k => qSum (qtn (gF t 6 c k)) (fun p => pc p k) N))).bind (un2 fun (v35 : (Nat × Nat)) (t36 : Sto) => un2 (fun (qf38 qi39 : Nat) => (fX9_gapTo qf38 qi39 t36).bind K) v35)) = K (gapO t l e gr (mRow t c N pc), y)) ∧ SameX t y ∧ Aim y (Wt t l e) ∧ ∀ k, k < 3 → gD y 41 0 k = colV gr (Wt t l e) k := by
  have hres := xResult (st := putD t 43 0 16 (fun k => qSum (qtn (gF t 6 c k)) (fun p => pc p k) N)) (c := 1024 + 10 * 10240000000000) (by decide) (fun k hk => by
    rw [putD_h hk]
    obtain ⟨s1, s2⟩ := mQ_b hx hc N10 hpc hk N (Nat.le_refl _)
    exact ⟨s1, lw_mono s2 (by decide)⟩)
  have hS : SameX t (putF (putD t 43 0 16 (fun k => qSum (qtn (gF t 6 c k)) (fun p => pc p k) N)) 44 0 16 (fun k => bandV (gD (putD t 43 0 16 (fun k => qSum (qtn (gF t 6 c k)) (fun p => pc p k) N)) 43 0 k))) := SameX_t (SameX_pD (by decide)) SameX_pF
  have hA : Aim (putF (putD t 43 0 16 (fun k => qSum (qtn (gF t 6 c k)) (fun p => pc p k) N)) 44 0 16 (fun k => bandV (gD (putD t 43 0 16 (fun k => qSum (qtn (gF t 6 c k)) (fun p => pc p k) N)) 43 0 k))) (Wt t l e) := Aim_F (Aim_D ha (by decide) (by decide))
  have h41 : ∀ k, k < 3 → gD (putF (putD t 43 0 16 (fun k => qSum (qtn (gF t 6 c k)) (fun p => pc p k) N)) 44 0 16 (fun k => bandV (gD (putD t 43 0 16 (fun k => qSum (qtn (gF t 6 c k)) (fun p => pc p k) N)) 43 0 k))) 41 0 k = colV gr (Wt t l e) k := fun k hk => by
    show gD (putD t 43 0 16 (fun k => qSum (qtn (gF t 6 c k)) (fun p => pc p k) N)) 41 0 k = _
    rw [putD_g (by omega)]; exact hg k hk
  have h44 : ∀ k, k < 16 → gF (putF (putD t 43 0 16 (fun k => qSum (qtn (gF t 6 c k)) (fun p => pc p k) N)) 44 0 16 (fun k => bandV (gD (putD t 43 0 16 (fun k => qSum (qtn (gF t 6 c k)) (fun p => pc p k) N)) 43 0 k))) 44 0 k = mRow t c N pc k := fun k hk => by
    rw [putF_h hk, putD_h hk]; rfl
  generalize putF (putD t 43 0 16 (fun k => qSum (qtn (gF t 6 c k)) (fun p => pc p k) N)) 44 0 16 (fun k => bandV (gD (putD t 43 0 16 (fun k => qSum (qtn (gF t 6 c k)) (fun p => pc p k) N)) 43 0 k)) = z at hres hS hA h41 h44
  have hgap := xGapR (f := 44) (i := 0) hB hl he hS hA (by decide) h44 (fun k hk => (mRow_b hx hc N10 hpc hk).1) h41 hgr
  refine ⟨putD z 42 0 3 (colV (mRow t c N pc) (Wt t l e)), fun K => ?_, SameX_t hS (SameX_pD (by decide)), Aim_D hA (by decide) (by decide), fun k hk => by rw [putD_g (by omega)]; exact h41 k hk⟩
  rw [hres, Option.bind_some]
  dsimp only [un2]
  rw [hgap, Option.bind_some]
/-- search o holds a candidate: s of its things, their places i in the list, names d, times g; steps of st grams -/
def Cd (o : Nat) (t : Sto) (s st : Nat) (i d g : Nat → Nat) : Prop := gI t 16 o 9 = nI s ∧ gI t 16 o 5 = nI st ∧ ∀ k, k < s → gI t 48 o k = nI (i k) ∧ i k < 20 ∧ gI t 45 o (i k) = nI (d k) ∧ gI t 49 o k = nI (g k)
theorem Cd_I {o s st : Nat} {t y : Sto} {i d g : Nat → Nat} (h : Cd o t s st i d g) (e : ∀ f b j, f = 16 ∨ (45 ≤ f ∧ f ≤ 49) → ¬ (f = 16 ∧ j ≠ 9 ∧ j ≠ 5) → gI y f b j = gI t f b j) : Cd o y s st i d g := ⟨(e _ _ _ (by decide) (by decide)).trans h.1, (e _ _ _ (by decide) (by decide)).trans h.2.1, fun k hk => by
  obtain ⟨h1, h2, h3, h4⟩ := h.2.2 k hk
  exact ⟨(e _ _ _ (by decide) (by omega)).trans h1, h2, (e _ _ _ (by decide) (by omega)).trans h3, (e _ _ _ (by decide) (by omega)).trans h4⟩⟩
theorem xNameAt {o s st : Nat} {t : Sto} {i d g : Nat → Nat} (ho : o < 2) (h : Cd o t s st i d g) (s3 : s ≤ 3) {k : Nat} (hk : k < s) : fX8_nameAt o (nI k) t = some (nI (d k)) := by
  obtain ⟨h1, h2, h3, h4⟩ := h.2.2 k hk
  unfold fX8_nameAt
  rw [lI48 ho, lI45 ho, ck_t (by exact ixl (by omega) (by omega)), nI_cl (by omega), h1, ck_t (by exact ixl (by omega) (by omega)), nI_cl (by omega), h3]
theorem xGramsAt {o s st : Nat} {t : Sto} {i d g : Nat → Nat} (ho : o < 2) (h : Cd o t s st i d g) (s3 : s ≤ 3) {k : Nat} (hk : k < s) : fX8_gramsAt o (nI k) t = some (nI (g k * st)) := by
  obtain ⟨h1, h2, h3, h4⟩ := h.2.2 k hk
  unfold fX8_gramsAt
  rw [lI49 ho, ck_t (by exact ixl (by omega) (by omega)), nI_cl (by omega), h4, h.2.1, pk_mul]
/-- what a candidate of dyes costs -/
def cstV (t : Sto) (d G : Nat → Nat) : Nat → Int64
  | 0 => 0
  | n + 1 => cstV t d G n + (nI (G n)).toInt64 * (gI t 22 (d n) 1).toInt64
theorem xTry {t m : Sto} {l e c s st : Nat} {i d g : Nat → Nat} {gr : Nat → UInt32} (hB : CurB t m) (hx : CoreOk t) (hl : l < 6) (he : e < 2) (hc : c < cN t 1) (s3 : s ≤ 3) (hd : ∀ k, k < s → d k < cN t 2) (hgs : ∀ k, k < s → g k * st ≤ 10000000) (hC : Cd 0 t s st i d g) (ha : Aim t (Wt t l e)) (hg : ∀ k, k < 3 → gD t 41 0 k = colV gr (Wt t l e) k) (hgr : ∀ k, k < 16 → fl2 (gr k)) : ∃ y, fX11_tryRecipe 6 c t = (fX8_judge 0 (gapO t l e gr (mRow t c s (fun p => partC t 2 (d p) (g p * st)))) (cstV t d (fun p => g p * st) s) y).bind some ∧ SameX t y ∧ Aim y (Wt t l e) ∧ ∀ k, k < 3 → gD y 41 0 k = colV gr (Wt t l e) k := by
  have c8 : c < 8 := Nat.lt_of_lt_of_le hc (hx.1 1 (by decide)).2
  have c12 : cN t 2 ≤ 12 := (hx.1 2 (by decide)).2
  have hpc : PcOk s (fun p => partC t 2 (d p) (g p * st)) := fun k hk p hp => partC_b hx (hgs p hp) hk
  obtain ⟨y, y1, y2, y3, y4⟩ := xMade hB hx hl he hc (by omega) hpc ha hg hgr
  refine ⟨y, ?_, y2, y3, y4⟩
  unfold fX11_tryRecipe
  rw [xBegin (show lFX 6 c = 16 from if_pos c8) (fun k hk => hx.2.2.1 c hc k hk), Option.bind_some]
  have hSp : ∀ p, SameX t (putD t 43 0 16 (fun k => qSum (qtn (gF t 6 c k)) (fun p => partC t 2 (d p) (g p * st) k) p)) := fun p => SameX_pD (by decide)
  refine (congrArg (fun o => Option.bind o _) (lp_seq0 (fun p => (nI p, cstV t d (fun p => g p * st) p, putD t 43 0 16 (fun k => qSum (qtn (gF t 6 c k)) (fun p => partC t 2 (d p) (g p * st) k) p))) (r := (cstV t d (fun p => g p * st) s, putD t 43 0 16 (fun k => qSum (qtn (gF t 6 c k)) (fun p => partC t 2 (d p) (g p * st) k) s))) s 4000 rfl (fun p hp => ?_) ?_ (by omega))).trans ?_
  · dsimp only [un3]
    have hdp := hd p hp
    have gp := hgs p hp
    have hT := hSp p
    have hm := xPart (CoreOk_S hT hx) (a := 2) (w := d p) (g := g p * st) (c := 1024 + 10 * 10240000000000) (Or.inr rfl) (by omega) gp (fun k hk => by
      rw [putD_h hk]
      exact (mQ_b hx hc (by omega) hpc hk p (by omega)).1) (by decide)
    have C1 : Cd 0 (putD t 43 0 16 (fun k => qSum (qtn (gF t 6 c k)) (fun p => partC t 2 (d p) (g p * st) k) p)) s st i d g := hC
    have C2 : ∀ v, Cd 0 (putD (putD t 43 0 16 (fun k => qSum (qtn (gF t 6 c k)) (fun p => partC t 2 (d p) (g p * st) k) p)) 43 0 16 v) s st i d g := fun _ => hC
    have e9 : gI (putD t 43 0 16 (fun k => qSum (qtn (gF t 6 c k)) (fun p => partC t 2 (d p) (g p * st) k) p)) 16 0 9 = nI s := hC.1
    rw [e9, if_neg (nI_gt (by omega) hp), xNameAt (by decide) C1 s3 hp, Option.bind_some, xGramsAt (by decide) C1 s3 hp, Option.bind_some, nI_64 (by omega), show fX11_mixPart (2 : Int32) (nI (d p)) (lN (g p * st)) _ = _ from hm, Option.bind_some, xGramsAt (by decide) (C2 _) s3 hp, Option.bind_some, xNameAt (by decide) (C2 _) s3 hp, Option.bind_some, ck_t (by exact ixl (by omega) (by omega)), nI_cl (by omega), lt1_e, lt1_e, nI_s, putD_p]
    refine congrArg (fun s => some (Sum.inl (nI (p + 1), cstV t d (fun p => g p * st) (p + 1), s))) (putD_e fun k hk => ?_)
    rw [putD_h hk, partC_S hT]
    rfl
  · dsimp only [un3]
    have e9 : gI (putD t 43 0 16 (fun k => qSum (qtn (gF t 6 c k)) (fun p => partC t 2 (d p) (g p * st) k) s)) 16 0 9 = nI s := hC.1
    rw [e9, if_pos (Int32.le_refl _)]
  · rw [Option.bind_some]
    dsimp only [un2]
    exact y1 _
