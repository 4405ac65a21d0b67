/-! ===== one bath tried ===== -/
theorem xGramsOf {o s st v p : Nat} {t : Sto} {i d g : Nat → Nat} (ho : o < 2) (hC : Cd o t s st i d g) (s3 : s ≤ 3) (v30 : v < 2 ^ 30) (hd : ∀ k, k < s → d k < 2 ^ 30) (hp : p ≤ s) (hno : ∀ k, k < p → d k ≠ v) (hy : p < s → d p = v) : fX8_gramsOf o (nI v) t = some (nI (if p < s then g p * st else 0)) := by
  unfold fX8_gramsOf
  refine (congrArg (fun o => Option.bind o _) (lp_seq0 (fun k => nI k) (r := if p < s then (Sum.inl (nI (g p * st)) : Int32 ⊕ Unit) else Sum.inr ()) p 4000 rfl (fun k hk => ?_) ?_ (by omega))).trans ?_
  · have := hd k (by omega)
    rw [hC.1, if_neg (nI_gt (by omega) (by omega)), xNameAt ho hC s3 (by omega), Option.bind_some, if_neg (fun z => hno k hk ((nI_inj (by omega) (by omega)).mp z)), lt1_e, nI_s]
  · by_cases q : p < s
    · rw [if_pos q, hC.1, if_neg (nI_gt (by omega) q), xNameAt ho hC s3 q, Option.bind_some, hy q, if_pos rfl, xGramsAt ho hC s3 q, Option.bind_some]
    · rw [if_neg q, hC.1, if_pos (show nI s ≤ nI p from by rw [show p = s by omega]; exact Int32.le_refl _)]
  · by_cases q : p < s
    · rw [if_pos q, if_pos q, Option.bind_some]; rfl
    · rw [if_neg q, if_neg q, Option.bind_some]; rfl
/-- the class judges a bath: it costs nothing -/
theorem xJudgeC {k : Nat} {t : Sto} {V B : UInt64} (h10 : gI t 16 1 10 = nI k) (h13 : gI t 16 1 13 = 1) (hV : fnn V) (hB : fnn B) (h17 : gD t 16 1 17 = B) (h18 : gL t 16 1 18 = 0) : fX8_judge 1 V 0 t = if V.toNat < B.toNat then (fX8_keep 1 V 0 (sI t 16 1 10 (nI (k + 1)))).bind some else some (sI t 16 1 10 (nI (k + 1))) := by
  rw [xJudge1 h10 h13 hV hB h17, h18]
  by_cases q : V.toNat < B.toNat
  · rw [if_pos q, if_pos q]
  · rw [if_neg q, if_neg q]
    by_cases r : V.toNat = B.toNat
    · rw [if_pos r, if_pos (show (0 : Int32) ≤ lg_cmp 0 0 by decide)]
    · rw [if_neg r]
/-- the reference behind its adding -/
def mK8 (a1 a2 a3 a4 a5 : Int32) (t11 : Sto) : Option Sto :=
       if gI t11 0 (0) 51 = (1000 : Int32) then (
        lt1 (sI t11 0 (0) 56 (1 : Int32)) fun (t25 : Sto) =>
        some t25) else (
        lt1 (sI t11 0 (0) 51 ((gI t11 0 (0) 51) + (1 : Int32))) fun (t13 : Sto) =>
        (fX12_bathDistance a1 t13).bind (un2 fun (v14 : UInt64) (t15 : Sto) =>
         if Op.cmpValue (FP.dcmp v14 (gD t15 0 (0) 72)) CmpOp.l < 0 then (
          lt1 (sD t15 0 (0) 72 v14) fun (t18 : Sto) =>
          lt1 (sI t18 (71) (0) (0) a2) fun (t19 : Sto) =>
          lt1 (sI t19 (71) (0) (1) a3) fun (t20 : Sto) =>
          lt1 (sI t20 (71) (0) (2) a4) fun (t21 : Sto) =>
          if a4 < 0 then (
           lt1 (sI t21 (71) (0) (3) (-1 : Int32)) fun (t23 : Sto) =>
           some t23) else (
           lt1 (sI t21 (71) (0) (3) a5) fun (t24 : Sto) =>
           some t24)) else (
          some t15)))
theorem mK8_e {t w z : Sto} {l e b N k : Nat} {q h : Nat → Nat} {gr : Nat → UInt32} {V B : UInt64} {a2 a3 a4 a5 : Int32} (hB : CurB t w) (hx : CoreOk t) (hm : LiveM t w) (hl : l < 6) (he : e < 2) (hb : b < cN t 5) (N10 : N ≤ 10) (hq : ∀ p, p < N → q p < cN t 4) (hh : ∀ p, p < N → h p ≤ 1000000) (hT : Bt w N q h) (h59 : gI w 0 0 59 = nI l) (h60 : gI w 0 0 60 = nI e) (hg : ∀ k, k < 3 → gD w 46 0 k = colV gr (Wt t l e) k) (hgr : ∀ k, k < 16 → fl2 (gr k)) (h51 : gI w 0 0 51 = nI k) (k9 : k < 1000) (hV : V = gapO t l e gr (mRow t (iN t 30 b 0) N (fun p => partC t 4 (q p) (h p * 10 / iN t 30 b 1)))) (hz : z = putO (sI w 0 0 51 (nI (k + 1))) 1 0 2144 16 (mRow t (iN t 30 b 0) N (fun p => partC t 4 (q p) (h p * 10 / iN t 30 b 1)))) (fV : fnn V) (fB : fnn B) (h72 : gD w 0 0 72 = B) : (¬ V.toNat < B.toNat → mK8 (nI b) a2 a3 a4 a5 w = some z) ∧ (V.toNat < B.toNat → ∃ y, mK8 (nI b) a2 a3 a4 a5 w = some y ∧ (∀ f c j, gI y f c j = if f = 71 ∧ c = 0 ∧ j = 3 then (if a4 < 0 then -1 else a5) else if f = 71 ∧ c = 0 ∧ j = 2 then a4 else if f = 71 ∧ c = 0 ∧ j = 1 then a3 else if f = 71 ∧ c = 0 ∧ j = 0 then a2 else gI z f c j) ∧ gF y = gF z ∧ (∀ f c j, gD y f c j = if f = 0 ∧ c = 0 ∧ j = 72 then V else gD z f c j) ∧ gL y = gL z) := by
  have hS : SameM w (sI w 0 0 51 (nI (k + 1))) := ⟨fun f i j q => by rw [gI_sI, if_neg (by omega)], fun _ _ _ _ => rfl, fun _ _ _ _ => rfl⟩
  have hd := mBathD (m := sI w 0 0 51 (nI (k + 1))) (q := q) (h := h) hB hx (LiveM_S hx hS hm) hl he hb N10 hq hh hT h59 h60 hg hgr
  rw [← hV, ← hz] at hd
  have hz72 : gD z 0 0 72 = B := by rw [hz]; exact h72
  have c1 := (cmp_n fV fB CmpOp.l).1
  unfold mK8
  rw [h51, if_neg (show ¬ nI k = (1000 : Int32) from fun q => by have := (nI_inj (by omega) (by decide)).mp (show nI k = nI 1000 from q); omega), nI_1, lt1_e, hd, Option.bind_some]
  dsimp only [un2]
  rw [hz72]
  refine ⟨fun r => by rw [if_neg (fun w => r (c1.mp w))], fun r => ?_⟩
  rw [if_pos (c1.mpr r), lt1_e, lt1_e, lt1_e, lt1_e]
  by_cases n4 : a4 < 0
  · rw [if_pos n4, lt1_e, if_pos n4]
    refine ⟨_, rfl, fun f c j => ?_, rfl, fun f c j => ?_, rfl⟩
    · rw [gI_sI, gI_sI, gI_sI, gI_sI]; rfl
    · show gD (sD z 0 0 72 V) f c j = _
      rw [gD_sD]
  · rw [if_neg n4, lt1_e, if_neg n4]
    refine ⟨_, rfl, fun f c j => ?_, rfl, fun f c j => ?_, rfl⟩
    · rw [gI_sI, gI_sI, gI_sI, gI_sI]; rfl
    · show gD (sD z 0 0 72 V) f c j = _
      rw [gD_sD]
