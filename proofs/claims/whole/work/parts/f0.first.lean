/-! ===== both go together at the start ===== -/
theorem x0_N (f i j : Nat) (hf : f ≠ 29) (hg : f ≠ 30) : gI x0 f i j = 0 := by
  show (match f with | 29 => _ | 30 => _ | _ => (0 : Int32)) = 0
  split
  · exact absurd rfl hf
  · exact absurd rfl hg
  · rfl
theorem m0_N (f i j : Nat) (hf : f ≠ 29) : gI m0 f i j = 0 := by
  show (match f with | 29 => _ | _ => (0 : Int32)) = 0
  split
  · exact absurd rfl hf
  · rfl
theorem x0_i (f i j : Nat) (hf : f ≠ 29) (hg : f ≠ 30) : iN x0 f i j = 0 := by
  unfold iN
  rw [x0_N f i j hf hg]
  rfl
theorem x0_is (f i j b : Nat) (hf : f ≠ 29) (hg : f ≠ 30) : isN x0 f i j b := ⟨by rw [x0_N f i j hf hg, x0_i f i j hf hg]; rfl, by rw [x0_i f i j hf hg]; exact Nat.zero_le _⟩
theorem x0_c (a : Nat) : cN x0 a = 0 := by
  unfold cN
  exact x0_i _ _ _ (by decide) (by decide)
theorem core0 : CoreOk x0 := by
  refine ⟨fun k _ => x0_is _ _ _ _ (by decide) (by decide), ⟨fun i hi => ?_, fun i _ _ k _ => ?_⟩, fun i hi => ?_, fun i hi => ?_, fun i hi => ?_, fun i hi => ?_, fun i hi => ?_⟩
  · rw [x0_c] at hi; exact absurd hi (Nat.not_lt_zero _)
  · show (0 : UInt32) = FP.fconst0
    decide +kernel
  all_goals rw [x0_c] at hi; exact absurd hi (Nat.not_lt_zero _)
theorem live0 : LiveM x0 m0 := by
  refine ⟨fun k _ => ?_, fun i hi => ?_, fun i hi => ?_, fun i hi => ?_, fun i hi => ?_, fun i hi => ?_, fun i hi => ?_⟩
  · rw [m0_N _ _ _ (by decide), x0_N _ _ _ (by decide) (by decide)]
  all_goals rw [x0_c] at hi; exact absurd hi (Nat.not_lt_zero _)
theorem i0_1 {f i j : Nat} (hf : f ≠ 29) (hg : f ≠ 30) : ¬ iN x0 f i j = 1 := by
  rw [x0_i f i j hf hg]
  decide
theorem cur0 : Cur x0 m0 := by
  have e : ∀ f i j (hf : f ≠ 29) (hg : f ≠ 30) a b c (ha : a ≠ 29), gI m0 a b c = gI x0 f i j := fun f i j hf hg a b c ha => by rw [m0_N _ _ _ ha, x0_N _ _ _ hf hg]
  refine ⟨⟨fun k _ => ⟨Nat.zero_le _, rfl⟩, ⟨x0_is _ _ _ _ (by decide) (by decide), e _ _ _ (by decide) (by decide) _ _ _ (by decide), fun q => absurd q (i0_1 (by decide) (by decide))⟩, ⟨x0_is _ _ _ _ (by decide) (by decide), fun p hp => ?_⟩, e _ _ _ (by decide) (by decide) _ _ _ (by decide), fun p hp => ?_⟩, ⟨fun l k _ _ => ⟨x0_is _ _ _ _ (by decide) (by decide), e _ _ _ (by decide) (by decide) _ _ _ (by decide)⟩, fun a b k _ _ _ => ⟨x0_is _ _ _ _ (by decide) (by decide), e _ _ _ (by decide) (by decide) _ _ _ (by decide)⟩, fun j hj => ⟨1, by decide, by decide, ?_, ?_⟩⟩, ⟨x0_is _ _ _ _ (by decide) (by decide), e _ _ _ (by decide) (by decide) _ _ _ (by decide), fun q => absurd q (i0_1 (by decide) (by decide))⟩, ⟨x0_is _ _ _ _ (by decide) (by decide), e _ _ _ (by decide) (by decide) _ _ _ (by decide), fun q => absurd q (i0_1 (by decide) (by decide))⟩, ⟨⟨e _ _ _ (by decide) (by decide) _ _ _ (by decide), Or.inl (x0_N _ _ _ (by decide) (by decide))⟩, fun q _ => ⟨⟨0, by decide, x0_N _ _ _ (by decide) (by decide), (m0_N _ _ _ (by decide)).trans (by decide)⟩, ⟨0, by decide, x0_N _ _ _ (by decide) (by decide), (m0_N _ _ _ (by decide)).trans (by decide)⟩⟩⟩⟩
  · rw [x0_i _ _ _ (by decide) (by decide)] at hp; exact absurd hp (Nat.not_lt_zero _)
  · rw [x0_i _ _ _ (by decide) (by decide)] at hp; exact absurd hp (Nat.not_lt_zero _)
  · show (if j < 3 then (1 : Int32) else 0) = nI 1
    rw [if_pos hj]; rfl
  · match j, hj with
    | 0, _ => show FP.dconst1 = FP.i2d (nI 1); decide +kernel
    | 1, _ => show FP.dconst1 = FP.i2d (nI 1); decide +kernel
    | 2, _ => show FP.dconst1 = FP.i2d (nI 1); decide +kernel
theorem rel0 : Rel x0 m0 := by
  refine ⟨⟨⟨x0_is _ _ _ _ (by decide) (by decide), x0_is _ _ _ _ (by decide) (by decide)⟩, core0, live0, ?_, fun _ => x0, ⟨LiveEq_r core0, fun _ _ => core0, fun j hj => ?_⟩, fun j hj => ?_⟩, ?_, cur0⟩
  · rw [m0_N _ _ _ (by decide), x0_N _ _ _ (by decide) (by decide)]
  · rw [x0_i _ _ _ (by decide) (by decide)] at hj; exact absurd hj (Nat.not_lt_zero _)
  · rw [x0_i _ _ _ (by decide) (by decide)] at hj; exact absurd hj (Nat.not_lt_zero _)
  · rw [m0_N _ _ _ (by decide), x0_N _ _ _ (by decide) (by decide)]
