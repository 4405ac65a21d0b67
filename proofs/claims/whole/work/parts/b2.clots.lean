/-! ===== a correction's lots: what the reference tries ===== -/
noncomputable def plc (L : Nat → Nat) (nb u : Nat) : Nat := Classical.choose (firstOf (fun k => L k = u) nb)
theorem plc_e (L : Nat → Nat) (nb u : Nat) : plc L nb u ≤ nb ∧ (∀ k, k < plc L nb u → ¬ L k = u) ∧ (plc L nb u < nb → L (plc L nb u) = u) := Classical.choose_spec (firstOf (fun k => L k = u) nb)
theorem plc_i {L : Nat → Nat} {nb p : Nat} (u : Nat) (hd : ∀ j k, j < k → k < nb → L j ≠ L k) (hp : p < nb) : L p = u ↔ p = plc L nb u := by
  obtain ⟨h1, h2, h3⟩ := plc_e L nb u
  refine ⟨fun h => ?_, fun h => by rw [h]; exact h3 (by omega)⟩
  by_cases q : p < plc L nb u
  · exact absurd h (h2 p q)
  · by_cases r : plc L nb u < p
    · exact absurd ((h3 (by omega)).trans h.symm) (hd _ _ r hp)
    · omega
/-- the same but for the reference's bath -/
def TB (m n : Sto) : Prop := (∀ f c j, ¬ (c = 0 ∧ (f = 67 ∨ f = 68 ∨ (f = 0 ∧ j = 68))) → gI n f c j = gI m f c j) ∧ gF n = gF m ∧ gD n = gD m ∧ gL n = gL m
theorem TB_r (m : Sto) : TB m m := ⟨fun _ _ _ _ => rfl, rfl, rfl, rfl⟩
theorem TB_t {a b c : Sto} (h : TB a b) (k : TB b c) : TB a c := ⟨fun f i j q => (k.1 f i j q).trans (h.1 f i j q), k.2.1.trans h.2.1, k.2.2.1.trans h.2.2.1, k.2.2.2.trans h.2.2.2⟩
theorem TB_FM {m n : Sto} (h : TB m n) : FM m n := ⟨fun f i j q1 q2 q3 q4 q5 q6 => h.1 f i j (by omega), fun f i j _ => by rw [h.2.1], fun f i j _ _ => by rw [h.2.2.1], fun f i j _ => by rw [h.2.2.2]⟩
/-- the reference's lots and its batch b -/
def GM (b nb cnt : Nat) (L H lf : Nat → Nat) (m : Sto) : Prop := gI m 23 0 b = nI nb ∧ (∀ p, p < nb → gI m 24 0 (8 * b + p) = nI (L p) ∧ gI m 25 0 (8 * b + p) = nI (H p)) ∧ (∀ u, u < cnt → gI m 20 0 u = nI (lf u)) ∧ gI m 0 0 6 = nI cnt
theorem GM_f {b nb cnt : Nat} {L H lf : Nat → Nat} {m n : Sto} (h : GM b nb cnt L H lf m) (k : ∀ f j, f = 20 ∨ (23 ≤ f ∧ f ≤ 25) ∨ (f = 0 ∧ j = 6) → gI n f 0 j = gI m f 0 j) : GM b nb cnt L H lf n := ⟨(k _ _ (by omega)).trans h.1, fun p hp => ⟨(k _ _ (by omega)).trans (h.2.1 p hp).1, (k _ _ (by omega)).trans (h.2.1 p hp).2⟩, fun u hu => (k _ _ (by omega)).trans (h.2.2.1 u hu), (k _ _ (by omega)).trans h.2.2.2⟩
theorem GM_TB {b nb cnt : Nat} {L H lf : Nat → Nat} {m n : Sto} (h : GM b nb cnt L H lf m) (k : TB m n) : GM b nb cnt L H lf n := GM_f h (fun f j q => k.1 f 0 j (by omega))
def EB (b nb cnt : Nat) (L H lf : Nat → Nat) : Prop := b < 12 ∧ nb ≤ 8 ∧ cnt ≤ 20 ∧ (∀ p, p < nb → L p < cnt ∧ 1000 * H p + lf (L p) ≤ 1000000000) ∧ (∀ j k, j < k → k < nb → L j ≠ L k) ∧ ∀ u, u < cnt → lf u ≤ 1000000000
/-- the bath with u's grams -/
noncomputable def cq1 (L : Nat → Nat) (nb u : Nat) : Nat → Nat := fun j => if j = plc L nb u then u else L j
noncomputable def ch1 (L H : Nat → Nat) (nb u g : Nat) : Nat → Nat := fun j => if j = plc L nb u then (if plc L nb u < nb then H (plc L nb u) else 0) + g else H j
noncomputable def cn1 (L : Nat → Nat) (nb u : Nat) : Nat := if plc L nb u < nb then nb else nb + 1
/-- v's place behind u -/
noncomputable def cp2 (L : Nat → Nat) (nb u v : Nat) : Nat := if plc L nb v < nb then plc L nb v else cn1 L nb u
theorem tr_a {b nb cnt u g : Nat} {L H lf : Nat → Nat} {m : Sto} (hE : EB b nb cnt L H lf) (hG : GM b nb cnt L H lf m) (h0 : gI m 0 0 56 = 0) (hu : u < cnt) (g6 : g ≤ 1000000) : (¬ (g ≤ 100000 ∧ 1000 * g ≤ lf u ∧ plc L nb u < 8) → ∀ a4 a5, ∃ m', fX12_tryAddition (nI b) (nI u) (nI g) a4 a5 m = some m' ∧ TB m m') ∧ (g ≤ 100000 ∧ 1000 * g ≤ lf u ∧ plc L nb u < 8 → ∃ w, TB m w ∧ Bt w (cn1 L nb u) (cq1 L nb u) (ch1 L H nb u g) ∧ (∀ a4 a5, a4 < 0 → fX12_tryAddition (nI b) (nI u) (nI g) a4 a5 m = mK8 (nI b) (nI u) (nI g) a4 a5 w) ∧ ∀ a4 a5, ¬ a4 < 0 → fX12_tryAddition (nI b) (nI u) (nI g) a4 a5 m = (fX12_adds a4 a5 w).bind (un2 fun (v27 : Int32) (t28 : Sto) => if v27 = 0 then some t28 else mK8 (nI b) (nI u) (nI g) a4 a5 t28)) := by
  obtain ⟨b12, nb8, c20, hL, hd, hf⟩ := hE
  obtain ⟨g1, g2, g3, g4⟩ := hG
  obtain ⟨w0, w1, w2, w3⟩ := mBathOf (t := m) b12 nb8 g1 g2
  have tb0 : TB m w0 := w3
  obtain ⟨p1, p2, p3⟩ := plc_e L nb u
  obtain ⟨ad1, ad2⟩ := mAdds (v := u) (g := g) (p := plc L nb u) w2 nb8 (by omega) ((tb0.1 20 0 u (by omega)).trans (g3 u hu)) (hf u hu) g6 (fun k hk => by have := (hL k hk).1; omega) p1 p2 p3
  refine ⟨fun h a4 a5 => ⟨w0, ?_, tb0⟩, fun h => ?_⟩
  · unfold fX12_tryAddition
    rw [h0, if_pos rfl, w1, Option.bind_some, ad1 (by omega), Option.bind_some]
    dsimp only [un2]
    rw [if_pos rfl]
  · obtain ⟨w, e1, e2, e3⟩ := ad2 h.1 h.2.1 h.2.2
    refine ⟨w, TB_t tb0 e3, e2, fun a4 a5 h4 => ?_, fun a4 a5 h4 => ?_⟩
    · unfold fX12_tryAddition
      rw [h0, if_pos rfl, w1, Option.bind_some, e1, Option.bind_some]
      dsimp only [un2]
      rw [if_neg (show ¬ (1 : Int32) = 0 by decide), jn_e, if_pos h4]
      rfl
    · unfold fX12_tryAddition
      rw [h0, if_pos rfl, w1, Option.bind_some, e1, Option.bind_some]
      dsimp only [un2]
      rw [if_neg (show ¬ (1 : Int32) = 0 by decide), jn_e, if_neg h4]
      rfl
theorem tr_b {b nb cnt u v g g' : Nat} {L H lf : Nat → Nat} {m w : Sto} (hE : EB b nb cnt L H lf) (hG : GM b nb cnt L H lf m) (uv : u ≠ v) (hu : u < cnt) (hv : v < cnt) (g6 : g' ≤ 1000000) (tb : TB m w) (pu : plc L nb u < 8) (hB : Bt w (cn1 L nb u) (cq1 L nb u) (ch1 L H nb u g)) : (¬ (g' ≤ 100000 ∧ 1000 * g' ≤ lf v ∧ cp2 L nb u v < 8) → fX12_adds (nI v) (nI g') w = some (0, w)) ∧ (g' ≤ 100000 ∧ 1000 * g' ≤ lf v ∧ cp2 L nb u v < 8 → ∃ z, fX12_adds (nI v) (nI g') w = some (1, z) ∧ TB w z ∧ Bt z (if cp2 L nb u v < cn1 L nb u then cn1 L nb u else cn1 L nb u + 1) (fun j => if j = cp2 L nb u v then v else cq1 L nb u j) (fun j => if j = cp2 L nb u v then (if cp2 L nb u v < cn1 L nb u then ch1 L H nb u g (cp2 L nb u v) else 0) + g' else ch1 L H nb u g j)) := by
  obtain ⟨b12, nb8, c20, hL, hd, hf⟩ := hE
  obtain ⟨g1, g2, g3, g4⟩ := hG
  obtain ⟨u1, u2, u3⟩ := plc_e L nb u
  obtain ⟨v1, v2, v3⟩ := plc_e L nb v
  have iu := fun p hp => plc_i (L := L) (nb := nb) (p := p) u hd hp
  have iv := fun p hp => plc_i (L := L) (nb := nb) (p := p) v hd hp
  have en : cn1 L nb u = if plc L nb u < nb then nb else nb + 1 := rfl
  have ep : cp2 L nb u v = if plc L nb v < nb then plc L nb v else cn1 L nb u := rfl
  have nn : cn1 L nb u ≤ 8 ∧ nb ≤ cn1 L nb u := by rw [en]; split <;> omega
  have pn : cp2 L nb u v ≤ cn1 L nb u := by rw [ep]; split <;> omega
  obtain ⟨ad1, ad2⟩ := mAdds (v := v) (g := g') (p := cp2 L nb u v) hB nn.1 (by omega) ((tb.1 20 0 v (by omega)).trans (g3 v hv)) (hf v hv) g6 (fun k hk => by
      show (if k = plc L nb u then u else L k) < 20
      by_cases e : k = plc L nb u
      · rw [if_pos e]; omega
      · rw [if_neg e]
        have := (hL k (by rw [en] at hk; split at hk <;> omega)).1
        omega) pn (fun k hk => by
      show ¬ (if k = plc L nb u then u else L k) = v
      by_cases e : k = plc L nb u
      · rw [if_pos e]; exact uv
      · rw [if_neg e]
        have kb : k < nb := by
          have hk2 : k < cn1 L nb u := by omega
          rw [en] at hk2
          split at hk2 <;> omega
        intro z
        have := (iv k kb).mp z
        rw [ep] at hk
        split at hk <;> omega) (fun h => by
      show (if cp2 L nb u v = plc L nb u then u else L (cp2 L nb u v)) = v
      have vb : plc L nb v < nb := by
        by_cases z : plc L nb v < nb
        · exact z
        · rw [ep, if_neg z] at h; omega
      have e : cp2 L nb u v = plc L nb v := by rw [ep, if_pos vb]
      rw [e]
      by_cases z : plc L nb v = plc L nb u
      · exact absurd ((u3 (by omega)).symm.trans ((congrArg L z.symm).trans (v3 vb))) uv
      · rw [if_neg z]; exact v3 vb)
  exact ⟨fun h => ad1 (by omega), fun h => by
    obtain ⟨z, z1, z2, z3⟩ := ad2 h.1 h.2.1 h.2.2
    exact ⟨z, z1, z3, z2⟩⟩
