/-! ===== from one candidate of a correction to the next ===== -/
theorem Cd_e {o s st : Nat} {t : Sto} {D i g i' g' : Nat → Nat} (h : Cd o t s st i (fun j => D (i j)) g) (e1 : ∀ k, k < s → i k = i' k) (e2 : ∀ k, k < s → g k = g' k) : Cd o t s st i' (fun j => D (i' j)) g' := ⟨h.1, h.2.1, fun k hk => by
  have := h.2.2 k hk
  dsimp only at this ⊢
  rw [e1 k hk, e2 k hk] at this
  exact this⟩
section
variable {x : Sto} {l e n b nb cnt room st T : Nat} {L H lf D lim need : Nat → Nat} {sel : Nat → Bool} {W : Nat → Nat → Nat} {gr : Nat → UInt32} {X0 m : Sto} {C : Nat → Sto → Sto → Prop} {s : Nat} {i g : Nat → Nat}
theorem En_n (hE : EnC x l e n b nb cnt room st T L H lf D lim need sel gr) : n ≤ 20 := by
  obtain ⟨_, hb, _, _, _, _, en, _⟩ := hE
  rw [en]
  exact Nat.le_trans (rk_le _ _) hb.2.2.1
theorem ic_nx {p : Nat} {g' : Nat → Nat} (hC : C = Co x l e n room st D lim need W gr b X0) (hE : EnC x l e n b nb cnt room st T L H lf D lim need sel gr) (h : IC C st D s i g m) (s3 : s ≤ 3) (hin : ∀ k, k < s → i k < n) (hp : p < s) (hlt : g p < lim (i p)) (hgT : ∀ q, q < s → g q ≤ lim (i q)) (hge : ∀ q, p < q → q < s → lim (i q) ≤ g q) (hg' : ∀ k, k < s → (if k < p then g k else if k = p then g p + 1 else 1) = g' k) : NC C st D s i g' m := by
  obtain ⟨_, _, _, _, et, _, _, _, eq, _⟩ := hE
  obtain ⟨k, X, k9, hc, h0, hCd⟩ := h
  have hc' := hc
  rw [hC] at hc'
  obtain ⟨y, y1, y2, y3⟩ := cA hc'.2.2.1 hCd s3 (fun q hq => by have := (eq q hq).2.2.1; omega) hin hp hlt hgT hge
  exact ⟨k, X, y, k9, hc, h0, y1, y2, Cd_e y3 (fun _ _ => rfl) hg'⟩
theorem ic_sc {R : Nat} (hC : C = Co x l e n room st D lim need W gr b X0) (hE : EnC x l e n b nb cnt room st T L H lf D lim need sel gr) (h : IC C st D s i g m) (s3 : s ≤ 3) (hin : ∀ k, k < s → i k < n) (hg : ∀ q, q < s → g q = lim (i q)) : SC C n R s i m := by
  obtain ⟨_, _, _, _, et, _, _, _, eq, _⟩ := hE
  obtain ⟨k, X, k9, hc, h0, hCd⟩ := h
  have hc' := hc
  rw [hC] at hc'
  obtain ⟨z, z1, z2⟩ := cZ hc'.2.2.1 hCd s3 (fun q hq => by have := (eq q hq).2.2.1; omega) hin hg
  refine ⟨k, X, z, 0, 3999, k9, hc, h0, z2, rfl, Nat.zero_le _, ⟨fun f b j q => ?_, z1.2⟩, ?_, fun k hk => ⟨?_, hin k hk⟩⟩
  · rw [z1.1, if_neg (by omega)]
  · rw [z1.1, if_neg (by omega)]; exact hCd.1
  · rw [z1.1, if_neg (by omega)]; exact (hCd.2.2 k hk).1
theorem sc_mono {R R' : Nat} (h : SC C n R s i m) (hr : R ≤ R') : SC C n R' s i m := by
  obtain ⟨k, X, Z, v, f, h1, h2, h3, h4, h5, h6, h7⟩ := h
  exact ⟨k, X, Z, v, f, h1, h2, h3, h4, h5, by omega, h7⟩
theorem sc_i {R : Nat} {i' : Nat → Nat} (h : SC C n R s i m) (e : ∀ k, k < s → i k = i' k) : SC C n R s i' m := by
  obtain ⟨k, X, Z, v, f, h1, h2, h3, h4, h5, h6, h7, h8⟩ := h
  exact ⟨k, X, Z, v, f, h1, h2, h3, h4, h5, h6, h7, h8.1, fun k hk => by rw [← e k hk]; exact h8.2 k hk⟩
/-- the next set -/
theorem sc_st {R s' : Nat} {i' : Nat → Nat} (hC : C = Co x l e n room st D lim need W gr b X0) (hE : EnC x l e n b nb cnt room st T L H lf D lim need sel gr) (h : SC C n R s' i' m) (R9 : R < 1000) (s3 : s ≤ 3) (hin : ∀ k, k < s → i k < n) (hn : ∀ Z, SeC l e n 2 room st D lim need W gr Z → Hs Z s' n i' → ∃ y, fX8_nextSet 1 Z = some (1, y) ∧ AX1 Z y ∧ Cd 1 y s st i (fun j => D (i j)) (fun _ => 1)) (h30 : nsum (fun k => need (i k)) s < 2 ^ 30) : (room < nsum (fun k => need (i k)) s → SC C n (R + 1) s i m) ∧ (¬ room < nsum (fun k => need (i k)) s → NC C st D s i (fun _ => 1) m) := by
  have n20 := En_n hE
  obtain ⟨_, _, _, _, _, er, _⟩ := hE
  obtain ⟨k, X, Z, v, f, k9, hc, h0, hA, hf, hv, hX, hH⟩ := h
  have hc' := hc
  rw [hC] at hc'
  have hSZ := AX1_X hc'.2.2.1 hX
  obtain ⟨y, y1, y2, y3⟩ := hn Z hSZ hH
  have hSy := AX1_X hSZ y2
  have hHy : Hs y s n i := ⟨y3.1, fun k hk => ⟨(y3.2.2 k hk).1, hin k hk⟩⟩
  have hrm := cRoom hSy hHy s3 n20 (by omega) h30
  refine ⟨fun z => ?_, fun z => ?_⟩
  · rw [if_pos z] at hrm
    obtain ⟨f', rfl⟩ : ∃ f', f = f' + 1 := ⟨f - 1, by omega⟩
    exact ⟨k, X, y, v + 1, f', k9, hc, h0, hA.trans (advL_s (by omega) y1 hrm), by omega, by omega, AX1_t hX y2, hHy⟩
  · rw [if_neg z] at hrm
    exact ⟨k, X, y, k9, hc, h0, hA.trans (advL_1 (by omega) y1 hrm), AX1_t hX y2, y3⟩
/-- no set comes behind -/
theorem sc_end {R : Nat} (hC : C = Co x l e n room st D lim need W gr b X0) (hE : EnC x l e n b nb cnt room st T L H lf D lim need sel gr) (h : SC C n R s i m) (R9 : R < 1000) (s3 : s ≤ 3) (sn : s ≤ n) (hge : ∀ q, q < s → n - s + q ≤ i q) (q : 2 ≤ s ∨ n ≤ s) : ∃ k X Y, k ≤ 1000 ∧ C k X m ∧ gI m 0 0 56 = 0 ∧ fX8_advance 1 X = some (0, Y) ∧ AX1 X Y := by
  have n20 := En_n hE
  obtain ⟨k, X, Z, v, f, k9, hc, h0, hA, hf, hv, hX, hH⟩ := h
  have hc' := hc
  rw [hC] at hc'
  have hSZ := AX1_X hc'.2.2.1 hX
  exact ⟨k, X, Z, k9, hc, h0, hA.trans (advL_0 (by omega) (cNextD hSZ hH s3 n20 (by decide) sn hge q)), hX⟩
end
