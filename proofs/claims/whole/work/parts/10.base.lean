/-! The typed store of a world (by family, index, place), and the combinators of the functions that methods are turned into. -/
abbrev Sto : Type := (Nat → Nat → Nat → Int32) × (Nat → Nat → Nat → UInt32) × (Nat → Nat → Nat → Int64) × (Nat → Nat → Nat → UInt64)
def gI (s : Sto) : Nat → Nat → Nat → Int32 := s.1
def gF (s : Sto) : Nat → Nat → Nat → UInt32 := s.2.1
def gL (s : Sto) : Nat → Nat → Nat → Int64 := s.2.2.1
def gD (s : Sto) : Nat → Nat → Nat → UInt64 := s.2.2.2
def up3 {α : Type} (g : Nat → Nat → Nat → α) (f i j : Nat) (v : α) : Nat → Nat → Nat → α := fun a b c => if a = f ∧ b = i ∧ c = j then v else g a b c
def cp3 {α : Type} (g : Nat → Nat → Nat → α) (f i sp f1 i1 dp n : Nat) : Nat → Nat → Nat → α := fun a b c => if a = f1 ∧ b = i1 ∧ dp ≤ c ∧ c < dp + n then g f i (sp + (c - dp)) else g a b c
def sI (s : Sto) (f i j : Nat) (v : Int32) : Sto := (up3 s.1 f i j v, s.2.1, s.2.2.1, s.2.2.2)
def sF (s : Sto) (f i j : Nat) (v : UInt32) : Sto := (s.1, up3 s.2.1 f i j v, s.2.2.1, s.2.2.2)
def sL (s : Sto) (f i j : Nat) (v : Int64) : Sto := (s.1, s.2.1, up3 s.2.2.1 f i j v, s.2.2.2)
def sD (s : Sto) (f i j : Nat) (v : UInt64) : Sto := (s.1, s.2.1, s.2.2.1, up3 s.2.2.2 f i j v)
def cI (s : Sto) (f i sp f1 i1 dp n : Nat) : Sto := (cp3 s.1 f i sp f1 i1 dp n, s.2.1, s.2.2.1, s.2.2.2)
def cF (s : Sto) (f i sp f1 i1 dp n : Nat) : Sto := (s.1, cp3 s.2.1 f i sp f1 i1 dp n, s.2.2.1, s.2.2.2)
def cD (s : Sto) (f i sp f1 i1 dp n : Nat) : Sto := (s.1, s.2.1, s.2.2.1, cp3 s.2.2.2 f i sp f1 i1 dp n)
def ck {β : Type} (c : Prop) [Decidable c] (x : Option β) : Option β := if c then x else none
def nd {β : Type} (x : UInt64) (k : UInt64 → Option β) : Option β := if x &&& 0x7fffffffffffffff ≤ 0x7ff0000000000000 then k x else none
def nf {β : Type} (x : UInt32) (k : UInt32 → Option β) : Option β := if x &&& 0x7fffffff ≤ 0x7f800000 then k x else none
def lt1 {α β : Type} (a : α) (k : α → β) : β := k a
def un2 {α β γ : Type} (k : α → β → γ) (q : α × β) : γ := k q.1 q.2
def un3 {α β γ δ : Type} (k : α → β → γ → δ) (q : α × β × γ) : δ := k q.1 q.2.1 q.2.2
def un4 {α β γ δ ε : Type} (k : α → β → γ → δ → ε) (q : α × β × γ × δ) : ε := k q.1 q.2.1 q.2.2.1 q.2.2.2
def un5 {α β γ δ ε ζ : Type} (k : α → β → γ → δ → ε → ζ) (q : α × β × γ × δ × ε) : ζ := k q.1 q.2.1 q.2.2.1 q.2.2.2.1 q.2.2.2.2
def un6 {α β γ δ ε ζ η : Type} (k : α → β → γ → δ → ε → ζ → η) (q : α × β × γ × δ × ε × ζ) : η := k q.1 q.2.1 q.2.2.1 q.2.2.2.1 q.2.2.2.2.1 q.2.2.2.2.2
def sm {α β γ : Type} (f : α → γ) (g : β → γ) : α ⊕ β → γ
  | .inl a => f a
  | .inr b => g b
def oq {γ : Type} (o : Option (Nat × Nat)) (a : γ) (b : Nat → Nat → γ) : γ := match o with
  | none => a
  | some q => b q.1 q.2
def lp {σ ρ : Type} (body : σ → Option (σ ⊕ ρ)) : Nat → σ → Option ρ
  | 0, _ => none
  | n + 1, s => (body s).bind (sm (lp body n) some)
theorem ck_c {β : Type} {c : Prop} [Decidable c] {x : Option β} {r : β} (h : ck c x = some r) : c ∧ x = some r := by
  unfold ck at h
  by_cases hc : c
  · rw [if_pos hc] at h; exact ⟨hc, h⟩
  · rw [if_neg hc] at h; cases h
theorem nd_c {β : Type} {x : UInt64} {k : UInt64 → Option β} {r : β} (h : nd x k = some r) : vf_n64 x ∧ k x = some r := by
  unfold nd at h
  by_cases hc : x &&& 0x7fffffffffffffff ≤ 0x7ff0000000000000
  · rw [if_pos hc] at h; exact ⟨hc, h⟩
  · rw [if_neg hc] at h; cases h
theorem nf_c {β : Type} {x : UInt32} {k : UInt32 → Option β} {r : β} (h : nf x k = some r) : vf_n32 x ∧ k x = some r := by
  unfold nf at h
  by_cases hc : x &&& 0x7fffffff ≤ 0x7f800000
  · rw [if_pos hc] at h; exact ⟨hc, h⟩
  · rw [if_neg hc] at h; cases h
theorem ifp {β : Type} {c : Prop} [Decidable c] {x y : β} {r : β} (h : (if c then x else y) = r) (hc : c) : x = r := by rw [if_pos hc] at h; exact h
theorem ifn {β : Type} {c : Prop} [Decidable c] {x y : β} {r : β} (h : (if c then x else y) = r) (hc : ¬ c) : y = r := by rw [if_neg hc] at h; exact h
theorem lt_c {α β : Type} {a : α} {k : α → β} {r : β} (h : lt1 a k = r) : k a = r := h
theorem bn_c {α β : Type} {x : Option α} {k : α → Option β} {r : β} (h : x.bind k = some r) : ∃ a, x = some a ∧ k a = some r := by
  cases x with
  | none => cases h
  | some a => exact ⟨a, rfl, h⟩
theorem un2_c {α β γ : Type} {k : α → β → γ} {q : α × β} {r : γ} (h : un2 k q = r) : ∃ a b, q = (a, b) ∧ k a b = r := ⟨_, _, rfl, h⟩
theorem un3_c {α β γ δ : Type} {k : α → β → γ → δ} {q : α × β × γ} {r : δ} (h : un3 k q = r) : ∃ a b c, q = (a, b, c) ∧ k a b c = r := ⟨_, _, _, rfl, h⟩
theorem un4_c {α β γ δ ε : Type} {k : α → β → γ → δ → ε} {q : α × β × γ × δ} {r : ε} (h : un4 k q = r) : ∃ a b c d, q = (a, b, c, d) ∧ k a b c d = r := ⟨_, _, _, _, rfl, h⟩
theorem un5_c {α β γ δ ε ζ : Type} {k : α → β → γ → δ → ε → ζ} {q : α × β × γ × δ × ε} {r : ζ} (h : un5 k q = r) : ∃ a b c d e, q = (a, b, c, d, e) ∧ k a b c d e = r := ⟨_, _, _, _, _, rfl, h⟩
theorem un6_c {α β γ δ ε ζ η : Type} {k : α → β → γ → δ → ε → ζ → η} {q : α × β × γ × δ × ε × ζ} {r : η} (h : un6 k q = r) : ∃ a b c d e f, q = (a, b, c, d, e, f) ∧ k a b c d e f = r := ⟨_, _, _, _, _, _, rfl, h⟩
theorem oq_n {γ : Type} {a : γ} {b : Nat → Nat → γ} {r : γ} (h : oq none a b = r) : a = r := h
theorem oq_s {γ : Type} {a : γ} {b : Nat → Nat → γ} {f i : Nat} {r : γ} (h : oq (some (f, i)) a b = r) : b f i = r := h
theorem kk1 {α γ : Type} {K k : α → γ} {a : α} {r : γ} (h : K a = r) (hK : K = k) : k a = r := by rw [hK] at h; exact h
theorem kk2 {α β γ : Type} {K k : α → β → γ} {a : α} {b : β} {r : γ} (h : K a b = r) (hK : K = k) : k a b = r := by rw [hK] at h; exact h
theorem kk3 {α β γ δ : Type} {K k : α → β → γ → δ} {a : α} {b : β} {c : γ} {r : δ} (h : K a b c = r) (hK : K = k) : k a b c = r := by rw [hK] at h; exact h
theorem kk4 {α β γ δ ε : Type} {K k : α → β → γ → δ → ε} {a : α} {b : β} {c : γ} {d : δ} {r : ε} (h : K a b c d = r) (hK : K = k) : k a b c d = r := by rw [hK] at h; exact h
theorem kk5 {α β γ δ ε ζ : Type} {K k : α → β → γ → δ → ε → ζ} {a : α} {b : β} {c : γ} {d : δ} {e : ε} {r : ζ} (h : K a b c d e = r) (hK : K = k) : k a b c d e = r := by rw [hK] at h; exact h
theorem kk6 {α β γ δ ε ζ η : Type} {K k : α → β → γ → δ → ε → ζ → η} {a : α} {b : β} {c : γ} {d : δ} {e : ε} {f : ζ} {r : η} (h : K a b c d e f = r) (hK : K = k) : k a b c d e f = r := by rw [hK] at h; exact h
/-- what follows a loop (or stands behind a join) gets a name -/
theorem nm_K {κ : Type} {P : κ → Prop} {k : κ} {G : Prop} (h : P k) (kk : ∀ K : κ, K = k → P K → G) : G := kk k rfl h
def jn {κ β : Type} (k : κ) (b : κ → β) : β := b k
theorem jn_c {κ β : Type} {k : κ} {b : κ → β} {r : β} {G : Prop} (h : jn k b = r) (kk : ∀ K : κ, K = k → b K = r → G) : G := kk k rfl h
theorem lp_ind {σ ρ β : Type} {body : σ → Option (σ ⊕ ρ)} {cont : ρ → Option β} {r : β} (G : σ → Prop) (hs : ∀ s o, body s = some o → (∀ s', o = .inl s' → G s') → (∀ x, o = .inr x → cont x = some r) → G s) : ∀ n s, (lp body n s).bind cont = some r → G s := by
  intro n
  induction n with
  | zero => intro s h; cases h
  | succ n ih =>
    intro s h
    obtain ⟨x, hx, hc⟩ := bn_c h
    obtain ⟨o, ho, h2⟩ := bn_c (show (body s).bind (sm (lp body n) some) = some x from hx)
    refine hs s o ho (fun s' e => ?_) (fun x' e => ?_)
    · subst e
      refine ih s' ?_
      rw [show lp body n s' = some x from h2]
      exact hc
    · subst e
      cases (show some x' = some x from h2)
      exact hc
theorem bn_K {α β : Type} {x : Option α} {k : α → Option β} {r : β} {G : Prop} (h : x.bind k = some r) (kk : ∀ K : α → Option β, K = k → x.bind K = some r → G) : G := kk k rfl h
theorem sm_l {α β γ : Type} {f : α → γ} {g : β → γ} {a : α} {r : γ} (h : sm f g (.inl a) = r) : f a = r := h
theorem sm_r {α β γ : Type} {f : α → γ} {g : β → γ} {b : β} {r : γ} (h : sm f g (.inr b) = r) : g b = r := h
theorem un2_d {α β γ : Type} {k : α → β → γ} {a : α} {b : β} {r : γ} (h : un2 k (a, b) = r) : k a b = r := h
theorem un3_d {α β γ δ : Type} {k : α → β → γ → δ} {a : α} {b : β} {c : γ} {r : δ} (h : un3 k (a, b, c) = r) : k a b c = r := h
theorem un4_d {α β γ δ ε : Type} {k : α → β → γ → δ → ε} {a : α} {b : β} {c : γ} {d : δ} {r : ε} (h : un4 k (a, b, c, d) = r) : k a b c d = r := h
theorem un5_d {α β γ δ ε ζ : Type} {k : α → β → γ → δ → ε → ζ} {a : α} {b : β} {c : γ} {d : δ} {e : ε} {r : ζ} (h : un5 k (a, b, c, d, e) = r) : k a b c d e = r := h
theorem un6_d {α β γ δ ε ζ η : Type} {k : α → β → γ → δ → ε → ζ → η} {a : α} {b : β} {c : γ} {d : δ} {e : ε} {f : ζ} {r : η} (h : un6 k (a, b, c, d, e, f) = r) : k a b c d e f = r := h
theorem zz {v : Int32} (h : v &&& 1 = v) : narrow .boolean (.int v) = .int v := by
  show Value.int (v &&& 1) = .int v
  rw [h]
/-! The cells of a world in a row. -/
def offA (cnt : Nat → Nat) : Nat → Nat
  | 0 => 0
  | n + 1 => offA cnt n + cnt n
def wlA (cnt : Nat → Nat) (lay : Nat → Nat → Nat) (cell : Nat → Nat → va_E) : Nat → va_W
  | 0 => []
  | n + 1 => wlA cnt lay cell n ++ (List.range (cnt n)).map (fun i => (lay n i, cell n i))
theorem wlA_len {cnt : Nat → Nat} {lay : Nat → Nat → Nat} {cell : Nat → Nat → va_E} : ∀ n, (wlA cnt lay cell n).length = offA cnt n
  | 0 => rfl
  | n + 1 => by simp [wlA, offA, wlA_len n]
theorem wlA_at {cnt : Nat → Nat} {lay : Nat → Nat → Nat} {cell : Nat → Nat → va_E} : ∀ {n f i : Nat}, f < n → i < cnt f → (wlA cnt lay cell n)[offA cnt f + i]? = some (lay f i, cell f i)
  | 0, f, i, hf, hi => absurd hf (Nat.not_lt_zero f)
  | n + 1, f, i, hf, hi => by
    rcases Nat.lt_succ_iff_lt_or_eq.mp hf with h | h
    · have := wlA_at (lay := lay) (cell := cell) h hi
      have hl := (List.getElem?_eq_some_iff.mp this).1
      show (wlA cnt lay cell n ++ _)[_]? = _
      rw [List.getElem?_append_left hl]
      exact this
    · subst h
      show (wlA cnt lay cell f ++ _)[_]? = _
      rw [List.getElem?_append_right (by rw [wlA_len]; omega), wlA_len, Nat.add_sub_cancel_left, List.getElem?_map, List.getElem?_range hi]
      rfl
theorem wlA_inv {cnt : Nat → Nat} {lay : Nat → Nat → Nat} {cell : Nat → Nat → va_E} : ∀ {n k : Nat} {q : Nat × va_E}, (wlA cnt lay cell n)[k]? = some q → ∃ f i, f < n ∧ i < cnt f ∧ k = offA cnt f + i ∧ q = (lay f i, cell f i)
  | 0, k, q, h => by simp [wlA] at h
  | n + 1, k, q, h => by
    by_cases hk : k < (wlA cnt lay cell n).length
    · have h : (wlA cnt lay cell n ++ (List.range (cnt n)).map (fun i => (lay n i, cell n i)))[k]? = some q := h
      rw [List.getElem?_append_left hk] at h
      obtain ⟨f, i, h1, h2, h3, h4⟩ := wlA_inv h
      exact ⟨f, i, Nat.lt_succ_of_lt h1, h2, h3, h4⟩
    · have h : (wlA cnt lay cell n ++ (List.range (cnt n)).map (fun i => (lay n i, cell n i)))[k]? = some q := h
      rw [List.getElem?_append_right (Nat.not_lt.mp hk), wlA_len, List.getElem?_map] at h
      rw [wlA_len] at hk
      by_cases hi : k - offA cnt n < cnt n
      · rw [List.getElem?_range hi] at h
        cases h
        exact ⟨n, k - offA cnt n, Nat.lt_succ_self n, hi, by omega, rfl⟩
      · rw [List.getElem?_eq_none (by simp; omega)] at h
        cases h
theorem offA_mono {cnt : Nat → Nat} : ∀ {n f : Nat}, f < n → offA cnt f + cnt f ≤ offA cnt n
  | 0, f, h => absurd h (Nat.not_lt_zero f)
  | n + 1, f, h => by
    rcases Nat.lt_succ_iff_lt_or_eq.mp h with h | h
    · have := offA_mono (cnt := cnt) h
      show _ ≤ offA cnt n + cnt n
      omega
    · subst h; exact Nat.le_refl _
theorem offA_inj {cnt : Nat → Nat} {f i g k : Nat} (hi : i < cnt f) (hk : k < cnt g) (h : offA cnt f + i = offA cnt g + k) : f = g ∧ i = k := by
  rcases Nat.lt_trichotomy f g with q | q | q
  · have := offA_mono (cnt := cnt) q; omega
  · subst q; exact ⟨rfl, by omega⟩
  · have := offA_mono (cnt := cnt) q; omega
theorem wlA_set {cnt : Nat → Nat} {lay : Nat → Nat → Nat} {cell cell' : Nat → Nat → va_E} {n f i : Nat} {e : va_E} (hf : f < n) (hi : i < cnt f) (he : cell' f i = e) (ho : ∀ g k, ¬ (g = f ∧ k = i) → cell' g k = cell g k) : (wlA cnt lay cell n).set (offA cnt f + i) (lay f i, e) = wlA cnt lay cell' n := by
  have key : ∀ {c : Nat → Nat → va_E} {k : Nat}, offA cnt n ≤ k → (wlA cnt lay c n)[k]? = none := fun {c k} h => List.getElem?_eq_none (by rw [wlA_len]; exact h)
  apply List.ext_getElem?
  intro k
  by_cases hk : k < offA cnt n
  · cases hq : (wlA cnt lay cell n)[k]? with
    | none =>
      rw [List.getElem?_eq_none_iff, wlA_len] at hq
      omega
    | some q =>
      obtain ⟨g, j, h1, h2, h3, h4⟩ := wlA_inv hq
      subst h3; subst h4
      rw [wlA_at h1 h2]
      by_cases hg : g = f ∧ j = i
      · obtain ⟨rfl, rfl⟩ := hg
        rw [List.getElem?_set_self (by rw [wlA_len]; exact hk), he]
      · rw [List.getElem?_set_ne (fun h => hg ((offA_inj hi h2 h).imp Eq.symm Eq.symm)), hq, ho g j hg]
  · rw [key (Nat.not_lt.mp hk), List.getElem?_eq_none (by rw [List.length_set, wlA_len]; exact Nat.not_lt.mp hk)]
/-- classes and slots, array classes, addresses, region -/
abbrev XE : Type := va_G × (Nat → ClassId) × (Nat → Nat → Nat) × (Nat → Prop)
abbrev tysA (aC : Nat → ClassId) : List (ClassId × FieldType) := [(aC 0, .int), (aC 1, .float), (aC 2, .double), (aC 3, .array .int), (aC 4, .array .float), (aC 5, .array .double), (aC 6, .object "ColourHouse$Chip"), (aC 7, .object "ColourHouse$Dye"), (aC 8, .object "ColourHouse$Solid"), (aC 9, .object "ColourHouse$Lot"), (aC 10, .object "ColourHouse$Batch"), (aC 11, .byte), (aC 12, .boolean)]
abbrev vwC : List vw_C := [(RX0, TX0, 4), (RX1, TX1, 7), (RX2, TX2, 2), (RX3, TX3, 5), (RX4, TX4, 5), (RX5, TX5, 3), (RX6, TX6, 2), (RX8, TX8, 19), (RX9, TX9, 9), (RX10, TX10, 5), (RX11, TX11, 20), (RX12, TX12, 76)]
abbrev CX (p : Program) (m : MethodId) (c : Code) (cc : ByteArray) (nL : Nat) (s : State) (args : Array Value) (Ts : List Cond) (own : String) (E : XE) : Prop := CallFix p m c cc nL s args Ts own ∧ va_K E.1 vwC (tysA E.2.1) s
def rfv (E : XE) (o : Option (Nat × Nat)) : Value := va_rf (o.map fun q => E.2.2.1 q.1 q.2)
/-- rows of one store differ from another's at one place alone -/
theorem up3_self {α : Type} {g : Nat → Nat → Nat → α} {f i j : Nat} {v : α} : up3 g f i j v f i = fun c => if c = j then v else g f i c := by
  funext c; simp [up3]
theorem up3_ne {α : Type} {g : Nat → Nat → Nat → α} {f i j : Nat} {v : α} {a b : Nat} (h : ¬ (a = f ∧ b = i)) : up3 g f i j v a b = g a b := by
  funext c; unfold up3; rw [if_neg (fun q => h ⟨q.1, q.2.1⟩)]
theorem cp3_self {α : Type} {g : Nat → Nat → Nat → α} {f i sp f1 i1 dp n : Nat} : cp3 g f i sp f1 i1 dp n f1 i1 = va_cpy (g f i) (g f1 i1) sp dp n := by
  funext c; simp [cp3, va_cpy]
theorem cp3_ne {α : Type} {g : Nat → Nat → Nat → α} {f i sp f1 i1 dp n : Nat} {a b : Nat} (h : ¬ (a = f1 ∧ b = i1)) : cp3 g f i sp f1 i1 dp n a b = g a b := by
  funext c; unfold cp3; rw [if_neg (fun q => h ⟨q.1, q.2.1⟩)]
section RowsD
variable {p : Program} {l : Launch} {e : Env} {R : Room} {s : State} {m : MethodId} {args : Array Value} {below : List Frame} {meth : Method} {c : Code} {H : Heap} {locs : List Loc} {cells slots : Nat} {Q : State → Prop}
variable {cc : ByteArray} {pc : Nat} {ls : Array Slot} {rest : List Value} {β : Type} {r : β}
theorem x_dadd (hx : p.tables.exec = Jvm.exec) (hb : c.code = cc) {x y : UInt64} {k : UInt64 → Option β} (h : nd (FP.dadd x y) k = some r) (hdg : decode cc pc = .ok (.dadd, 1)) (kk : ∀ v : UInt64, k v = some r → W p l e R s m args below meth c H locs cells slots Q (F0 m (pc + 1) ls (.double v :: rest))) : W p l e R s m args below meth c H locs cells slots Q (F0 m pc ls (.double y :: .double x :: rest)) := by
  obtain ⟨h1, h2⟩ := nd_c h
  exact lv_dadd hx hb hdg h1 (kk _ h2)
theorem x_dsub (hx : p.tables.exec = Jvm.exec) (hb : c.code = cc) {x y : UInt64} {k : UInt64 → Option β} (h : nd (FP.dsub x y) k = some r) (hdg : decode cc pc = .ok (.dsub, 1)) (kk : ∀ v : UInt64, k v = some r → W p l e R s m args below meth c H locs cells slots Q (F0 m (pc + 1) ls (.double v :: rest))) : W p l e R s m args below meth c H locs cells slots Q (F0 m pc ls (.double y :: .double x :: rest)) := by
  obtain ⟨h1, h2⟩ := nd_c h
  exact lv_dsub hx hb hdg h1 (kk _ h2)
theorem x_dmul (hx : p.tables.exec = Jvm.exec) (hb : c.code = cc) {x y : UInt64} {k : UInt64 → Option β} (h : nd (FP.dmul x y) k = some r) (hdg : decode cc pc = .ok (.dmul, 1)) (kk : ∀ v : UInt64, k v = some r → W p l e R s m args below meth c H locs cells slots Q (F0 m (pc + 1) ls (.double v :: rest))) : W p l e R s m args below meth c H locs cells slots Q (F0 m pc ls (.double y :: .double x :: rest)) := by
  obtain ⟨h1, h2⟩ := nd_c h
  exact lv_dmul hx hb hdg h1 (kk _ h2)
theorem x_ddiv (hx : p.tables.exec = Jvm.exec) (hb : c.code = cc) {x y : UInt64} {k : UInt64 → Option β} (h : nd (FP.ddiv x y) k = some r) (hdg : decode cc pc = .ok (.ddiv, 1)) (kk : ∀ v : UInt64, k v = some r → W p l e R s m args below meth c H locs cells slots Q (F0 m (pc + 1) ls (.double v :: rest))) : W p l e R s m args below meth c H locs cells slots Q (F0 m pc ls (.double y :: .double x :: rest)) := by
  obtain ⟨h1, h2⟩ := nd_c h
  exact lv_ddiv hx hb hdg h1 (kk _ h2)
theorem x_f2d (hx : p.tables.exec = Jvm.exec) (hb : c.code = cc) {x : UInt32} {k : UInt64 → Option β} (h : nd (FP.f2d x) k = some r) (hdg : decode cc pc = .ok (.f2d, 1)) (kk : ∀ v : UInt64, k v = some r → W p l e R s m args below meth c H locs cells slots Q (F0 m (pc + 1) ls (.double v :: rest))) : W p l e R s m args below meth c H locs cells slots Q (F0 m pc ls (.float x :: rest)) := by
  obtain ⟨h1, h2⟩ := nd_c h
  exact lv_f2d hx hb hdg h1 (kk _ h2)
theorem x_d2f (hx : p.tables.exec = Jvm.exec) (hb : c.code = cc) {x : UInt64} {k : UInt32 → Option β} (h : nf (FP.d2f x) k = some r) (hdg : decode cc pc = .ok (.d2f, 1)) (kk : ∀ v : UInt32, k v = some r → W p l e R s m args below meth c H locs cells slots Q (F0 m (pc + 1) ls (.float v :: rest))) : W p l e R s m args below meth c H locs cells slots Q (F0 m pc ls (.double x :: rest)) := by
  obtain ⟨h1, h2⟩ := nf_c h
  exact lv_d2f hx hb hdg h1 (kk _ h2)
theorem x_fsub (hx : p.tables.exec = Jvm.exec) (hb : c.code = cc) {x y : UInt32} {k : UInt32 → Option β} (h : nf (FP.fsub x y) k = some r) (hdg : decode cc pc = .ok (.fsub, 1)) (kk : ∀ v : UInt32, k v = some r → W p l e R s m args below meth c H locs cells slots Q (F0 m (pc + 1) ls (.float v :: rest))) : W p l e R s m args below meth c H locs cells slots Q (F0 m pc ls (.float y :: .float x :: rest)) := by
  obtain ⟨h1, h2⟩ := nf_c h
  exact lv_fsub hx hb hdg h1 (kk _ h2)
theorem x_topi {x : Int32} {k : Int32 → Option β} (h : lt1 x k = some r) (kk : ∀ v : Int32, k v = some r → W p l e R s m args below meth c H locs cells slots Q (F0 m pc ls (.int v :: rest))) : W p l e R s m args below meth c H locs cells slots Q (F0 m pc ls (.int x :: rest)) := kk x h
theorem x_topl {x : Int64} {k : Int64 → Option β} (h : lt1 x k = some r) (kk : ∀ v : Int64, k v = some r → W p l e R s m args below meth c H locs cells slots Q (F0 m pc ls (.long v :: rest))) : W p l e R s m args below meth c H locs cells slots Q (F0 m pc ls (.long x :: rest)) := kk x h
theorem x_topd {x : UInt64} {k : UInt64 → Option β} (h : lt1 x k = some r) (kk : ∀ v : UInt64, k v = some r → W p l e R s m args below meth c H locs cells slots Q (F0 m pc ls (.double v :: rest))) : W p l e R s m args below meth c H locs cells slots Q (F0 m pc ls (.double x :: rest)) := kk x h
theorem x_topf {x : UInt32} {k : UInt32 → Option β} (h : lt1 x k = some r) (kk : ∀ v : UInt32, k v = some r → W p l e R s m args below meth c H locs cells slots Q (F0 m pc ls (.float v :: rest))) : W p l e R s m args below meth c H locs cells slots Q (F0 m pc ls (.float x :: rest)) := kk x h
theorem x_iinc (hx : p.tables.exec = Jvm.exec) (hb : c.code = cc) {i nL q : Nat} {n : Int} {x : Int32} {lv : List (Nat × Value)} {k : Int32 → Option β} (h : lt1 (x + Int32.ofInt n) k = some r) (hdg : decode cc pc = .ok (.iinc i n, 3)) (hl0 : lv_has ls nL lv) (hk : lv[q]? = some (i, .int x)) (lv' : Int32 → List (Nat × Value)) (hn : i < nL) (hl : ∀ v, (i, Value.int v) :: lv.filter (fun q => !(q.1 == i) && !(q.1 + 1 == i && q.2.category == 2)) = lv' v) (kk : ∀ (v : Int32) (ls' : Array Slot), lv_has ls' nL (lv' v) → k v = some r → W p l e R s m args below meth c H locs cells slots Q (F0 m (pc + 3) ls' rest)) : W p l e R s m args below meth c H locs cells slots Q (F0 m pc ls rest) :=
  lv_iinc hx hb hdg hl0 hk rfl hn (hl _) (fun ls' hl' => kk _ ls' hl' h)
theorem x_idiv (hx : p.tables.exec = Jvm.exec) (hb : c.code = cc) {x y : Int32} {X : Option β} (h : ck (¬ y = 0) X = some r) (hdg : decode cc pc = .ok (.idiv, 1)) (kk : X = some r → W p l e R s m args below meth c H locs cells slots Q (F0 m (pc + 1) ls (.int (x / y) :: rest))) : W p l e R s m args below meth c H locs cells slots Q (F0 m pc ls (.int y :: .int x :: rest)) := by
  obtain ⟨h1, h2⟩ := ck_c h
  exact lv_idiv hx hb hdg h1 (kk h2)
theorem x_irem (hx : p.tables.exec = Jvm.exec) (hb : c.code = cc) {x y : Int32} {X : Option β} (h : ck (¬ y = 0) X = some r) (hdg : decode cc pc = .ok (.irem, 1)) (kk : X = some r → W p l e R s m args below meth c H locs cells slots Q (F0 m (pc + 1) ls (.int (x - x / y * y) :: rest))) : W p l e R s m args below meth c H locs cells slots Q (F0 m pc ls (.int y :: .int x :: rest)) := by
  obtain ⟨h1, h2⟩ := ck_c h
  exact lv_irem hx hb hdg h1 (kk h2)
theorem x_ldiv (hx : p.tables.exec = Jvm.exec) (hb : c.code = cc) {x y : Int64} {X : Option β} (h : ck (¬ y = 0) X = some r) (hdg : decode cc pc = .ok (.ldiv, 1)) (kk : X = some r → W p l e R s m args below meth c H locs cells slots Q (F0 m (pc + 1) ls (.long (x / y) :: rest))) : W p l e R s m args below meth c H locs cells slots Q (F0 m pc ls (.long y :: .long x :: rest)) := by
  obtain ⟨h1, h2⟩ := ck_c h
  exact lv_ldiv hx hb hdg h1 (kk h2)
theorem sw_ne {x v : Int32} {n : Int} (h : ¬ x = v) (hv : v.toInt = n) : x.toInt ≠ n := fun e => h (Int32.toInt_inj.mp (e.trans hv.symm))
end RowsD
