/-! ===== the first world: its cells in the order in which they are made ===== -/
theorem va_up_id {α : Type} {f : Nat → α} {k : Nat} {v : α} (h : f k = v) : va_up f k v = f := by
  funext j
  by_cases q : j = k
  · subst q; rw [va_up_self, h]
  · rw [va_up_ne _ _ q]
theorem va_up_up {α : Type} (f : Nat → α) (k : Nat) (a b : α) : va_up (va_up f k a) k b = va_up f k b := by
  funext j
  by_cases q : j = k
  · subst q; rw [va_up_self, va_up_self]
  · rw [va_up_ne _ _ q, va_up_ne _ _ q, va_up_ne _ _ q]
theorem va_at_q {D : va_G} {a N : Nat} {cA : ClassId} {f g : Nat → Option Nat} {H : Heap} (h : va_at D vwC (a, .inl (cA, N, .inr (.inr (.inr (.inr f))))) H) (e : ∀ j, j < N → f j = g j) : va_at D vwC (a, .inl (cA, N, .inr (.inr (.inr (.inr g))))) H := by
  have h1 : H[a]? = some (vp_cell cA (N, .inr (.inr (.inr (.inr f))))) := h
  show H[a]? = some (vp_cell cA (N, .inr (.inr (.inr (.inr g)))))
  rw [h1, vp_cell_q, vp_cell_q]
  unfold arrV
  congr 2
  apply Array.ext
  · simp
  · intro i h1 h2
    simp only [Array.size_ofFn] at h1
    simp [e i h1]
/-- the store of a new object of the class -/
def x0 : Sto := (fun f _ j => match f with
  | 29 => (match j with | 1 => 1 | 2 => 1 | _ => 0)
  | 30 => (match j with | 1 => 1 | _ => 0)
  | _ => 0, fun _ _ _ => 0, fun _ _ _ => 0, fun f _ j => match f with
  | 13 => (match j with | 2 => FP.dconst1 | 3 => FP.dconst1 | 4 => FP.dconst1 | _ => 0)
  | _ => 0)
def cX0 (E : XE) (f i : Nat) : va_E := cellX E (gI x0 f i) (gF x0 f i) (gL x0 f i) (gD x0 f i) f i
/-- what the tables must say of arrays of arrays and of objects -/
def AOX (U : State) : Prop := va_AOA .int U ∧ va_AOA .float U ∧ va_AOA .double U ∧ va_AO "ColourHouse$Chip" U ∧ va_AO "ColourHouse$Dye" U ∧ va_AO "ColourHouse$Solid" U ∧ va_AO "ColourHouse$Lot" U ∧ va_AO "ColourHouse$Batch" U
theorem AOX_m (u U : State) (hw : u.WarmedH U.vm) (k : AOX u) : AOX U :=
  have h := hw.alike
  ⟨k.1.moved h, k.2.1.moved h, k.2.2.1.moved h, k.2.2.2.1.moved h, k.2.2.2.2.1.moved h, k.2.2.2.2.2.1.moved h, k.2.2.2.2.2.2.1.moved h, k.2.2.2.2.2.2.2.moved h⟩
section CST
variable {p : Program} {l : Launch} {e : Jvm.Env} {R : Room} {s : State} {m : MethodId} {args : Array Value} {below : List Frame} {meth : Method} {c : Code} {H H0 : Heap} {locs : List Loc} {cells slots : Nat} {Q : State → Prop}
variable {cc : ByteArray} {pc : Nat} {ls : Array Slot} {rest : List Value} {D : va_G} {h n : Nat} {G : Nat → va_E}
theorem cs_newaT (hx : p.tables.exec = Jvm.exec) (hb : c.code = cc) {atype : ArrayType} (harr : (Cond.arrayClass (newarray.typeOf atype)).before args s = true) {ty : FieldType} (hty : newarray.typeOf atype = ty) {cA : ClassId} (hcA : s.vm.findClass ("[" ++ ty.toString) = some cA) (hc : CS D h n G H0 H locs) {nn : Int32} {N' : Nat} {a0 : vp_A} (hG : G n = .inl (cA, a0)) (ha : ∀ cA : ClassId, vp_cell cA a0 = arrV cA N' (fun _ => defaultValue ty)) (hn : ¬ nn < 0) (hN : nn.toNatClampNeg = N') (hbytes : N' * componentBytes ty ≤ 536870912) (hcells : cells + 1 ≤ R.cells) (hslots : slots + N' ≤ R.slots) (hdg : decode cc pc = .ok (.newarray atype, 2))
    (kk : ∀ H1 : Heap, CS D h (n + 1) G H0 H1 locs → W p l e R s m args below meth c H1 locs (cells + 1) (slots + N') Q (F0 m (pc + 2) ls (.ref (h + n) :: rest))) : W p l e R s m args below meth c H locs cells slots Q (F0 m pc ls (.int nn :: rest)) :=
  cs_newa hx hb harr hty hcA hc ha hn hN hbytes hcells hslots hdg (fun H1 hc1 => kk H1 (by rw [va_up_id hG] at hc1; exact hc1))
theorem cs_anewaT (hx : p.tables.exec = Jvm.exec) (hb : c.code = cc) {own C : String} {index : Nat} (hown : s.vm.findClass own = some m.cls) (hclink : (Cond.classLink own index C).before args s = true) (hover : va_AO C s) {cA : ClassId} (hcA : s.vm.findClass ("[" ++ (FieldType.object C).toString) = some cA) (hc : CS D h n G H0 H locs) {nn : Int32} {N' : Nat} (hG : G n = .inl (cA, N', .inr (.inr (.inr (.inr (fun _ => none)))))) (hn : ¬ nn < 0) (hN : nn.toNatClampNeg = N') (hbytes : N' * 4 ≤ 536870912) (hcells : cells + 1 ≤ R.cells) (hslots : slots + N' ≤ R.slots) (hdg : decode cc pc = .ok (.anewarray index, 3))
    (kk : ∀ H1 : Heap, CS D h (n + 1) G H0 H1 locs → W p l e R s m args below meth c H1 locs (cells + 1) (slots + N') Q (F0 m (pc + 3) ls (.ref (h + n) :: rest))) : W p l e R s m args below meth c H locs cells slots Q (F0 m pc ls (.int nn :: rest)) :=
  cs_anewa hx hb hown hclink hover hcA hc hn hN hbytes hcells hslots hdg (fun H1 hc1 => kk H1 (by rw [va_up_id hG] at hc1; exact hc1))
theorem cs_mnaT (hx : p.tables.exec = Jvm.exec) (hb : c.code = cc) {own : String} {index : Nat} {ty : FieldType} {cy cA : ClassId} (hown : s.vm.findClass own = some m.cls) (hclink : (Cond.classLink own index ("[" ++ (FieldType.array ty).toString)).before args s = true) (hover : va_AOA ty s) (harr : (Cond.arrayClass ty).before args s = true) (hcy : s.vm.findClass (FieldType.array ty).toString = some cy) (hcA : s.vm.findClass ("[" ++ (FieldType.array ty).toString) = some cA) (hc : CS D h n G H0 H locs) {nn kk0 : Int32} {N' K' : Nat} {z : vp_A} {f : Nat → Option Nat} (hG1 : G n = .inl (cA, N', .inr (.inr (.inr (.inr f))))) (hf : ∀ j, j < N' → f j = some (h + n + 1 + j)) (hG2 : ∀ j, j < N' → G (n + 1 + j) = .inl (cy, z)) (hn : ¬ nn < 0) (hk : ¬ kk0 < 0) (hN : nn.toNatClampNeg = N') (hM : kk0.toNatClampNeg = K')
    (hb1 : N' * 4 ≤ 536870912) (hb2 : K' * componentBytes ty ≤ 536870912) (hb3 : K' ≤ 536870912) (hdf : fits ty (defaultValue ty) = true) (hdd : (defaultValue ty).isDefault = true) (hcells : cells + (1 + N') ≤ R.cells) (hslots : slots + (N' + N' * K') ≤ R.slots) (hz : ∀ c : ClassId, Jvm.Free.Multi.innerC c K' (defaultValue ty) = vp_cell c z) (hdg : decode cc pc = .ok (.multianewarray index 2, 4))
    (kk : ∀ H1 : Heap, CS D h (n + 1 + N') G H0 H1 locs → W p l e R s m args below meth c H1 locs (cells + 1 + N') (slots + N' + N' * K') Q (F0 m (pc + 4) ls (.ref (h + n) :: rest))) : W p l e R s m args below meth c H locs cells slots Q (F0 m pc ls (.int kk0 :: .int nn :: rest)) :=
  cs_mna hx hb hown hclink hover harr hcy hcA hc hn hk hN hM hb1 hb2 hb3 hdf hdd hcells hslots hz hdg (fun H1 hc1 => kk H1 (CS_e hc1 (fun k hk h0 => by
    by_cases k1 : k < n
    · rw [if_pos k1] at h0; exact h0
    · rw [if_neg k1] at h0
      by_cases k2 : k = n
      · subst k2
        rw [if_pos rfl] at h0
        rw [hG1]
        exact va_at_q h0 (fun j hj => by rw [if_pos hj, hf j hj])
      · rw [if_neg k2] at h0
        have := hG2 (k - (n + 1)) (by omega)
        rw [show n + 1 + (k - (n + 1)) = k by omega] at this
        rw [this]; exact h0)))
theorem cs_callT {y : MethodName} {ws' : List Cond} {rm : Room} {aC : Nat → ClassId} {AO : State → Prop} {ci : Nat} {fs : List Value} {g : Nat → va_E} {N mc ms nL maxL index : Nat} {bytes : ByteArray} {own : String} {Ts : List Cond} (hAO : ∀ u U : State, u.WarmedH U.vm → AO u → AO U) (hct : CT l y ws' rm D aC AO ci fs (h + n) g N mc ms) (S : CallFix p m c cc nL s args Ts own) (cw : CallB R s args own index y bytes maxL none ws' rm mc ms 0 ∧ y.name = "<init>" ∧ (Cond.instanceMethod y).before args s = true) (hK : va_K D vwC (tysA aC) s) (hA : AO s) (hc : CS D h (n + 1) (va_up G n (.inr (ci, fs))) H0 H locs) (hG : ∀ k, k < N → g k = G (n + k)) (hsize : ls.size = nL) (hW : 2 * (F0 m pc ls (.ref (h + n) :: rest)).monitorRoom + (rest.map fun v => v.category).sum ≤ 8) (hdg : decode cc pc = .ok (.invokespecial index, 3)) (hf : cells + mc ≤ R.cells ∧ slots + ms ≤ R.slots)
    (hz0 : H0.size ≤ h + n + 1)
    (kk : ∀ (H1 : Heap) (locs1 : List Loc), CS D h (n + N) G H0 H1 locs1 → W p l e R s m args below meth c H1 locs1 (cells + mc) (slots + ms) Q (F0 m (pc + 3) ls rest)) : W p l e R s m args below meth c H locs cells slots Q (F0 m pc ls (.ref (h + n) :: rest)) :=
  cs_call hAO hct S cw hK hA hc (va_up_self _ _ _) hsize hW hdg hf hz0 (fun H1 locs1 hc1 => kk H1 locs1 (CS_e hc1 (fun k hk h0 => by
    by_cases k1 : k < n
    · rw [if_pos k1, va_up_ne _ _ (by omega)] at h0; exact h0
    · rw [if_neg k1, hG (k - n) (by omega), show n + (k - n) = k by omega] at h0; exact h0)))
theorem cs_callNT {y : MethodName} {ws' : List Cond} {rm : Room} {aC : Nat → ClassId} {AO : State → Prop} {ci : Nat} {fs : List Value} {g : Nat → va_E} {N mc ms nL maxL index : Nat} {bytes : ByteArray} {own host : String} {Ts : List Cond} (hAO : ∀ u U : State, u.WarmedH U.vm → AO u → AO U) (hct : CT l y ws' rm D aC AO ci fs (h + n) g N mc ms) (S : CallFix p m c cc nL s args Ts own) (cw : va_CN R s args own index y host bytes maxL none ws' rm mc ms 0 ∧ y.name = "<init>" ∧ (Cond.instanceMethod y).before args s = true) (hK : va_K D vwC (tysA aC) s) (hA : AO s) (hc : CS D h (n + 1) (va_up G n (.inr (ci, fs))) H0 H locs) (hG : ∀ k, k < N → g k = G (n + k)) (hsize : ls.size = nL) (hW : 2 * (F0 m pc ls (.ref (h + n) :: rest)).monitorRoom + (rest.map fun v => v.category).sum ≤ 8) (hdg : decode cc pc = .ok (.invokespecial index, 3)) (hf : cells + mc ≤ R.cells ∧ slots + ms ≤ R.slots)
    (hz0 : H0.size ≤ h + n + 1)
    (kk : ∀ (H1 : Heap) (locs1 : List Loc), CS D h (n + N) G H0 H1 locs1 → W p l e R s m args below meth c H1 locs1 (cells + mc) (slots + ms) Q (F0 m (pc + 3) ls rest)) : W p l e R s m args below meth c H locs cells slots Q (F0 m pc ls (.ref (h + n) :: rest)) :=
  cs_callN hAO hct S cw hK hA hc (va_up_self _ _ _) hsize hW hdg hf hz0 (fun H1 locs1 hc1 => kk H1 locs1 (CS_e hc1 (fun k hk h0 => by
    by_cases k1 : k < n
    · rw [if_pos k1, va_up_ne _ _ (by omega)] at h0; exact h0
    · rw [if_neg k1, hG (k - n) (by omega), show n + (k - n) = k by omega] at h0; exact h0)))
end CST
