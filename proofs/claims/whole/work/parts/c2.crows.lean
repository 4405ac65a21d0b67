/-! ===== a world as it is made: cells one behind another from an address on ===== -/
theorem va_AOA.moved {t : FieldType} {u U : State} (hvm : u.vm.Alike U.vm) (h : va_AOA t u) : va_AOA t U := by
  obtain ⟨comp, c, k, h1, h2, h3, h4, h5⟩ := arrayOverA_spec h
  obtain ⟨k', hk', he⟩ := hvm.2.2 _ _ h3
  have hi : (U.vm.classes.findIdx? fun (x : Class) => match x.kind with | .array component _ => component == comp | _ => false) = some c := by
    have b1 := va_idx_bare U.vm comp
    have b2 := va_idx_bare u.vm comp
    have hb : U.vm.bare = u.vm.bare := by first | exact hvm.bare_eq | exact hvm.bare_eq.symm
    rw [hb] at b1
    exact b1.symm.trans (b2.trans h2)
  have hkind : k'.kind = .array comp (.array t) := by rw [he]; exact h4
  have f1 : U.vm.findClass (FieldType.array t).toString = some comp := by rw [hvm.findClass]; exact h1
  have f2 : U.vm.findClass ("[" ++ (FieldType.array t).toString) = some c := by rw [hvm.findClass]; exact h5
  unfold va_AOA Cond.before Cond.holds
  simp only [Cond.value]
  rw [f1, Option.bind_some]
  refine (congrArg (fun o : Option Nat => (o.bind (fun c => (U.vm.classes[c]?).map fun (k : Class) => match k.kind with | .array _ ty => decide (ty = FieldType.array t) && decide (U.vm.findClass ("[" ++ (FieldType.array t).toString) = some c) | _ => false) == some true)) hi).trans ?_
  simp [hk', hkind, f2]
def CS (D : va_G) (h n : Nat) (G : Nat → va_E) (H0 H : Heap) (locs : List Loc) : Prop := H.size = h + n ∧ (∀ k, k < n → va_at D vwC (h + k, G k) H) ∧ (∀ q, q < h → H[q]? = H0[q]?) ∧ ∀ z ∈ locs, h ≤ z.base
theorem CS_mk {D : va_G} {h n : Nat} {G : Nat → va_E} {H0 H H1 : Heap} {locs : List Loc} {v : va_E} (hc : CS D h n G H0 H locs) (z1 : H1.size = h + n + 1) (o1 : ∀ q, q < h + n → H1[q]? = H[q]?) (e : va_at D vwC (h + n, v) H1) : CS D h (n + 1) (va_up G n v) H0 H1 locs := by
  obtain ⟨c1, c2, c3, c4⟩ := hc
  refine ⟨by omega, fun k hk => ?_, fun q hq => (o1 q (by omega)).trans (c3 q hq), c4⟩
  by_cases q : k = n
  · subst q; rw [va_up_self]; exact e
  · rw [va_up_ne _ _ q]; exact (c2 k (by omega)).kept (o1 _ (by show h + k < h + n; omega))
theorem CS_st {D : va_G} {h n i : Nat} {G : Nat → va_E} {H0 H H1 : Heap} {locs : List Loc} {v : va_E} (j : Nat) (hc : CS D h n G H0 H locs) (z1 : H1.size = H.size) (o1 : ∀ q, q ≠ h + i → H1[q]? = H[q]?) (e : va_at D vwC (h + i, v) H1) : CS D h n (va_up G i v) H0 H1 (locs ++ [⟨h + i, j⟩]) := by
  obtain ⟨c1, c2, c3, c4⟩ := hc
  refine ⟨z1.trans c1, fun k hk => ?_, fun q hq => (o1 q (by omega)).trans (c3 q hq), fun z hz => ?_⟩
  · by_cases q : k = i
    · subst q; rw [va_up_self]; exact e
    · rw [va_up_ne _ _ q]; exact (c2 k hk).kept (o1 _ (by show h + k ≠ h + i; omega))
  · rcases List.mem_append.mp hz with y | y
    · exact c4 z y
    · rw [List.mem_singleton.mp y]; exact Nat.le_add_right _ _
theorem CS_P {D : va_G} {h n i : Nat} {G : Nat → va_E} {H0 H : Heap} {locs : List Loc} (hc : CS D h n G H0 H locs) (hi : i < n) : va_P D vwC [(h + i, G i)] H := fun k q hk => by
  have h0 : k < 1 := (List.getElem?_eq_some_iff.mp hk).1
  rw [show k = 0 by omega] at hk
  cases hk
  exact hc.2.1 i hi
theorem CS_e {D : va_G} {h n : Nat} {G G' : Nat → va_E} {H0 H : Heap} {locs : List Loc} (hc : CS D h n G H0 H locs) (he : ∀ k, k < n → va_at D vwC (h + k, G k) H → va_at D vwC (h + k, G' k) H) : CS D h n G' H0 H locs := ⟨hc.1, fun k hk => he k hk (hc.2.1 k hk), hc.2.2⟩
section CSR
variable {p : Program} {l : Launch} {e : Jvm.Env} {R : Room} {s : State} {m : MethodId} {args : Array Value} {below : List Frame} {meth : Method} {c : Code} {H H0 : Heap} {locs : List Loc} {cells slots : Nat} {Q : State → Prop}
variable {cc : ByteArray} {pc : Nat} {ls : Array Slot} {rest : List Value} {D : va_G} {h n : Nat} {G : Nat → va_E}
theorem cs_newa (hx : p.tables.exec = Jvm.exec) (hb : c.code = cc) {atype : ArrayType} (harr : (Cond.arrayClass (newarray.typeOf atype)).before args s = true) {ty : FieldType} (hty : newarray.typeOf atype = ty) {cA : ClassId} (hcA : s.vm.findClass ("[" ++ ty.toString) = some cA) (hc : CS D h n G H0 H locs) {nn : Int32} {N' : Nat} {a0 : vp_A} (ha : ∀ cA : ClassId, vp_cell cA a0 = arrV cA N' (fun _ => defaultValue ty)) (hn : ¬ nn < 0) (hN : nn.toNatClampNeg = N') (hbytes : N' * componentBytes ty ≤ 536870912) (hcells : cells + 1 ≤ R.cells) (hslots : slots + N' ≤ R.slots) (hdg : decode cc pc = .ok (.newarray atype, 2))
    (kk : ∀ H1 : Heap, CS D h (n + 1) (va_up G n (.inl (cA, a0))) H0 H1 locs → W p l e R s m args below meth c H1 locs (cells + 1) (slots + N') Q (F0 m (pc + 2) ls (.ref (h + n) :: rest))) : W p l e R s m args below meth c H locs cells slots Q (F0 m pc ls (.int nn :: rest)) := by
  subst hty
  refine va_newaK hx hb harr rfl hdg rfl hn hN hbytes hcells hslots hc.1 fun H1 cA1 e1 z1 o1 hAr hNm => ?_
  cases hcA.symm.trans hNm
  refine kk H1 (CS_mk hc z1 o1 ?_)
  show H1[h + n]? = some (vp_cell _ _)
  rw [ha]
  exact e1
theorem cs_anewa (hx : p.tables.exec = Jvm.exec) (hb : c.code = cc) {own C : String} {index : Nat} (hown : s.vm.findClass own = some m.cls) (hclink : (Cond.classLink own index C).before args s = true) (hover : va_AO C s) {cA : ClassId} (hcA : s.vm.findClass ("[" ++ (FieldType.object C).toString) = some cA) (hc : CS D h n G H0 H locs) {nn : Int32} {N' : Nat} (hn : ¬ nn < 0) (hN : nn.toNatClampNeg = N') (hbytes : N' * 4 ≤ 536870912) (hcells : cells + 1 ≤ R.cells) (hslots : slots + N' ≤ R.slots) (hdg : decode cc pc = .ok (.anewarray index, 3))
    (kk : ∀ H1 : Heap, CS D h (n + 1) (va_up G n (.inl (cA, N', .inr (.inr (.inr (.inr (fun _ => none))))))) H0 H1 locs → W p l e R s m args below meth c H1 locs (cells + 1) (slots + N') Q (F0 m (pc + 3) ls (.ref (h + n) :: rest))) : W p l e R s m args below meth c H locs cells slots Q (F0 m pc ls (.int nn :: rest)) := by
  subst hN
  refine W.anew hx hb hown hclink (va_AO.use hover) rfl hdg rfl hn hbytes hcells hslots fun cA1 kA comp f1 f2 f3 f4 => ?_
  cases hcA.symm.trans f1
  rw [hc.1]
  refine kk _ (CS_mk hc (by rw [Array.size_push, hc.1]) (fun q hq => by rw [Array.getElem?_push, if_neg (by rw [hc.1]; omega)]) ?_)
  show (H.push _)[h + n]? = some (vp_cell _ _)
  rw [vp_cell_q, ← hc.1, Array.getElem?_push_size, ← arrV_new]
  rfl
theorem cs_mna (hx : p.tables.exec = Jvm.exec) (hb : c.code = cc) {own : String} {index : Nat} {ty : FieldType} {cy cA : ClassId} (hown : s.vm.findClass own = some m.cls) (hclink : (Cond.classLink own index ("[" ++ (FieldType.array ty).toString)).before args s = true) (hover : va_AOA ty s) (harr : (Cond.arrayClass ty).before args s = true) (hcy : s.vm.findClass (FieldType.array ty).toString = some cy) (hcA : s.vm.findClass ("[" ++ (FieldType.array ty).toString) = some cA) (hc : CS D h n G H0 H locs) {nn kk0 : Int32} {N' K' : Nat} {z : vp_A} (hn : ¬ nn < 0) (hk : ¬ kk0 < 0) (hN : nn.toNatClampNeg = N') (hM : kk0.toNatClampNeg = K')
    (hb1 : N' * 4 ≤ 536870912) (hb2 : K' * componentBytes ty ≤ 536870912) (hb3 : K' ≤ 536870912) (hdf : fits ty (defaultValue ty) = true) (hdd : (defaultValue ty).isDefault = true) (hcells : cells + (1 + N') ≤ R.cells) (hslots : slots + (N' + N' * K') ≤ R.slots) (hz : ∀ c : ClassId, Jvm.Free.Multi.innerC c K' (defaultValue ty) = vp_cell c z) (hdg : decode cc pc = .ok (.multianewarray index 2, 4))
    (kk : ∀ H1 : Heap, CS D h (n + 1 + N') (fun k => if k < n then G k else if k = n then .inl (cA, N', .inr (.inr (.inr (.inr (fun i => if i < N' then some (h + n + 1 + i) else none))))) else .inl (cy, z)) H0 H1 locs → W p l e R s m args below meth c H1 locs (cells + 1 + N') (slots + N' + N' * K') Q (F0 m (pc + 4) ls (.ref (h + n) :: rest))) : W p l e R s m args below meth c H locs cells slots Q (F0 m pc ls (.int kk0 :: .int nn :: rest)) := by
  subst hN
  subst hM
  intro T hT Xs
  obtain ⟨vm₁, cA1, comp, -, fA, fC, hO, -, X', step⟩ := Xs.multianewarray2F hx hown hclink (va_AOA.use hover) harr (g := F0 m pc ls (.int kk0 :: .int nn :: rest)) rfl (by rw [hb]; exact hdg) rfl hn hk hb1 hb2 hb3 hdf hdd hcells hslots
  cases hcy.symm.trans fC
  cases hcA.symm.trans fA
  generalize hF : Jvm.Free.Multi.fill (T.setVm vm₁) cA cy nn.toNatClampNeg kk0.toNatClampNeg (defaultValue ty) nn.toNatClampNeg = F at X' step
  have hTh : (T.setVm vm₁).heap = H := hT
  obtain ⟨f1, f2, -, -⟩ := Jvm.Free.Multi.fill_facts (T.setVm vm₁) cA cy nn.toNatClampNeg kk0.toNatClampNeg (defaultValue ty) nn.toNatClampNeg
  rw [hF, hTh] at f1 f2
  have hold : ∀ x : Nat, x < H.size → F.heap[x]? = H[x]? := fun x hx => by
    have := Jvm.Free.Multi.fill_old (T.setVm vm₁) cA cy nn.toNatClampNeg kk0.toNatClampNeg (defaultValue ty) (a := x) (by rw [hTh]; exact hx) nn.toNatClampNeg
    rw [hF, hTh] at this
    exact this
  have hrow : ∀ j : Nat, j < nn.toNatClampNeg → F.heap[H.size + 1 + j]? = some (vp_cell cy z) := fun j hj => by
    have := Jvm.Free.Multi.fill_inner (T.setVm vm₁) cA cy nn.toNatClampNeg kk0.toNatClampNeg (defaultValue ty) nn.toNatClampNeg j hj
    rw [hF, hTh, hz] at this
    exact this
  have hout : Jvm.Free.Multi.outerC cA nn.toNatClampNeg H.size nn.toNatClampNeg = vp_cell cA (nn.toNatClampNeg, .inr (.inr (.inr (.inr (fun i => if i < nn.toNatClampNeg then some (H.size + 1 + i) else none))))) := by
    rw [vp_cell_q]
    exact vr_outer cA nn.toNatClampNeg H.size nn.toNatClampNeg
  rw [hout] at f2
  obtain ⟨c1, c2, c3, c4⟩ := hc
  rw [c1] at f1 f2 hrow
  have hcs : CS D h (n + 1 + nn.toNatClampNeg) (fun k => if k < n then G k else if k = n then .inl (cA, nn.toNatClampNeg, .inr (.inr (.inr (.inr (fun i => if i < nn.toNatClampNeg then some (h + n + 1 + i) else none))))) else .inl (cy, z)) H0 F.heap locs := by
    refine ⟨by rw [f1]; omega, fun k hk => ?_, fun q hq => (hold q (by omega)).trans (c3 q hq), c4⟩
    dsimp only
    by_cases k1 : k < n
    · rw [if_pos k1]
      exact (c2 k k1).kept (hold _ (by show h + k < H.size; omega))
    · rw [if_neg k1]
      by_cases k2 : k = n
      · subst k2
        rw [if_pos rfl]
        exact f2
      · rw [if_neg k2]
        have := hrow (k - (n + 1)) (by omega)
        rw [show h + n + 1 + (k - (n + 1)) = h + k by omega] at this
        exact this
  obtain ⟨t, a1, b1⟩ := kk F.heap hcs F rfl X'
  refine ⟨t, step t ?_, b1⟩
  have e : T.heap.size = h + n := by rw [hT, c1]
  rw [e]
  exact a1
theorem cs_new (hx : p.tables.exec = Jvm.exec) (hb : c.code = cc) {own C : String} {T : u_T} {N ci index : Nat} {Ts : List Cond} (hts : ∀ w ∈ Ts, w.before args s = true) (hin : ∀ w ∈ u_ws C T N, w ∈ Ts) (ty : Nat → FieldType) (hty : ∀ k, k < N → parseFieldDescriptor (T k).2.2.1 = some (ty k)) (hown : s.vm.findClass own = some m.cls) (hcl : (Cond.classLink own index C).before args s = true) (hinst : (Cond.instantiable C N).before args s = true) (hini : (Cond.initialized C).before args s = true) {tys : List (ClassId × FieldType)}
    (hK : va_K D vwC tys s) (hc : CS D h n G H0 H locs) (hci : vwC[ci]? = some (C, T, N)) {fs : List Value} (hfs : ∀ j, j < N → defaultValue (ty j) = vp_V fs j) (hcells : cells + 1 ≤ R.cells) (hslots : slots + N ≤ R.slots) (hdg : decode cc pc = .ok (.new index, 3))
    (kk : ∀ H1 : Heap, CS D h (n + 1) (va_up G n (.inr (ci, fs))) H0 H1 locs → W p l e R s m args below meth c H1 locs (cells + 1) (slots + N) Q (F0 m (pc + 3) ls (.ref (h + n) :: rest))) : W p l e R s m args below meth c H locs cells slots Q (F0 m pc ls rest) := by
  have hKn := hK.1 ci _ hci
  refine W.newcK hx hb hown hcl hinst hini rfl hdg hcells hslots hKn.2.1 hc.1 fun H1 kC hkC e1 z1 o1 => ?_
  exact kk H1 (CS_mk hc z1 o1 ⟨_, hci, (u_born ty hts hin hKn hkC e1 hty).to hfs⟩)
theorem cs_putF (hx : p.tables.exec = Jvm.exec) (hb : c.code = cc) {own ref C : String} {T : u_T} {N ci index : Nat} {Ts : List Cond} (hts : ∀ w ∈ Ts, w.before args s = true) (hin : ∀ w ∈ u_ws C T N, w ∈ Ts) (ty0 : Nat → FieldType) (hty : ∀ k, k < N → parseFieldDescriptor (T k).2.2.1 = some (ty0 k)) (hnm : ∀ a, a < N → ∀ b, b < N → a ≠ b → (T a).2.1 ≠ (T b).2.1) (hown : s.vm.findClass own = some m.cls) {tys : List (ClassId × FieldType)} (hK : va_K D vwC tys s) (hc : CS D h n G H0 H locs) {i : Nat} (hi0 : i < n) {fs : List Value} (he : G i = .inr (ci, fs)) (hci : vwC[ci]? = some (C, T, N)) (k : Nat) (hk : k < N) (hlink : (Cond.fieldLink own index ref (T k).2.1 (T k).2.2.1).before args s = true) (hsame : ∀ x, s.fieldFound? (T k).1 (T k).2.1 (T k).2.2.1 = some x → s.fieldFound? ref (T k).2.1 (T k).2.2.1 = some x) (hfin : (T k).2.2.2 = true) (hin2 : meth.name = "<init>") (hdecl : (T k).1 = own) {ty : FieldType} {v : Value} (hd : parseFieldDescriptor (T k).2.2.1 = some ty) (hn : narrow ty v = v) (hfit : fits ty v = true) (hl : k < fs.length)
    (hdg : decode cc pc = .ok (.putfield index, 3)) (kk : ∀ (H1 : Heap) (locs1 : List Loc), CS D h n (va_up G i (.inr (ci, fs.set k v))) H0 H1 locs1 → W p l e R s m args below meth c H1 locs1 cells slots Q (F0 m (pc + 3) ls rest)) : W p l e R s m args below meth c H locs cells slots Q (F0 m pc ls (v :: .ref (h + i) :: rest)) := by
  have hap := va_apart (own := own) hts hin ty0 hty hnm hK hci
  have hG := hc.2.1 i hi0
  rw [he] at hG
  obtain ⟨r, h1, cell, q1, q2, q3, q4⟩ := hG
  have hr : r = (C, T, N) := Option.some.inj (h1.symm.trans hci)
  subst hr
  obtain ⟨hS, hfc, kC, hkC, hkind⟩ := hK.1 ci _ hci
  obtain ⟨cf, kf, fi, f, hi, hsl⟩ := hS k hk
  have hlay := hts _ (hin _ (u_in_lay hk))
  unfold u_lay at hlay
  rw [if_pos hfin] at hlay
  have hst := (u_facts hfc hkC (u_lays hts hin hk) hi).1
  have hcf : m.cls = cf := by
    obtain ⟨_, _, c', _, _, _, -, -, hf', -, -, -, hown2, -⟩ := Cond.laysFinal_spec hlay
    have e1 : c' = cf := by have := hi.symm.trans hf'; simp at this; exact this.1.symm
    rw [hdecl] at hown2
    rw [← e1]; exact Option.some.inj (hown.symm.trans hown2)
  have h6 := u_fits hfc hkC hkind (Or.inr hlay) hi hd hn hfit
  refine W.putFinK hx hb hown hlink (hsame _ hi) hst hcf hin2 (by rw [q2]; exact h6) q1 q3 (by rw [hsl]; exact k2_hasslot (q4 k hk)) rfl rfl hdg fun H' e1 e2 e3 => ?_
  rw [hsl] at e1 ⊢
  exact kk H' _ (CS_st _ hc e2 e3 ⟨_, hci, t_OB.to (V := updV (vp_V fs) k v) ⟨_, e1, q2, q3, t_set q4 hap hk v⟩ (fun j _ => vp_updV_set hl v j)⟩)
theorem cs_put (hx : p.tables.exec = Jvm.exec) (hb : c.code = cc) {own ref C : String} {T : u_T} {N ci index : Nat} {Ts : List Cond} (hts : ∀ w ∈ Ts, w.before args s = true) (hin : ∀ w ∈ u_ws C T N, w ∈ Ts) (ty0 : Nat → FieldType) (hty : ∀ k, k < N → parseFieldDescriptor (T k).2.2.1 = some (ty0 k)) (hnm : ∀ a, a < N → ∀ b, b < N → a ≠ b → (T a).2.1 ≠ (T b).2.1) (hown : s.vm.findClass own = some m.cls) {tys : List (ClassId × FieldType)} (hK : va_K D vwC tys s) (hc : CS D h n G H0 H locs) {i : Nat} (hi0 : i < n) {fs : List Value} (he : G i = .inr (ci, fs)) (hci : vwC[ci]? = some (C, T, N)) (k : Nat) (hk : k < N) (hlink : (Cond.fieldLink own index ref (T k).2.1 (T k).2.2.1).before args s = true) (hsame : ∀ x, s.fieldFound? (T k).1 (T k).2.1 (T k).2.2.1 = some x → s.fieldFound? ref (T k).2.1 (T k).2.2.1 = some x) (hfin : (T k).2.2.2 = false) {ty : FieldType} {v : Value} (hd : parseFieldDescriptor (T k).2.2.1 = some ty) (hn : narrow ty v = v) (hfit : fits ty v = true) (hl : k < fs.length)
    (hdg : decode cc pc = .ok (.putfield index, 3)) (kk : ∀ (H1 : Heap) (locs1 : List Loc), CS D h n (va_up G i (.inr (ci, fs.set k v))) H0 H1 locs1 → W p l e R s m args below meth c H1 locs1 cells slots Q (F0 m (pc + 3) ls rest)) : W p l e R s m args below meth c H locs cells slots Q (F0 m pc ls (v :: .ref (h + i) :: rest)) := by
  have hap := va_apart (own := own) hts hin ty0 hty hnm hK hci
  have hG := hc.2.1 i hi0
  rw [he] at hG
  obtain ⟨r, h1, cell, q1, q2, q3, q4⟩ := hG
  have hr : r = (C, T, N) := Option.some.inj (h1.symm.trans hci)
  subst hr
  obtain ⟨hS, hfc, kC, hkC, hkind⟩ := hK.1 ci _ hci
  obtain ⟨cf, kf, fi, f, hi, hsl⟩ := hS k hk
  have hlay := hts _ (hin _ (u_in_lay hk))
  unfold u_lay at hlay
  rw [if_neg (by rw [hfin]; decide)] at hlay
  have hst := (u_facts hfc hkC (u_lays hts hin hk) hi).1
  have h6 := u_store hfc hkC hkind hlay hi hd hn hfit
  refine W.putK hx hb (f := f) ⟨hown, hlink, ⟨_, _, _, hsame _ hi⟩, hst⟩ (by rw [q2]; exact h6) q1 q3 (by rw [hsl]; exact k2_hasslot (q4 k hk)) rfl rfl hdg fun H' e1 e2 e3 => ?_
  rw [hsl] at e1 ⊢
  exact kk H' _ (CS_st _ hc e2 e3 ⟨_, hci, t_OB.to (V := updV (vp_V fs) k v) ⟨_, e1, q2, q3, t_set q4 hap hk v⟩ (fun j _ => vp_updV_set hl v j)⟩)
theorem cs_ast (hx : p.tables.exec = Jvm.exec) (hb : c.code = cc) {tys : List (ClassId × FieldType)} (hK : va_K D vwC tys s) (hc : CS D h n G H0 H locs) (t0 ci : Nat) {i j : Nat} (hi : i < n) (hj : j < n) {cA : ClassId} {r : vw_C} {N : Nat} {vs : List Value} {f : Nat → Option Nat} (ha : G i = .inl (cA, N, .inr (.inr (.inr (.inr f))))) (ht : tys[t0]? = some (cA, .object r.1)) (hv : G j = .inr (ci, vs)) (hcl : vwC[ci]? = some r) {x : Int32} (hin : vp_in x N) (hdg : decode cc pc = .ok (.aastore, 1))
    (kk : ∀ (H1 : Heap) (locs1 : List Loc), CS D h n (va_up G i (.inl (cA, N, .inr (.inr (.inr (.inr (va_up f x.toNatClampNeg (some (h + j)))))))) ) H0 H1 locs1 → W p l e R s m args below meth c H1 locs1 cells slots Q (F0 m (pc + 1) ls rest)) : W p l e R s m args below meth c H locs cells slots Q (F0 m pc ls (.ref (h + j) :: .int x :: .ref (h + i) :: rest)) := by
  have hlt : x.toNatClampNeg < N := Nat.not_le.mp fun q => hin (Or.inr q)
  have h0 : ¬ x < 0 := fun q => hin (Or.inl q)
  have hGi := hc.2.1 i hi
  have hGj := hc.2.1 j hj
  rw [ha] at hGi
  rw [hv] at hGj
  obtain ⟨r', hr', cellV, g1, g2, g3, -⟩ := hGj
  have hcls := (hK.1 ci r hcl).2
  obtain ⟨kA, comp, k1, k2, k3, -⟩ := (hK.2 t0 _ ht).2
  have hcomp : comp = D.1 ci := Option.some.inj (k3.symm.trans hcls.1)
  subst hcomp
  obtain ⟨kC, hkC, -⟩ := hcls.2
  refine W.aast hx hb hGi (fun q h => by cases h) (fun h => by cases h) k1 k2 rfl hkC ⟨h0, by show _ < (arrV _ _ _).slots.size; rw [arrV_size]; exact hlt⟩ g1 (fun q h => by rw [g3] at h; cases h) (by rw [g2]; exact hkC) (by rw [g2]; exact va_assign hcls) rfl rfl hdg fun H1 e1 z oq => ?_
  refine kk H1 _ (CS_st _ hc z oq ?_)
  show H1[h + i]? = some (vp_cell _ _)
  rw [e1]
  show some ((vp_cell cA (N, Sum.inr (Sum.inr (Sum.inr (Sum.inr f))))).setSlot x.toNatClampNeg (.ref (h + j))) = _
  rw [vp_cell_q, vp_cell_q, arrV_store]
  congr 2
  funext q
  by_cases hq : q = x.toNatClampNeg
  · subst hq
    simp [updV, va_up, va_rf]
  · simp [updV, va_up, hq]
/-- what a constructor makes of the object at h, the last cell: N cells, g -/
def CT (l : Launch) (y : MethodName) (ws : List Cond) (rm : Room) (D : va_G) (aC : Nat → ClassId) (AO : State → Prop) (ci : Nat) (fs : List Value) (h : Nat) (g : Nat → va_E) (N mc ms : Nat) : Prop := Met l y ws rm (va_Pc [.ref h] (fun U => (U.heap.size = h + 1 ∧ va_at D vwC (h, .inr (ci, fs)) U.heap) ∧ va_K D vwC (tysA aC) U ∧ AO U)) (va_Qv (fun _ : Unit => True) (fun _ t => t.heap.size = h + N ∧ ∀ k, k < N → va_at D vwC (h + k, g k) t.heap) (fun q => h ≤ q)) mc ms (fun q => h ≤ q)
theorem cs_call {y : MethodName} {ws' : List Cond} {rm : Room} {aC : Nat → ClassId} {AO : State → Prop} {ci : Nat} {fs : List Value} {g : Nat → va_E} {N mc ms nL maxL index : Nat} {bytes : ByteArray} {own : String} {Ts : List Cond} (hAO : ∀ u U : State, u.WarmedH U.vm → AO u → AO U) (hct : CT l y ws' rm D aC AO ci fs (h + n) g N mc ms) (S : CallFix p m c cc nL s args Ts own) (cw : CallB R s args own index y bytes maxL none ws' rm mc ms 0 ∧ y.name = "<init>" ∧ (Cond.instanceMethod y).before args s = true) (hK : va_K D vwC (tysA aC) s) (hA : AO s) (hc : CS D h (n + 1) G H0 H locs) (he : G n = .inr (ci, fs)) (hsize : ls.size = nL) (hW : 2 * (F0 m pc ls (.ref (h + n) :: rest)).monitorRoom + (rest.map fun v => v.category).sum ≤ 8) (hdg : decode cc pc = .ok (.invokespecial index, 3)) (hf : cells + mc ≤ R.cells ∧ slots + ms ≤ R.slots)
    (hz0 : H0.size ≤ h + n + 1)
    (kk : ∀ (H1 : Heap) (locs1 : List Loc), CS D h (n + N) (fun k => if k < n then G k else g (k - n)) H0 H1 locs1 → W p l e R s m args below meth c H1 locs1 (cells + mc) (slots + ms) Q (F0 m (pc + 3) ls rest)) : W p l e R s m args below meth c H locs cells slots Q (F0 m pc ls (.ref (h + n) :: rest)) := by
  obtain ⟨c1, c2, c3, c4⟩ := hc
  have hcell : va_at D vwC (h + n, .inr (ci, fs)) H := by have := c2 n (Nat.lt_succ_self n); rw [he] at this; exact this
  have hS : va_S (fun q => h ≤ q) H0 H locs := ⟨by omega, fun q h1 h2 => c3 q (by omega), c4⟩
  refine va_callv (va_runI (As := []) (rest := rest) S hct cw ⟨fun a U g mk q => ⟨q.1, q.2.1, va_K.moved (u := U) (U := U.calling g mk a) (Vm.Alike.refl U.vm) q.2.2.1, hAO U (U.calling g mk a) (State.WarmedH.refl U) q.2.2.2⟩, fun U hU hW => ⟨rfl, ⟨by rw [hU]; exact c1, by rw [hU]; exact hcell⟩, va_K.moved hW.alike hK, hAO s U hW hA⟩⟩ rfl rfl hsize rfl hW hdg hf) hS (fun q _ hq => Nat.le_trans (Nat.le_add_right h n) hq) (fun q hq => Nat.le_trans (Nat.le_add_right h n) hq) (fun u t H1 locs1 ht hvm hpost hB hz1 hk1 hS1 => ?_)
  obtain ⟨b1, b2⟩ := hB
  rw [ht] at b1 b2
  refine kk H1 locs1 ⟨by rw [b1, Nat.add_assoc], fun k hk => ?_, fun q hq => (hk1 q (by omega) (by show ¬ h + n ≤ q; omega)).trans (c3 q hq), hS1.2.2⟩
  dsimp only
  by_cases k1 : k < n
  · rw [if_pos k1]
    exact (c2 k (by omega)).kept (hk1 _ (by show h + k < H.size; omega) (by show ¬ h + n ≤ h + k; omega))
  · rw [if_neg k1]
    have := b2 (k - n) (by omega)
    rw [show h + n + (k - n) = h + k by omega] at this
    exact this
theorem cs_callN {y : MethodName} {ws' : List Cond} {rm : Room} {aC : Nat → ClassId} {AO : State → Prop} {ci : Nat} {fs : List Value} {g : Nat → va_E} {N mc ms nL maxL index : Nat} {bytes : ByteArray} {own host : String} {Ts : List Cond} (hAO : ∀ u U : State, u.WarmedH U.vm → AO u → AO U) (hct : CT l y ws' rm D aC AO ci fs (h + n) g N mc ms) (S : CallFix p m c cc nL s args Ts own) (cw : va_CN R s args own index y host bytes maxL none ws' rm mc ms 0 ∧ y.name = "<init>" ∧ (Cond.instanceMethod y).before args s = true) (hK : va_K D vwC (tysA aC) s) (hA : AO s) (hc : CS D h (n + 1) G H0 H locs) (he : G n = .inr (ci, fs)) (hsize : ls.size = nL) (hW : 2 * (F0 m pc ls (.ref (h + n) :: rest)).monitorRoom + (rest.map fun v => v.category).sum ≤ 8) (hdg : decode cc pc = .ok (.invokespecial index, 3)) (hf : cells + mc ≤ R.cells ∧ slots + ms ≤ R.slots)
    (hz0 : H0.size ≤ h + n + 1)
    (kk : ∀ (H1 : Heap) (locs1 : List Loc), CS D h (n + N) (fun k => if k < n then G k else g (k - n)) H0 H1 locs1 → W p l e R s m args below meth c H1 locs1 (cells + mc) (slots + ms) Q (F0 m (pc + 3) ls rest)) : W p l e R s m args below meth c H locs cells slots Q (F0 m pc ls (.ref (h + n) :: rest)) := by
  obtain ⟨c1, c2, c3, c4⟩ := hc
  have hcell : va_at D vwC (h + n, .inr (ci, fs)) H := by have := c2 n (Nat.lt_succ_self n); rw [he] at this; exact this
  have hS : va_S (fun q => h ≤ q) H0 H locs := ⟨by omega, fun q h1 h2 => c3 q (by omega), c4⟩
  refine va_callv (va_runIN (As := []) (rest := rest) S hct cw ⟨fun a U g mk q => ⟨q.1, q.2.1, va_K.moved (u := U) (U := U.calling g mk a) (Vm.Alike.refl U.vm) q.2.2.1, hAO U (U.calling g mk a) (State.WarmedH.refl U) q.2.2.2⟩, fun U hU hW => ⟨rfl, ⟨by rw [hU]; exact c1, by rw [hU]; exact hcell⟩, va_K.moved hW.alike hK, hAO s U hW hA⟩⟩ rfl rfl hsize rfl hW hdg hf) hS (fun q _ hq => Nat.le_trans (Nat.le_add_right h n) hq) (fun q hq => Nat.le_trans (Nat.le_add_right h n) hq) (fun u t H1 locs1 ht hvm hpost hB hz1 hk1 hS1 => ?_)
  obtain ⟨b1, b2⟩ := hB
  rw [ht] at b1 b2
  refine kk H1 locs1 ⟨by rw [b1, Nat.add_assoc], fun k hk => ?_, fun q hq => (hk1 q (by omega) (by show ¬ h + n ≤ q; omega)).trans (c3 q hq), hS1.2.2⟩
  dsimp only
  by_cases k1 : k < n
  · rw [if_pos k1]
    exact (c2 k (by omega)).kept (hk1 _ (by show h + k < H.size; omega) (by show ¬ h + n ≤ h + k; omega))
  · rw [if_neg k1]
    have := b2 (k - n) (by omega)
    rw [show h + n + (k - n) = h + k by omega] at this
    exact this
end CSR
