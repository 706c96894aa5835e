/-! ===== the making of the objects: this at h0, new cells at b, b + 1, .. ===== -/
def CR (E : WE) (A : Nat → Prop) (h0 b : Nat) (e0 : va_E) (cs : List va_E) (H0 H : Heap) (locs : List Loc) : Prop :=
  va_at (eD E) vwCl (h0, e0) H ∧ (∀ (k : Nat) (e : va_E), cs[k]? = some e → va_at (eD E) vwCl (b + k, e) H) ∧ H.size = b + cs.length ∧ h0 < b ∧ va_S A H0 H locs
def NW (U : State) : Prop := va_AO "WoundEggs$Store" U ∧ va_AO "WoundEggs$Tape" U ∧ va_AOA .int U
def PC (E : WE) (h0 b : Nat) (e0 : va_E) (av : List Value) (N : State → Prop) : Array Value → State → Prop := va_Pc av (fun U => va_at (eD E) vwCl (h0, e0) U.heap ∧ U.heap.size = b ∧ h0 < b ∧ va_K (eD E) vwCl (wtys E) U ∧ N U)
def QC (E : WE) (h0 b : Nat) (e0 : va_E) (cs : List va_E) : Array Value → State → Outcome → State → Prop := fun _ st oc t => (oc = .returned none ∧ va_at (eD E) vwCl (h0, e0) t.heap ∧ (∀ (k : Nat) (e : va_E), cs[k]? = some e → va_at (eD E) vwCl (b + k, e) t.heap) ∧ t.heap.size = b + cs.length) ∧ va_F (fun q => q = h0 ∨ b ≤ q) st t
theorem CR.start {E : WE} {h0 b : Nat} {e0 : va_E} {H : Heap} (h1 : va_at (eD E) vwCl (h0, e0) H) (h2 : H.size = b) (h3 : h0 < b) (A : Nat → Prop) : CR E A h0 b e0 [] H H [] := ⟨h1, fun k e h => by simp at h, h2, h3, va_S.rf⟩
theorem CR.grow {E : WE} {A : Nat → Prop} {h0 b : Nat} {e0 : va_E} {cs es : List va_E} {H0 H H1 : Heap} {locs : List Loc} (hC : CR E A h0 b e0 cs H0 H locs) (ho : ∀ q, q < H.size → H1[q]? = H[q]?) (hn : ∀ (k : Nat) (e : va_E), es[k]? = some e → va_at (eD E) vwCl (H.size + k, e) H1) (hz : H1.size = H.size + es.length) : CR E A h0 b e0 (cs ++ es) H0 H1 locs := by
  obtain ⟨h1, h2, h3, h4, h5⟩ := hC
  refine ⟨h1.kept (ho _ (by show h0 < H.size; omega)), fun k e hk => ?_, by rw [hz, h3, List.length_append, Nat.add_assoc], h4, ⟨Nat.le_trans h5.1 (by omega), fun q q1 q2 => (ho q (Nat.lt_of_lt_of_le q1 h5.1)).trans (h5.2.1 q q1 q2), h5.2.2⟩⟩
  by_cases hl : k < cs.length
  · rw [List.getElem?_append_left hl] at hk
    exact (h2 k e hk).kept (ho _ (by show b + k < H.size; omega))
  · rw [List.getElem?_append_right (by omega)] at hk
    have h := hn _ e hk
    rw [h3, show b + cs.length + (k - cs.length) = b + k by omega] at h
    exact h
theorem CR.put0 {E : WE} {A : Nat → Prop} {h0 b : Nat} {e0 e1 : va_E} {cs : List va_E} {H0 H H1 : Heap} {locs : List Loc} {k9 : Nat} (hC : CR E A h0 b e0 cs H0 H locs) (hA : A h0) (ho : ∀ q, q ≠ h0 → H1[q]? = H[q]?) (hz : H1.size = H.size) (he : va_at (eD E) vwCl (h0, e1) H1) : CR E A h0 b e1 cs H0 H1 (locs ++ [⟨h0, k9⟩]) := by
  obtain ⟨h1, h2, h3, h4, h5⟩ := hC
  exact ⟨he, fun k e hk => (h2 k e hk).kept (ho _ (by show b + k ≠ h0; omega)), hz.trans h3, h4, h5.put hz ho hA⟩
theorem CR.putk {E : WE} {A : Nat → Prop} {h0 b j : Nat} {e0 e1 : va_E} {cs : List va_E} {H0 H H1 : Heap} {locs : List Loc} {k9 : Nat} (hC : CR E A h0 b e0 cs H0 H locs) (hj : j < cs.length) (hA : A (b + j)) (ho : ∀ q, q ≠ b + j → H1[q]? = H[q]?) (hz : H1.size = H.size) (he : va_at (eD E) vwCl (b + j, e1) H1) : CR E A h0 b e0 (cs.set j e1) H0 H1 (locs ++ [⟨b + j, k9⟩]) := by
  obtain ⟨h1, h2, h3, h4, h5⟩ := hC
  refine ⟨h1.kept (ho _ (by show h0 ≠ b + j; omega)), fun k e hk => ?_, by rw [List.length_set]; exact hz.trans h3, h4, h5.put hz ho hA⟩
  by_cases hkj : k = j
  · subst hkj
    rw [List.getElem?_set_self hj] at hk
    cases hk
    exact he
  · rw [List.getElem?_set_ne (Ne.symm hkj)] at hk
    exact (h2 k e hk).kept (ho _ (by show b + k ≠ b + j; omega))
section CROW
variable {p : Program} {l : Launch} {e : Env} {R : Room} {s : State} {m : MethodId} {args : Array Value} {below : List Frame} {meth : Method} {c : Code} {H : Heap} {locs : List Loc} {cells slots : Nat} {Q : State → Prop}
variable {cc : ByteArray} {pc : Nat} {ls : Array Slot} {rest st0 : List Value} {E : WE} {own : String} {H0 : Heap} {A : Nat → Prop} {h0 b : Nat} {e0 : va_E} {cs : List va_E}
theorem cr_new (hx : p.tables.exec = Jvm.exec) (hb : c.code = cc) (hB : ∀ w ∈ BIG, w.before args s = true) (hown : s.vm.findClass own = some m.cls) (hK : va_K (eD E) vwCl (wtys E) s) (hC : CR E A h0 b e0 cs H0 H locs) {C : String} {T : u_T} {N ci idx : Nat} (hin : ∀ w ∈ u_ws C T N, w ∈ BIG) (ty : Nat → FieldType) (hty : ∀ k, k < N → parseFieldDescriptor (T k).2.2.1 = some (ty k)) (hcl : Cond.classLink own idx C ∈ BIG) (hinst : Cond.instantiable C N ∈ BIG) (hini : Cond.initialized C ∈ BIG) (hc : vwCl[ci]? = some (C, T, N)) {fs : List Value} (hfs : ∀ j, j < N → defaultValue (ty j) = vp_V fs j) {a : Nat} (ha : a = b + cs.length) (hcells : cells + 1 ≤ R.cells) (hslots : slots + N ≤ R.slots) (hdg : decode cc pc = .ok (.new idx, 3))
    (kk : ∀ H1 : Heap, CR E A h0 b e0 (cs ++ [.inr (ci, fs)]) H0 H1 locs → W p l e R s m args below meth c H1 locs (cells + 1) (slots + N) Q (F0 m (pc + 3) ls (.ref a :: rest))) : W p l e R s m args below meth c H locs cells slots Q (F0 m pc ls rest) := by
  subst ha
  have hKn := hK.1 ci _ hc
  refine W.newcK hx hb hown (hB _ hcl) (hB _ hinst) (hB _ hini) rfl hdg hcells hslots hKn.2.1 hC.2.2.1 fun H1 kC hkC e1 z1 o1 => ?_
  refine kk H1 (hC.grow (fun q hq => o1 q (by rw [← hC.2.2.1]; exact hq)) (fun k x hx => ?_) (by rw [z1, hC.2.2.1]; rfl))
  have hz : k < 1 := (List.getElem?_eq_some_iff.mp hx).1
  rw [show k = 0 by omega] at hx
  cases hx
  rw [hC.2.2.1, show k = 0 by omega]
  exact ⟨_, hc, (u_born ty hB hin hKn hkC e1 hty).to hfs⟩
theorem cr_newa (hx : p.tables.exec = Jvm.exec) (hb : c.code = cc) (hB : ∀ w ∈ BIG, w.before args s = true) (hK : va_K (eD E) vwCl (wtys E) s) (hC : CR E A h0 b e0 cs H0 H locs) {atype : ArrayType} {ty : FieldType} (hty : newarray.typeOf atype = ty) (harr : Cond.arrayClass ty ∈ BIG) {t : Nat} (ht : (wtys E)[t]? = some (ecy E t, ty)) (hra : ∀ (U : State) (cA : ClassId), va_RA U cA ty = (U.vm.findClass ("[" ++ ty.toString) = some cA))
    {n : Int32} {N' : Nat} {a0 : vp_A} (ha : ∀ cA : ClassId, vp_cell cA a0 = arrV cA N' (fun _ => defaultValue ty)) (hn : ¬ n < 0) (hN : n.toNatClampNeg = N') (hbytes : N' * componentBytes ty ≤ 536870912) {a : Nat} (hadr : a = b + cs.length) (hcells : cells + 1 ≤ R.cells) (hslots : slots + N' ≤ R.slots) (hdg : decode cc pc = .ok (.newarray atype, 2))
    (kk : ∀ H1 : Heap, CR E A h0 b e0 (cs ++ [.inl (ecy E t, a0)]) H0 H1 locs → W p l e R s m args below meth c H1 locs (cells + 1) (slots + N') Q (F0 m (pc + 2) ls (.ref a :: rest))) : W p l e R s m args below meth c H locs cells slots Q (F0 m pc ls (.int n :: rest)) := by
  subst hty
  subst hadr
  refine va_newaK hx hb (hB _ harr) rfl hdg rfl hn hN hbytes hcells hslots hC.2.2.1 fun H1 cA e1 z1 o1 hAr hNm => ?_
  have h := (hK.2 t _ ht).2
  rw [hra] at h
  have hcc : cA = ecy E t := Option.some.inj (hNm.symm.trans h)
  subst hcc
  refine kk H1 (hC.grow (fun q hq => o1 q (by rw [← hC.2.2.1]; exact hq)) (fun k x hx => ?_) (by rw [z1, hC.2.2.1]; rfl))
  have hz : k < 1 := (List.getElem?_eq_some_iff.mp hx).1
  rw [show k = 0 by omega] at hx
  cases hx
  rw [hC.2.2.1, show k = 0 by omega]
  show H1[b + cs.length]? = some (vp_cell _ _)
  rw [ha]
  exact e1
theorem cr_newq (hx : p.tables.exec = Jvm.exec) (hb : c.code = cc) (hB : ∀ w ∈ BIG, w.before args s = true) (hown : s.vm.findClass own = some m.cls) (hK : va_K (eD E) vwCl (wtys E) s) (hC : CR E A h0 b e0 cs H0 H locs) {C : String} {idx : Nat} (hcl : Cond.classLink own idx C ∈ BIG) (hover : va_AO C s) {t : Nat} (ht : (wtys E)[t]? = some (ecy E t, .object C))
    {n : Int32} {N' : Nat} (hn : ¬ n < 0) (hN : n.toNatClampNeg = N') (hbytes : N' * 4 ≤ 536870912) {a : Nat} (hadr : a = b + cs.length) (hcells : cells + 1 ≤ R.cells) (hslots : slots + N' ≤ R.slots) (hdg : decode cc pc = .ok (.anewarray idx, 3))
    (kk : ∀ H1 : Heap, CR E A h0 b e0 (cs ++ [.inl (ecy E t, N', .inr (.inr (.inr (.inr (fun _ => none)))))]) H0 H1 locs → W p l e R s m args below meth c H1 locs (cells + 1) (slots + N') Q (F0 m (pc + 3) ls (.ref a :: rest))) : W p l e R s m args below meth c H locs cells slots Q (F0 m pc ls (.int n :: rest)) := by
  subst hN
  subst hadr
  refine W.anew hx hb hown (hB _ hcl) (va_AO.use hover) rfl hdg rfl hn hbytes hcells hslots fun cA kA comp f1 f2 f3 f4 => ?_
  obtain ⟨kA', comp', g1, g2, g3, g4⟩ := (hK.2 t _ ht).2
  have hcc : cA = ecy E t := Option.some.inj (f1.symm.trans g4)
  subst hcc
  generalize hH1 : H.push ({ cls := ecy E t, slots := Array.replicate n.toNatClampNeg .null, vm := .none } : Cell) = H1
  have z1 : H1.size = H.size + 1 := by rw [← hH1, Array.size_push]
  have e1 : H1[H.size]? = some (arrV (ecy E t) n.toNatClampNeg (fun _ => .null)) := by rw [← hH1, Array.getElem?_push_size, ← arrV_new]
  have o1 : ∀ q : Nat, q < H.size → H1[q]? = H[q]? := fun q hq => by rw [← hH1, Array.getElem?_push, if_neg (Nat.ne_of_lt hq)]
  rw [hC.2.2.1]
  refine kk H1 (hC.grow o1 (fun k x hx => ?_) z1)
  have hz : k < 1 := (List.getElem?_eq_some_iff.mp hx).1
  rw [show k = 0 by omega] at hx
  cases hx
  rw [show k = 0 by omega]
  show H1[H.size]? = some (vp_cell _ _)
  rw [vp_cell_q]
  exact e1
theorem cr_mna (hx : p.tables.exec = Jvm.exec) (hb : c.code = cc) (hB : ∀ w ∈ BIG, w.before args s = true) (hown : s.vm.findClass own = some m.cls) (hK : va_K (eD E) vwCl (wtys E) s) (hC : CR E A h0 b e0 cs H0 H locs) {idx : Nat} (hcl : Cond.classLink own idx "[[I" ∈ BIG) (hover : va_AOA .int s) (harr : Cond.arrayClass .int ∈ BIG)
    {n k : Int32} {N' K' : Nat} (hn : ¬ n < 0) (hk : ¬ k < 0) (hN : n.toNatClampNeg = N') (hM : k.toNatClampNeg = K') (hb1 : N' * 4 ≤ 536870912) (hb2 : K' * componentBytes .int ≤ 536870912) (hb3 : K' ≤ 536870912) {a : Nat} (hadr : a = b + cs.length) (hcells : cells + (1 + N') ≤ R.cells) (hslots : slots + (N' + N' * K') ≤ R.slots) (hdg : decode cc pc = .ok (.multianewarray idx 2, 4))
    (kk : ∀ H1 : Heap, CR E A h0 b e0 (cs ++ (.inl (ecy E 4, N', .inr (.inr (.inr (.inr (fun i => if i < N' then some (a + 1 + i) else none))))) :: List.replicate N' (.inl (ecy E 0, K', .inl (fun _ => 0))))) H0 H1 locs → W p l e R s m args below meth c H1 locs (cells + 1 + N') (slots + N' + N' * K') Q (F0 m (pc + 4) ls (.ref a :: rest))) : W p l e R s m args below meth c H locs cells slots Q (F0 m pc ls (.int k :: .int n :: rest)) := by
  subst hN
  subst hM
  subst hadr
  intro T hT Xs
  obtain ⟨vm₁, cA, comp, -, fA, fC, hO, -, X', step⟩ := Xs.multianewarray2F hx hown (ty := .int) (hB _ hcl) (va_AOA.use hover) (hB _ harr) (g := F0 m pc ls (.int k :: .int n :: rest)) rfl (by rw [hb]; exact hdg) rfl hn hk hb1 hb2 hb3 rfl rfl hcells hslots
  have h4 : s.vm.findClass ("[" ++ (FieldType.array .int).toString) = some (ecy E 4) := (hK.2 4 _ rfl).2
  have h0i : s.vm.findClass ("[" ++ (FieldType.int).toString) = some (ecy E 0) := (hK.2 0 _ rfl).2
  have ec : cA = ecy E 4 := Option.some.inj (fA.symm.trans h4)
  have ec2 : comp = ecy E 0 := Option.some.inj (fC.symm.trans h0i)
  subst ec
  subst ec2
  generalize hF : Jvm.Free.Multi.fill (T.setVm vm₁) (ecy E 4) (ecy E 0) n.toNatClampNeg k.toNatClampNeg (defaultValue .int) n.toNatClampNeg = F at X' step
  have hTh : (T.setVm vm₁).heap = H := hT
  obtain ⟨f1, f2, -, -⟩ := Jvm.Free.Multi.fill_facts (T.setVm vm₁) (ecy E 4) (ecy E 0) n.toNatClampNeg k.toNatClampNeg (defaultValue .int) n.toNatClampNeg
  rw [hF, hTh] at f1 f2
  have hold : ∀ x : Nat, x < H.size → F.heap[x]? = H[x]? := fun x hx => by
    have := Jvm.Free.Multi.fill_old (T.setVm vm₁) (ecy E 4) (ecy E 0) n.toNatClampNeg k.toNatClampNeg (defaultValue .int) (a := x) (by rw [hTh]; exact hx) n.toNatClampNeg
    rw [hF, hTh] at this
    exact this
  have hrow : ∀ j : Nat, j < n.toNatClampNeg → F.heap[H.size + 1 + j]? = some (vp_cell (ecy E 0) (k.toNatClampNeg, .inl (fun _ => 0))) := fun j hj => by
    have := Jvm.Free.Multi.fill_inner (T.setVm vm₁) (ecy E 4) (ecy E 0) n.toNatClampNeg k.toNatClampNeg (defaultValue .int) n.toNatClampNeg j hj
    rw [hF, hTh] at this
    rw [this, vp_cell_i, ← arrV_new]
    rfl
  have hout : Jvm.Free.Multi.outerC (ecy E 4) n.toNatClampNeg H.size n.toNatClampNeg = vp_cell (ecy E 4) (n.toNatClampNeg, .inr (.inr (.inr (.inr (fun i => if i < n.toNatClampNeg then some (H.size + 1 + i) else none))))) := by
    rw [vp_cell_q]
    exact vr_outer (ecy E 4) n.toNatClampNeg H.size n.toNatClampNeg
  rw [hout] at f2
  have hC1 := hC.grow (H1 := F.heap) (es := .inl (ecy E 4, n.toNatClampNeg, .inr (.inr (.inr (.inr (fun i => if i < n.toNatClampNeg then some (b + cs.length + 1 + i) else none))))) :: List.replicate n.toNatClampNeg (.inl (ecy E 0, k.toNatClampNeg, .inl (fun _ => 0)))) hold (fun j x hx => by
    cases j with
    | zero =>
      rw [List.getElem?_cons_zero] at hx
      cases hx
      rw [← hC.2.2.1]
      exact f2
    | succ j =>
      rw [List.getElem?_cons_succ, List.getElem?_replicate] at hx
      split at hx
      · rename_i hj
        cases hx
        rw [show H.size + (j + 1) = H.size + 1 + j by omega]
        exact hrow j hj
      · cases hx) (by rw [f1, List.length_cons, List.length_replicate]; omega)
  obtain ⟨t, a1, b1⟩ := kk F.heap hC1 F rfl X'
  refine ⟨t, step t ?_, b1⟩
  have e : T.heap.size = b + cs.length := by rw [hT, hC.2.2.1]
  rw [e]
  exact a1
/-- a field of this -/
theorem cr_put (hx : p.tables.exec = Jvm.exec) (hb : c.code = cc) (hB : ∀ w ∈ BIG, w.before args s = true) (hown : s.vm.findClass own = some m.cls) (hK : va_K (eD E) vwCl (wtys E) s) {ci N idx : Nat} {C : String} {T : u_T} {fs : List Value} (hC : CR E A h0 b (.inr (ci, fs)) cs H0 H locs) (hA : A h0) (hc : vwCl[ci]? = some (C, T, N)) (hin : ∀ w ∈ u_ws C T N, w ∈ BIG) (ty0 : Nat → FieldType) (hty : ∀ k, k < N → parseFieldDescriptor (T k).2.2.1 = some (ty0 k)) (hnm : ∀ a, a < N → ∀ b, b < N → a ≠ b → (T a).2.1 ≠ (T b).2.1) (j : Nat) (hj : j < N) (hlink : Cond.fieldLink own idx (T j).1 (T j).2.1 (T j).2.2.1 ∈ BIG) (hfin : (T j).2.2.2 = false) {v : Value} {ty : FieldType} (hd : parseFieldDescriptor (T j).2.2.1 = some ty) (hn : narrow ty v = v) (hfit : fits ty v = true) (hl : j < fs.length) (hdg : decode cc pc = .ok (.putfield idx, 3))
    (kk : ∀ (H1 : Heap) (locs1 : List Loc), CR E A h0 b (.inr (ci, fs.set j v)) cs H0 H1 locs1 → W p l e R s m args below meth c H1 locs1 cells slots Q (F0 m (pc + 3) ls rest)) : W p l e R s m args below meth c H locs cells slots Q (F0 m pc ls (v :: .ref h0 :: rest)) := by
  have hap := va_apart (own := own) hB hin ty0 hty hnm hK hc
  obtain ⟨r, h1, cell, q1, q2, q3, q4⟩ := hC.1
  have hr : r = (C, T, N) := Option.some.inj (h1.symm.trans hc)
  subst hr
  obtain ⟨hS, hfc, kC, hkC, hkind⟩ := hK.1 ci _ hc
  obtain ⟨cf, kf, fi, f, hi, hsl⟩ := hS j hj
  have hlay := hB _ (hin _ (u_in_lay hj))
  unfold u_lay at hlay
  rw [if_neg (by rw [hfin]; decide)] at hlay
  have hst := (u_facts hfc hkC (u_lays hB hin hj) hi).1
  have h6 := u_store hfc hkC hkind hlay hi hd hn hfit
  refine W.putK hx hb (f := f) ⟨hown, hB _ hlink, ⟨_, _, _, hi⟩, hst⟩ (by rw [q2]; exact h6) q1 q3 (by rw [hsl]; exact k2_hasslot (q4 j hj)) rfl rfl hdg fun H' e1 e2 e3 => ?_
  rw [hsl] at e1 ⊢
  exact kk H' _ (hC.put0 hA e3 e2 ⟨_, hc, t_OB.to (V := updV (vp_V fs) j v) ⟨_, e1, q2, q3, t_set q4 hap hj v⟩ (fun i _ => vp_updV_set hl v i)⟩)
theorem cr_putF (hx : p.tables.exec = Jvm.exec) (hb : c.code = cc) (hB : ∀ w ∈ BIG, w.before args s = true) (hown : s.vm.findClass own = some m.cls) (hK : va_K (eD E) vwCl (wtys E) s) {ci N idx : Nat} {C : String} {T : u_T} {fs : List Value} (hC : CR E A h0 b (.inr (ci, fs)) cs H0 H locs) (hA : A h0) (hc : vwCl[ci]? = some (C, T, N)) (hin : ∀ w ∈ u_ws C T N, w ∈ BIG) (ty0 : Nat → FieldType) (hty : ∀ k, k < N → parseFieldDescriptor (T k).2.2.1 = some (ty0 k)) (hnm : ∀ a, a < N → ∀ b, b < N → a ≠ b → (T a).2.1 ≠ (T b).2.1) (j : Nat) (hj : j < N) (hlink : Cond.fieldLink own idx (T j).1 (T j).2.1 (T j).2.2.1 ∈ BIG) (hfin : (T j).2.2.2 = true) (hin2 : meth.name = "<init>") (hdecl : (T j).1 = own) {v : Value} {ty : FieldType} (hd : parseFieldDescriptor (T j).2.2.1 = some ty) (hn : narrow ty v = v) (hfit : fits ty v = true) (hl : j < fs.length) (hdg : decode cc pc = .ok (.putfield idx, 3))
    (kk : ∀ (H1 : Heap) (locs1 : List Loc), CR E A h0 b (.inr (ci, fs.set j v)) cs H0 H1 locs1 → W p l e R s m args below meth c H1 locs1 cells slots Q (F0 m (pc + 3) ls rest)) : W p l e R s m args below meth c H locs cells slots Q (F0 m pc ls (v :: .ref h0 :: rest)) := by
  have hap := va_apart (own := own) hB hin ty0 hty hnm hK hc
  obtain ⟨r, h1, cell, q1, q2, q3, q4⟩ := hC.1
  have hr : r = (C, T, N) := Option.some.inj (h1.symm.trans hc)
  subst hr
  obtain ⟨hS, hfc, kC, hkC, hkind⟩ := hK.1 ci _ hc
  obtain ⟨cf, kf, fi, f, hi, hsl⟩ := hS j hj
  have hlay := hB _ (hin _ (u_in_lay hj))
  unfold u_lay at hlay
  rw [if_pos hfin] at hlay
  have hst := (u_facts hfc hkC (u_lays hB hin hj) hi).1
  have hcf : m.cls = cf := by
    obtain ⟨_, _, c', _, _, _, -, -, hf', -, -, -, hown2, -⟩ := Cond.laysFinal_spec hlay
    have e1 : c' = cf := by have := hi.symm.trans hf'; simp at this; exact this.1.symm
    rw [hdecl] at hown2
    rw [← e1]; exact Option.some.inj (hown.symm.trans hown2)
  have h6 := u_fits hfc hkC hkind (Or.inr hlay) hi hd hn hfit
  refine W.putFinK hx hb hown (hB _ hlink) hi hst hcf hin2 (by rw [q2]; exact h6) q1 q3 (by rw [hsl]; exact k2_hasslot (q4 j hj)) rfl rfl hdg fun H' e1 e2 e3 => ?_
  rw [hsl] at e1 ⊢
  exact kk H' _ (hC.put0 hA e3 e2 ⟨_, hc, t_OB.to (V := updV (vp_V fs) j v) ⟨_, e1, q2, q3, t_set q4 hap hj v⟩ (fun i _ => vp_updV_set hl v i)⟩)
theorem cr_get (hx : p.tables.exec = Jvm.exec) (hb : c.code = cc) (hB : ∀ w ∈ BIG, w.before args s = true) (hown : s.vm.findClass own = some m.cls) (hK : va_K (eD E) vwCl (wtys E) s) {ci N idx : Nat} {C : String} {T : u_T} {fs : List Value} (hC : CR E A h0 b (.inr (ci, fs)) cs H0 H locs) (hc : vwCl[ci]? = some (C, T, N)) (hin : ∀ w ∈ u_ws C T N, w ∈ BIG) (j : Nat) (hj : j < N) (hlink : Cond.fieldLink own idx (T j).1 (T j).2.1 (T j).2.2.1 ∈ BIG) {v : Value} (hv : fs[j]? = some v) (hdg : decode cc pc = .ok (.getfield idx, 3))
    (kk : W p l e R s m args below meth c H locs cells slots Q (F0 m (pc + 3) ls (v :: rest))) : W p l e R s m args below meth c H locs cells slots Q (F0 m pc ls (.ref h0 :: rest)) := by
  have hP : va_P (eD E) vwCl [(h0, .inr (ci, fs))] H := fun k q hq => by
    have hz : k < 1 := (List.getElem?_eq_some_iff.mp hq).1
    rw [show k = 0 by omega] at hq
    cases hq
    exact hC.1
  exact va_get hx hb hB hin hown hK hP 0 rfl hc j hj (hB _ hlink) (fun _ h => h) hv hdg kk
/-- an int of a new row -/
theorem cr_iast (hx : p.tables.exec = Jvm.exec) (hb : c.code = cc) (hK : va_K (eD E) vwCl (wtys E) s) (hC : CR E A h0 b e0 cs H0 H locs) (hA : ∀ q, b ≤ q → A q) {j n a : Nat} {f : Nat → Int32} (he : cs[j]? = some (.inl (ecy E 0, n, .inl f))) (hadr : a = b + j) {i x : Int32} (hin : vp_in i n) (hdg : decode cc pc = .ok (.iastore, 1))
    (kk : ∀ (H1 : Heap) (locs1 : List Loc), CR E A h0 b e0 (cs.set j (.inl (ecy E 0, n, .inl (upd f i.toNatClampNeg x)))) H0 H1 locs1 → W p l e R s m args below meth c H1 locs1 cells slots Q (F0 m (pc + 1) ls rest)) : W p l e R s m args below meth c H locs cells slots Q (F0 m pc ls (.int x :: .int i :: .ref a :: rest)) := by
  subst hadr
  have hl : j < cs.length := (List.getElem?_eq_some_iff.mp he).1
  refine W.iast hx hb (hC.2.1 j _ he) ((hK.2 0 _ rfl).1 n (fun j => .int (f j))) (fun q => by cases q) (by show ¬ (i < 0 ∨ (arrV _ _ _).slots.size ≤ _); rw [arrV_size]; exact hin) rfl rfl hdg fun H1 e z oq => ?_
  refine kk H1 _ (hC.putk hl (hA _ (Nat.le_add_right _ _)) oq z ?_)
  show H1[b + j]? = some (vp_cell _ _)
  rw [e]
  rw [vp_cell_i, vp_cell_i, arrV_store]
  congr 2
  funext q
  by_cases hq : q = i.toNatClampNeg
  · subst hq
    simp [updV, upd]
  · simp [updV, upd, hq]
/-- a new object into a new row of references -/
theorem cr_aast (hx : p.tables.exec = Jvm.exec) (hb : c.code = cc) (hK : va_K (eD E) vwCl (wtys E) s) (hC : CR E A h0 b e0 cs H0 H locs) (hA : ∀ q, b ≤ q → A q) {j n a t qk v : Nat} {ci : Nat} {r : vw_C} {vs : List Value} {f : Nat → Option Nat} (he : cs[j]? = some (.inl (ecy E t, n, .inr (.inr (.inr (.inr f)))))) (ht : (wtys E)[t]? = some (ecy E t, .object r.1)) (hv : cs[qk]? = some (.inr (ci, vs))) (hc : vwCl[ci]? = some r) (hadr : a = b + j) (hvadr : v = b + qk) {i : Int32} (hin : vp_in i n) (hdg : decode cc pc = .ok (.aastore, 1))
    (kk : ∀ (H1 : Heap) (locs1 : List Loc), CR E A h0 b e0 (cs.set j (.inl (ecy E t, n, .inr (.inr (.inr (.inr (va_up f i.toNatClampNeg (some v)))))))) H0 H1 locs1 → W p l e R s m args below meth c H1 locs1 cells slots Q (F0 m (pc + 1) ls rest)) : W p l e R s m args below meth c H locs cells slots Q (F0 m pc ls (.ref v :: .int i :: .ref a :: rest)) := by
  subst hadr
  subst hvadr
  have hl : j < cs.length := (List.getElem?_eq_some_iff.mp he).1
  have hlt : i.toNatClampNeg < n := Nat.not_le.mp fun q => hin (Or.inr q)
  obtain ⟨r', hr', cellV, g1, g2, g3, -⟩ := hC.2.1 qk _ hv
  have hcls := (hK.1 ci r hc).2
  obtain ⟨kA, comp, k1, k2, k3, -⟩ := (hK.2 t _ ht).2
  have hcomp : comp = (eD E).1 ci := Option.some.inj (k3.symm.trans hcls.1)
  subst hcomp
  obtain ⟨kC, hkC, -⟩ := hcls.2
  refine W.aast hx hb (hC.2.1 j _ he) (fun q h => by cases h) (fun h => by cases h) k1 k2 rfl hkC ⟨fun h => hin (Or.inl h), by show _ < (arrV _ _ _).slots.size; rw [arrV_size]; exact hlt⟩ g1 (fun q h => by rw [g3] at h; cases h) (by rw [g2]; exact hkC) (by rw [g2]; exact va_assign hcls) rfl rfl hdg fun H1 e z oq => ?_
  refine kk H1 _ (hC.putk hl (hA _ (Nat.le_add_right _ _)) oq z ?_)
  show H1[b + j]? = some (vp_cell _ _)
  rw [e]
  rw [vp_cell_q, vp_cell_q, arrV_store]
  congr 2
  funext q
  by_cases hq : q = i.toNatClampNeg
  · subst hq
    simp [updV, va_up, va_rf]
  · simp [updV, va_up, hq]
/-- behind a constructor's call on the newest object -/
theorem cr_callv {mc ms a b1 : Nat} {e1 e1' : va_E} {cs1 : List va_E} {av : Array Value} {free : Addr → Prop} (hr : va_Run p l e R s m args below meth c H locs cells slots mc ms (F0 m pc ls st0) rest (QC E a b1 e1' cs1 av) free) (hfree : ∀ q, free q → q = a ∨ b1 ≤ q) (hC : CR E A h0 b e0 (cs ++ [e1]) H0 H locs) (hA : ∀ q, b ≤ q → A q) (ha : a = b + cs.length) (hb1 : b1 = a + 1) (kk : ∀ (H1 : Heap) (locs1 : List Loc), CR E A h0 b e0 (cs ++ (e1' :: cs1)) H0 H1 locs1 → W p l e R s m args below meth c H1 locs1 (cells + mc) (slots + ms) Q (F0 m (pc + 3) ls rest)) : W p l e R s m args below meth c H locs cells slots Q (F0 m pc ls st0) := by
  intro T hT X
  obtain ⟨v, st₀, t, T', L, q0, X', hL, q1, q2, ⟨⟨hv, g1, g2, g3⟩, hz, hk⟩, st⟩ := hr T hT X
  cases hv
  rw [q0] at hz hk
  obtain ⟨h1, h2, h3, h4, h5⟩ := hC
  rw [List.length_append, List.length_singleton] at h3
  have ho : ∀ q, q < H.size → q ≠ a → t.heap[q]? = H[q]? := fun q x1 x2 => hk q x1 (by rintro (z | z); exact x2 z; omega)
  have hC1 : CR E A h0 b e0 (cs ++ (e1' :: cs1)) H0 T'.heap (locs ++ L) := by
    rw [q1]
    refine ⟨h1.kept (ho _ (by show h0 < H.size; omega) (by show h0 ≠ a; omega)), fun k x hx => ?_, by rw [g3, List.length_append, List.length_cons]; omega, h4, ⟨Nat.le_trans h5.1 hz, fun q x1 x2 => (ho q (Nat.lt_of_lt_of_le x1 h5.1) (fun z => x2 (hA q (by omega)))).trans (h5.2.1 q x1 x2), fun q hq => ?_⟩⟩
    · by_cases hl : k < cs.length
      · rw [List.getElem?_append_left hl] at hx
        refine (h2 k x (by rw [List.getElem?_append_left hl]; exact hx)).kept (ho _ (by show b + k < H.size; omega) (by show b + k ≠ a; omega))
      · rw [List.getElem?_append_right (by omega)] at hx
        rcases Nat.eq_zero_or_pos (k - cs.length) with z | z
        · rw [z, List.getElem?_cons_zero] at hx
          cases hx
          rw [show b + k = a by omega]
          exact g1
        · obtain ⟨i, hi⟩ : ∃ i, k - cs.length = i + 1 := ⟨k - cs.length - 1, by omega⟩
          rw [hi, List.getElem?_cons_succ] at hx
          have h := g2 i x hx
          rw [show b1 + i = b + k by omega] at h
          exact h
    · rcases List.mem_append.mp hq with h | h
      · exact h5.2.2 q h
      · exact hA _ ((hfree _ (hL q h)).elim (fun z => by rw [z]; omega) (fun z => Nat.le_trans (by omega) z))
  obtain ⟨t2, a1, c1⟩ := kk T'.heap (locs ++ L) hC1 T' rfl X'
  exact ⟨t2, st t2 a1, c1⟩
theorem PC.blind (E : WE) (h0 b : Nat) (e0 : va_E) (av : List Value) {N : State → Prop} (hN : ∀ (U : State) (g : JFrame) (mk : MethodId) (a : Array Value), N U → N (U.calling g mk a)) : FrameBlind (PC E h0 b e0 av N) := fun a U g mk h => ⟨h.1, h.2.1, h.2.2.1, h.2.2.2.1, va_K.moved (u := U) (U := U.calling g mk a) (Vm.Alike.refl U.vm) h.2.2.2.2.1, hN U g mk a h.2.2.2.2.2⟩
end CROW
