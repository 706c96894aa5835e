/-! words -/
def BIG : List Cond := lw_tbl.filter goodWord
theorem big_tbl : ∀ w ∈ BIG, w ∈ lw_tbl := fun _ h => (List.mem_filter.mp h).1
theorem big_good {w : Cond} (h : w ∈ BIG) : w ∈ BIG ∧ ((w.onTables && w.keeps) = true ∨ ∃ ty, w = .arrayClass ty) := ⟨h, good_of_word (List.mem_filter.mp h).2⟩
theorem big_code {y : MethodName} {b : ByteArray} {n : Nat} {r : Option FieldType} (h : Cond.code y b n r ∈ BIG) : GoodIn BIG (.code y b n r :: BIG) := fun w hw => big_good ((List.mem_cons.mp hw).elim (fun e => e ▸ h) id)
theorem gB_V {own : String} {idx : Nat} {y : MethodName} {b : ByteArray} {n : Nat} {r : Option FieldType} (h1 : Cond.methodLink own idx y ∈ BIG) (h2 : Cond.instanceMethod y ∈ BIG) (h3 : Cond.selects y.cls y y ∈ BIG) (h4 : Cond.initialized y.cls ∈ BIG) (h5 : Cond.code y b n r ∈ BIG) : GoodIn BIG (wsV own idx y.cls y (.code y b n r :: BIG)) := by
  intro w hw
  rcases List.mem_append.mp hw with h | h
  · simp only [List.mem_cons, List.not_mem_nil, or_false] at h
    rcases h with rfl | rfl | rfl | rfl
    · exact big_good h1
    · exact big_good h2
    · exact big_good h3
    · exact big_good h4
  · exact big_code h5 w h
theorem gB_S {own : String} {idx : Nat} {y : MethodName} {b : ByteArray} {n : Nat} {r : Option FieldType} (h1 : Cond.methodLink own idx y ∈ BIG) (h2 : Cond.static y ∈ BIG) (h4 : Cond.initialized y.cls ∈ BIG) (h5 : Cond.code y b n r ∈ BIG) : GoodIn BIG (va_wsS own idx y (.code y b n r :: BIG)) := by
  intro w hw
  rcases List.mem_append.mp hw with h | h
  · simp only [List.mem_cons, List.not_mem_nil, or_false] at h
    rcases h with rfl | rfl | rfl
    · exact big_good h1
    · exact big_good h2
    · exact big_good h4
  · exact big_code h5 w h
/-! statics and String constants: what nobody writes -/
def fAB : Nat → Int32 := fun j => [-1, 0, 0, 0, 1, 2, 3].getD j 0
def fBO : Nat → Int32 := fun j => [10, 11, 12, 0, 20, 0, 30, 0, 0, 0, 0, 40, 50, 51, 0, 0, 0, 60, 71, 70, 0].getD j 0
def bytS : List (List Int32) := [[108, 97, 116, 101], [101, 97, 114, 108, 121], [97, 108, 108], [48, 49, 50, 51, 52, 53, 54, 55, 56, 57], [112, 107, 118, 109, 115, 98], [60, 61, 62], [108, 97, 116, 101, 32], [101, 97, 114, 108, 121, 32], [97, 108, 108, 32]]
def lenS : List Nat := [4, 5, 3, 10, 6, 3, 5, 6, 4]
def STRS : List (String × Nat × String × Nat) := [(RX3, 48, "late", 0), (RX3, 50, "early", 1), (RX3, 52, "all", 2), (RX5, 42, "0123456789", 3), (RX3, 74, "pkvmsb", 4), (RX3, 80, "<=>", 5), (RX7, 191, "late ", 6), (RX7, 197, "early ", 7), (RX7, 199, "all ", 8), (RX7, 160, "pkvmsb", 4), (RX7, 165, "<=>", 5)]
def NEST : List (String × Nat × MethodName) := [(RX2, 74, yX6_modulo), (RX2, 105, yX6_commonRest), (RX2, 111, yX6_commonMultiple), (RX6, 188, yX2_quietDays), (RX0, 52, yX6_within)]
def adS (E : WE) (i : Nat) : Nat := est E (10 + i)
def adB (E : WE) (i : Nat) : Nat := est E (20 + i)
def Stat (E : WE) (U : State) (H : Heap) : Prop :=
  (va_Z RX6 "ABOVE" "[I" (.ref (est E 0)) (eA E) U H ∧ va_T .int (est E 0) 7 (fun j => .int (fAB j)) (eA E) U H) ∧ (va_Z RX0 "BODY" "[I" (.ref (est E 1)) (eA E) U H ∧ va_T .int (est E 1) 21 (fun j => .int (fBO j)) (eA E) U H) ∧
  (va_Z RJ0 "COMPACT_STRINGS" "Z" (.int 1) (eA E) U H ∧ vk_S 9 lenS bytS (adS E) (adB E) (eA E) U H) ∧ (∀ q ∈ NEST, va_Nw (.methodLinkNest q.1 q.2.1 q.2.2 "WoundEggs") U) ∧ va_Nw (.fieldLinkNest RX0 43 RX6 "ABOVE" "[I" "WoundEggs") U ∧ (∀ q ∈ STRS, vk_R q.1 q.2.1 q.2.2.1 (adS E q.2.2.2) U) ∧ va_Zq RJ3 "SIOOBE_FORMATTER" "Ljava/util/function/BiFunction;" (eA E) U H
theorem Stat.go {E : WE} {s U : State} {H : Heap} {locs : List Loc} (hW : s.WarmedH U.vm) (hS : va_S (eA E) s.heap H locs) (h : Stat E s s.heap) : Stat E U H := by
  obtain ⟨⟨a1, a2⟩, ⟨b1, b2⟩, ⟨c1, c2⟩, d, e, f, g⟩ := h
  exact ⟨⟨(a1.moved hW.alike).kept hS.2.1, (a2.moved hW.alike).kept hS.2.1⟩, ⟨(b1.moved hW.alike).kept hS.2.1, (b2.moved hW.alike).kept hS.2.1⟩, ⟨(c1.moved hW.alike).kept hS.2.1, (c2.moved hW.alike).kept hS.2.1⟩,
    fun q hq => va_Nw.warmM hW (d q hq), va_Nw.warmF hW e, fun q hq => vk_R.warm hW (f q hq), (g.moved hW.alike).kept hS.2.1⟩
theorem Stat.calling {E : WE} {U : State} {g : JFrame} {mk : MethodId} {a : Array Value} (h : Stat E U U.heap) : Stat E (U.calling g mk a) (U.calling g mk a).heap := by
  obtain ⟨⟨a1, a2⟩, ⟨b1, b2⟩, ⟨c1, c2⟩, d, e, f, z⟩ := h
  have al : U.vm.Alike (U.calling g mk a).vm := Vm.Alike.refl U.vm
  exact ⟨⟨a1.moved al, a2.moved al⟩, ⟨b1.moved al, b2.moved al⟩, ⟨c1.moved al, c2.moved al⟩, fun q hq => va_Nw.same rfl (u := U) (U := U.calling g mk a) rfl (d q hq), va_Nw.same rfl (u := U) (U := U.calling g mk a) rfl e, fun q hq => vk_R.same (u := U) (U := U.calling g mk a) rfl (f q hq), z.moved al⟩
/-- a contract from a walk, for a class some of whose methods an entry runs (java.lang.Math) -/
theorem met_ofWF {l : Launch} {y : MethodName} {ws ws' : List Cond} {rm : Room} {Pc : Array Value → State → Prop} {Qc : Array Value → State → Outcome → State → Prop} {mc ms : Nat} {free : Addr → Prop} {cc : ByteArray} {maxL : Nat} {ret : Option FieldType}
    (hy : plainFor y = true) (hw : ws = Cond.code y cc maxL ret :: ws')
    (body : ∀ p e s m args below meth c s₁, BodyLoose p l y (headSpec ws rm) cc maxL ret e s m args below meth c s₁ → c.maxLocals = maxL → Pc args s →
      W p l e (headSpec ws rm).room s m args below meth c s.heap [] 0 0 (MQ below Qc args s mc ms free) (entryFrame m args maxL)) : Met l y ws rm Pc Qc mc ms free := by
  refine MetFree.of_bodySF (code := cc) (maxLocals := maxL) (ret := ret) hy ?_ ?_
  · intro args s m h hn
    obtain ⟨meth, c, h1, h2, h3, h4, h5, h6, -, -⟩ := Cond.code_spec hn (atoms_spec (ws := ws) h _ (by rw [hw]; exact List.mem_cons_self))
    exact ⟨meth, c, h1, h2, h3, h4, h5, h6⟩
  · intro p e s m args below meth c s₁ B hml hP _
    have hh0 : s₁.heap = s.heap := by rw [B.state]; rfl
    obtain ⟨t, a1, o, b1, b2, b3⟩ := body p e s m args below meth c s₁ B hml hP s₁ hh0 (Stand.of_body B)
    exact ⟨t, o, a1, b1, b2, ⟨b3.1, b3.2⟩⟩
/-! contracts' starts and ends -/
def PW (E : WE) (μ : Mem) (av : List Value) : Array Value → State → Prop := va_Pc av (fun U => Wd E μ U U.heap ∧ Stat E U U.heap)
def QI (E : WE) (r : Int32) (μ' : Mem) : Array Value → State → Outcome → State → Prop := va_Qi (fun r' (_ : Unit) => r' = r) (fun _ t => Wd E μ' t t.heap) (eA E)
def QN (E : WE) (ty : FieldType) (r : Int32) (μ' : Mem) : Array Value → State → Outcome → State → Prop := va_Qi (fun r' (_ : Unit) => r' = r ∧ narrow ty (.int r) = .int r) (fun _ t => Wd E μ' t t.heap) (eA E)
def QL (E : WE) (r : Int64) (μ' : Mem) : Array Value → State → Outcome → State → Prop := va_Ql (fun r' (_ : Unit) => r' = r) (fun _ t => Wd E μ' t t.heap) (eA E)
def QV (E : WE) (μ' : Mem) : Array Value → State → Outcome → State → Prop := va_Qv (fun (_ : Unit) => True) (fun _ t => Wd E μ' t t.heap) (eA E)
/-- a reference by its id; 0: null -/
def rv (E : WE) (k : Nat) : Value := if k = 0 then .null else .ref (ead E k)
theorem rv_0 (E : WE) : rv E 0 = .null := rfl
theorem rv_cat (E : WE) (k : Nat) : (rv E k).category = 1 := by
  unfold rv
  split <;> rfl
theorem rv_n (E : WE) {k : Nat} (h : ¬ k = 0) : rv E k = .ref (ead E k) := if_neg h
def QR (E : WE) (k : Nat) (μ' : Mem) : Array Value → State → Outcome → State → Prop := fun _ st oc t => (oc = .returned (some (rv E k)) ∧ Wd E μ' t t.heap) ∧ va_F (eA E) st t
theorem PW.blind (E : WE) (μ : Mem) (av : List Value) : FrameBlind (PW E μ av) := fun a U g mk h => ⟨h.1, ⟨h.2.1.1, va_K.moved (u := U) (U := U.calling g mk a) (Vm.Alike.refl U.vm) h.2.1.2.1, h.2.1.2.2⟩, h.2.2.calling⟩
def isO (k ci : Nat) (fs : WE → (Nat → Int32) → List Value) : Prop := k ∈ wids ∧ ∀ (E : WE) (f : Nat → Int32) (g : Nat → Int64), shape E f g k = .inr (ci, fs E f)
section WROW
variable {p : Program} {l : Launch} {e : Env} {R : Room} {s : State} {m : MethodId} {args : Array Value} {below : List Frame} {meth : Method} {c : Code} {H : Heap} {locs : List Loc} {cells slots : Nat} {Q : State → Prop}
variable {cc : ByteArray} {pc : Nat} {ls : Array Slot} {rest st0 : List Value} {E : WE} {μ μ' : Mem} {own : String} {H0 : Heap}
theorem lv_top' {x y : Int32} (h : x = y) (k : W p l e R s m args below meth c H locs cells slots Q (F0 m pc ls (.int y :: rest))) : W p l e R s m args below meth c H locs cells slots Q (F0 m pc ls (.int x :: rest)) := h ▸ k
theorem lv_topL' {x y : Int64} (h : x = y) (k : W p l e R s m args below meth c H locs cells slots Q (F0 m pc ls (.long y :: rest))) : W p l e R s m args below meth c H locs cells slots Q (F0 m pc ls (.long x :: rest)) := h ▸ k
/-- getfield -/
theorem w_get (hx : p.tables.exec = Jvm.exec) (hb : c.code = cc) (hB : ∀ w ∈ BIG, w.before args s = true) (hown : s.vm.findClass own = some m.cls) (hW : Wd E μ s H) {k ci N idx : Nat} {C : String} {T : u_T} (hk : k ∈ wids) {fs : List Value} (hs : shape E (gI μ k) (gL μ k) k = .inr (ci, fs)) (hc : vwCl[ci]? = some (C, T, N)) (hin : ∀ w ∈ u_ws C T N, w ∈ BIG) (j : Nat) (hj : j < N) (hlink : Cond.fieldLink own idx (T j).1 (T j).2.1 (T j).2.2.1 ∈ BIG) {v : Value} (hv : fs[j]? = some v) (hdg : decode cc pc = .ok (.getfield idx, 3))
    (kk : W p l e R s m args below meth c H locs cells slots Q (F0 m (pc + 3) ls (v :: rest))) : W p l e R s m args below meth c H locs cells slots Q (F0 m pc ls (.ref (ead E k) :: rest)) := by
  obtain ⟨i, -, hi⟩ := wcells_at E μ hk
  rw [hs] at hi
  exact va_get hx hb hB hin hown hW.2.1 hW.1 i hi hc j hj (hB _ hlink) (fun _ h => h) hv hdg kk
/-- putfield of an int or boolean field -/
theorem w_put (hx : p.tables.exec = Jvm.exec) (hb : c.code = cc) (hB : ∀ w ∈ BIG, w.before args s = true) (hown : s.vm.findClass own = some m.cls) (hW : Wd E μ s H) (hS : va_S (eA E) H0 H locs) {k ci N idx : Nat} {C : String} {T : u_T} (hk : k ∈ wids) {fs : List Value} (hs : shape E (gI μ k) (gL μ k) k = .inr (ci, fs)) (hc : vwCl[ci]? = some (C, T, N)) (hin : ∀ w ∈ u_ws C T N, w ∈ BIG) (ty0 : Nat → FieldType) (hty : ∀ k, k < N → parseFieldDescriptor (T k).2.2.1 = some (ty0 k)) (hnm : ∀ a, a < N → ∀ b, b < N → a ≠ b → (T a).2.1 ≠ (T b).2.1) (j : Nat) (hj : j < N) (hlink : Cond.fieldLink own idx (T j).1 (T j).2.1 (T j).2.2.1 ∈ BIG) (hfin : (T j).2.2.2 = false) {v : Int32} {ty : FieldType} (hd : parseFieldDescriptor (T j).2.2.1 = some ty) (hn : narrow ty (.int v) = .int v) (hfit : fits ty (.int v) = true) (hl : j < fs.length)
    (hs' : shape E (gI (sI μ k j v) k) (gL μ k) k = .inr (ci, fs.set j (.int v))) (hdg : decode cc pc = .ok (.putfield idx, 3))
    (kk : ∀ (H1 : Heap) (locs1 : List Loc), Wd E (sI μ k j v) s H1 → va_S (eA E) H0 H1 locs1 → W p l e R s m args below meth c H1 locs1 cells slots Q (F0 m (pc + 3) ls rest)) : W p l e R s m args below meth c H locs cells slots Q (F0 m pc ls (.int v :: .ref (ead E k) :: rest)) := by
  obtain ⟨i, hi0, hi⟩ := wcells_at E μ hk
  rw [hs] at hi
  refine va_put hx hb hB hin ty0 hty hnm hown hW.2.1 hW.1 hW.2.2 hS i hi hc j hj (hB _ hlink) (fun _ h => h) hfin hd hn hfit hl hdg (fun H1 locs1 hP hD hS1 => ?_)
  have he := wcells_set E μ (sI μ k j v) hi0 (e := .inr (ci, fs.set j (.int v))) (by rw [gL_sI]; exact hs'.symm) (fun a ha => ⟨gI_sI_ne ha, rfl⟩)
  rw [he] at hP hD
  exact kk H1 locs1 ⟨hP, hW.2.1, hD⟩ hS1
/-- an int of an int row -/
theorem w_iald (hx : p.tables.exec = Jvm.exec) (hb : c.code = cc) (hW : Wd E μ s H) {k n : Nat} (hk : k ∈ wids) (hs : shape E (gI μ k) (gL μ k) k = aI E n (gI μ k)) {i v : Int32} (hv : ldI μ k n i = some v) (hdg : decode cc pc = .ok (.iaload, 1))
    (kk : W p l e R s m args below meth c H locs cells slots Q (F0 m (pc + 1) ls (.int v :: rest))) : W p l e R s m args below meth c H locs cells slots Q (F0 m pc ls (.int i :: .ref (ead E k) :: rest)) := by
  obtain ⟨q, -, hq⟩ := wcells_at E μ hk
  rw [hs] at hq
  unfold ldI at hv
  split at hv
  · cases hv
  · rename_i hin
    cases hv
    exact va_iald hx hb hW.2.1 hW.1 q 0 hq rfl hin hdg kk
theorem w_bald (hx : p.tables.exec = Jvm.exec) (hb : c.code = cc) (hW : Wd E μ s H) {k n : Nat} (hk : k ∈ wids) (hs : shape E (gI μ k) (gL μ k) k = aB E n (gI μ k)) {i v : Int32} (hv : ldI μ k n i = some v) (hdg : decode cc pc = .ok (.baload, 1))
    (kk : W p l e R s m args below meth c H locs cells slots Q (F0 m (pc + 1) ls (.int v :: rest))) : W p l e R s m args below meth c H locs cells slots Q (F0 m pc ls (.int i :: .ref (ead E k) :: rest)) := by
  obtain ⟨q, -, hq⟩ := wcells_at E μ hk
  rw [hs] at hq
  unfold ldI at hv
  split at hv
  · cases hv
  · rename_i hin
    cases hv
    exact va_bald hx hb hW.2.1 hW.1 q 3 hq rfl hin hdg kk
theorem w_zald (hx : p.tables.exec = Jvm.exec) (hb : c.code = cc) (hW : Wd E μ s H) {k n : Nat} (hk : k ∈ wids) (hs : shape E (gI μ k) (gL μ k) k = aZ E n (gI μ k)) {i v : Int32} (hv : ldI μ k n i = some v) (hdg : decode cc pc = .ok (.baload, 1))
    (kk : W p l e R s m args below meth c H locs cells slots Q (F0 m (pc + 1) ls (.int v :: rest))) : W p l e R s m args below meth c H locs cells slots Q (F0 m pc ls (.int i :: .ref (ead E k) :: rest)) := by
  obtain ⟨q, -, hq⟩ := wcells_at E μ hk
  rw [hs] at hq
  unfold ldI at hv
  split at hv
  · cases hv
  · rename_i hin
    cases hv
    exact va_zald hx hb hW.2.1 hW.1 q 2 hq rfl hin hdg kk
theorem w_lald (hx : p.tables.exec = Jvm.exec) (hb : c.code = cc) (hW : Wd E μ s H) {k n : Nat} (hk : k ∈ wids) (hs : shape E (gI μ k) (gL μ k) k = aJ E n (gL μ k)) {i : Int32} {v : Int64} (hv : ldL μ k n i = some v) (hdg : decode cc pc = .ok (.laload, 1))
    (kk : W p l e R s m args below meth c H locs cells slots Q (F0 m (pc + 1) ls (.long v :: rest))) : W p l e R s m args below meth c H locs cells slots Q (F0 m pc ls (.int i :: .ref (ead E k) :: rest)) := by
  obtain ⟨q, -, hq⟩ := wcells_at E μ hk
  rw [hs] at hq
  unfold ldL at hv
  split at hv
  · cases hv
  · rename_i hin
    cases hv
    exact va_lald hx hb hW.2.1 hW.1 q 1 hq rfl hin hdg kk
/-- a reference of a row of references -/
theorem w_aald (hx : p.tables.exec = Jvm.exec) (hb : c.code = cc) (hW : Wd E μ s H) {k n j : Nat} {h : Nat → Nat} (hk : k ∈ wids) (hs : shape E (gI μ k) (gL μ k) k = aR E j n h) {ty : FieldType} (ht : (wtys E)[j]? = some (ecy E j, ty)) (hty : ty.isReference = true) {i : Int32} {v : Nat} (hv : aix i n = some v) (hdg : decode cc pc = .ok (.aaload, 1))
    (kk : W p l e R s m args below meth c H locs cells slots Q (F0 m (pc + 1) ls (.ref (ead E (h v)) :: rest))) : W p l e R s m args below meth c H locs cells slots Q (F0 m pc ls (.int i :: .ref (ead E k) :: rest)) := by
  obtain ⟨q, -, hq⟩ := wcells_at E μ hk
  rw [hs] at hq
  unfold aix at hv
  split at hv
  · cases hv
  · rename_i hin
    cases hv
    have hlt : i.toNatClampNeg < n := Nat.not_le.mp fun q => hin (Or.inr q)
    have hf : va_rf (if i.toNatClampNeg < n then some (ead E (h i.toNatClampNeg)) else none) = .ref (ead E (h i.toNatClampNeg)) := by rw [if_pos hlt]; rfl
    refine W.aald (v := va_rf (if i.toNatClampNeg < n then some (ead E (h i.toNatClampNeg)) else none)) (ty := ty) hx hb (hW.1 q _ hq) ((hW.2.1.2 j _ ht).1 n (fun j => va_rf (if j < n then some (ead E (h j)) else none))) hty (fun q => by cases q) (by show ¬ (i < 0 ∨ (arrV _ _ _).slots.size ≤ _); rw [arrV_size]; exact hin) (by show (arrV _ _ _).slots[_]? = _; rw [arrV_read _ _ hlt]) rfl rfl hdg ?_
    rw [hf]
    exact kk
theorem aix_lt {i : Int32} {n v : Nat} (h : aix i n = some v) : v < n := by
  unfold aix at h
  split at h
  · cases h
  · rename_i hin
    cases h
    exact Nat.not_le.mp fun q => hin (Or.inr q)
/-- stores -/
theorem w_iast (hx : p.tables.exec = Jvm.exec) (hb : c.code = cc) (hW : Wd E μ s H) (hS : va_S (eA E) H0 H locs) {k n : Nat} (hk : k ∈ wids) (hs : ∀ f : Nat → Int32, shape E f (gL μ k) k = aI E n f) {i x : Int32} (hv : stI μ k n i x = some μ') (hdg : decode cc pc = .ok (.iastore, 1))
    (kk : ∀ (H1 : Heap) (locs1 : List Loc), Wd E μ' s H1 → va_S (eA E) H0 H1 locs1 → W p l e R s m args below meth c H1 locs1 cells slots Q (F0 m (pc + 1) ls rest)) : W p l e R s m args below meth c H locs cells slots Q (F0 m pc ls (.int x :: .int i :: .ref (ead E k) :: rest)) := by
  obtain ⟨q, hq0, hq⟩ := wcells_at E μ hk
  rw [hs] at hq
  unfold stI at hv
  split at hv
  · cases hv
  · rename_i hin
    cases hv
    refine va_iast hx hb hW.2.1 hW.1 hW.2.2 hS q 0 hq rfl hin hdg (fun H1 locs1 hP hD hS1 => ?_)
    have he := wcells_set E μ (sI μ k i.toNatClampNeg x) hq0 (e := .inl (ecy E 0, n, .inl (upd (gI μ k) i.toNatClampNeg x))) (by rw [gL_sI, hs, gI_sI_at]; rfl) (fun a ha => ⟨gI_sI_ne ha, rfl⟩)
    rw [he] at hP hD
    exact kk H1 locs1 ⟨hP, hW.2.1, hD⟩ hS1
theorem w_bast (hx : p.tables.exec = Jvm.exec) (hb : c.code = cc) (hW : Wd E μ s H) (hS : va_S (eA E) H0 H locs) {k n : Nat} (hk : k ∈ wids) (hs : ∀ f : Nat → Int32, shape E f (gL μ k) k = aB E n f) {i x : Int32} (hv : stI μ k n i (vp_nar .byte x) = some μ') (hdg : decode cc pc = .ok (.bastore, 1))
    (kk : ∀ (H1 : Heap) (locs1 : List Loc), Wd E μ' s H1 → va_S (eA E) H0 H1 locs1 → W p l e R s m args below meth c H1 locs1 cells slots Q (F0 m (pc + 1) ls rest)) : W p l e R s m args below meth c H locs cells slots Q (F0 m pc ls (.int x :: .int i :: .ref (ead E k) :: rest)) := by
  obtain ⟨q, hq0, hq⟩ := wcells_at E μ hk
  rw [hs] at hq
  unfold stI at hv
  split at hv
  · cases hv
  · rename_i hin
    cases hv
    refine va_bast hx hb hW.2.1 hW.1 hW.2.2 hS q 3 hq rfl hin hdg (fun H1 locs1 hP hD hS1 => ?_)
    have he := wcells_set E μ (sI μ k i.toNatClampNeg (vp_nar .byte x)) hq0 (e := .inl (ecy E 3, n, .inl (upd (gI μ k) i.toNatClampNeg (vp_nar .byte x)))) (by rw [gL_sI, hs, gI_sI_at]; rfl) (fun a ha => ⟨gI_sI_ne ha, rfl⟩)
    rw [he] at hP hD
    exact kk H1 locs1 ⟨hP, hW.2.1, hD⟩ hS1
theorem w_zast (hx : p.tables.exec = Jvm.exec) (hb : c.code = cc) (hW : Wd E μ s H) (hS : va_S (eA E) H0 H locs) {k n : Nat} (hk : k ∈ wids) (hs : ∀ f : Nat → Int32, shape E f (gL μ k) k = aZ E n f) {i x : Int32} (hv : stI μ k n i (vp_nar .boolean x) = some μ') (hdg : decode cc pc = .ok (.bastore, 1))
    (kk : ∀ (H1 : Heap) (locs1 : List Loc), Wd E μ' s H1 → va_S (eA E) H0 H1 locs1 → W p l e R s m args below meth c H1 locs1 cells slots Q (F0 m (pc + 1) ls rest)) : W p l e R s m args below meth c H locs cells slots Q (F0 m pc ls (.int x :: .int i :: .ref (ead E k) :: rest)) := by
  obtain ⟨q, hq0, hq⟩ := wcells_at E μ hk
  rw [hs] at hq
  unfold stI at hv
  split at hv
  · cases hv
  · rename_i hin
    cases hv
    refine va_zast hx hb hW.2.1 hW.1 hW.2.2 hS q 2 hq rfl hin hdg (fun H1 locs1 hP hD hS1 => ?_)
    have he := wcells_set E μ (sI μ k i.toNatClampNeg (vp_nar .boolean x)) hq0 (e := .inl (ecy E 2, n, .inl (upd (gI μ k) i.toNatClampNeg (vp_nar .boolean x)))) (by rw [gL_sI, hs, gI_sI_at]; rfl) (fun a ha => ⟨gI_sI_ne ha, rfl⟩)
    rw [he] at hP hD
    exact kk H1 locs1 ⟨hP, hW.2.1, hD⟩ hS1
theorem w_last (hx : p.tables.exec = Jvm.exec) (hb : c.code = cc) (hW : Wd E μ s H) (hS : va_S (eA E) H0 H locs) {k n : Nat} (hk : k ∈ wids) (hs : ∀ g : Nat → Int64, shape E (gI μ k) g k = aJ E n g) {i : Int32} {x : Int64} (hv : stL μ k n i x = some μ') (hdg : decode cc pc = .ok (.lastore, 1))
    (kk : ∀ (H1 : Heap) (locs1 : List Loc), Wd E μ' s H1 → va_S (eA E) H0 H1 locs1 → W p l e R s m args below meth c H1 locs1 cells slots Q (F0 m (pc + 1) ls rest)) : W p l e R s m args below meth c H locs cells slots Q (F0 m pc ls (.long x :: .int i :: .ref (ead E k) :: rest)) := by
  obtain ⟨q, hq0, hq⟩ := wcells_at E μ hk
  rw [hs] at hq
  unfold stL at hv
  split at hv
  · cases hv
  · rename_i hin
    cases hv
    refine va_last hx hb hW.2.1 hW.1 hW.2.2 hS q 1 hq rfl hin hdg (fun H1 locs1 hP hD hS1 => ?_)
    have he := wcells_set E μ (sL μ k i.toNatClampNeg x) hq0 (e := .inl (ecy E 1, n, .inr (.inl (vp_updL (gL μ k) i.toNatClampNeg x)))) (by rw [gI_sL, hs, gL_sL_at]; rfl) (fun a ha => ⟨rfl, gL_sL_ne ha⟩)
    rw [he] at hP hD
    exact kk H1 locs1 ⟨hP, hW.2.1, hD⟩ hS1
/-- arraylength -/
theorem w_alen (hx : p.tables.exec = Jvm.exec) (hb : c.code = cc) (hW : Wd E μ s H) {k n j : Nat} {ty : FieldType} {x : vp_A} (hk : k ∈ wids) (hs : shape E (gI μ k) (gL μ k) k = .inl (ecy E j, x)) (ht : (wtys E)[j]? = some (ecy E j, ty)) (hn : x.1 = n) {v : Int32} (hv : Int32.ofNat n = v) (hdg : decode cc pc = .ok (.arraylength, 1))
    (kk : W p l e R s m args below meth c H locs cells slots Q (F0 m (pc + 1) ls (.int v :: rest))) : W p l e R s m args below meth c H locs cells slots Q (F0 m pc ls (.ref (ead E k) :: rest)) := by
  obtain ⟨q, -, hq⟩ := wcells_at E μ hk
  rw [hs] at hq
  subst hn
  exact va_alen hx hb hW.2.1 hW.1 q j hq ht hv hdg kk
/-- the statics and the Strings -/
theorem w_getsA (hx : p.tables.exec = Jvm.exec) (hb : c.code = cc) (hB : ∀ w ∈ BIG, w.before args s = true) (hown : s.vm.findClass own = some m.cls) (hZ : Stat E s s.heap) (hS : va_S (eA E) s.heap H locs) {idx : Nat} (hlink : Cond.fieldLink own idx RX6 "ABOVE" "[I" ∈ BIG) (hdg : decode cc pc = .ok (.getstatic idx, 3))
    (kk : W p l e R s m args below meth c H locs cells slots Q (F0 m (pc + 3) ls (.ref (est E 0) :: rest))) : W p l e R s m args below meth c H locs cells slots Q (F0 m pc ls rest) := va_gets hx hb hZ.1.1 hS hown (hB _ hlink) (fun _ h => h) hdg kk
theorem w_getsAN (hx : p.tables.exec = Jvm.exec) (hb : c.code = cc) (hown : s.vm.findClass RX0 = some m.cls) (hZ : Stat E s s.heap) (hS : va_S (eA E) s.heap H locs) (hdg : decode cc pc = .ok (.getstatic 43, 3))
    (kk : W p l e R s m args below meth c H locs cells slots Q (F0 m (pc + 3) ls (.ref (est E 0) :: rest))) : W p l e R s m args below meth c H locs cells slots Q (F0 m pc ls rest) := va_getsN hx hb hZ.1.1 hS hown (va_Nw.use rfl hZ.2.2.2.2.1) (fun _ h => h) hdg kk
theorem w_getsB (hx : p.tables.exec = Jvm.exec) (hb : c.code = cc) (hB : ∀ w ∈ BIG, w.before args s = true) (hown : s.vm.findClass own = some m.cls) (hZ : Stat E s s.heap) (hS : va_S (eA E) s.heap H locs) {idx : Nat} (hlink : Cond.fieldLink own idx RX0 "BODY" "[I" ∈ BIG) (hdg : decode cc pc = .ok (.getstatic idx, 3))
    (kk : W p l e R s m args below meth c H locs cells slots Q (F0 m (pc + 3) ls (.ref (est E 1) :: rest))) : W p l e R s m args below meth c H locs cells slots Q (F0 m pc ls rest) := va_gets hx hb hZ.2.1.1 hS hown (hB _ hlink) (fun _ h => h) hdg kk
theorem w_getsC (hx : p.tables.exec = Jvm.exec) (hb : c.code = cc) (hB : ∀ w ∈ BIG, w.before args s = true) (hown : s.vm.findClass own = some m.cls) (hZ : Stat E s s.heap) (hS : va_S (eA E) s.heap H locs) {idx : Nat} (hlink : Cond.fieldLink own idx RJ0 "COMPACT_STRINGS" "Z" ∈ BIG) (hdg : decode cc pc = .ok (.getstatic idx, 3))
    (kk : W p l e R s m args below meth c H locs cells slots Q (F0 m (pc + 3) ls (.int 1 :: rest))) : W p l e R s m args below meth c H locs cells slots Q (F0 m pc ls rest) := va_gets hx hb hZ.2.2.1.1 hS hown (hB _ hlink) (fun _ h => h) hdg kk
theorem w_taA (hx : p.tables.exec = Jvm.exec) (hb : c.code = cc) (hZ : Stat E s s.heap) (hS : va_S (eA E) s.heap H locs) {i v : Int32} (hv : ldF fAB 7 i = some v) (hdg : decode cc pc = .ok (.iaload, 1))
    (kk : W p l e R s m args below meth c H locs cells slots Q (F0 m (pc + 1) ls (.int v :: rest))) : W p l e R s m args below meth c H locs cells slots Q (F0 m pc ls (.int i :: .ref (est E 0) :: rest)) := by
  unfold ldF at hv
  split at hv
  · cases hv
  · rename_i hin
    cases hv
    exact va_ti hx hb hZ.1.2 hS hin rfl hdg kk
theorem w_taB (hx : p.tables.exec = Jvm.exec) (hb : c.code = cc) (hZ : Stat E s s.heap) (hS : va_S (eA E) s.heap H locs) {i v : Int32} (hv : ldF fBO 21 i = some v) (hdg : decode cc pc = .ok (.iaload, 1))
    (kk : W p l e R s m args below meth c H locs cells slots Q (F0 m (pc + 1) ls (.int v :: rest))) : W p l e R s m args below meth c H locs cells slots Q (F0 m pc ls (.int i :: .ref (est E 1) :: rest)) := by
  unfold ldF at hv
  split at hv
  · cases hv
  · rename_i hin
    cases hv
    exact va_ti hx hb hZ.2.1.2 hS hin rfl hdg kk
/-- the bytes of a String constant -/
def ldS (i : Nat) (j : Int32) : Option Int32 := if j < 0 ∨ lenS.getD i 0 ≤ j.toNatClampNeg then none else some ((bytS.getD i []).getD j.toNatClampNeg 0)
theorem w_sval (hx : p.tables.exec = Jvm.exec) (hb : c.code = cc) (hB : ∀ w ∈ BIG, w.before args s = true) (hown : s.vm.findClass own = some m.cls) (hZ : Stat E s s.heap) (hS : va_S (eA E) s.heap H locs) {idx i : Nat} (hi : i < 9) (hlink : Cond.fieldLink own idx RJ0 "value" "[B" ∈ BIG) (hdg : decode cc pc = .ok (.getfield idx, 3))
    (kk : W p l e R s m args below meth c H locs cells slots Q (F0 m (pc + 3) ls (.ref (adB E i) :: rest))) : W p l e R s m args below meth c H locs cells slots Q (F0 m pc ls (.ref (adS E i) :: rest)) := vk_getf hx hb (hZ.2.2.1.2.1 i hi).2.2.1 hS hown (hB _ hlink) (fun _ h => h) hdg kk
theorem w_scod (hx : p.tables.exec = Jvm.exec) (hb : c.code = cc) (hB : ∀ w ∈ BIG, w.before args s = true) (hown : s.vm.findClass own = some m.cls) (hZ : Stat E s s.heap) (hS : va_S (eA E) s.heap H locs) {idx i : Nat} (hi : i < 9) (hlink : Cond.fieldLink own idx RJ0 "coder" "B" ∈ BIG) (hdg : decode cc pc = .ok (.getfield idx, 3))
    (kk : W p l e R s m args below meth c H locs cells slots Q (F0 m (pc + 3) ls (.int 0 :: rest))) : W p l e R s m args below meth c H locs cells slots Q (F0 m pc ls (.ref (adS E i) :: rest)) := vk_getf hx hb (hZ.2.2.1.2.1 i hi).2.1 hS hown (hB _ hlink) (fun _ h => h) hdg kk
theorem w_sbald (hx : p.tables.exec = Jvm.exec) (hb : c.code = cc) (hZ : Stat E s s.heap) (hS : va_S (eA E) s.heap H locs) {i : Nat} (hi : i < 9) {j v : Int32} (hv : ldS i j = some v) (hdg : decode cc pc = .ok (.baload, 1))
    (kk : W p l e R s m args below meth c H locs cells slots Q (F0 m (pc + 1) ls (.int v :: rest))) : W p l e R s m args below meth c H locs cells slots Q (F0 m pc ls (.int j :: .ref (adB E i) :: rest)) := by
  unfold ldS at hv
  split at hv
  · cases hv
  · rename_i hin
    cases hv
    exact va_tb hx hb (hZ.2.2.1.2.1 i hi).2.2.2 hS hin rfl hdg kk
theorem w_ldcS (hx : p.tables.exec = Jvm.exec) (hb : c.code = cc) (hown : s.vm.findClass own = some m.cls) (hZ : Stat E s s.heap) {idx i : Nat} {tx : String} (hq : (own, idx, tx, i) ∈ STRS) (hdg : decode cc pc = .ok (.ldc idx, 2))
    (kk : W p l e R s m args below meth c H locs cells slots Q (F0 m (pc + 2) ls (.ref (adS E i) :: rest))) : W p l e R s m args below meth c H locs cells slots Q (F0 m pc ls rest) := by
  exact va_ldcS hx hb hown (hZ.2.2.2.2.2.1 _ hq) hdg kk
/-- calls -/
theorem w_runV (hx : p.tables.exec = Jvm.exec) (hb : c.code = cc) {nL : Nat} (hml : c.maxLocals = nL) (hown : s.vm.findClass own = some m.cls) (hB : ∀ w ∈ BIG, w.before args s = true) (hW : Wd E μ s H) (hZ : Stat E s s.heap) (hS : va_S (eA E) s.heap H locs)
    {y : MethodName} {bytes : ByteArray} {maxL idx n : Nat} {ret : Option FieldType} {rm : Room} {b : Addr} {As : List Value} {Qc : Array Value → State → Outcome → State → Prop} (hM : Met l y (.code y bytes maxL ret :: BIG) rm (PW E μ (.ref b :: As)) Qc 0 0 (eA E)) (hG : GoodIn BIG (wsV own idx y.cls y (.code y bytes maxL ret :: BIG))) (hrc : rm.cells = 0) (hrs : rm.slots = 0)
    (hd : (y.cls ≠ "java/lang/invoke/MethodHandle" ∧ y.cls ≠ "java/lang/invoke/VarHandle") ∧ (parseMethodDescriptor y.desc).map (fun d => d.parameters.length) = some n) (hR : rm.frames + 1 ≤ R.frames ∧ 8 + (maxL + 11) + rm.locals ≤ R.locals) (hrec : ∃ cell : Cell, H[b]? = some cell ∧ cell.vm.isStatics = false ∧ s.vm.findClass y.cls = some cell.cls)
    (hn : As.length = n) (hsz : ls.size = nL) (hst : st0 = As.reverse ++ .ref b :: rest) (h8 : (rest.map fun v => v.category).sum ≤ 8) (hdg : decode cc pc = .ok (.invokevirtual idx, 3)) (hf : cells ≤ R.cells ∧ slots ≤ R.slots) :
    va_Run p l e R s m args below meth c H locs cells slots 0 0 (F0 m pc ls st0) rest (Qc (Value.ref b :: As).toArray) (eA E) :=
  va_runV (own := own) ⟨hx, hb, hml, hown, hB⟩ hM (cwV n hB hG rfl hrc hrs ⟨rfl, hd.1.1, hd.1.2, hd.2⟩ hR) ⟨PW.blind E μ _, hrec, fun U hU hWm => ⟨rfl, by rw [hU]; exact hW.moved hWm.alike, by rw [hU]; exact hZ.go hWm hS⟩⟩ rfl hn hsz hst (lv_room h8) hdg ⟨hf.1, hf.2⟩
theorem w_runS (hx : p.tables.exec = Jvm.exec) (hb : c.code = cc) {nL : Nat} (hml : c.maxLocals = nL) (hown : s.vm.findClass own = some m.cls) (hB : ∀ w ∈ BIG, w.before args s = true) (hW : Wd E μ s H) (hZ : Stat E s s.heap) (hS : va_S (eA E) s.heap H locs)
    {y : MethodName} {bytes : ByteArray} {maxL idx n : Nat} {ret : Option FieldType} {rm : Room} {As : List Value} {Qc : Array Value → State → Outcome → State → Prop} (hM : Met l y (.code y bytes maxL ret :: BIG) rm (PW E μ As) Qc 0 0 (eA E)) (hG : GoodIn BIG (va_wsS own idx y (.code y bytes maxL ret :: BIG))) (hrc : rm.cells = 0) (hrs : rm.slots = 0)
    (hd : (y.cls ≠ "java/lang/invoke/MethodHandle" ∧ y.cls ≠ "java/lang/invoke/VarHandle") ∧ (parseMethodDescriptor y.desc).map (fun d => d.parameters.length) = some n) (hR : rm.frames + 1 ≤ R.frames ∧ 8 + (maxL + 11) + rm.locals ≤ R.locals)
    (hn : As.length = n) (hsz : ls.size = nL) (hst : st0 = As.reverse ++ rest) (h8 : (rest.map fun v => v.category).sum ≤ 8) (hdg : decode cc pc = .ok (.invokestatic idx, 3)) (hf : cells ≤ R.cells ∧ slots ≤ R.slots) :
    va_Run p l e R s m args below meth c H locs cells slots 0 0 (F0 m pc ls st0) rest (Qc As.toArray) (eA E) :=
  va_runS (own := own) ⟨hx, hb, hml, hown, hB⟩ hM (va_cwS n hB hG rfl hrc hrs ⟨hd.1.1, hd.1.2, hd.2⟩ hR) ⟨PW.blind E μ _, fun U hU hWm => ⟨rfl, by rw [hU]; exact hW.moved hWm.alike, by rw [hU]; exact hZ.go hWm hS⟩⟩ rfl hn hsz hst (lv_room h8) hdg ⟨hf.1, hf.2⟩
theorem w_runSN (hx : p.tables.exec = Jvm.exec) (hb : c.code = cc) {nL : Nat} (hml : c.maxLocals = nL) (hown : s.vm.findClass own = some m.cls) (hB : ∀ w ∈ BIG, w.before args s = true) (hW : Wd E μ s H) (hZ : Stat E s s.heap) (hS : va_S (eA E) s.heap H locs)
    {y : MethodName} {bytes : ByteArray} {maxL idx n : Nat} {ret : Option FieldType} {rm : Room} {As : List Value} {Qc : Array Value → State → Outcome → State → Prop} (hM : Met l y (.code y bytes maxL ret :: BIG) rm (PW E μ As) Qc 0 0 (eA E)) (hc : Cond.code y bytes maxL ret ∈ BIG) (hi : Cond.initialized y.cls ∈ BIG) (hstat : Cond.static y ∈ BIG) (hq : (own, idx, y) ∈ NEST) (hrc : rm.cells = 0) (hrs : rm.slots = 0)
    (hd : (y.cls ≠ "java/lang/invoke/MethodHandle" ∧ y.cls ≠ "java/lang/invoke/VarHandle") ∧ (parseMethodDescriptor y.desc).map (fun d => d.parameters.length) = some n) (hR : rm.frames + 1 ≤ R.frames ∧ 8 + (maxL + 11) + rm.locals ≤ R.locals)
    (hn : As.length = n) (hsz : ls.size = nL) (hst : st0 = As.reverse ++ rest) (h8 : (rest.map fun v => v.category).sum ≤ 8) (hdg : decode cc pc = .ok (.invokestatic idx, 3)) (hf : cells ≤ R.cells ∧ slots ≤ R.slots) :
    va_Run p l e R s m args below meth c H locs cells slots 0 0 (F0 m pc ls st0) rest (Qc As.toArray) (eA E) :=
  va_runSN (own := own) (host := "WoundEggs") ⟨hx, hb, hml, hown, hB⟩ hM ⟨va_cnB n hB (big_code hc) rfl hrc hrs (hZ.2.2.2.1 _ hq) (hB _ hi) ⟨hd.1.1, hd.1.2, hd.2⟩ hR, hB _ hstat, trivial⟩ ⟨PW.blind E μ _, fun U hU hWm => ⟨rfl, by rw [hU]; exact hW.moved hWm.alike, by rw [hU]; exact hZ.go hWm hS⟩⟩ rfl hn hsz hst (lv_room h8) hdg ⟨hf.1, hf.2⟩
theorem w_runVN (hx : p.tables.exec = Jvm.exec) (hb : c.code = cc) {nL : Nat} (hml : c.maxLocals = nL) (hown : s.vm.findClass own = some m.cls) (hB : ∀ w ∈ BIG, w.before args s = true) (hW : Wd E μ s H) (hZ : Stat E s s.heap) (hS : va_S (eA E) s.heap H locs)
    {y : MethodName} {bytes : ByteArray} {maxL idx n : Nat} {ret : Option FieldType} {rm : Room} {b : Addr} {As : List Value} {Qc : Array Value → State → Outcome → State → Prop} (hM : Met l y (.code y bytes maxL ret :: BIG) rm (PW E μ (.ref b :: As)) Qc 0 0 (eA E)) (hc : Cond.code y bytes maxL ret ∈ BIG) (hi : Cond.initialized y.cls ∈ BIG) (hinst : Cond.instanceMethod y ∈ BIG) (hsel : Cond.selects y.cls y y ∈ BIG) (hq : (own, idx, y) ∈ NEST) (hrc : rm.cells = 0) (hrs : rm.slots = 0)
    (hd : (y.cls ≠ "java/lang/invoke/MethodHandle" ∧ y.cls ≠ "java/lang/invoke/VarHandle") ∧ (parseMethodDescriptor y.desc).map (fun d => d.parameters.length) = some n) (hR : rm.frames + 1 ≤ R.frames ∧ 8 + (maxL + 11) + rm.locals ≤ R.locals) (hrec : ∃ cell : Cell, H[b]? = some cell ∧ cell.vm.isStatics = false ∧ s.vm.findClass y.cls = some cell.cls)
    (hn : As.length = n) (hsz : ls.size = nL) (hst : st0 = As.reverse ++ .ref b :: rest) (h8 : (rest.map fun v => v.category).sum ≤ 8) (hdg : decode cc pc = .ok (.invokevirtual idx, 3)) (hf : cells ≤ R.cells ∧ slots ≤ R.slots) :
    va_Run p l e R s m args below meth c H locs cells slots 0 0 (F0 m pc ls st0) rest (Qc (Value.ref b :: As).toArray) (eA E) :=
  va_runVN (own := own) (host := "WoundEggs") ⟨hx, hb, hml, hown, hB⟩ hM ⟨va_cnB n hB (big_code hc) rfl hrc hrs (hZ.2.2.2.1 _ hq) (hB _ hi) ⟨hd.1.1, hd.1.2, hd.2⟩ hR, hB _ hinst, hB _ hsel⟩ ⟨PW.blind E μ _, hrec, fun U hU hWm => ⟨rfl, by rw [hU]; exact hW.moved hWm.alike, by rw [hU]; exact hZ.go hWm hS⟩⟩ rfl hn hsz hst (lv_room h8) hdg ⟨hf.1, hf.2⟩
/-- the receiver of a call -/
theorem w_rec (hW : Wd E μ s H) {k ci N : Nat} {C : String} {T : u_T} (hk : k ∈ wids) {fs : List Value} (hs : shape E (gI μ k) (gL μ k) k = .inr (ci, fs)) (hc : vwCl[ci]? = some (C, T, N)) : ∃ cell : Cell, H[ead E k]? = some cell ∧ cell.vm.isStatics = false ∧ s.vm.findClass C = some cell.cls := by
  obtain ⟨i, -, hi⟩ := wcells_at E μ hk
  rw [hs] at hi
  exact va_recv hW.2.1 hW.1 hc hi
theorem w_recS (hZ : Stat E s s.heap) (hS : va_S (eA E) s.heap H locs) {i : Nat} (hi : i < 9) : ∃ cell : Cell, H[adS E i]? = some cell ∧ cell.vm.isStatics = false ∧ s.vm.findClass RJ0 = some cell.cls := vk_recv hZ.2.2.1.2 hi hS
theorem w_callI {r : Int32} {a : Array Value} (hr : va_Run p l e R s m args below meth c H locs cells slots 0 0 (F0 m pc ls st0) rest (QI E r μ' a) (eA E)) (hS : va_S (eA E) H0 H locs) (kk : ∀ (H1 : Heap) (locs1 : List Loc), Wd E μ' s H1 → va_S (eA E) H0 H1 locs1 → W p l e R s m args below meth c H1 locs1 cells slots Q (F0 m (pc + 3) ls (.int r :: rest))) : W p l e R s m args below meth c H locs cells slots Q (F0 m pc ls st0) := by
  refine va_calli hr hS (fun _ _ h => h) (fun _ h => h) (fun r' u t H1 locs1 ht hvm hp hb _ _ hS1 => ?_)
  subst hp
  subst ht
  exact kk _ locs1 (hb.moved hvm.symm) hS1
theorem w_callN {ty : FieldType} {r : Int32} {a : Array Value} (hr : va_Run p l e R s m args below meth c H locs cells slots 0 0 (F0 m pc ls st0) rest (QN E ty r μ' a) (eA E)) (hS : va_S (eA E) H0 H locs) (kk : ∀ (H1 : Heap) (locs1 : List Loc), narrow ty (.int r) = .int r → Wd E μ' s H1 → va_S (eA E) H0 H1 locs1 → W p l e R s m args below meth c H1 locs1 cells slots Q (F0 m (pc + 3) ls (.int r :: rest))) : W p l e R s m args below meth c H locs cells slots Q (F0 m pc ls st0) := by
  refine va_calli hr hS (fun _ _ h => h) (fun _ h => h) (fun r' u t H1 locs1 ht hvm hp hb _ _ hS1 => ?_)
  obtain ⟨rfl, hz⟩ := hp
  subst ht
  exact kk _ locs1 hz (hb.moved hvm.symm) hS1
theorem w_callL {r : Int64} {a : Array Value} (hr : va_Run p l e R s m args below meth c H locs cells slots 0 0 (F0 m pc ls st0) rest (QL E r μ' a) (eA E)) (hS : va_S (eA E) H0 H locs) (kk : ∀ (H1 : Heap) (locs1 : List Loc), Wd E μ' s H1 → va_S (eA E) H0 H1 locs1 → W p l e R s m args below meth c H1 locs1 cells slots Q (F0 m (pc + 3) ls (.long r :: rest))) : W p l e R s m args below meth c H locs cells slots Q (F0 m pc ls st0) := by
  refine va_calll hr hS (fun _ _ h => h) (fun _ h => h) (fun r' u t H1 locs1 ht hvm hp hb _ _ hS1 => ?_)
  subst hp
  subst ht
  exact kk _ locs1 (hb.moved hvm.symm) hS1
theorem w_callV {a : Array Value} (hr : va_Run p l e R s m args below meth c H locs cells slots 0 0 (F0 m pc ls st0) rest (QV E μ' a) (eA E)) (hS : va_S (eA E) H0 H locs) (kk : ∀ (H1 : Heap) (locs1 : List Loc), Wd E μ' s H1 → va_S (eA E) H0 H1 locs1 → W p l e R s m args below meth c H1 locs1 cells slots Q (F0 m (pc + 3) ls rest)) : W p l e R s m args below meth c H locs cells slots Q (F0 m pc ls st0) := by
  refine va_callv hr hS (fun _ _ h => h) (fun _ h => h) (fun u t H1 locs1 ht hvm hp hb _ _ hS1 => ?_)
  subst ht
  exact kk _ locs1 (hb.moved hvm.symm) hS1
theorem w_callR {k : Nat} {a : Array Value} (hr : va_Run p l e R s m args below meth c H locs cells slots 0 0 (F0 m pc ls st0) rest (QR E k μ' a) (eA E)) (hS : va_S (eA E) H0 H locs) (kk : ∀ (H1 : Heap) (locs1 : List Loc), Wd E μ' s H1 → va_S (eA E) H0 H1 locs1 → W p l e R s m args below meth c H1 locs1 cells slots Q (F0 m (pc + 3) ls (rv E k :: rest))) : W p l e R s m args below meth c H locs cells slots Q (F0 m pc ls st0) := by
  intro T hT X
  obtain ⟨v, st₀, t, T', L, h0, X', hL, e1, e2, ⟨⟨hv, hb⟩, hz, hk⟩, st⟩ := hr T hT X
  cases hv
  rw [h0] at hz hk
  have hvm : s.vm.Alike t.vm := by rw [← e2]; exact X'.warmed.alike
  obtain ⟨t2, a1, b1⟩ := kk T'.heap (locs ++ L) (by rw [e1]; exact hb.moved hvm.symm)
    ⟨Nat.le_trans hS.1 (by rw [e1]; exact hz), fun q h1 h2 => by rw [e1, hk q (Nat.lt_of_lt_of_le h1 hS.1) h2]; exact hS.2.1 q h1 h2, fun q hq => by
      rcases List.mem_append.mp hq with h | h
      · exact hS.2.2 q h
      · exact hL q h⟩ T' rfl X'
  exact ⟨t2, st t2 a1, b1⟩
/-- the formatter: a reference or null -/
theorem w_getsQ (hx : p.tables.exec = Jvm.exec) (hb : c.code = cc) (hB : ∀ w ∈ BIG, w.before args s = true) (hown : s.vm.findClass own = some m.cls) (hZ : Stat E s s.heap) (hS : va_S (eA E) s.heap H locs) {idx : Nat} (hlink : Cond.fieldLink own idx RJ3 "SIOOBE_FORMATTER" "Ljava/util/function/BiFunction;" ∈ BIG) (hdg : decode cc pc = .ok (.getstatic idx, 3))
    (kk : ∀ q : Option Nat, W p l e R s m args below meth c H locs cells slots Q (F0 m (pc + 3) ls (va_rf q :: rest))) : W p l e R s m args below meth c H locs cells slots Q (F0 m pc ls rest) := by
  rcases hZ.2.2.2.2.2.2 with h | ⟨t, h⟩
  · exact va_gets hx hb h hS hown (hB _ hlink) (fun _ h => h) hdg (kk none)
  · exact va_gets hx hb h hS hown (hB _ hlink) (fun _ h => h) hdg (kk (some t))
theorem w_aloadQ_n (hx : p.tables.exec = Jvm.exec) (hb : c.code = cc) {k : Fin 4} {i q : Nat} (hdg : decode cc pc = .ok (.aload_n k, 1)) (hi : (k : Nat) = i) (hl : ls[i]? = some (.val (rv E q))) (kk : W p l e R s m args below meth c H locs cells slots Q (F0 m (pc + 1) ls (rv E q :: rest))) : W p l e R s m args below meth c H locs cells slots Q (F0 m pc ls rest) := by
  by_cases h : q = 0
  · subst h
    exact lv_aload_nN hx hb hdg hi hl kk
  · rw [rv_n E h] at hl kk
    exact lv_aload_n hx hb hdg hi hl kk
theorem w_aloadQ (hx : p.tables.exec = Jvm.exec) (hb : c.code = cc) {i q : Nat} (hdg : decode cc pc = .ok (.aload i, 2)) (hl : ls[i]? = some (.val (rv E q))) (kk : W p l e R s m args below meth c H locs cells slots Q (F0 m (pc + 2) ls (rv E q :: rest))) : W p l e R s m args below meth c H locs cells slots Q (F0 m pc ls rest) := by
  by_cases h : q = 0
  · subst h
    exact lv_aloadN hx hb hdg hl kk
  · rw [rv_n E h] at hl kk
    exact lv_aload hx hb hdg hl kk
theorem w_astoreQ_n (hx : p.tables.exec = Jvm.exec) (hb : c.code = cc) {k : Fin 4} {i nL q : Nat} {lv lv' : List (Nat × Value)} (hdg : decode cc pc = .ok (.astore_n k, 1)) (hi : (k : Nat) = i) (h : lv_has ls nL lv) (hn : i < nL) (hl : (i, rv E q) :: lv.filter (fun q => !(q.1 == i) && !(q.1 + 1 == i && q.2.category == 2)) = lv') (kk : ∀ ls : Array Slot, lv_has ls nL lv' → W p l e R s m args below meth c H locs cells slots Q (F0 m (pc + 1) ls rest)) : W p l e R s m args below meth c H locs cells slots Q (F0 m pc ls (rv E q :: rest)) := by
  by_cases h9 : q = 0
  · subst h9
    exact lv_astore_nN hx hb hdg hi h hn hl kk
  · rw [rv_n E h9] at hl ⊢
    exact lv_astore_n hx hb hdg hi h hn hl kk
theorem w_astoreQ (hx : p.tables.exec = Jvm.exec) (hb : c.code = cc) {i nL q : Nat} {lv lv' : List (Nat × Value)} (hdg : decode cc pc = .ok (.astore i, 2)) (h : lv_has ls nL lv) (hn : i < nL) (hl : (i, rv E q) :: lv.filter (fun q => !(q.1 == i) && !(q.1 + 1 == i && q.2.category == 2)) = lv') (kk : ∀ ls : Array Slot, lv_has ls nL lv' → W p l e R s m args below meth c H locs cells slots Q (F0 m (pc + 2) ls rest)) : W p l e R s m args below meth c H locs cells slots Q (F0 m pc ls (rv E q :: rest)) := by
  by_cases h9 : q = 0
  · subst h9
    exact lv_astoreN hx hb hdg h hn hl kk
  · rw [rv_n E h9] at hl ⊢
    exact lv_astore hx hb hdg h hn hl kk
theorem w_ifnullQ (hx : p.tables.exec = Jvm.exec) (hb : c.code = cc) {q : Nat} {off : Int} {tgt : Nat} (hdg : decode cc pc = .ok (.ifnull off, 3)) (ht : (pc : Int) + off = (tgt : Int)) (kt : q = 0 → W p l e R s m args below meth c H locs cells slots Q (F0 m tgt ls rest)) (kf : ¬ q = 0 → W p l e R s m args below meth c H locs cells slots Q (F0 m (pc + 3) ls rest)) : W p l e R s m args below meth c H locs cells slots Q (F0 m pc ls (rv E q :: rest)) := by
  by_cases h : q = 0
  · have k := kt h
    subst h
    exact lv_ifnullN hx hb hdg ht k
  · have k := kf h
    rw [rv_n E h]
    exact lv_ifnull hx hb hdg k
theorem w_ifnonnullQ (hx : p.tables.exec = Jvm.exec) (hb : c.code = cc) {q : Nat} {off : Int} {tgt : Nat} (hdg : decode cc pc = .ok (.ifnonnull off, 3)) (ht : (pc : Int) + off = (tgt : Int)) (kt : ¬ q = 0 → W p l e R s m args below meth c H locs cells slots Q (F0 m tgt ls rest)) (kf : q = 0 → W p l e R s m args below meth c H locs cells slots Q (F0 m (pc + 3) ls rest)) : W p l e R s m args below meth c H locs cells slots Q (F0 m pc ls (rv E q :: rest)) := by
  by_cases h : q = 0
  · have k := kf h
    subst h
    exact lv_ifnonnullN hx hb hdg k
  · have k := kt h
    rw [rv_n E h]
    exact lv_ifnonnull hx hb hdg ht k
/-- partial arithmetic -/
theorem w_idiv (hx : p.tables.exec = Jvm.exec) (hb : c.code = cc) {x y v : Int32} (hv : dvI x y = some v) (hdg : decode cc pc = .ok (.idiv, 1)) (kk : W p l e R s m args below meth c H locs cells slots Q (F0 m (pc + 1) ls (.int v :: rest))) : W p l e R s m args below meth c H locs cells slots Q (F0 m pc ls (.int y :: .int x :: rest)) := by
  unfold dvI at hv
  split at hv
  · cases hv
  · rename_i h
    cases hv
    exact lv_idiv hx hb hdg h kk
theorem w_irem (hx : p.tables.exec = Jvm.exec) (hb : c.code = cc) {x y v : Int32} (hv : rmI x y = some v) (hdg : decode cc pc = .ok (.irem, 1)) (kk : W p l e R s m args below meth c H locs cells slots Q (F0 m (pc + 1) ls (.int v :: rest))) : W p l e R s m args below meth c H locs cells slots Q (F0 m pc ls (.int y :: .int x :: rest)) := by
  unfold rmI at hv
  split at hv
  · cases hv
  · rename_i h
    cases hv
    exact lv_irem hx hb hdg h kk
theorem w_ldiv (hx : p.tables.exec = Jvm.exec) (hb : c.code = cc) {x y v : Int64} (hv : dvL x y = some v) (hdg : decode cc pc = .ok (.ldiv, 1)) (kk : W p l e R s m args below meth c H locs cells slots Q (F0 m (pc + 1) ls (.long v :: rest))) : W p l e R s m args below meth c H locs cells slots Q (F0 m pc ls (.long y :: .long x :: rest)) := by
  unfold dvL at hv
  split at hv
  · cases hv
  · rename_i h
    cases hv
    exact lv_ldiv hx hb hdg h kk
theorem w_lrem (hx : p.tables.exec = Jvm.exec) (hb : c.code = cc) {x y v : Int64} (hv : rmL x y = some v) (hdg : decode cc pc = .ok (.lrem, 1)) (kk : W p l e R s m args below meth c H locs cells slots Q (F0 m (pc + 1) ls (.long v :: rest))) : W p l e R s m args below meth c H locs cells slots Q (F0 m pc ls (.long y :: .long x :: rest)) := by
  unfold rmL at hv
  split at hv
  · cases hv
  · rename_i h
    cases hv
    exact lv_lrem hx hb hdg h kk
/-- returns -/
theorem w_retI (hx : p.tables.exec = Jvm.exec) (hb : c.code = cc) (hr : meth.sig.returnType = some .int) (hlocks : meth.locks = false) (hW : Wd E μ s H) (hV : va_S (eA E) s.heap H locs) {v r : Int32} (h1 : v = r) (h2 : μ = μ') (hdg : decode cc pc = .ok (.ireturn, 1)) : W p l e R s m args below meth c H locs 0 0 (MQ below (QI E r μ') args s 0 0 (eA E)) (F0 m pc ls [.int v]) := by
  subst h1; subst h2
  exact W.iret hx hb hr (fun t ht hWm => ⟨⟨v, (), rfl, rfl, by show Wd E μ t t.heap; rw [ht]; exact hW.moved hWm.alike⟩, hV.F ht⟩) hV.2.2 hdg hlocks
theorem w_retN (hx : p.tables.exec = Jvm.exec) (hb : c.code = cc) {ty : FieldType} (hr : meth.sig.returnType = some ty) (hlocks : meth.locks = false) (hW : Wd E μ s H) (hV : va_S (eA E) s.heap H locs) {v r : Int32} (hn : narrow ty (.int v) = .int v) (h1 : v = r) (h2 : μ = μ') (hdg : decode cc pc = .ok (.ireturn, 1)) : W p l e R s m args below meth c H locs 0 0 (MQ below (QN E ty r μ') args s 0 0 (eA E)) (F0 m pc ls [.int v]) := by
  subst h1; subst h2
  exact W.zret hx hb hr hn (fun t ht hWm => ⟨⟨v, (), rfl, ⟨rfl, hn⟩, by show Wd E μ t t.heap; rw [ht]; exact hW.moved hWm.alike⟩, hV.F ht⟩) hV.2.2 hdg hlocks
theorem w_retL (hx : p.tables.exec = Jvm.exec) (hb : c.code = cc) (hr : meth.sig.returnType = some .long) (hlocks : meth.locks = false) (hW : Wd E μ s H) (hV : va_S (eA E) s.heap H locs) {v r : Int64} (h1 : v = r) (h2 : μ = μ') (hdg : decode cc pc = .ok (.lreturn, 1)) : W p l e R s m args below meth c H locs 0 0 (MQ below (QL E r μ') args s 0 0 (eA E)) (F0 m pc ls [.long v]) := by
  subst h1; subst h2
  exact W.lret hx hb hr (fun t ht hWm => ⟨⟨v, (), rfl, rfl, by show Wd E μ t t.heap; rw [ht]; exact hW.moved hWm.alike⟩, hV.F ht⟩) hV.2.2 hdg hlocks
theorem w_retV (hx : p.tables.exec = Jvm.exec) (hb : c.code = cc) (hr : meth.sig.returnType = none) (hlocks : meth.locks = false) (hW : Wd E μ s H) (hV : va_S (eA E) s.heap H locs) (h2 : μ = μ') (hdg : decode cc pc = .ok (.return_, 1)) : W p l e R s m args below meth c H locs 0 0 (MQ below (QV E μ') args s 0 0 (eA E)) (F0 m pc ls []) := by
  subst h2
  exact W.vret hx hb hr (fun t ht hWm => ⟨⟨(), rfl, trivial, by show Wd E μ t t.heap; rw [ht]; exact hW.moved hWm.alike⟩, hV.F ht⟩) hV.2.2 hdg hlocks
theorem w_retR (hx : p.tables.exec = Jvm.exec) (hb : c.code = cc) {rt : FieldType} (hr : meth.sig.returnType = some rt) (hrt : (∃ n, rt = .object n) ∨ ∃ t, rt = .array t) (hlocks : meth.locks = false) (hW : Wd E μ s H) (hV : va_S (eA E) s.heap H locs) {v : Value} {k r : Nat} (hv : v = rv E k) (h1 : k = r) (h2 : μ = μ') (hdg : decode cc pc = .ok (.areturn, 1)) : W p l e R s m args below meth c H locs 0 0 (MQ below (QR E r μ') args s 0 0 (eA E)) (F0 m pc ls [v]) := by
  subst h1; subst h2; subst hv
  refine W.aret hx hb hr hrt ?_ (fun t ht hWm => ⟨⟨rfl, by show Wd E μ t t.heap; rw [ht]; exact hW.moved hWm.alike⟩, hV.F ht⟩) hV.2.2 hdg hlocks
  by_cases h : k = 0
  · subst h
    exact Or.inl rfl
  · exact Or.inr ⟨_, rv_n E h⟩
/-- System.arraycopy -/
theorem w_cpI (hx : p.tables.exec = Jvm.exec) (hb : c.code = cc) (hml : c.maxLocals = ls.size) (hown : s.vm.findClass own = some m.cls) {idx : Nat} (hlink : (Cond.methodLink own idx arraycopyName).before args s = true) (hnat : (Cond.native arraycopyName).before args s = true) (hstat : (Cond.static arraycopyName).before args s = true) (hini : (Cond.initialized "java/lang/System").before args s = true) (hW : Wd E μ s H) (hV : va_S (eA E) H0 H locs)
    {k n k' n' : Nat} (h1 : k ∈ wids ∧ ∀ (E : WE) (f : Nat → Int32) (g : Nat → Int64), shape E f g k = aI E n f) (h2 : k' ∈ wids ∧ ∀ (E : WE) (f : Nat → Int32) (g : Nat → Int64), shape E f g k' = aI E n' f) {i j w : Int32} (hv : cpI μ k n i k' n' j w = some μ') (hfr : 1 ≤ R.frames) (hlo : (rest.map fun v => v.category).sum + (nativeFrameWords "java/lang/System" "arraycopy" 5 + 11) ≤ R.locals) (hdg : decode cc pc = .ok (.invokestatic idx, 3))
    (kk : ∀ (H1 : Heap) (locs1 : List Loc), Wd E μ' s H1 → va_S (eA E) H0 H1 locs1 → W p l e R s m args below meth c H1 locs1 cells slots Q (F0 m (pc + 3) ls rest)) : W p l e R s m args below meth c H locs cells slots Q (F0 m pc ls (.int w :: .int j :: .ref (ead E k') :: .int i :: .ref (ead E k) :: rest)) := by
  obtain ⟨q, -, hq⟩ := wcells_at E μ h1.1
  obtain ⟨q', hq0, hq'⟩ := wcells_at E μ h2.1
  rw [h1.2] at hq
  rw [h2.2] at hq'
  unfold cpI at hv
  split at hv
  · cases hv
  · rename_i hin
    cases hv
    simp only [not_or, Nat.not_lt] at hin
    obtain ⟨a1, a2, a3, a4, a5⟩ := hin
    refine va_copyi hx hb hml hown hlink hnat hstat hini hW.2.1 hW.1 hW.2.2 hV q q' 0 0 hq hq' rfl rfl rfl a1 a2 a3 a4 a5 (fun _ _ => rfl) hfr hlo hdg (fun H1 locs1 hP hD hS1 => ?_)
    have he := wcells_set E μ (sR μ k' (va_cpy (gI μ k) (gI μ k') i.toNatClampNeg j.toNatClampNeg w.toNatClampNeg)) hq0 (e := .inl (ecy E 0, n', .inl (va_cpy (gI μ k) (gI μ k') i.toNatClampNeg j.toNatClampNeg w.toNatClampNeg))) (by rw [h2.2, gI_sR, if_pos rfl]; rfl) (fun a ha => ⟨by rw [gI_sR, if_neg ha], rfl⟩)
    rw [he] at hP hD
    exact kk H1 locs1 ⟨hP, hW.2.1, hD⟩ hS1
theorem w_cpL (hx : p.tables.exec = Jvm.exec) (hb : c.code = cc) (hml : c.maxLocals = ls.size) (hown : s.vm.findClass own = some m.cls) {idx : Nat} (hlink : (Cond.methodLink own idx arraycopyName).before args s = true) (hnat : (Cond.native arraycopyName).before args s = true) (hstat : (Cond.static arraycopyName).before args s = true) (hini : (Cond.initialized "java/lang/System").before args s = true) (hW : Wd E μ s H) (hV : va_S (eA E) H0 H locs)
    {k n k' n' : Nat} (h1 : k ∈ wids ∧ ∀ (E : WE) (f : Nat → Int32) (g : Nat → Int64), shape E f g k = aJ E n g) (h2 : k' ∈ wids ∧ ∀ (E : WE) (f : Nat → Int32) (g : Nat → Int64), shape E f g k' = aJ E n' g) {i j w : Int32} (hv : cpL μ k n i k' n' j w = some μ') (hfr : 1 ≤ R.frames) (hlo : (rest.map fun v => v.category).sum + (nativeFrameWords "java/lang/System" "arraycopy" 5 + 11) ≤ R.locals) (hdg : decode cc pc = .ok (.invokestatic idx, 3))
    (kk : ∀ (H1 : Heap) (locs1 : List Loc), Wd E μ' s H1 → va_S (eA E) H0 H1 locs1 → W p l e R s m args below meth c H1 locs1 cells slots Q (F0 m (pc + 3) ls rest)) : W p l e R s m args below meth c H locs cells slots Q (F0 m pc ls (.int w :: .int j :: .ref (ead E k') :: .int i :: .ref (ead E k) :: rest)) := by
  obtain ⟨q, -, hq⟩ := wcells_at E μ h1.1
  obtain ⟨q', hq0, hq'⟩ := wcells_at E μ h2.1
  rw [h1.2] at hq
  rw [h2.2] at hq'
  unfold cpL at hv
  split at hv
  · cases hv
  · rename_i hin
    cases hv
    simp only [not_or, Nat.not_lt] at hin
    obtain ⟨a1, a2, a3, a4, a5⟩ := hin
    refine va_copyl hx hb hml hown hlink hnat hstat hini hW.2.1 hW.1 hW.2.2 hV q q' 1 1 hq hq' rfl rfl rfl a1 a2 a3 a4 a5 (fun _ _ => rfl) hfr hlo hdg (fun H1 locs1 hP hD hS1 => ?_)
    have he := wcells_set E μ (sRL μ k' (va_cpy (gL μ k) (gL μ k') i.toNatClampNeg j.toNatClampNeg w.toNatClampNeg)) hq0 (e := .inl (ecy E 1, n', .inr (.inl (va_cpy (gL μ k) (gL μ k') i.toNatClampNeg j.toNatClampNeg w.toNatClampNeg)))) (by rw [h2.2, gL_sRL, if_pos rfl]; rfl) (fun a ha => ⟨rfl, by rw [gL_sRL, if_neg ha]⟩)
    rw [he] at hP hD
    exact kk H1 locs1 ⟨hP, hW.2.1, hD⟩ hS1
/-- a field by an object's kind -/
theorem w_getO (hx : p.tables.exec = Jvm.exec) (hb : c.code = cc) (hB : ∀ w ∈ BIG, w.before args s = true) (hown : s.vm.findClass own = some m.cls) (hW : Wd E μ s H) {k ci N idx : Nat} {C : String} {T : u_T} {fs : WE → (Nat → Int32) → List Value} (ho : isO k ci fs) (hc : vwCl[ci]? = some (C, T, N)) (hin : ∀ w ∈ u_ws C T N, w ∈ BIG) (j : Nat) (hj : j < N) (hlink : Cond.fieldLink own idx (T j).1 (T j).2.1 (T j).2.2.1 ∈ BIG) {v : Value} (hv : (fs E (gI μ k))[j]? = some v) (hdg : decode cc pc = .ok (.getfield idx, 3))
    (kk : W p l e R s m args below meth c H locs cells slots Q (F0 m (pc + 3) ls (v :: rest))) : W p l e R s m args below meth c H locs cells slots Q (F0 m pc ls (.ref (ead E k) :: rest)) := w_get hx hb hB hown hW ho.1 (ho.2 E _ _) hc hin j hj hlink hv hdg kk
theorem w_putO (hx : p.tables.exec = Jvm.exec) (hb : c.code = cc) (hB : ∀ w ∈ BIG, w.before args s = true) (hown : s.vm.findClass own = some m.cls) (hW : Wd E μ s H) (hV : va_S (eA E) H0 H locs) {k ci N idx : Nat} {C : String} {T : u_T} {fs : WE → (Nat → Int32) → List Value} (ho : isO k ci fs) (hc : vwCl[ci]? = some (C, T, N)) (hin : ∀ w ∈ u_ws C T N, w ∈ BIG) (ty0 : Nat → FieldType) (hty : ∀ k, k < N → parseFieldDescriptor (T k).2.2.1 = some (ty0 k)) (hnm : ∀ a, a < N → ∀ b, b < N → a ≠ b → (T a).2.1 ≠ (T b).2.1) (j : Nat) (hj : j < N) (hlink : Cond.fieldLink own idx (T j).1 (T j).2.1 (T j).2.2.1 ∈ BIG) (hfin : (T j).2.2.2 = false) {v : Int32} {ty : FieldType} (hd : parseFieldDescriptor (T j).2.2.1 = some ty) (hn : narrow ty (.int v) = .int v) (hfit : fits ty (.int v) = true) (hl : ∀ (E : WE) (f : Nat → Int32), j < (fs E f).length)
    (hset : ∀ (E : WE) (f : Nat → Int32), fs E (upd f j v) = (fs E f).set j (.int v)) (hdg : decode cc pc = .ok (.putfield idx, 3))
    (kk : ∀ (H1 : Heap) (locs1 : List Loc), Wd E (sI μ k j v) s H1 → va_S (eA E) H0 H1 locs1 → W p l e R s m args below meth c H1 locs1 cells slots Q (F0 m (pc + 3) ls rest)) : W p l e R s m args below meth c H locs cells slots Q (F0 m pc ls (.int v :: .ref (ead E k) :: rest)) := w_put hx hb hB hown hW hV ho.1 (ho.2 E _ _) hc hin ty0 hty hnm j hj hlink hfin hd hn hfit (hl E _) (by rw [ho.2, gI_sI_at, hset]) hdg kk
end WROW
