set_option maxHeartbeats 8000000 in
set_option maxRecDepth 100000 in
theorem k_X2_reckonAll (l : Launch) (E : WE) (μ : Mem) (k0 : Nat) (k1 : Nat) (h0 : isSt k0) (h1 : k1 = 0 ∨ isSo k1) (μ' : Mem) (hf : f_X2_reckonAll μ k0 k1 = some μ') : Met l yX2_reckonAll (.code yX2_reckonAll cX2_reckonAll 3 none :: BIG) ({ frames := 4, cells := 0, slots := 0, locals := 102 }) (PW E μ [.ref (ead E k0), rv E k1]) (QV E μ') 0 0 (eA E) := by
  refine Met.ofW (cc := cX2_reckonAll) (maxL := 3) (ret := none) (by decide) rfl ?_
  intro p e s m args below meth c s₁ B hml hv
  obtain ⟨rfl, hW, hZ⟩ := hv
  have hx := B.exec
  have hb := B.bytes
  have hr := B.returns
  have hB : ∀ w ∈ BIG, w.before _ s = true := fun w h => atoms_spec (ws := (.code yX2_reckonAll cX2_reckonAll 3 none :: BIG)) B.pre w (List.mem_cons_of_mem _ h)
  have hown : s.vm.findClass RX2 = some m.cls := findClass_of_methodNamed B.named
  have hlocks := B.notSynchronized
  have hV : va_S (eA E) s.heap s.heap [] := va_S.rf
  have hl := lv_entry ([.ref (ead E k0), rv E k1]) (n := 3) (h1.elim (fun h9 => by subst h9; exact Nat.le_of_ble_eq_true rfl) (fun h9 => by rw [rv_n E (so_ne h9)]; exact Nat.le_of_ble_eq_true rfl))
  rw [lg_entry_eq]
  generalize (lg_sl ([.ref (ead E k0), rv E k1]) ++ List.replicate (3 - (lg_sl ([.ref (ead E k0), rv E k1])).length) Slot.unset).toArray = ls at hl ⊢
  have hl : lv_has ls 3 [(0, .ref (ead E k0)), (1, rv E k1)] := hl
  have c_2 : ∀ (n_2 : Nat) (μ_2 : Mem) (b2_2 : Int32) , f_X2_reckonAll_2 k0 k1 n_2 μ_2 b2_2 = some μ' → ∀ (H : Heap) (locs : List Loc) (ls : Array Slot), Wd E μ_2 s H → va_S (eA E) s.heap H locs → lv_has ls 3 [(0, .ref (ead E k0)), (1, rv E k1), (2, .int b2_2)] → W p l e (headSpec (.code yX2_reckonAll cX2_reckonAll 3 none :: BIG) ({ frames := 4, cells := 0, slots := 0, locals := 102 })).room s m ([.ref (ead E k0), rv E k1] : List Value).toArray below meth c H locs 0 0 (MQ below (QV E μ') ([.ref (ead E k0), rv E k1] : List Value).toArray s 0 0 (eA E)) (F0 m 2 ls []) := by
    intro n_2
    induction n_2 with
    | zero =>
      intro μ_2 b2_2 hf H locs ls hW hV hl
      cases hf
    | succ n_2 ih_2 =>
      intro μ_2 b2_2 hf H locs ls hW hV hl
      rw [f_X2_reckonAll_2] at hf
      refine lv_iload_n hx hb dX2_reckonAll_2 rfl (lv_at hl 2 rfl) ?_
      refine lv_aload_n hx hb dX2_reckonAll_3 rfl (lv_at hl 0 rfl) ?_
      refine gf_RX2_9 hx hb hB hown hW h0 dX2_reckonAll_4 ?_
      refine lv_icmp_ge (tgt := 22) hx hb dX2_reckonAll_7 (by decide) (fun y5 => ?_) (fun y5 => ?_)
      · have hf := op_t y5 hf
        exact w_retV hx hb hr hlocks hW hV (Option.some.inj hf) dX2_reckonAll_22
      · have hf := op_f y5 hf
        refine lv_aload_n hx hb dX2_reckonAll_10 rfl (lv_at hl 0 rfl) ?_
        refine lv_iload_n hx hb dX2_reckonAll_11 rfl (lv_at hl 2 rfl) ?_
        refine w_aloadQ_n hx hb dX2_reckonAll_12 rfl (lv_at hl 1 rfl) ?_
        obtain ⟨μ6, e_7, hf⟩ := op_none hf
        refine w_callV (rn_RX2_54 (As := [.int b2_2, rv E k1]) hx hb hml hown hB hW hZ hV (k_X2_reckonOne l E _ k0 b2_2 k1 h0 h1 μ6 e_7) rfl rfl ⟨(Nat.le_of_ble_eq_true rfl), (Nat.le_of_ble_eq_true rfl)⟩ (w_rec hW (oSt h0).1 ((oSt h0).2 E _ _) rfl) rfl hl.1 rfl (Nat.le_of_ble_eq_true rfl) dX2_reckonAll_13 ⟨Nat.le_refl _, Nat.le_refl _⟩) hV (fun H locs hW hV => ?_)
        obtain ⟨v8, e_v8, hf⟩ := op_none hf
        refine lv_iinc (v := v8) (lv' := [(2, .int v8), (0, .ref (ead E k0)), (1, rv E k1)]) hx hb dX2_reckonAll_16 hl (k := 2) rfl (by rw [← Option.some.inj e_v8]; rfl) (by decide) (by first | (simp [List.filter, rv_cat]; done) | (simp [List.filter, rv_cat]; rfl)) (fun ls hl => ?_)
        refine lv_goto (tgt := 2) hx hb dX2_reckonAll_19 (by decide) ?_
        exact ih_2 μ6 v8 hf H locs ls hW hV (lv_sub hl [1, 2, 0] rfl)
  obtain ⟨H, hH⟩ : ∃ H : Heap, H = s.heap := ⟨_, rfl⟩
  obtain ⟨locs, hlocs⟩ : ∃ locs : List Loc, locs = [] := ⟨_, rfl⟩
  rw [show (W p l e (headSpec (.code yX2_reckonAll cX2_reckonAll 3 none :: BIG) ({ frames := 4, cells := 0, slots := 0, locals := 102 })).room s m ([.ref (ead E k0), rv E k1] : List Value).toArray below meth c s.heap [] 0 0) = W p l e (headSpec (.code yX2_reckonAll cX2_reckonAll 3 none :: BIG) ({ frames := 4, cells := 0, slots := 0, locals := 102 })).room s m ([.ref (ead E k0), rv E k1] : List Value).toArray below meth c H locs 0 0 by rw [hH, hlocs]]
  have hV : va_S (eA E) s.heap H locs := by rw [hH, hlocs]; exact hV
  have hW : Wd E μ s H := by rw [hH]; exact hW
  unfold f_X2_reckonAll at hf
  refine lv_iconst (v := (0 : Int32)) hx hb dX2_reckonAll_0 (by decide) ?_
  refine lv_istore_n (i := 2) (lv' := [(2, .int (0 : Int32)), (0, .ref (ead E k0)), (1, rv E k1)]) hx hb dX2_reckonAll_1 rfl hl (by decide) (by first | (simp [List.filter, rv_cat]; done) | (simp [List.filter, rv_cat]; rfl)) (fun ls hl => ?_)
  exact c_2 FU μ (0 : Int32) hf H locs ls hW hV (lv_sub hl [1, 2, 0] rfl)
set_option maxHeartbeats 8000000 in
set_option maxRecDepth 100000 in
theorem k_X6_reckon (l : Launch) (E : WE) (μ : Mem) (k1 : Nat) (h1 : isSt k1) (μ' : Mem) (hf : f_X6_reckon μ k1 = some μ') : Met l yX6_reckon (.code yX6_reckon cX6_reckon 2 none :: BIG) ({ frames := 5, cells := 0, slots := 0, locals := 124 }) (PW E μ [.ref (ead E 1), .ref (ead E k1)]) (QV E μ') 0 0 (eA E) := by
  refine Met.ofW (cc := cX6_reckon) (maxL := 2) (ret := none) (by decide) rfl ?_
  intro p e s m args below meth c s₁ B hml hv
  obtain ⟨rfl, hW, hZ⟩ := hv
  have hx := B.exec
  have hb := B.bytes
  have hr := B.returns
  have hB : ∀ w ∈ BIG, w.before _ s = true := fun w h => atoms_spec (ws := (.code yX6_reckon cX6_reckon 2 none :: BIG)) B.pre w (List.mem_cons_of_mem _ h)
  have hown : s.vm.findClass RX6 = some m.cls := findClass_of_methodNamed B.named
  have hlocks := B.notSynchronized
  have hV : va_S (eA E) s.heap s.heap [] := va_S.rf
  have hl := lv_entry ([.ref (ead E 1), .ref (ead E k1)]) (n := 2) (Nat.le_of_ble_eq_true rfl)
  rw [lg_entry_eq]
  generalize (lg_sl ([.ref (ead E 1), .ref (ead E k1)]) ++ List.replicate (2 - (lg_sl ([.ref (ead E 1), .ref (ead E k1)])).length) Slot.unset).toArray = ls at hl ⊢
  have hl : lv_has ls 2 [(0, .ref (ead E 1)), (1, .ref (ead E k1))] := hl
  obtain ⟨H, hH⟩ : ∃ H : Heap, H = s.heap := ⟨_, rfl⟩
  obtain ⟨locs, hlocs⟩ : ∃ locs : List Loc, locs = [] := ⟨_, rfl⟩
  rw [show (W p l e (headSpec (.code yX6_reckon cX6_reckon 2 none :: BIG) ({ frames := 5, cells := 0, slots := 0, locals := 124 })).room s m ([.ref (ead E 1), .ref (ead E k1)] : List Value).toArray below meth c s.heap [] 0 0) = W p l e (headSpec (.code yX6_reckon cX6_reckon 2 none :: BIG) ({ frames := 5, cells := 0, slots := 0, locals := 124 })).room s m ([.ref (ead E 1), .ref (ead E k1)] : List Value).toArray below meth c H locs 0 0 by rw [hH, hlocs]]
  have hV : va_S (eA E) s.heap H locs := by rw [hH, hlocs]; exact hV
  have hW : Wd E μ s H := by rw [hH]; exact hW
  unfold f_X6_reckon at hf
  refine lv_aload_n hx hb dX6_reckon_0 rfl (lv_at hl 1 rfl) ?_
  refine lv_aload_n hx hb dX6_reckon_1 rfl (lv_at hl 0 rfl) ?_
  refine lv_aload_n hx hb dX6_reckon_2 rfl (lv_at hl 1 rfl) ?_
  obtain ⟨v5, e_6, hf⟩ := op_none hf
  refine w_callR (rn_RX6_124 (As := [.ref (ead E k1)]) hx hb hml hown hB hW hZ hV (k_X6_holding l E _ k1 h1 v5 e_6) rfl rfl ⟨(Nat.le_of_ble_eq_true rfl), (Nat.le_of_ble_eq_true rfl)⟩ (w_rec hW oX.1 (oX.2 E _ _) rfl) rfl hl.1 rfl (Nat.le_of_ble_eq_true rfl) dX6_reckon_3 ⟨Nat.le_refl _, Nat.le_refl _⟩) hV (fun H locs hW hV => ?_)
  have hq_v5 := p_X6_holding e_6
  obtain ⟨μ7, e_8, hf⟩ := op_none hf
  refine w_callV (rn_RX6_268 (As := [rv E v5]) hx hb hml hown hB hW hZ hV (k_X2_reckonAll l E _ k1 v5 h1 hq_v5 μ7 e_8) rfl rfl ⟨(Nat.le_of_ble_eq_true rfl), (Nat.le_of_ble_eq_true rfl)⟩ (w_rec hW (oSt h1).1 ((oSt h1).2 E _ _) rfl) rfl hl.1 rfl (Nat.le_of_ble_eq_true rfl) dX6_reckon_6 ⟨Nat.le_refl _, Nat.le_refl _⟩) hV (fun H locs hW hV => ?_)
  exact w_retV hx hb hr hlocks hW hV (Option.some.inj hf) dX6_reckon_9
set_option maxHeartbeats 8000000 in
set_option maxRecDepth 100000 in
theorem k_X6_of (l : Launch) (E : WE) (μ : Mem) (a1 : Int32) (a2 : Int32) (r : Int32) (μ' : Mem) (hf : f_X6_of μ a1 a2 = some (r, μ')) : Met l yX6_of (.code yX6_of cX6_of 3 (some .int) :: BIG) ({ frames := 6, cells := 0, slots := 0, locals := 145 }) (PW E μ [.ref (ead E 1), .int a1, .int a2]) (QI E r μ') 0 0 (eA E) := by
  refine Met.ofW (cc := cX6_of) (maxL := 3) (ret := (some .int)) (by decide) rfl ?_
  intro p e s m args below meth c s₁ B hml hv
  obtain ⟨rfl, hW, hZ⟩ := hv
  have hx := B.exec
  have hb := B.bytes
  have hr := B.returns
  have hB : ∀ w ∈ BIG, w.before _ s = true := fun w h => atoms_spec (ws := (.code yX6_of cX6_of 3 (some .int) :: BIG)) B.pre w (List.mem_cons_of_mem _ h)
  have hown : s.vm.findClass RX6 = some m.cls := findClass_of_methodNamed B.named
  have hlocks := B.notSynchronized
  have hV : va_S (eA E) s.heap s.heap [] := va_S.rf
  have hl := lv_entry ([.ref (ead E 1), .int a1, .int a2]) (n := 3) (Nat.le_of_ble_eq_true rfl)
  rw [lg_entry_eq]
  generalize (lg_sl ([.ref (ead E 1), .int a1, .int a2]) ++ List.replicate (3 - (lg_sl ([.ref (ead E 1), .int a1, .int a2])).length) Slot.unset).toArray = ls at hl ⊢
  have hl : lv_has ls 3 [(0, .ref (ead E 1)), (1, .int a1), (2, .int a2)] := hl
  obtain ⟨H, hH⟩ : ∃ H : Heap, H = s.heap := ⟨_, rfl⟩
  obtain ⟨locs, hlocs⟩ : ∃ locs : List Loc, locs = [] := ⟨_, rfl⟩
  rw [show (W p l e (headSpec (.code yX6_of cX6_of 3 (some .int) :: BIG) ({ frames := 6, cells := 0, slots := 0, locals := 145 })).room s m ([.ref (ead E 1), .int a1, .int a2] : List Value).toArray below meth c s.heap [] 0 0) = W p l e (headSpec (.code yX6_of cX6_of 3 (some .int) :: BIG) ({ frames := 6, cells := 0, slots := 0, locals := 145 })).room s m ([.ref (ead E 1), .int a1, .int a2] : List Value).toArray below meth c H locs 0 0 by rw [hH, hlocs]]
  have hV : va_S (eA E) s.heap H locs := by rw [hH, hlocs]; exact hV
  have hW : Wd E μ s H := by rw [hH]; exact hW
  unfold f_X6_of at hf
  refine lv_aload_n hx hb dX6_of_0 rfl (lv_at hl 0 rfl) ?_
  refine gf_RX6_12 hx hb hB hown hW dX6_of_1 ?_
  refine lv_iload_n hx hb dX6_of_4 rfl (lv_at hl 1 rfl) ?_
  obtain ⟨v11, e_12, hf⟩ := op_none hf
  refine w_callN (rn_RX6_85 (As := [.int a1]) hx hb hml hown hB hW hZ hV (k_X2_has l E _ 100 a1 st1 v11 e_12) rfl rfl ⟨(Nat.le_of_ble_eq_true rfl), (Nat.le_of_ble_eq_true rfl)⟩ (w_rec hW (oSt st1).1 ((oSt st1).2 E _ _) rfl) rfl hl.1 rfl (Nat.le_of_ble_eq_true rfl) dX6_of_5 ⟨Nat.le_refl _, Nat.le_refl _⟩) hV (fun H locs hn_v11 hW hV => ?_)
  refine lv_if_eq (tgt := 23) hx hb dX6_of_8 (by decide) (fun y13 => ?_) (fun y13 => ?_)
  · have hf := op_t y13 hf
    refine lv_iconst (v := (-1 : Int32)) hx hb dX6_of_23 (by decide) ?_
    exact w_retI hx hb hr hlocks hW hV (Prod.mk.inj (Option.some.inj hf)).1 (Prod.mk.inj (Option.some.inj hf)).2 dX6_of_24
  · have hf := op_f y13 hf
    refine lv_iload_n hx hb dX6_of_11 rfl (lv_at hl 2 rfl) ?_
    refine lv_i2l hx hb dX6_of_12 rfl ?_
    refine lv_lconst (v := (0 : Int64)) hx hb dX6_of_13 (by decide) ?_
    refine lv_ldc2 (v := (9 : Int64)) hx hb hown (hB _ q_d6026cce) dX6_of_14 ?_
    obtain ⟨v14, e_15, hf⟩ := op_none hf
    refine w_callN (rn_RX6_62 (As := [.long a2.toInt64, .long (0 : Int64), .long (9 : Int64)]) hx hb hml hown hB hW hZ hV (k_X6_within l E _ a2.toInt64 (0 : Int64) (9 : Int64) v14 e_15) rfl rfl ⟨(Nat.le_of_ble_eq_true rfl), (Nat.le_of_ble_eq_true rfl)⟩ rfl hl.1 rfl (Nat.le_of_ble_eq_true rfl) dX6_of_17 ⟨Nat.le_refl _, Nat.le_refl _⟩) hV (fun H locs hn_v14 hW hV => ?_)
    refine lv_if_ne (tgt := 25) hx hb dX6_of_20 (by decide) (fun y16 => ?_) (fun y16 => ?_)
    · have hf := op_f y16 hf
      refine lv_aload_n hx hb dX6_of_25 rfl (lv_at hl 0 rfl) ?_
      refine lv_aload_n hx hb dX6_of_26 rfl (lv_at hl 0 rfl) ?_
      refine gf_RX6_12 hx hb hB hown hW dX6_of_27 ?_
      obtain ⟨μ17, e_18, hf⟩ := op_none hf
      refine w_callV (rn_RX6_89 (As := [.ref (ead E 100)]) hx hb hml hown hB hW hZ hV (k_X6_reckon l E _ 100 st1 μ17 e_18) rfl rfl ⟨(Nat.le_of_ble_eq_true rfl), (Nat.le_of_ble_eq_true rfl)⟩ (w_rec hW oX.1 (oX.2 E _ _) rfl) rfl hl.1 rfl (Nat.le_of_ble_eq_true rfl) dX6_of_30 ⟨Nat.le_refl _, Nat.le_refl _⟩) hV (fun H locs hW hV => ?_)
      refine lv_aload_n hx hb dX6_of_33 rfl (lv_at hl 0 rfl) ?_
      refine gf_RX6_12 hx hb hB hown hW dX6_of_34 ?_
      refine gf_RX6_75 hx hb hB hown hW st1 dX6_of_37 ?_
      refine lv_iload_n hx hb dX6_of_40 rfl (lv_at hl 1 rfl) ?_
      obtain ⟨j19, e_j19, hf⟩ := op_none hf
      refine w_aald (j := 4) hx hb hW (rSt st1).1 ((rSt st1).2 E _ _) rfl rfl e_j19 dX6_of_41 ?_
      refine lv_iload_n hx hb dX6_of_42 rfl (lv_at hl 2 rfl) ?_
      obtain ⟨v20, e_v20, hf⟩ := op_none hf
      refine w_iald hx hb hW (iEg st1 (aix_lt e_j19)).1 ((iEg st1 (aix_lt e_j19)).2 E _ _) e_v20 dX6_of_43 ?_
      exact w_retI hx hb hr hlocks hW hV (Prod.mk.inj (Option.some.inj hf)).1 (Prod.mk.inj (Option.some.inj hf)).2 dX6_of_44
    · have hf := op_t y16 hf
      refine lv_iconst (v := (-1 : Int32)) hx hb dX6_of_23 (by decide) ?_
      exact w_retI hx hb hr hlocks hW hV (Prod.mk.inj (Option.some.inj hf)).1 (Prod.mk.inj (Option.some.inj hf)).2 dX6_of_24
set_option maxHeartbeats 8000000 in
set_option maxRecDepth 100000 in
theorem k_X6_replace (l : Launch) (E : WE) (μ : Mem) (k0 : Nat) (a1 : Int32) (a2 : Int32) (h0 : isI k0 14) (r : Int32) (μ' : Mem) (hf : f_X6_replace μ k0 a1 a2 = some (r, μ')) : Met l yX6_replace (.code yX6_replace cX6_replace 4 (some .int) :: BIG) ({ frames := 0, cells := 0, slots := 0, locals := 0 }) (PW E μ [.ref (ead E k0), .int a1, .int a2]) (QI E r μ') 0 0 (eA E) := by
  refine Met.ofW (cc := cX6_replace) (maxL := 4) (ret := (some .int)) (by decide) rfl ?_
  intro p e s m args below meth c s₁ B hml hv
  obtain ⟨rfl, hW, hZ⟩ := hv
  have hx := B.exec
  have hb := B.bytes
  have hr := B.returns
  have hB : ∀ w ∈ BIG, w.before _ s = true := fun w h => atoms_spec (ws := (.code yX6_replace cX6_replace 4 (some .int) :: BIG)) B.pre w (List.mem_cons_of_mem _ h)
  have hown : s.vm.findClass RX6 = some m.cls := findClass_of_methodNamed B.named
  have hlocks := B.notSynchronized
  have hV : va_S (eA E) s.heap s.heap [] := va_S.rf
  have hl := lv_entry ([.ref (ead E k0), .int a1, .int a2]) (n := 4) (Nat.le_of_ble_eq_true rfl)
  rw [lg_entry_eq]
  generalize (lg_sl ([.ref (ead E k0), .int a1, .int a2]) ++ List.replicate (4 - (lg_sl ([.ref (ead E k0), .int a1, .int a2])).length) Slot.unset).toArray = ls at hl ⊢
  have hl : lv_has ls 4 [(0, .ref (ead E k0)), (1, .int a1), (2, .int a2)] := hl
  obtain ⟨H, hH⟩ : ∃ H : Heap, H = s.heap := ⟨_, rfl⟩
  obtain ⟨locs, hlocs⟩ : ∃ locs : List Loc, locs = [] := ⟨_, rfl⟩
  rw [show (W p l e (headSpec (.code yX6_replace cX6_replace 4 (some .int) :: BIG) ({ frames := 0, cells := 0, slots := 0, locals := 0 })).room s m ([.ref (ead E k0), .int a1, .int a2] : List Value).toArray below meth c s.heap [] 0 0) = W p l e (headSpec (.code yX6_replace cX6_replace 4 (some .int) :: BIG) ({ frames := 0, cells := 0, slots := 0, locals := 0 })).room s m ([.ref (ead E k0), .int a1, .int a2] : List Value).toArray below meth c H locs 0 0 by rw [hH, hlocs]]
  have hV : va_S (eA E) s.heap H locs := by rw [hH, hlocs]; exact hV
  have hW : Wd E μ s H := by rw [hH]; exact hW
  unfold f_X6_replace at hf
  refine lv_aload_n hx hb dX6_replace_0 rfl (lv_at hl 0 rfl) ?_
  refine lv_iload_n hx hb dX6_replace_1 rfl (lv_at hl 1 rfl) ?_
  obtain ⟨v3, e_v3, hf⟩ := op_none hf
  refine w_iald hx hb hW h0.1 (h0.2 E _ _) e_v3 dX6_replace_2 ?_
  refine lv_istore_n (i := 3) (lv' := [(3, .int v3), (0, .ref (ead E k0)), (1, .int a1), (2, .int a2)]) hx hb dX6_replace_3 rfl hl (by decide) rfl (fun ls hl => ?_)
  refine lv_aload_n hx hb dX6_replace_4 rfl (lv_at hl 1 rfl) ?_
  refine lv_iload_n hx hb dX6_replace_5 rfl (lv_at hl 2 rfl) ?_
  refine lv_iload_n hx hb dX6_replace_6 rfl (lv_at hl 3 rfl) ?_
  obtain ⟨μ4, e_μ4, hf⟩ := op_none hf
  refine w_iast hx hb hW hV h0.1 (fun f => h0.2 E f _) e_μ4 dX6_replace_7 (fun H locs hW hV => ?_)
  refine lv_iload_n hx hb dX6_replace_8 rfl (lv_at hl 0 rfl) ?_
  exact w_retI hx hb hr hlocks hW hV (Prod.mk.inj (Option.some.inj hf)).1 (Prod.mk.inj (Option.some.inj hf)).2 dX6_replace_9
set_option maxHeartbeats 8000000 in
set_option maxRecDepth 100000 in
theorem k_X6_set (l : Launch) (E : WE) (μ : Mem) (a1 : Int32) (a2 : Int32) (a3 : Int32) (r : Int32) (μ' : Mem) (hf : f_X6_set μ a1 a2 a3 = some (r, μ')) : Met l yX6_set (.code yX6_set cX6_set 5 (some .int) :: BIG) ({ frames := 1, cells := 0, slots := 0, locals := 25 }) (PW E μ [.ref (ead E 1), .int a1, .int a2, .int a3]) (QI E r μ') 0 0 (eA E) := by
  refine Met.ofW (cc := cX6_set) (maxL := 5) (ret := (some .int)) (by decide) rfl ?_
  intro p e s m args below meth c s₁ B hml hv
  obtain ⟨rfl, hW, hZ⟩ := hv
  have hx := B.exec
  have hb := B.bytes
  have hr := B.returns
  have hB : ∀ w ∈ BIG, w.before _ s = true := fun w h => atoms_spec (ws := (.code yX6_set cX6_set 5 (some .int) :: BIG)) B.pre w (List.mem_cons_of_mem _ h)
  have hown : s.vm.findClass RX6 = some m.cls := findClass_of_methodNamed B.named
  have hlocks := B.notSynchronized
  have hV : va_S (eA E) s.heap s.heap [] := va_S.rf
  have hl := lv_entry ([.ref (ead E 1), .int a1, .int a2, .int a3]) (n := 5) (Nat.le_of_ble_eq_true rfl)
  rw [lg_entry_eq]
  generalize (lg_sl ([.ref (ead E 1), .int a1, .int a2, .int a3]) ++ List.replicate (5 - (lg_sl ([.ref (ead E 1), .int a1, .int a2, .int a3])).length) Slot.unset).toArray = ls at hl ⊢
  have hl : lv_has ls 5 [(0, .ref (ead E 1)), (1, .int a1), (2, .int a2), (3, .int a3)] := hl
  have c_76 : ∀ (μ_76 : Mem) (b3_76 : Int32) (s0_76 : Int32) (s1_76 : Nat) (hs1_76 : isI s1_76 14) , f_X6_set_76 μ_76 b3_76 s0_76 s1_76 = some (r, μ') → ∀ (H : Heap) (locs : List Loc) (ls : Array Slot), Wd E μ_76 s H → va_S (eA E) s.heap H locs → lv_has ls 5 [(3, .int b3_76)] → W p l e (headSpec (.code yX6_set cX6_set 5 (some .int) :: BIG) ({ frames := 1, cells := 0, slots := 0, locals := 25 })).room s m ([.ref (ead E 1), .int a1, .int a2, .int a3] : List Value).toArray below meth c H locs 0 0 (MQ below (QI E r μ') ([.ref (ead E 1), .int a1, .int a2, .int a3] : List Value).toArray s 0 0 (eA E)) (F0 m 76 ls [.int s0_76, .ref (ead E s1_76)]) := by
    intro μ_76 b3_76 s0_76 s1_76 hs1_76 hf H locs ls hW hV hl
    unfold f_X6_set_76 at hf
    refine lv_iload_n hx hb dX6_set_76 rfl (lv_at hl 0 rfl) ?_
    obtain ⟨p22, e_21, hf⟩ := op_none hf
    refine w_callI (rn_RX6_93 (As := [.ref (ead E s1_76), .int s0_76, .int b3_76]) hx hb hml hown hB hW hZ hV (k_X6_replace l E _ s1_76 s0_76 b3_76 hs1_76 p22.1 p22.2 e_21) rfl rfl ⟨(Nat.le_of_ble_eq_true rfl), (Nat.le_of_ble_eq_true rfl)⟩ rfl hl.1 rfl (Nat.le_of_ble_eq_true rfl) dX6_set_77 ⟨Nat.le_refl _, Nat.le_refl _⟩) hV (fun H locs hW hV => ?_)
    exact w_retI hx hb hr hlocks hW hV (Prod.mk.inj (Option.some.inj hf)).1 (Prod.mk.inj (Option.some.inj hf)).2 dX6_set_80
  have c_48 : ∀ (μ_48 : Mem) (b1_48 : Int32) (b2_48 : Int32) (b3_48 : Int32) (s0_48 : Int32) , f_X6_set_48 μ_48 b1_48 b2_48 b3_48 s0_48 = some (r, μ') → ∀ (H : Heap) (locs : List Loc) (ls : Array Slot), Wd E μ_48 s H → va_S (eA E) s.heap H locs → lv_has ls 5 [(0, .ref (ead E 1)), (1, .int b1_48), (2, .int b2_48), (3, .int b3_48)] → W p l e (headSpec (.code yX6_set cX6_set 5 (some .int) :: BIG) ({ frames := 1, cells := 0, slots := 0, locals := 25 })).room s m ([.ref (ead E 1), .int a1, .int a2, .int a3] : List Value).toArray below meth c H locs 0 0 (MQ below (QI E r μ') ([.ref (ead E 1), .int a1, .int a2, .int a3] : List Value).toArray s 0 0 (eA E)) (F0 m 48 ls [.int s0_48]) := by
    intro μ_48 b1_48 b2_48 b3_48 s0_48 hf H locs ls hW hV hl
    unfold f_X6_set_48 at hf
    refine lv_istore (i := 4) (lv' := [(4, .int s0_48), (0, .ref (ead E 1)), (1, .int b1_48), (2, .int b2_48), (3, .int b3_48)]) hx hb dX6_set_48 hl (by decide) rfl (fun ls hl => ?_)
    refine lv_iload hx hb dX6_set_50 (lv_at hl 0 rfl) ?_
    refine lv_if_ne (tgt := 58) hx hb dX6_set_52 (by decide) (fun y23 => ?_) (fun y23 => ?_)
    · have hf := op_f y23 hf
      refine lv_aload_n hx hb dX6_set_58 rfl (lv_at hl 1 rfl) ?_
      refine gf_RX6_12 hx hb hB hown hW dX6_set_59 ?_
      refine gf_RX6_75 hx hb hB hown hW st1 dX6_set_62 ?_
      refine lv_iload_n hx hb dX6_set_65 rfl (lv_at hl 2 rfl) ?_
      obtain ⟨j24, e_j24, hf⟩ := op_none hf
      refine w_aald (j := 4) hx hb hW (rSt st1).1 ((rSt st1).2 E _ _) rfl rfl e_j24 dX6_set_66 ?_
      refine lv_iload_n hx hb dX6_set_67 rfl (lv_at hl 3 rfl) ?_
      refine lv_if_ne (tgt := 75) hx hb dX6_set_68 (by decide) (fun y25 => ?_) (fun y25 => ?_)
      · have hf := op_f y25 hf
        refine lv_iconst (v := (3 : Int32)) hx hb dX6_set_75 (by decide) ?_
        exact c_76 μ_48 b3_48 (3 : Int32) (100 + 1 + 1 + j24) (iEg st1 (aix_lt e_j24)) hf H locs ls hW hV (lv_sub hl [4] rfl)
      · have hf := op_t y25 hf
        refine lv_iconst (v := (2 : Int32)) hx hb dX6_set_71 (by decide) ?_
        refine lv_goto (tgt := 76) hx hb dX6_set_72 (by decide) ?_
        exact c_76 μ_48 b3_48 (2 : Int32) (100 + 1 + 1 + j24) (iEg st1 (aix_lt e_j24)) hf H locs ls hW hV (lv_sub hl [4] rfl)
    · have hf := op_t y23 hf
      refine lv_bipush (v := (-2 : Int32)) hx hb dX6_set_55 (by decide) ?_
      exact w_retI hx hb hr hlocks hW hV (Prod.mk.inj (Option.some.inj hf)).1 (Prod.mk.inj (Option.some.inj hf)).2 dX6_set_57
  obtain ⟨H, hH⟩ : ∃ H : Heap, H = s.heap := ⟨_, rfl⟩
  obtain ⟨locs, hlocs⟩ : ∃ locs : List Loc, locs = [] := ⟨_, rfl⟩
  rw [show (W p l e (headSpec (.code yX6_set cX6_set 5 (some .int) :: BIG) ({ frames := 1, cells := 0, slots := 0, locals := 25 })).room s m ([.ref (ead E 1), .int a1, .int a2, .int a3] : List Value).toArray below meth c s.heap [] 0 0) = W p l e (headSpec (.code yX6_set cX6_set 5 (some .int) :: BIG) ({ frames := 1, cells := 0, slots := 0, locals := 25 })).room s m ([.ref (ead E 1), .int a1, .int a2, .int a3] : List Value).toArray below meth c H locs 0 0 by rw [hH, hlocs]]
  have hV : va_S (eA E) s.heap H locs := by rw [hH, hlocs]; exact hV
  have hW : Wd E μ s H := by rw [hH]; exact hW
  unfold f_X6_set at hf
  refine lv_aload_n hx hb dX6_set_0 rfl (lv_at hl 0 rfl) ?_
  refine gf_RX6_12 hx hb hB hown hW dX6_set_1 ?_
  refine lv_iload_n hx hb dX6_set_4 rfl (lv_at hl 1 rfl) ?_
  obtain ⟨v26, e_27, hf⟩ := op_none hf
  refine w_callN (rn_RX6_85 (As := [.int a1]) hx hb hml hown hB hW hZ hV (k_X2_has l E _ 100 a1 st1 v26 e_27) rfl rfl ⟨(Nat.le_of_ble_eq_true rfl), (Nat.le_of_ble_eq_true rfl)⟩ (w_rec hW (oSt st1).1 ((oSt st1).2 E _ _) rfl) rfl hl.1 rfl (Nat.le_of_ble_eq_true rfl) dX6_set_5 ⟨Nat.le_refl _, Nat.le_refl _⟩) hV (fun H locs hn_v26 hW hV => ?_)
  refine lv_if_eq (tgt := 21) hx hb dX6_set_8 (by decide) (fun y28 => ?_) (fun y28 => ?_)
  · have hf := op_t y28 hf
    refine lv_iconst (v := (-1 : Int32)) hx hb dX6_set_21 (by decide) ?_
    exact w_retI hx hb hr hlocks hW hV (Prod.mk.inj (Option.some.inj hf)).1 (Prod.mk.inj (Option.some.inj hf)).2 dX6_set_22
  · have hf := op_f y28 hf
    refine lv_iload_n hx hb dX6_set_11 rfl (lv_at hl 2 rfl) ?_
    refine lv_i2l hx hb dX6_set_12 rfl ?_
    refine lv_lconst (v := (0 : Int64)) hx hb dX6_set_13 (by decide) ?_
    refine lv_lconst (v := (1 : Int64)) hx hb dX6_set_14 (by decide) ?_
    obtain ⟨v29, e_30, hf⟩ := op_none hf
    refine w_callN (rn_RX6_62 (As := [.long a2.toInt64, .long (0 : Int64), .long (1 : Int64)]) hx hb hml hown hB hW hZ hV (k_X6_within l E _ a2.toInt64 (0 : Int64) (1 : Int64) v29 e_30) rfl rfl ⟨(Nat.le_of_ble_eq_true rfl), (Nat.le_of_ble_eq_true rfl)⟩ rfl hl.1 rfl (Nat.le_of_ble_eq_true rfl) dX6_set_15 ⟨Nat.le_refl _, Nat.le_refl _⟩) hV (fun H locs hn_v29 hW hV => ?_)
    refine lv_if_ne (tgt := 23) hx hb dX6_set_18 (by decide) (fun y31 => ?_) (fun y31 => ?_)
    · have hf := op_f y31 hf
      refine lv_iload_n hx hb dX6_set_23 rfl (lv_at hl 2 rfl) ?_
      refine lv_if_ne (tgt := 39) hx hb dX6_set_24 (by decide) (fun y32 => ?_) (fun y32 => ?_)
      · have hf := op_f y32 hf
        refine lv_iload_n hx hb dX6_set_39 rfl (lv_at hl 3 rfl) ?_
        refine lv_i2l hx hb dX6_set_40 rfl ?_
        refine lv_lconst (v := (0 : Int64)) hx hb dX6_set_41 (by decide) ?_
        refine lv_ldc2 (v := (29 : Int64)) hx hb hown (hB _ q_6ec437e7) dX6_set_42 ?_
        obtain ⟨v33, e_34, hf⟩ := op_none hf
        refine w_callN (rn_RX6_62 (As := [.long a3.toInt64, .long (0 : Int64), .long (29 : Int64)]) hx hb hml hown hB hW hZ hV (k_X6_within l E _ a3.toInt64 (0 : Int64) (29 : Int64) v33 e_34) rfl rfl ⟨(Nat.le_of_ble_eq_true rfl), (Nat.le_of_ble_eq_true rfl)⟩ rfl hl.1 rfl (Nat.le_of_ble_eq_true rfl) dX6_set_45 ⟨Nat.le_refl _, Nat.le_refl _⟩) hV (fun H locs hn_v33 hW hV => ?_)
        exact c_48 μ a1 a2 a3 v33 hf H locs ls hW hV (lv_sub hl [0, 1, 2, 3] rfl)
      · have hf := op_t y32 hf
        refine lv_iload_n hx hb dX6_set_27 rfl (lv_at hl 3 rfl) ?_
        refine lv_i2l hx hb dX6_set_28 rfl ?_
        refine lv_lconst (v := (1 : Int64)) hx hb dX6_set_29 (by decide) ?_
        refine lv_ldc2 (v := (30 : Int64)) hx hb hown (hB _ q_47b475f1) dX6_set_30 ?_
        obtain ⟨v35, e_36, hf⟩ := op_none hf
        refine w_callN (rn_RX6_62 (As := [.long a3.toInt64, .long (1 : Int64), .long (30 : Int64)]) hx hb hml hown hB hW hZ hV (k_X6_within l E _ a3.toInt64 (1 : Int64) (30 : Int64) v35 e_36) rfl rfl ⟨(Nat.le_of_ble_eq_true rfl), (Nat.le_of_ble_eq_true rfl)⟩ rfl hl.1 rfl (Nat.le_of_ble_eq_true rfl) dX6_set_33 ⟨Nat.le_refl _, Nat.le_refl _⟩) hV (fun H locs hn_v35 hW hV => ?_)
        refine lv_goto (tgt := 48) hx hb dX6_set_36 (by decide) ?_
        exact c_48 μ a1 a2 a3 v35 hf H locs ls hW hV (lv_sub hl [0, 1, 2, 3] rfl)
    · have hf := op_t y31 hf
      refine lv_iconst (v := (-1 : Int32)) hx hb dX6_set_21 (by decide) ?_
      exact w_retI hx hb hr hlocks hW hV (Prod.mk.inj (Option.some.inj hf)).1 (Prod.mk.inj (Option.some.inj hf)).2 dX6_set_22
set_option maxHeartbeats 8000000 in
set_option maxRecDepth 100000 in
theorem k_X6_smash (l : Launch) (E : WE) (μ : Mem) (a1 : Int32) (a2 : Int32) (r : Int32) (μ' : Mem) (hf : f_X6_smash μ a1 a2 = some (r, μ')) : Met l yX6_smash (.code yX6_smash cX6_smash 3 (some .int) :: BIG) ({ frames := 1, cells := 0, slots := 0, locals := 23 }) (PW E μ [.ref (ead E 1), .int a1, .int a2]) (QI E r μ') 0 0 (eA E) := by
  refine Met.ofW (cc := cX6_smash) (maxL := 3) (ret := (some .int)) (by decide) rfl ?_
  intro p e s m args below meth c s₁ B hml hv
  obtain ⟨rfl, hW, hZ⟩ := hv
  have hx := B.exec
  have hb := B.bytes
  have hr := B.returns
  have hB : ∀ w ∈ BIG, w.before _ s = true := fun w h => atoms_spec (ws := (.code yX6_smash cX6_smash 3 (some .int) :: BIG)) B.pre w (List.mem_cons_of_mem _ h)
  have hown : s.vm.findClass RX6 = some m.cls := findClass_of_methodNamed B.named
  have hlocks := B.notSynchronized
  have hV : va_S (eA E) s.heap s.heap [] := va_S.rf
  have hl := lv_entry ([.ref (ead E 1), .int a1, .int a2]) (n := 3) (Nat.le_of_ble_eq_true rfl)
  rw [lg_entry_eq]
  generalize (lg_sl ([.ref (ead E 1), .int a1, .int a2]) ++ List.replicate (3 - (lg_sl ([.ref (ead E 1), .int a1, .int a2])).length) Slot.unset).toArray = ls at hl ⊢
  have hl : lv_has ls 3 [(0, .ref (ead E 1)), (1, .int a1), (2, .int a2)] := hl
  have c_32 : ∀ (μ_32 : Mem) (s0_32 : Int32) (s1_32 : Int32) (s2_32 : Nat) (hs2_32 : isI s2_32 14) , f_X6_smash_32 μ_32 s0_32 s1_32 s2_32 = some (r, μ') → ∀ (H : Heap) (locs : List Loc) (ls : Array Slot), Wd E μ_32 s H → va_S (eA E) s.heap H locs → lv_has ls 3 [] → W p l e (headSpec (.code yX6_smash cX6_smash 3 (some .int) :: BIG) ({ frames := 1, cells := 0, slots := 0, locals := 23 })).room s m ([.ref (ead E 1), .int a1, .int a2] : List Value).toArray below meth c H locs 0 0 (MQ below (QI E r μ') ([.ref (ead E 1), .int a1, .int a2] : List Value).toArray s 0 0 (eA E)) (F0 m 32 ls [.int s0_32, .int s1_32, .ref (ead E s2_32)]) := by
    intro μ_32 s0_32 s1_32 s2_32 hs2_32 hf H locs ls hW hV hl
    unfold f_X6_smash_32 at hf
    obtain ⟨p13, e_12, hf⟩ := op_none hf
    refine w_callI (rn_RX6_93 (As := [.ref (ead E s2_32), .int s1_32, .int s0_32]) hx hb hml hown hB hW hZ hV (k_X6_replace l E _ s2_32 s1_32 s0_32 hs2_32 p13.1 p13.2 e_12) rfl rfl ⟨(Nat.le_of_ble_eq_true rfl), (Nat.le_of_ble_eq_true rfl)⟩ rfl hl.1 rfl (Nat.le_of_ble_eq_true rfl) dX6_smash_32 ⟨Nat.le_refl _, Nat.le_refl _⟩) hV (fun H locs hW hV => ?_)
    exact w_retI hx hb hr hlocks hW hV (Prod.mk.inj (Option.some.inj hf)).1 (Prod.mk.inj (Option.some.inj hf)).2 dX6_smash_35
  obtain ⟨H, hH⟩ : ∃ H : Heap, H = s.heap := ⟨_, rfl⟩
  obtain ⟨locs, hlocs⟩ : ∃ locs : List Loc, locs = [] := ⟨_, rfl⟩
  rw [show (W p l e (headSpec (.code yX6_smash cX6_smash 3 (some .int) :: BIG) ({ frames := 1, cells := 0, slots := 0, locals := 23 })).room s m ([.ref (ead E 1), .int a1, .int a2] : List Value).toArray below meth c s.heap [] 0 0) = W p l e (headSpec (.code yX6_smash cX6_smash 3 (some .int) :: BIG) ({ frames := 1, cells := 0, slots := 0, locals := 23 })).room s m ([.ref (ead E 1), .int a1, .int a2] : List Value).toArray below meth c H locs 0 0 by rw [hH, hlocs]]
  have hV : va_S (eA E) s.heap H locs := by rw [hH, hlocs]; exact hV
  have hW : Wd E μ s H := by rw [hH]; exact hW
  unfold f_X6_smash at hf
  refine lv_aload_n hx hb dX6_smash_0 rfl (lv_at hl 0 rfl) ?_
  refine gf_RX6_12 hx hb hB hown hW dX6_smash_1 ?_
  refine lv_iload_n hx hb dX6_smash_4 rfl (lv_at hl 1 rfl) ?_
  obtain ⟨v14, e_15, hf⟩ := op_none hf
  refine w_callN (rn_RX6_85 (As := [.int a1]) hx hb hml hown hB hW hZ hV (k_X2_has l E _ 100 a1 st1 v14 e_15) rfl rfl ⟨(Nat.le_of_ble_eq_true rfl), (Nat.le_of_ble_eq_true rfl)⟩ (w_rec hW (oSt st1).1 ((oSt st1).2 E _ _) rfl) rfl hl.1 rfl (Nat.le_of_ble_eq_true rfl) dX6_smash_5 ⟨Nat.le_refl _, Nat.le_refl _⟩) hV (fun H locs hn_v14 hW hV => ?_)
  refine lv_if_ne (tgt := 13) hx hb dX6_smash_8 (by decide) (fun y16 => ?_) (fun y16 => ?_)
  · have hf := op_f y16 hf
    refine lv_aload_n hx hb dX6_smash_13 rfl (lv_at hl 0 rfl) ?_
    refine gf_RX6_12 hx hb hB hown hW dX6_smash_14 ?_
    refine gf_RX6_75 hx hb hB hown hW st1 dX6_smash_17 ?_
    refine lv_iload_n hx hb dX6_smash_20 rfl (lv_at hl 1 rfl) ?_
    obtain ⟨j17, e_j17, hf⟩ := op_none hf
    refine w_aald (j := 4) hx hb hW (rSt st1).1 ((rSt st1).2 E _ _) rfl rfl e_j17 dX6_smash_21 ?_
    refine lv_iconst (v := (4 : Int32)) hx hb dX6_smash_22 (by decide) ?_
    refine lv_iload_n hx hb dX6_smash_23 rfl (lv_at hl 2 rfl) ?_
    refine lv_if_eq (tgt := 31) hx hb dX6_smash_24 (by decide) (fun y18 => ?_) (fun y18 => ?_)
    · have hf := op_t y18 hf
      refine lv_iconst (v := (0 : Int32)) hx hb dX6_smash_31 (by decide) ?_
      exact c_32 μ (0 : Int32) (4 : Int32) (100 + 1 + 1 + j17) (iEg st1 (aix_lt e_j17)) hf H locs ls hW hV (lv_sub hl [] rfl)
    · have hf := op_f y18 hf
      refine lv_iconst (v := (1 : Int32)) hx hb dX6_smash_27 (by decide) ?_
      refine lv_goto (tgt := 32) hx hb dX6_smash_28 (by decide) ?_
      exact c_32 μ (1 : Int32) (4 : Int32) (100 + 1 + 1 + j17) (iEg st1 (aix_lt e_j17)) hf H locs ls hW hV (lv_sub hl [] rfl)
  · have hf := op_t y16 hf
    refine lv_iconst (v := (-1 : Int32)) hx hb dX6_smash_11 (by decide) ?_
    exact w_retI hx hb hr hlocks hW hV (Prod.mk.inj (Option.some.inj hf)).1 (Prod.mk.inj (Option.some.inj hf)).2 dX6_smash_12
set_option maxHeartbeats 8000000 in
set_option maxRecDepth 100000 in
theorem k_X6_listen (l : Launch) (E : WE) (μ : Mem) (a1 : Int32) (r : Int32) (μ' : Mem) (hf : f_X6_listen μ a1 = some (r, μ')) : Met l yX6_listen (.code yX6_listen cX6_listen 3 (some .int) :: BIG) ({ frames := 1, cells := 0, slots := 0, locals := 25 }) (PW E μ [.ref (ead E 1), .int a1]) (QI E r μ') 0 0 (eA E) := by
  refine Met.ofW (cc := cX6_listen) (maxL := 3) (ret := (some .int)) (by decide) rfl ?_
  intro p e s m args below meth c s₁ B hml hv
  obtain ⟨rfl, hW, hZ⟩ := hv
  have hx := B.exec
  have hb := B.bytes
  have hr := B.returns
  have hB : ∀ w ∈ BIG, w.before _ s = true := fun w h => atoms_spec (ws := (.code yX6_listen cX6_listen 3 (some .int) :: BIG)) B.pre w (List.mem_cons_of_mem _ h)
  have hown : s.vm.findClass RX6 = some m.cls := findClass_of_methodNamed B.named
  have hlocks := B.notSynchronized
  have hV : va_S (eA E) s.heap s.heap [] := va_S.rf
  have hl := lv_entry ([.ref (ead E 1), .int a1]) (n := 3) (Nat.le_of_ble_eq_true rfl)
  rw [lg_entry_eq]
  generalize (lg_sl ([.ref (ead E 1), .int a1]) ++ List.replicate (3 - (lg_sl ([.ref (ead E 1), .int a1])).length) Slot.unset).toArray = ls at hl ⊢
  have hl : lv_has ls 3 [(0, .ref (ead E 1)), (1, .int a1)] := hl
  obtain ⟨H, hH⟩ : ∃ H : Heap, H = s.heap := ⟨_, rfl⟩
  obtain ⟨locs, hlocs⟩ : ∃ locs : List Loc, locs = [] := ⟨_, rfl⟩
  rw [show (W p l e (headSpec (.code yX6_listen cX6_listen 3 (some .int) :: BIG) ({ frames := 1, cells := 0, slots := 0, locals := 25 })).room s m ([.ref (ead E 1), .int a1] : List Value).toArray below meth c s.heap [] 0 0) = W p l e (headSpec (.code yX6_listen cX6_listen 3 (some .int) :: BIG) ({ frames := 1, cells := 0, slots := 0, locals := 25 })).room s m ([.ref (ead E 1), .int a1] : List Value).toArray below meth c H locs 0 0 by rw [hH, hlocs]]
  have hV : va_S (eA E) s.heap H locs := by rw [hH, hlocs]; exact hV
  have hW : Wd E μ s H := by rw [hH]; exact hW
  unfold f_X6_listen at hf
  refine lv_iload_n hx hb dX6_listen_0 rfl (lv_at hl 1 rfl) ?_
  refine lv_i2l hx hb dX6_listen_1 rfl ?_
  refine lv_lconst (v := (0 : Int64)) hx hb dX6_listen_2 (by decide) ?_
  refine lv_ldc2 (v := (127 : Int64)) hx hb hown (hB _ q_a06158da) dX6_listen_3 ?_
  obtain ⟨v6, e_7, hf⟩ := op_none hf
  refine w_callN (rn_RX6_62 (As := [.long a1.toInt64, .long (0 : Int64), .long (127 : Int64)]) hx hb hml hown hB hW hZ hV (k_X6_within l E _ a1.toInt64 (0 : Int64) (127 : Int64) v6 e_7) rfl rfl ⟨(Nat.le_of_ble_eq_true rfl), (Nat.le_of_ble_eq_true rfl)⟩ rfl hl.1 rfl (Nat.le_of_ble_eq_true rfl) dX6_listen_6 ⟨Nat.le_refl _, Nat.le_refl _⟩) hV (fun H locs hn_v6 hW hV => ?_)
  refine lv_if_ne (tgt := 15) hx hb dX6_listen_9 (by decide) (fun y8 => ?_) (fun y8 => ?_)
  · have hf := op_f y8 hf
    refine lv_aload_n hx hb dX6_listen_15 rfl (lv_at hl 0 rfl) ?_
    refine gf_RX6_12 hx hb hB hown hW dX6_listen_16 ?_
    refine gf_RX6_99 hx hb hB hown hW st1 dX6_listen_19 ?_
    obtain ⟨v9, e_v9, hf⟩ := op_none hf
    refine lv_top' (Option.some.inj e_v9) ?_
    refine lv_istore_n (i := 2) (lv' := [(2, .int v9), (0, .ref (ead E 1)), (1, .int a1)]) hx hb dX6_listen_22 rfl hl (by decide) rfl (fun ls hl => ?_)
    refine lv_aload_n hx hb dX6_listen_23 rfl (lv_at hl 1 rfl) ?_
    refine gf_RX6_12 hx hb hB hown hW dX6_listen_24 ?_
    refine lv_iload_n hx hb dX6_listen_27 rfl (lv_at hl 2 rfl) ?_
    obtain ⟨μ10, e_μ10, hf⟩ := op_none hf
    refine pf_RX6_99 hx hb hB hown hW st1 hV dX6_listen_28 (fun H locs hW hV => ?_)
    rw [Option.some.inj e_μ10] at hW
    refine lv_iload_n hx hb dX6_listen_31 rfl (lv_at hl 0 rfl) ?_
    exact w_retI hx hb hr hlocks hW hV (Prod.mk.inj (Option.some.inj hf)).1 (Prod.mk.inj (Option.some.inj hf)).2 dX6_listen_32
  · have hf := op_t y8 hf
    refine lv_bipush (v := (-2 : Int32)) hx hb dX6_listen_12 (by decide) ?_
    exact w_retI hx hb hr hlocks hW hV (Prod.mk.inj (Option.some.inj hf)).1 (Prod.mk.inj (Option.some.inj hf)).2 dX6_listen_14
set_option maxHeartbeats 8000000 in
set_option maxRecDepth 100000 in
theorem k_X6_row (l : Launch) (E : WE) (μ : Mem) (a1 : Int32) (a2 : Int32) (a3 : Int32) (r : Int32) (μ' : Mem) (hf : f_X6_row μ a1 a2 a3 = some (r, μ')) : Met l yX6_row (.code yX6_row cX6_row 4 (some .int) :: BIG) ({ frames := 1, cells := 0, slots := 0, locals := 25 }) (PW E μ [.ref (ead E 1), .int a1, .int a2, .int a3]) (QI E r μ') 0 0 (eA E) := by
  refine Met.ofW (cc := cX6_row) (maxL := 4) (ret := (some .int)) (by decide) rfl ?_
  intro p e s m args below meth c s₁ B hml hv
  obtain ⟨rfl, hW, hZ⟩ := hv
  have hx := B.exec
  have hb := B.bytes
  have hr := B.returns
  have hB : ∀ w ∈ BIG, w.before _ s = true := fun w h => atoms_spec (ws := (.code yX6_row cX6_row 4 (some .int) :: BIG)) B.pre w (List.mem_cons_of_mem _ h)
  have hown : s.vm.findClass RX6 = some m.cls := findClass_of_methodNamed B.named
  have hlocks := B.notSynchronized
  have hV : va_S (eA E) s.heap s.heap [] := va_S.rf
  have hl := lv_entry ([.ref (ead E 1), .int a1, .int a2, .int a3]) (n := 4) (Nat.le_of_ble_eq_true rfl)
  rw [lg_entry_eq]
  generalize (lg_sl ([.ref (ead E 1), .int a1, .int a2, .int a3]) ++ List.replicate (4 - (lg_sl ([.ref (ead E 1), .int a1, .int a2, .int a3])).length) Slot.unset).toArray = ls at hl ⊢
  have hl : lv_has ls 4 [(0, .ref (ead E 1)), (1, .int a1), (2, .int a2), (3, .int a3)] := hl
  obtain ⟨H, hH⟩ : ∃ H : Heap, H = s.heap := ⟨_, rfl⟩
  obtain ⟨locs, hlocs⟩ : ∃ locs : List Loc, locs = [] := ⟨_, rfl⟩
  rw [show (W p l e (headSpec (.code yX6_row cX6_row 4 (some .int) :: BIG) ({ frames := 1, cells := 0, slots := 0, locals := 25 })).room s m ([.ref (ead E 1), .int a1, .int a2, .int a3] : List Value).toArray below meth c s.heap [] 0 0) = W p l e (headSpec (.code yX6_row cX6_row 4 (some .int) :: BIG) ({ frames := 1, cells := 0, slots := 0, locals := 25 })).room s m ([.ref (ead E 1), .int a1, .int a2, .int a3] : List Value).toArray below meth c H locs 0 0 by rw [hH, hlocs]]
  have hV : va_S (eA E) s.heap H locs := by rw [hH, hlocs]; exact hV
  have hW : Wd E μ s H := by rw [hH]; exact hW
  unfold f_X6_row at hf
  refine lv_aload_n hx hb dX6_row_0 rfl (lv_at hl 0 rfl) ?_
  refine gf_RX6_12 hx hb hB hown hW dX6_row_1 ?_
  refine lv_iload_n hx hb dX6_row_4 rfl (lv_at hl 1 rfl) ?_
  obtain ⟨v18, e_19, hf⟩ := op_none hf
  refine w_callN (rn_RX6_85 (As := [.int a1]) hx hb hml hown hB hW hZ hV (k_X2_has l E _ 100 a1 st1 v18 e_19) rfl rfl ⟨(Nat.le_of_ble_eq_true rfl), (Nat.le_of_ble_eq_true rfl)⟩ (w_rec hW (oSt st1).1 ((oSt st1).2 E _ _) rfl) rfl hl.1 rfl (Nat.le_of_ble_eq_true rfl) dX6_row_5 ⟨Nat.le_refl _, Nat.le_refl _⟩) hV (fun H locs hn_v18 hW hV => ?_)
  refine lv_if_eq (tgt := 23) hx hb dX6_row_8 (by decide) (fun y20 => ?_) (fun y20 => ?_)
  · have hf := op_t y20 hf
    refine lv_iconst (v := (-1 : Int32)) hx hb dX6_row_23 (by decide) ?_
    exact w_retI hx hb hr hlocks hW hV (Prod.mk.inj (Option.some.inj hf)).1 (Prod.mk.inj (Option.some.inj hf)).2 dX6_row_24
  · have hf := op_f y20 hf
    refine lv_iload_n hx hb dX6_row_11 rfl (lv_at hl 2 rfl) ?_
    refine lv_i2l hx hb dX6_row_12 rfl ?_
    refine lv_lconst (v := (0 : Int64)) hx hb dX6_row_13 (by decide) ?_
    refine lv_ldc2 (v := (3 : Int64)) hx hb hown (hB _ q_e3e92a5a) dX6_row_14 ?_
    obtain ⟨v21, e_22, hf⟩ := op_none hf
    refine w_callN (rn_RX6_62 (As := [.long a2.toInt64, .long (0 : Int64), .long (3 : Int64)]) hx hb hml hown hB hW hZ hV (k_X6_within l E _ a2.toInt64 (0 : Int64) (3 : Int64) v21 e_22) rfl rfl ⟨(Nat.le_of_ble_eq_true rfl), (Nat.le_of_ble_eq_true rfl)⟩ rfl hl.1 rfl (Nat.le_of_ble_eq_true rfl) dX6_row_17 ⟨Nat.le_refl _, Nat.le_refl _⟩) hV (fun H locs hn_v21 hW hV => ?_)
    refine lv_if_ne (tgt := 25) hx hb dX6_row_20 (by decide) (fun y23 => ?_) (fun y23 => ?_)
    · have hf := op_f y23 hf
      refine lv_iload_n hx hb dX6_row_25 rfl (lv_at hl 3 rfl) ?_
      refine lv_i2l hx hb dX6_row_26 rfl ?_
      refine lv_lconst (v := (0 : Int64)) hx hb dX6_row_27 (by decide) ?_
      refine lv_ldc2 (v := (9 : Int64)) hx hb hown (hB _ q_d6026cce) dX6_row_28 ?_
      obtain ⟨v24, e_25, hf⟩ := op_none hf
      refine w_callN (rn_RX6_62 (As := [.long a3.toInt64, .long (0 : Int64), .long (9 : Int64)]) hx hb hml hown hB hW hZ hV (k_X6_within l E _ a3.toInt64 (0 : Int64) (9 : Int64) v24 e_25) rfl rfl ⟨(Nat.le_of_ble_eq_true rfl), (Nat.le_of_ble_eq_true rfl)⟩ rfl hl.1 rfl (Nat.le_of_ble_eq_true rfl) dX6_row_31 ⟨Nat.le_refl _, Nat.le_refl _⟩) hV (fun H locs hn_v24 hW hV => ?_)
      refine lv_if_ne (tgt := 40) hx hb dX6_row_34 (by decide) (fun y26 => ?_) (fun y26 => ?_)
      · have hf := op_f y26 hf
        refine lv_aload_n hx hb dX6_row_40 rfl (lv_at hl 0 rfl) ?_
        refine gf_RX6_12 hx hb hB hown hW dX6_row_41 ?_
        refine gf_RX6_75 hx hb hB hown hW st1 dX6_row_44 ?_
        refine lv_iload_n hx hb dX6_row_47 rfl (lv_at hl 1 rfl) ?_
        obtain ⟨j27, e_j27, hf⟩ := op_none hf
        refine w_aald (j := 4) hx hb hW (rSt st1).1 ((rSt st1).2 E _ _) rfl rfl e_j27 dX6_row_48 ?_
        refine lv_iconst (v := (0 : Int32)) hx hb dX6_row_49 (by decide) ?_
        obtain ⟨v28, e_v28, hf⟩ := op_none hf
        refine w_iald hx hb hW (iEg st1 (aix_lt e_j27)).1 ((iEg st1 (aix_lt e_j27)).2 E _ _) e_v28 dX6_row_50 ?_
        refine lv_bipush (v := (6 : Int32)) hx hb dX6_row_51 (by decide) ?_
        refine lv_icmp_eq (tgt := 59) hx hb dX6_row_53 (by decide) (fun y29 => ?_) (fun y29 => ?_)
        · have hf := op_t y29 hf
          refine lv_aload_n hx hb dX6_row_59 rfl (lv_at hl 0 rfl) ?_
          refine gf_RX6_12 hx hb hB hown hW dX6_row_60 ?_
          refine gf_RX6_75 hx hb hB hown hW st1 dX6_row_63 ?_
          refine lv_iload_n hx hb dX6_row_66 rfl (lv_at hl 1 rfl) ?_
          obtain ⟨j30, e_j30, hf⟩ := op_none hf
          refine w_aald (j := 4) hx hb hW (rSt st1).1 ((rSt st1).2 E _ _) rfl rfl e_j30 dX6_row_67 ?_
          refine lv_bipush (v := (10 : Int32)) hx hb dX6_row_68 (by decide) ?_
          refine lv_iload_n hx hb dX6_row_70 rfl (lv_at hl 2 rfl) ?_
          refine lv_iadd hx hb dX6_row_71 ?_
          refine lv_iload_n hx hb dX6_row_72 rfl (lv_at hl 3 rfl) ?_
          obtain ⟨p34, e_33, hf⟩ := op_none hf
          refine w_callI (rn_RX6_93 (As := [.ref (ead E (100 + 1 + 1 + j30)), .int ((10 : Int32) + a2), .int a3]) hx hb hml hown hB hW hZ hV (k_X6_replace l E _ (100 + 1 + 1 + j30) ((10 : Int32) + a2) a3 (iEg st1 (aix_lt e_j30)) p34.1 p34.2 e_33) rfl rfl ⟨(Nat.le_of_ble_eq_true rfl), (Nat.le_of_ble_eq_true rfl)⟩ rfl hl.1 rfl (Nat.le_of_ble_eq_true rfl) dX6_row_73 ⟨Nat.le_refl _, Nat.le_refl _⟩) hV (fun H locs hW hV => ?_)
          exact w_retI hx hb hr hlocks hW hV (Prod.mk.inj (Option.some.inj hf)).1 (Prod.mk.inj (Option.some.inj hf)).2 dX6_row_76
        · have hf := op_f y29 hf
          refine lv_bipush (v := (-3 : Int32)) hx hb dX6_row_56 (by decide) ?_
          exact w_retI hx hb hr hlocks hW hV (Prod.mk.inj (Option.some.inj hf)).1 (Prod.mk.inj (Option.some.inj hf)).2 dX6_row_58
      · have hf := op_t y26 hf
        refine lv_bipush (v := (-2 : Int32)) hx hb dX6_row_37 (by decide) ?_
        exact w_retI hx hb hr hlocks hW hV (Prod.mk.inj (Option.some.inj hf)).1 (Prod.mk.inj (Option.some.inj hf)).2 dX6_row_39
    · have hf := op_t y23 hf
      refine lv_iconst (v := (-1 : Int32)) hx hb dX6_row_23 (by decide) ?_
      exact w_retI hx hb hr hlocks hW hV (Prod.mk.inj (Option.some.inj hf)).1 (Prod.mk.inj (Option.some.inj hf)).2 dX6_row_24
set_option maxHeartbeats 8000000 in
set_option maxRecDepth 100000 in
theorem k_X5_add (l : Launch) (E : WE) (μ : Mem) (a1 : Int32) (r : Int32) (μ' : Mem) (hf : f_X5_add μ a1 = some (r, μ')) : Met l yX5_add (.code yX5_add cX5_add 2 (some .int) :: BIG) ({ frames := 0, cells := 0, slots := 0, locals := 0 }) (PW E μ [.ref (ead E 2), .int a1]) (QI E r μ') 0 0 (eA E) := by
  refine Met.ofW (cc := cX5_add) (maxL := 2) (ret := (some .int)) (by decide) rfl ?_
  intro p e s m args below meth c s₁ B hml hv
  obtain ⟨rfl, hW, hZ⟩ := hv
  have hx := B.exec
  have hb := B.bytes
  have hr := B.returns
  have hB : ∀ w ∈ BIG, w.before _ s = true := fun w h => atoms_spec (ws := (.code yX5_add cX5_add 2 (some .int) :: BIG)) B.pre w (List.mem_cons_of_mem _ h)
  have hown : s.vm.findClass RX5 = some m.cls := findClass_of_methodNamed B.named
  have hlocks := B.notSynchronized
  have hV : va_S (eA E) s.heap s.heap [] := va_S.rf
  have hl := lv_entry ([.ref (ead E 2), .int a1]) (n := 2) (Nat.le_of_ble_eq_true rfl)
  rw [lg_entry_eq]
  generalize (lg_sl ([.ref (ead E 2), .int a1]) ++ List.replicate (2 - (lg_sl ([.ref (ead E 2), .int a1])).length) Slot.unset).toArray = ls at hl ⊢
  have hl : lv_has ls 2 [(0, .ref (ead E 2)), (1, .int a1)] := hl
  obtain ⟨H, hH⟩ : ∃ H : Heap, H = s.heap := ⟨_, rfl⟩
  obtain ⟨locs, hlocs⟩ : ∃ locs : List Loc, locs = [] := ⟨_, rfl⟩
  rw [show (W p l e (headSpec (.code yX5_add cX5_add 2 (some .int) :: BIG) ({ frames := 0, cells := 0, slots := 0, locals := 0 })).room s m ([.ref (ead E 2), .int a1] : List Value).toArray below meth c s.heap [] 0 0) = W p l e (headSpec (.code yX5_add cX5_add 2 (some .int) :: BIG) ({ frames := 0, cells := 0, slots := 0, locals := 0 })).room s m ([.ref (ead E 2), .int a1] : List Value).toArray below meth c H locs 0 0 by rw [hH, hlocs]]
  have hV : va_S (eA E) s.heap H locs := by rw [hH, hlocs]; exact hV
  have hW : Wd E μ s H := by rw [hH]; exact hW
  unfold f_X5_add at hf
  refine lv_aload_n hx hb dX5_add_0 rfl (lv_at hl 0 rfl) ?_
  refine gf_RX5_15 hx hb hB hown hW dX5_add_1 ?_
  refine lv_aload_n hx hb dX5_add_4 rfl (lv_at hl 0 rfl) ?_
  refine gf_RX5_9 hx hb hB hown hW dX5_add_5 ?_
  refine w_alen (j := 3) (v := (100 : Int32)) hx hb hW b3.1 (b3.2 E _ _) rfl rfl rfl dX5_add_8 ?_
  refine lv_icmp_lt (tgt := 15) hx hb dX5_add_9 (by decide) (fun y4 => ?_) (fun y4 => ?_)
  · have hf := op_t y4 hf
    refine lv_aload_n hx hb dX5_add_15 rfl (lv_at hl 0 rfl) ?_
    refine gf_RX5_9 hx hb hB hown hW dX5_add_16 ?_
    refine lv_aload_n hx hb dX5_add_19 rfl (lv_at hl 0 rfl) ?_
    refine gf_RX5_15 hx hb hB hown hW dX5_add_20 ?_
    refine lv_iload_n hx hb dX5_add_23 rfl (lv_at hl 1 rfl) ?_
    refine lv_i2b hx hb dX5_add_24 rfl ?_
    obtain ⟨μ5, e_μ5, hf⟩ := op_none hf
    refine w_bast hx hb hW hV b3.1 (fun f => b3.2 E f _) e_μ5 dX5_add_25 (fun H locs hW hV => ?_)
    refine lv_aload_n hx hb dX5_add_26 rfl (lv_at hl 0 rfl) ?_
    refine lv_dup hx hb dX5_add_27 rfl ?_
    refine gf_RX5_15 hx hb hB hown hW dX5_add_28 ?_
    refine lv_iconst (v := (1 : Int32)) hx hb dX5_add_31 (by decide) ?_
    refine lv_iadd hx hb dX5_add_32 ?_
    obtain ⟨μ6, e_μ6, hf⟩ := op_none hf
    refine pf_RX5_15 hx hb hB hown hW hV dX5_add_33 (fun H locs hW hV => ?_)
    rw [Option.some.inj e_μ6] at hW
    refine lv_aload_n hx hb dX5_add_36 rfl (lv_at hl 0 rfl) ?_
    refine gf_RX5_15 hx hb hB hown hW dX5_add_37 ?_
    exact w_retI hx hb hr hlocks hW hV (Prod.mk.inj (Option.some.inj hf)).1 (Prod.mk.inj (Option.some.inj hf)).2 dX5_add_40
  · have hf := op_f y4 hf
    refine lv_bipush (v := (-4 : Int32)) hx hb dX5_add_12 (by decide) ?_
    exact w_retI hx hb hr hlocks hW hV (Prod.mk.inj (Option.some.inj hf)).1 (Prod.mk.inj (Option.some.inj hf)).2 dX5_add_14
set_option maxHeartbeats 8000000 in
set_option maxRecDepth 100000 in
theorem k_X6_feed (l : Launch) (E : WE) (μ : Mem) (a1 : Int32) (r : Int32) (μ' : Mem) (hf : f_X6_feed μ a1 = some (r, μ')) : Met l yX6_feed (.code yX6_feed cX6_feed 2 (some .int) :: BIG) ({ frames := 1, cells := 0, slots := 0, locals := 25 }) (PW E μ [.ref (ead E 1), .int a1]) (QI E r μ') 0 0 (eA E) := by
  refine Met.ofW (cc := cX6_feed) (maxL := 2) (ret := (some .int)) (by decide) rfl ?_
  intro p e s m args below meth c s₁ B hml hv
  obtain ⟨rfl, hW, hZ⟩ := hv
  have hx := B.exec
  have hb := B.bytes
  have hr := B.returns
  have hB : ∀ w ∈ BIG, w.before _ s = true := fun w h => atoms_spec (ws := (.code yX6_feed cX6_feed 2 (some .int) :: BIG)) B.pre w (List.mem_cons_of_mem _ h)
  have hown : s.vm.findClass RX6 = some m.cls := findClass_of_methodNamed B.named
  have hlocks := B.notSynchronized
  have hV : va_S (eA E) s.heap s.heap [] := va_S.rf
  have hl := lv_entry ([.ref (ead E 1), .int a1]) (n := 2) (Nat.le_of_ble_eq_true rfl)
  rw [lg_entry_eq]
  generalize (lg_sl ([.ref (ead E 1), .int a1]) ++ List.replicate (2 - (lg_sl ([.ref (ead E 1), .int a1])).length) Slot.unset).toArray = ls at hl ⊢
  have hl : lv_has ls 2 [(0, .ref (ead E 1)), (1, .int a1)] := hl
  obtain ⟨H, hH⟩ : ∃ H : Heap, H = s.heap := ⟨_, rfl⟩
  obtain ⟨locs, hlocs⟩ : ∃ locs : List Loc, locs = [] := ⟨_, rfl⟩
  rw [show (W p l e (headSpec (.code yX6_feed cX6_feed 2 (some .int) :: BIG) ({ frames := 1, cells := 0, slots := 0, locals := 25 })).room s m ([.ref (ead E 1), .int a1] : List Value).toArray below meth c s.heap [] 0 0) = W p l e (headSpec (.code yX6_feed cX6_feed 2 (some .int) :: BIG) ({ frames := 1, cells := 0, slots := 0, locals := 25 })).room s m ([.ref (ead E 1), .int a1] : List Value).toArray below meth c H locs 0 0 by rw [hH, hlocs]]
  have hV : va_S (eA E) s.heap H locs := by rw [hH, hlocs]; exact hV
  have hW : Wd E μ s H := by rw [hH]; exact hW
  unfold f_X6_feed at hf
  refine lv_iload_n hx hb dX6_feed_0 rfl (lv_at hl 1 rfl) ?_
  refine lv_i2l hx hb dX6_feed_1 rfl ?_
  refine lv_lconst (v := (0 : Int64)) hx hb dX6_feed_2 (by decide) ?_
  refine lv_ldc2 (v := (127 : Int64)) hx hb hown (hB _ q_a06158da) dX6_feed_3 ?_
  obtain ⟨v8, e_9, hf⟩ := op_none hf
  refine w_callN (rn_RX6_62 (As := [.long a1.toInt64, .long (0 : Int64), .long (127 : Int64)]) hx hb hml hown hB hW hZ hV (k_X6_within l E _ a1.toInt64 (0 : Int64) (127 : Int64) v8 e_9) rfl rfl ⟨(Nat.le_of_ble_eq_true rfl), (Nat.le_of_ble_eq_true rfl)⟩ rfl hl.1 rfl (Nat.le_of_ble_eq_true rfl) dX6_feed_6 ⟨Nat.le_refl _, Nat.le_refl _⟩) hV (fun H locs hn_v8 hW hV => ?_)
  refine lv_if_ne (tgt := 15) hx hb dX6_feed_9 (by decide) (fun y10 => ?_) (fun y10 => ?_)
  · have hf := op_f y10 hf
    refine lv_aload_n hx hb dX6_feed_15 rfl (lv_at hl 0 rfl) ?_
    refine gf_RX6_31 hx hb hB hown hW dX6_feed_16 ?_
    refine lv_iload_n hx hb dX6_feed_19 rfl (lv_at hl 1 rfl) ?_
    obtain ⟨p14, e_13, hf⟩ := op_none hf
    refine w_callI (rn_RX6_104 (As := [.int a1]) hx hb hml hown hB hW hZ hV (k_X5_add l E _ a1 p14.1 p14.2 e_13) rfl rfl ⟨(Nat.le_of_ble_eq_true rfl), (Nat.le_of_ble_eq_true rfl)⟩ (w_rec hW oTx.1 (oTx.2 E _ _) rfl) rfl hl.1 rfl (Nat.le_of_ble_eq_true rfl) dX6_feed_20 ⟨Nat.le_refl _, Nat.le_refl _⟩) hV (fun H locs hW hV => ?_)
    exact w_retI hx hb hr hlocks hW hV (Prod.mk.inj (Option.some.inj hf)).1 (Prod.mk.inj (Option.some.inj hf)).2 dX6_feed_23
  · have hf := op_t y10 hf
    refine lv_bipush (v := (-2 : Int32)) hx hb dX6_feed_12 (by decide) ?_
    exact w_retI hx hb hr hlocks hW hV (Prod.mk.inj (Option.some.inj hf)).1 (Prod.mk.inj (Option.some.inj hf)).2 dX6_feed_14
set_option maxHeartbeats 8000000 in
set_option maxRecDepth 100000 in
theorem k_X5_next (l : Launch) (E : WE) (μ : Mem) (r : Int32) (hf : f_X5_next μ = some r) : Met l yX5_next (.code yX5_next cX5_next 1 (some .int) :: BIG) ({ frames := 0, cells := 0, slots := 0, locals := 0 }) (PW E μ [.ref (ead E 2)]) (QI E r μ) 0 0 (eA E) := by
  refine Met.ofW (cc := cX5_next) (maxL := 1) (ret := (some .int)) (by decide) rfl ?_
  intro p e s m args below meth c s₁ B hml hv
  obtain ⟨rfl, hW, hZ⟩ := hv
  have hx := B.exec
  have hb := B.bytes
  have hr := B.returns
  have hB : ∀ w ∈ BIG, w.before _ s = true := fun w h => atoms_spec (ws := (.code yX5_next cX5_next 1 (some .int) :: BIG)) B.pre w (List.mem_cons_of_mem _ h)
  have hown : s.vm.findClass RX5 = some m.cls := findClass_of_methodNamed B.named
  have hlocks := B.notSynchronized
  have hV : va_S (eA E) s.heap s.heap [] := va_S.rf
  have hl := lv_entry ([.ref (ead E 2)]) (n := 1) (Nat.le_of_ble_eq_true rfl)
  rw [lg_entry_eq]
  generalize (lg_sl ([.ref (ead E 2)]) ++ List.replicate (1 - (lg_sl ([.ref (ead E 2)])).length) Slot.unset).toArray = ls at hl ⊢
  have hl : lv_has ls 1 [(0, .ref (ead E 2))] := hl
  obtain ⟨H, hH⟩ : ∃ H : Heap, H = s.heap := ⟨_, rfl⟩
  obtain ⟨locs, hlocs⟩ : ∃ locs : List Loc, locs = [] := ⟨_, rfl⟩
  rw [show (W p l e (headSpec (.code yX5_next cX5_next 1 (some .int) :: BIG) ({ frames := 0, cells := 0, slots := 0, locals := 0 })).room s m ([.ref (ead E 2)] : List Value).toArray below meth c s.heap [] 0 0) = W p l e (headSpec (.code yX5_next cX5_next 1 (some .int) :: BIG) ({ frames := 0, cells := 0, slots := 0, locals := 0 })).room s m ([.ref (ead E 2)] : List Value).toArray below meth c H locs 0 0 by rw [hH, hlocs]]
  have hV : va_S (eA E) s.heap H locs := by rw [hH, hlocs]; exact hV
  have hW : Wd E μ s H := by rw [hH]; exact hW
  unfold f_X5_next at hf
  refine lv_aload_n hx hb dX5_next_0 rfl (lv_at hl 0 rfl) ?_
  refine gf_RX5_19 hx hb hB hown hW dX5_next_1 ?_
  refine lv_if_lt (tgt := 30) hx hb dX5_next_4 (by decide) (fun y4 => ?_) (fun y4 => ?_)
  · have hf := op_t y4 hf
    refine lv_iconst (v := (-1 : Int32)) hx hb dX5_next_30 (by decide) ?_
    exact w_retI hx hb hr hlocks hW hV (Option.some.inj hf) rfl dX5_next_31
  · have hf := op_f y4 hf
    refine lv_aload_n hx hb dX5_next_7 rfl (lv_at hl 0 rfl) ?_
    refine gf_RX5_19 hx hb hB hown hW dX5_next_8 ?_
    refine lv_aload_n hx hb dX5_next_11 rfl (lv_at hl 0 rfl) ?_
    refine gf_RX5_15 hx hb hB hown hW dX5_next_12 ?_
    refine lv_icmp_ge (tgt := 30) hx hb dX5_next_15 (by decide) (fun y5 => ?_) (fun y5 => ?_)
    · have hf := op_t y5 hf
      refine lv_iconst (v := (-1 : Int32)) hx hb dX5_next_30 (by decide) ?_
      exact w_retI hx hb hr hlocks hW hV (Option.some.inj hf) rfl dX5_next_31
    · have hf := op_f y5 hf
      refine lv_aload_n hx hb dX5_next_18 rfl (lv_at hl 0 rfl) ?_
      refine gf_RX5_9 hx hb hB hown hW dX5_next_19 ?_
      refine lv_aload_n hx hb dX5_next_22 rfl (lv_at hl 0 rfl) ?_
      refine gf_RX5_19 hx hb hB hown hW dX5_next_23 ?_
      obtain ⟨v6, e_v6, hf⟩ := op_none hf
      refine w_bald hx hb hW b3.1 (b3.2 E _ _) e_v6 dX5_next_26 ?_
      refine lv_goto (tgt := 31) hx hb dX5_next_27 (by decide) ?_
      exact w_retI hx hb hr hlocks hW hV (Option.some.inj hf) rfl dX5_next_31
set_option maxHeartbeats 8000000 in
set_option maxRecDepth 100000 in
theorem k_J0_coder_7d493 (l : Launch) (E : WE) (μ : Mem) (k0 : Nat) (h0 : k0 < 9) (r : Int32) (hf : f_J0_coder_7d493 μ k0 = some r) : Met l yJ0_coder_7d493 (.code yJ0_coder_7d493 cJ0_coder_7d493 1 (some .byte) :: BIG) ({ frames := 0, cells := 0, slots := 0, locals := 0 }) (PW E μ [.ref (adS E k0)]) (QN E .byte r μ) 0 0 (eA E) := by
  refine Met.ofW (cc := cJ0_coder_7d493) (maxL := 1) (ret := (some .byte)) (by decide) rfl ?_
  intro p e s m args below meth c s₁ B hml hv
  obtain ⟨rfl, hW, hZ⟩ := hv
  have hx := B.exec
  have hb := B.bytes
  have hr := B.returns
  have hB : ∀ w ∈ BIG, w.before _ s = true := fun w h => atoms_spec (ws := (.code yJ0_coder_7d493 cJ0_coder_7d493 1 (some .byte) :: BIG)) B.pre w (List.mem_cons_of_mem _ h)
  have hown : s.vm.findClass RJ0 = some m.cls := findClass_of_methodNamed B.named
  have hlocks := B.notSynchronized
  have hV : va_S (eA E) s.heap s.heap [] := va_S.rf
  have hl := lv_entry ([.ref (adS E k0)]) (n := 1) (Nat.le_of_ble_eq_true rfl)
  rw [lg_entry_eq]
  generalize (lg_sl ([.ref (adS E k0)]) ++ List.replicate (1 - (lg_sl ([.ref (adS E k0)])).length) Slot.unset).toArray = ls at hl ⊢
  have hl : lv_has ls 1 [(0, .ref (adS E k0))] := hl
  obtain ⟨H, hH⟩ : ∃ H : Heap, H = s.heap := ⟨_, rfl⟩
  obtain ⟨locs, hlocs⟩ : ∃ locs : List Loc, locs = [] := ⟨_, rfl⟩
  rw [show (W p l e (headSpec (.code yJ0_coder_7d493 cJ0_coder_7d493 1 (some .byte) :: BIG) ({ frames := 0, cells := 0, slots := 0, locals := 0 })).room s m ([.ref (adS E k0)] : List Value).toArray below meth c s.heap [] 0 0) = W p l e (headSpec (.code yJ0_coder_7d493 cJ0_coder_7d493 1 (some .byte) :: BIG) ({ frames := 0, cells := 0, slots := 0, locals := 0 })).room s m ([.ref (adS E k0)] : List Value).toArray below meth c H locs 0 0 by rw [hH, hlocs]]
  have hV : va_S (eA E) s.heap H locs := by rw [hH, hlocs]; exact hV
  have hW : Wd E μ s H := by rw [hH]; exact hW
  unfold f_J0_coder_7d493 at hf
  refine w_getsC hx hb hB hown hZ hV q_aa9e9e2e dJ0_coder_7d493_0 ?_
  refine lv_if_eq (tgt := 13) hx hb dJ0_coder_7d493_3 (by decide) (fun y2 => ?_) (fun y2 => ?_)
  · have hf := op_t y2 hf
    refine lv_iconst (v := (1 : Int32)) hx hb dJ0_coder_7d493_13 (by decide) ?_
    exact w_retN hx hb hr hlocks hW hV (by decide) (Option.some.inj hf) rfl dJ0_coder_7d493_14
  · have hf := op_f y2 hf
    refine lv_aload_n hx hb dJ0_coder_7d493_6 rfl (lv_at hl 0 rfl) ?_
    refine w_scod hx hb hB hown hZ hV h0 q_e5e4c2c3 dJ0_coder_7d493_7 ?_
    refine lv_goto (tgt := 14) hx hb dJ0_coder_7d493_10 (by decide) ?_
    exact w_retN hx hb hr hlocks hW hV (by decide) (Option.some.inj hf) rfl dJ0_coder_7d493_14
set_option maxHeartbeats 8000000 in
set_option maxRecDepth 100000 in
theorem k_J0_length_8abf5 (l : Launch) (E : WE) (μ : Mem) (k0 : Nat) (h0 : k0 < 9) (r : Int32) (hf : f_J0_length_8abf5 μ k0 = some r) : Met l yJ0_length_8abf5 (.code yJ0_length_8abf5 cJ0_length_8abf5 1 (some .int) :: BIG) ({ frames := 1, cells := 0, slots := 0, locals := 20 }) (PW E μ [.ref (adS E k0)]) (QI E r μ) 0 0 (eA E) := by
  refine Met.ofW (cc := cJ0_length_8abf5) (maxL := 1) (ret := (some .int)) (by decide) rfl ?_
  intro p e s m args below meth c s₁ B hml hv
  obtain ⟨rfl, hW, hZ⟩ := hv
  have hx := B.exec
  have hb := B.bytes
  have hr := B.returns
  have hB : ∀ w ∈ BIG, w.before _ s = true := fun w h => atoms_spec (ws := (.code yJ0_length_8abf5 cJ0_length_8abf5 1 (some .int) :: BIG)) B.pre w (List.mem_cons_of_mem _ h)
  have hown : s.vm.findClass RJ0 = some m.cls := findClass_of_methodNamed B.named
  have hlocks := B.notSynchronized
  have hV : va_S (eA E) s.heap s.heap [] := va_S.rf
  have hl := lv_entry ([.ref (adS E k0)]) (n := 1) (Nat.le_of_ble_eq_true rfl)
  rw [lg_entry_eq]
  generalize (lg_sl ([.ref (adS E k0)]) ++ List.replicate (1 - (lg_sl ([.ref (adS E k0)])).length) Slot.unset).toArray = ls at hl ⊢
  have hl : lv_has ls 1 [(0, .ref (adS E k0))] := hl
  obtain ⟨H, hH⟩ : ∃ H : Heap, H = s.heap := ⟨_, rfl⟩
  obtain ⟨locs, hlocs⟩ : ∃ locs : List Loc, locs = [] := ⟨_, rfl⟩
  rw [show (W p l e (headSpec (.code yJ0_length_8abf5 cJ0_length_8abf5 1 (some .int) :: BIG) ({ frames := 1, cells := 0, slots := 0, locals := 20 })).room s m ([.ref (adS E k0)] : List Value).toArray below meth c s.heap [] 0 0) = W p l e (headSpec (.code yJ0_length_8abf5 cJ0_length_8abf5 1 (some .int) :: BIG) ({ frames := 1, cells := 0, slots := 0, locals := 20 })).room s m ([.ref (adS E k0)] : List Value).toArray below meth c H locs 0 0 by rw [hH, hlocs]]
  have hV : va_S (eA E) s.heap H locs := by rw [hH, hlocs]; exact hV
  have hW : Wd E μ s H := by rw [hH]; exact hW
  unfold f_J0_length_8abf5 at hf
  refine lv_aload_n hx hb dJ0_length_8abf5_0 rfl (lv_at hl 0 rfl) ?_
  refine w_sval hx hb hB hown hZ hV h0 q_c1e2a654 dJ0_length_8abf5_1 ?_
  refine va_tlen hx hb (hZ.2.2.1.2.1 _ h0).2.2.2 hV rfl dJ0_length_8abf5_4 ?_
  refine lv_aload_n hx hb dJ0_length_8abf5_5 rfl (lv_at hl 0 rfl) ?_
  obtain ⟨v3, e_4, hf⟩ := op_none hf
  refine w_callN (rn_RJ0_335 (As := []) hx hb hml hown hB hW hZ hV (k_J0_coder_7d493 l E _ k0 h0 v3 e_4) rfl rfl ⟨(Nat.le_of_ble_eq_true rfl), (Nat.le_of_ble_eq_true rfl)⟩ (w_recS hZ hV h0) rfl hl.1 rfl (Nat.le_of_ble_eq_true rfl) dJ0_length_8abf5_6 ⟨Nat.le_refl _, Nat.le_refl _⟩) hV (fun H locs hn_v3 hW hV => ?_)
  refine lv_ishr hx hb dJ0_length_8abf5_9 ?_
  exact w_retI hx hb hr hlocks hW hV (Option.some.inj hf) rfl dJ0_length_8abf5_10
set_option maxHeartbeats 8000000 in
set_option maxRecDepth 100000 in
theorem k_J0_isLatin1_aae02 (l : Launch) (E : WE) (μ : Mem) (k0 : Nat) (h0 : k0 < 9) (r : Int32) (hf : f_J0_isLatin1_aae02 μ k0 = some r) : Met l yJ0_isLatin1_aae02 (.code yJ0_isLatin1_aae02 cJ0_isLatin1_aae02 1 (some .boolean) :: BIG) ({ frames := 0, cells := 0, slots := 0, locals := 0 }) (PW E μ [.ref (adS E k0)]) (QN E .boolean r μ) 0 0 (eA E) := by
  refine Met.ofW (cc := cJ0_isLatin1_aae02) (maxL := 1) (ret := (some .boolean)) (by decide) rfl ?_
  intro p e s m args below meth c s₁ B hml hv
  obtain ⟨rfl, hW, hZ⟩ := hv
  have hx := B.exec
  have hb := B.bytes
  have hr := B.returns
  have hB : ∀ w ∈ BIG, w.before _ s = true := fun w h => atoms_spec (ws := (.code yJ0_isLatin1_aae02 cJ0_isLatin1_aae02 1 (some .boolean) :: BIG)) B.pre w (List.mem_cons_of_mem _ h)
  have hown : s.vm.findClass RJ0 = some m.cls := findClass_of_methodNamed B.named
  have hlocks := B.notSynchronized
  have hV : va_S (eA E) s.heap s.heap [] := va_S.rf
  have hl := lv_entry ([.ref (adS E k0)]) (n := 1) (Nat.le_of_ble_eq_true rfl)
  rw [lg_entry_eq]
  generalize (lg_sl ([.ref (adS E k0)]) ++ List.replicate (1 - (lg_sl ([.ref (adS E k0)])).length) Slot.unset).toArray = ls at hl ⊢
  have hl : lv_has ls 1 [(0, .ref (adS E k0))] := hl
  obtain ⟨H, hH⟩ : ∃ H : Heap, H = s.heap := ⟨_, rfl⟩
  obtain ⟨locs, hlocs⟩ : ∃ locs : List Loc, locs = [] := ⟨_, rfl⟩
  rw [show (W p l e (headSpec (.code yJ0_isLatin1_aae02 cJ0_isLatin1_aae02 1 (some .boolean) :: BIG) ({ frames := 0, cells := 0, slots := 0, locals := 0 })).room s m ([.ref (adS E k0)] : List Value).toArray below meth c s.heap [] 0 0) = W p l e (headSpec (.code yJ0_isLatin1_aae02 cJ0_isLatin1_aae02 1 (some .boolean) :: BIG) ({ frames := 0, cells := 0, slots := 0, locals := 0 })).room s m ([.ref (adS E k0)] : List Value).toArray below meth c H locs 0 0 by rw [hH, hlocs]]
  have hV : va_S (eA E) s.heap H locs := by rw [hH, hlocs]; exact hV
  have hW : Wd E μ s H := by rw [hH]; exact hW
  unfold f_J0_isLatin1_aae02 at hf
  refine w_getsC hx hb hB hown hZ hV q_aa9e9e2e dJ0_isLatin1_aae02_0 ?_
  refine lv_if_eq (tgt := 17) hx hb dJ0_isLatin1_aae02_3 (by decide) (fun y3 => ?_) (fun y3 => ?_)
  · have hf := op_t y3 hf
    refine lv_iconst (v := (0 : Int32)) hx hb dJ0_isLatin1_aae02_17 (by decide) ?_
    exact w_retN hx hb hr hlocks hW hV (by decide) (Option.some.inj hf) rfl dJ0_isLatin1_aae02_18
  · have hf := op_f y3 hf
    refine lv_aload_n hx hb dJ0_isLatin1_aae02_6 rfl (lv_at hl 0 rfl) ?_
    refine w_scod hx hb hB hown hZ hV h0 q_e5e4c2c3 dJ0_isLatin1_aae02_7 ?_
    refine lv_if_ne (tgt := 17) hx hb dJ0_isLatin1_aae02_10 (by decide) (fun y4 => ?_) (fun y4 => ?_)
    · have hf := op_f y4 hf
      refine lv_iconst (v := (0 : Int32)) hx hb dJ0_isLatin1_aae02_17 (by decide) ?_
      exact w_retN hx hb hr hlocks hW hV (by decide) (Option.some.inj hf) rfl dJ0_isLatin1_aae02_18
    · have hf := op_t y4 hf
      refine lv_iconst (v := (1 : Int32)) hx hb dJ0_isLatin1_aae02_13 (by decide) ?_
      refine lv_goto (tgt := 18) hx hb dJ0_isLatin1_aae02_14 (by decide) ?_
      exact w_retN hx hb hr hlocks hW hV (by decide) (Option.some.inj hf) rfl dJ0_isLatin1_aae02_18
set_option maxHeartbeats 8000000 in
set_option maxRecDepth 100000 in
theorem k_J3_checkIndex_8e157 (l : Launch) (E : WE) (μ : Mem) (a0 : Int32) (a1 : Int32) (q2 : Option Nat) (r : Int32) (hf : f_J3_checkIndex_8e157 μ a0 a1 = some r) : Met l yJ3_checkIndex_8e157 (.code yJ3_checkIndex_8e157 cJ3_checkIndex_8e157 3 (some .int) :: BIG) ({ frames := 0, cells := 0, slots := 0, locals := 0 }) (PW E μ [.int a0, .int a1, va_rf q2]) (QI E r μ) 0 0 (eA E) := by
  refine Met.ofW (cc := cJ3_checkIndex_8e157) (maxL := 3) (ret := (some .int)) (by decide) rfl ?_
  intro p e s m args below meth c s₁ B hml hv
  obtain ⟨rfl, hW, hZ⟩ := hv
  have hx := B.exec
  have hb := B.bytes
  have hr := B.returns
  have hB : ∀ w ∈ BIG, w.before _ s = true := fun w h => atoms_spec (ws := (.code yJ3_checkIndex_8e157 cJ3_checkIndex_8e157 3 (some .int) :: BIG)) B.pre w (List.mem_cons_of_mem _ h)
  have hown : s.vm.findClass RJ3 = some m.cls := findClass_of_methodNamed B.named
  have hlocks := B.notSynchronized
  have hV : va_S (eA E) s.heap s.heap [] := va_S.rf
  have hl := lv_entry ([.int a0, .int a1, va_rf q2]) (n := 3) (by cases q2 <;> exact Nat.le_of_ble_eq_true rfl)
  rw [lg_entry_eq]
  generalize (lg_sl ([.int a0, .int a1, va_rf q2]) ++ List.replicate (3 - (lg_sl ([.int a0, .int a1, va_rf q2])).length) Slot.unset).toArray = ls at hl ⊢
  have hl : lv_has ls 3 [(0, .int a0), (1, .int a1), (2, va_rf q2)] := hl
  obtain ⟨H, hH⟩ : ∃ H : Heap, H = s.heap := ⟨_, rfl⟩
  obtain ⟨locs, hlocs⟩ : ∃ locs : List Loc, locs = [] := ⟨_, rfl⟩
  rw [show (W p l e (headSpec (.code yJ3_checkIndex_8e157 cJ3_checkIndex_8e157 3 (some .int) :: BIG) ({ frames := 0, cells := 0, slots := 0, locals := 0 })).room s m ([.int a0, .int a1, va_rf q2] : List Value).toArray below meth c s.heap [] 0 0) = W p l e (headSpec (.code yJ3_checkIndex_8e157 cJ3_checkIndex_8e157 3 (some .int) :: BIG) ({ frames := 0, cells := 0, slots := 0, locals := 0 })).room s m ([.int a0, .int a1, va_rf q2] : List Value).toArray below meth c H locs 0 0 by rw [hH, hlocs]]
  have hV : va_S (eA E) s.heap H locs := by rw [hH, hlocs]; exact hV
  have hW : Wd E μ s H := by rw [hH]; exact hW
  unfold f_J3_checkIndex_8e157 at hf
  refine lv_iload_n hx hb dJ3_checkIndex_8e157_0 rfl (lv_at hl 0 rfl) ?_
  refine lv_if_lt (tgt := 9) hx hb dJ3_checkIndex_8e157_1 (by decide) (fun y3 => ?_) (fun y3 => ?_)
  · have hf := op_t y3 hf
    cases hf
  · have hf := op_f y3 hf
    refine lv_iload_n hx hb dJ3_checkIndex_8e157_4 rfl (lv_at hl 0 rfl) ?_
    refine lv_iload_n hx hb dJ3_checkIndex_8e157_5 rfl (lv_at hl 1 rfl) ?_
    refine lv_icmp_lt (tgt := 16) hx hb dJ3_checkIndex_8e157_6 (by decide) (fun y4 => ?_) (fun y4 => ?_)
    · have hf := op_t y4 hf
      refine lv_iload_n hx hb dJ3_checkIndex_8e157_16 rfl (lv_at hl 0 rfl) ?_
      exact w_retI hx hb hr hlocks hW hV (Option.some.inj hf) rfl dJ3_checkIndex_8e157_17
    · have hf := op_f y4 hf
      cases hf
set_option maxHeartbeats 8000000 in
set_option maxRecDepth 100000 in
theorem k_J0_checkIndex_df160 (l : Launch) (E : WE) (μ : Mem) (a0 : Int32) (a1 : Int32) (hf : f_J0_checkIndex_df160 μ a0 a1 = some ()) : Met l yJ0_checkIndex_df160 (.code yJ0_checkIndex_df160 cJ0_checkIndex_df160 2 none :: BIG) ({ frames := 1, cells := 0, slots := 0, locals := 22 }) (PW E μ [.int a0, .int a1]) (QV E μ) 0 0 (eA E) := by
  refine Met.ofW (cc := cJ0_checkIndex_df160) (maxL := 2) (ret := none) (by decide) rfl ?_
  intro p e s m args below meth c s₁ B hml hv
  obtain ⟨rfl, hW, hZ⟩ := hv
  have hx := B.exec
  have hb := B.bytes
  have hr := B.returns
  have hB : ∀ w ∈ BIG, w.before _ s = true := fun w h => atoms_spec (ws := (.code yJ0_checkIndex_df160 cJ0_checkIndex_df160 2 none :: BIG)) B.pre w (List.mem_cons_of_mem _ h)
  have hown : s.vm.findClass RJ0 = some m.cls := findClass_of_methodNamed B.named
  have hlocks := B.notSynchronized
  have hV : va_S (eA E) s.heap s.heap [] := va_S.rf
  have hl := lv_entry ([.int a0, .int a1]) (n := 2) (Nat.le_of_ble_eq_true rfl)
  rw [lg_entry_eq]
  generalize (lg_sl ([.int a0, .int a1]) ++ List.replicate (2 - (lg_sl ([.int a0, .int a1])).length) Slot.unset).toArray = ls at hl ⊢
  have hl : lv_has ls 2 [(0, .int a0), (1, .int a1)] := hl
  obtain ⟨H, hH⟩ : ∃ H : Heap, H = s.heap := ⟨_, rfl⟩
  obtain ⟨locs, hlocs⟩ : ∃ locs : List Loc, locs = [] := ⟨_, rfl⟩
  rw [show (W p l e (headSpec (.code yJ0_checkIndex_df160 cJ0_checkIndex_df160 2 none :: BIG) ({ frames := 1, cells := 0, slots := 0, locals := 22 })).room s m ([.int a0, .int a1] : List Value).toArray below meth c s.heap [] 0 0) = W p l e (headSpec (.code yJ0_checkIndex_df160 cJ0_checkIndex_df160 2 none :: BIG) ({ frames := 1, cells := 0, slots := 0, locals := 22 })).room s m ([.int a0, .int a1] : List Value).toArray below meth c H locs 0 0 by rw [hH, hlocs]]
  have hV : va_S (eA E) s.heap H locs := by rw [hH, hlocs]; exact hV
  have hW : Wd E μ s H := by rw [hH]; exact hW
  unfold f_J0_checkIndex_df160 at hf
  refine lv_iload_n hx hb dJ0_checkIndex_df160_0 rfl (lv_at hl 0 rfl) ?_
  refine lv_iload_n hx hb dJ0_checkIndex_df160_1 rfl (lv_at hl 1 rfl) ?_
  refine w_getsQ hx hb hB hown hZ hV q_948fd561 dJ0_checkIndex_df160_2 (fun q4 => ?_)
  obtain ⟨v5, e_6, hf⟩ := op_none hf
  refine w_callI (rn_RJ0_1059 (As := [.int a0, .int a1, va_rf q4]) hx hb hml hown hB hW hZ hV (k_J3_checkIndex_8e157 l E _ a0 a1 q4 v5 e_6) rfl rfl ⟨(Nat.le_of_ble_eq_true rfl), (Nat.le_of_ble_eq_true rfl)⟩ rfl hl.1 rfl (Nat.le_of_ble_eq_true rfl) dJ0_checkIndex_df160_5 ⟨Nat.le_refl _, Nat.le_refl _⟩) hV (fun H locs hW hV => ?_)
  refine lv_pop hx hb dJ0_checkIndex_df160_8 rfl ?_
  exact w_retV hx hb hr hlocks hW hV rfl dJ0_checkIndex_df160_9
set_option maxHeartbeats 8000000 in
set_option maxRecDepth 100000 in
theorem k_J1_charAt_3b067 (l : Launch) (E : WE) (μ : Mem) (k0 : Nat) (a1 : Int32) (h0 : k0 < 9) (r : Int32) (hf : f_J1_charAt_3b067 μ k0 a1 = some r) : Met l yJ1_charAt_3b067 (.code yJ1_charAt_3b067 cJ1_charAt_3b067 2 (some .char) :: BIG) ({ frames := 2, cells := 0, slots := 0, locals := 43 }) (PW E μ [.ref (adB E k0), .int a1]) (QN E .char r μ) 0 0 (eA E) := by
  refine Met.ofW (cc := cJ1_charAt_3b067) (maxL := 2) (ret := (some .char)) (by decide) rfl ?_
  intro p e s m args below meth c s₁ B hml hv
  obtain ⟨rfl, hW, hZ⟩ := hv
  have hx := B.exec
  have hb := B.bytes
  have hr := B.returns
  have hB : ∀ w ∈ BIG, w.before _ s = true := fun w h => atoms_spec (ws := (.code yJ1_charAt_3b067 cJ1_charAt_3b067 2 (some .char) :: BIG)) B.pre w (List.mem_cons_of_mem _ h)
  have hown : s.vm.findClass RJ1 = some m.cls := findClass_of_methodNamed B.named
  have hlocks := B.notSynchronized
  have hV : va_S (eA E) s.heap s.heap [] := va_S.rf
  have hl := lv_entry ([.ref (adB E k0), .int a1]) (n := 2) (Nat.le_of_ble_eq_true rfl)
  rw [lg_entry_eq]
  generalize (lg_sl ([.ref (adB E k0), .int a1]) ++ List.replicate (2 - (lg_sl ([.ref (adB E k0), .int a1])).length) Slot.unset).toArray = ls at hl ⊢
  have hl : lv_has ls 2 [(0, .ref (adB E k0)), (1, .int a1)] := hl
  obtain ⟨H, hH⟩ : ∃ H : Heap, H = s.heap := ⟨_, rfl⟩
  obtain ⟨locs, hlocs⟩ : ∃ locs : List Loc, locs = [] := ⟨_, rfl⟩
  rw [show (W p l e (headSpec (.code yJ1_charAt_3b067 cJ1_charAt_3b067 2 (some .char) :: BIG) ({ frames := 2, cells := 0, slots := 0, locals := 43 })).room s m ([.ref (adB E k0), .int a1] : List Value).toArray below meth c s.heap [] 0 0) = W p l e (headSpec (.code yJ1_charAt_3b067 cJ1_charAt_3b067 2 (some .char) :: BIG) ({ frames := 2, cells := 0, slots := 0, locals := 43 })).room s m ([.ref (adB E k0), .int a1] : List Value).toArray below meth c H locs 0 0 by rw [hH, hlocs]]
  have hV : va_S (eA E) s.heap H locs := by rw [hH, hlocs]; exact hV
  have hW : Wd E μ s H := by rw [hH]; exact hW
  unfold f_J1_charAt_3b067 at hf
  refine lv_iload_n hx hb dJ1_charAt_3b067_0 rfl (lv_at hl 1 rfl) ?_
  refine lv_aload_n hx hb dJ1_charAt_3b067_1 rfl (lv_at hl 0 rfl) ?_
  refine va_tlen hx hb (hZ.2.2.1.2.1 _ h0).2.2.2 hV rfl dJ1_charAt_3b067_2 ?_
  obtain ⟨u_e_3, e_3, hf⟩ := op_none hf
  refine w_callV (rn_RJ1_9 (As := [.int a1, .int (Int32.ofNat (lenS.getD k0 0))]) hx hb hml hown hB hW hZ hV (k_J0_checkIndex_df160 l E _ a1 (Int32.ofNat (lenS.getD k0 0)) e_3) rfl rfl ⟨(Nat.le_of_ble_eq_true rfl), (Nat.le_of_ble_eq_true rfl)⟩ rfl hl.1 rfl (Nat.le_of_ble_eq_true rfl) dJ1_charAt_3b067_3 ⟨Nat.le_refl _, Nat.le_refl _⟩) hV (fun H locs hW hV => ?_)
  refine lv_aload_n hx hb dJ1_charAt_3b067_6 rfl (lv_at hl 0 rfl) ?_
  refine lv_iload_n hx hb dJ1_charAt_3b067_7 rfl (lv_at hl 1 rfl) ?_
  obtain ⟨v4, e_v4, hf⟩ := op_none hf
  refine w_sbald hx hb hZ hV h0 e_v4 dJ1_charAt_3b067_8 ?_
  refine lv_sipush (v := (255 : Int32)) hx hb dJ1_charAt_3b067_9 (by decide) ?_
  refine lv_iand hx hb dJ1_charAt_3b067_12 ?_
  refine lv_i2c hx hb dJ1_charAt_3b067_13 rfl ?_
  exact w_retN hx hb hr hlocks hW hV (pk_nc (v4 &&& (255 : Int32))) (Option.some.inj hf) rfl dJ1_charAt_3b067_14
set_option maxHeartbeats 8000000 in
set_option maxRecDepth 100000 in
theorem k_J0_charAt_5068e (l : Launch) (E : WE) (μ : Mem) (k0 : Nat) (a1 : Int32) (h0 : k0 < 9) (r : Int32) (hf : f_J0_charAt_5068e μ k0 a1 = some r) : Met l yJ0_charAt_5068e (.code yJ0_charAt_5068e cJ0_charAt_5068e 2 (some .char) :: BIG) ({ frames := 3, cells := 0, slots := 0, locals := 64 }) (PW E μ [.ref (adS E k0), .int a1]) (QN E .char r μ) 0 0 (eA E) := by
  refine Met.ofW (cc := cJ0_charAt_5068e) (maxL := 2) (ret := (some .char)) (by decide) rfl ?_
  intro p e s m args below meth c s₁ B hml hv
  obtain ⟨rfl, hW, hZ⟩ := hv
  have hx := B.exec
  have hb := B.bytes
  have hr := B.returns
  have hB : ∀ w ∈ BIG, w.before _ s = true := fun w h => atoms_spec (ws := (.code yJ0_charAt_5068e cJ0_charAt_5068e 2 (some .char) :: BIG)) B.pre w (List.mem_cons_of_mem _ h)
  have hown : s.vm.findClass RJ0 = some m.cls := findClass_of_methodNamed B.named
  have hlocks := B.notSynchronized
  have hV : va_S (eA E) s.heap s.heap [] := va_S.rf
  have hl := lv_entry ([.ref (adS E k0), .int a1]) (n := 2) (Nat.le_of_ble_eq_true rfl)
  rw [lg_entry_eq]
  generalize (lg_sl ([.ref (adS E k0), .int a1]) ++ List.replicate (2 - (lg_sl ([.ref (adS E k0), .int a1])).length) Slot.unset).toArray = ls at hl ⊢
  have hl : lv_has ls 2 [(0, .ref (adS E k0)), (1, .int a1)] := hl
  obtain ⟨H, hH⟩ : ∃ H : Heap, H = s.heap := ⟨_, rfl⟩
  obtain ⟨locs, hlocs⟩ : ∃ locs : List Loc, locs = [] := ⟨_, rfl⟩
  rw [show (W p l e (headSpec (.code yJ0_charAt_5068e cJ0_charAt_5068e 2 (some .char) :: BIG) ({ frames := 3, cells := 0, slots := 0, locals := 64 })).room s m ([.ref (adS E k0), .int a1] : List Value).toArray below meth c s.heap [] 0 0) = W p l e (headSpec (.code yJ0_charAt_5068e cJ0_charAt_5068e 2 (some .char) :: BIG) ({ frames := 3, cells := 0, slots := 0, locals := 64 })).room s m ([.ref (adS E k0), .int a1] : List Value).toArray below meth c H locs 0 0 by rw [hH, hlocs]]
  have hV : va_S (eA E) s.heap H locs := by rw [hH, hlocs]; exact hV
  have hW : Wd E μ s H := by rw [hH]; exact hW
  unfold f_J0_charAt_5068e at hf
  refine lv_aload_n hx hb dJ0_charAt_5068e_0 rfl (lv_at hl 0 rfl) ?_
  obtain ⟨v6, e_7, hf⟩ := op_none hf
  refine w_callN (rn_RJ0_492 (As := []) hx hb hml hown hB hW hZ hV (k_J0_isLatin1_aae02 l E _ k0 h0 v6 e_7) rfl rfl ⟨(Nat.le_of_ble_eq_true rfl), (Nat.le_of_ble_eq_true rfl)⟩ (w_recS hZ hV h0) rfl hl.1 rfl (Nat.le_of_ble_eq_true rfl) dJ0_charAt_5068e_1 ⟨Nat.le_refl _, Nat.le_refl _⟩) hV (fun H locs hn_v6 hW hV => ?_)
  refine lv_if_eq (tgt := 16) hx hb dJ0_charAt_5068e_4 (by decide) (fun y8 => ?_) (fun y8 => ?_)
  · have hf := op_t y8 hf
    cases hf
  · have hf := op_f y8 hf
    refine lv_aload_n hx hb dJ0_charAt_5068e_7 rfl (lv_at hl 0 rfl) ?_
    refine w_sval hx hb hB hown hZ hV h0 q_c1e2a654 dJ0_charAt_5068e_8 ?_
    refine lv_iload_n hx hb dJ0_charAt_5068e_11 rfl (lv_at hl 1 rfl) ?_
    obtain ⟨v9, e_10, hf⟩ := op_none hf
    refine w_callN (rn_RJ0_495 (As := [.ref (adB E k0), .int a1]) hx hb hml hown hB hW hZ hV (k_J1_charAt_3b067 l E _ k0 a1 h0 v9 e_10) rfl rfl ⟨(Nat.le_of_ble_eq_true rfl), (Nat.le_of_ble_eq_true rfl)⟩ rfl hl.1 rfl (Nat.le_of_ble_eq_true rfl) dJ0_charAt_5068e_12 ⟨Nat.le_refl _, Nat.le_refl _⟩) hV (fun H locs hn_v9 hW hV => ?_)
    exact w_retN hx hb hr hlocks hW hV hn_v9 (Option.some.inj hf) rfl dJ0_charAt_5068e_15
set_option maxHeartbeats 8000000 in
set_option maxRecDepth 100000 in
theorem k_X5_takeSign (l : Launch) (E : WE) (μ : Mem) (a1 : Int32) (r : Int32) (μ' : Mem) (hf : f_X5_takeSign μ a1 = some (r, μ')) : Met l yX5_takeSign (.code yX5_takeSign cX5_takeSign 2 (some .boolean) :: BIG) ({ frames := 1, cells := 0, slots := 0, locals := 20 }) (PW E μ [.ref (ead E 2), .int a1]) (QN E .boolean r μ') 0 0 (eA E) := by
  refine Met.ofW (cc := cX5_takeSign) (maxL := 2) (ret := (some .boolean)) (by decide) rfl ?_
  intro p e s m args below meth c s₁ B hml hv
  obtain ⟨rfl, hW, hZ⟩ := hv
  have hx := B.exec
  have hb := B.bytes
  have hr := B.returns
  have hB : ∀ w ∈ BIG, w.before _ s = true := fun w h => atoms_spec (ws := (.code yX5_takeSign cX5_takeSign 2 (some .boolean) :: BIG)) B.pre w (List.mem_cons_of_mem _ h)
  have hown : s.vm.findClass RX5 = some m.cls := findClass_of_methodNamed B.named
  have hlocks := B.notSynchronized
  have hV : va_S (eA E) s.heap s.heap [] := va_S.rf
  have hl := lv_entry ([.ref (ead E 2), .int a1]) (n := 2) (Nat.le_of_ble_eq_true rfl)
  rw [lg_entry_eq]
  generalize (lg_sl ([.ref (ead E 2), .int a1]) ++ List.replicate (2 - (lg_sl ([.ref (ead E 2), .int a1])).length) Slot.unset).toArray = ls at hl ⊢
  have hl : lv_has ls 2 [(0, .ref (ead E 2)), (1, .int a1)] := hl
  obtain ⟨H, hH⟩ : ∃ H : Heap, H = s.heap := ⟨_, rfl⟩
  obtain ⟨locs, hlocs⟩ : ∃ locs : List Loc, locs = [] := ⟨_, rfl⟩
  rw [show (W p l e (headSpec (.code yX5_takeSign cX5_takeSign 2 (some .boolean) :: BIG) ({ frames := 1, cells := 0, slots := 0, locals := 20 })).room s m ([.ref (ead E 2), .int a1] : List Value).toArray below meth c s.heap [] 0 0) = W p l e (headSpec (.code yX5_takeSign cX5_takeSign 2 (some .boolean) :: BIG) ({ frames := 1, cells := 0, slots := 0, locals := 20 })).room s m ([.ref (ead E 2), .int a1] : List Value).toArray below meth c H locs 0 0 by rw [hH, hlocs]]
  have hV : va_S (eA E) s.heap H locs := by rw [hH, hlocs]; exact hV
  have hW : Wd E μ s H := by rw [hH]; exact hW
  unfold f_X5_takeSign at hf
  refine lv_aload_n hx hb dX5_takeSign_0 rfl (lv_at hl 0 rfl) ?_
  obtain ⟨v5, e_6, hf⟩ := op_none hf
  refine w_callI (rn_RX5_22 (As := []) hx hb hml hown hB hW hZ hV (k_X5_next l E _ v5 e_6) rfl rfl ⟨(Nat.le_of_ble_eq_true rfl), (Nat.le_of_ble_eq_true rfl)⟩ (w_rec hW oTx.1 (oTx.2 E _ _) rfl) rfl hl.1 rfl (Nat.le_of_ble_eq_true rfl) dX5_takeSign_1 ⟨Nat.le_refl _, Nat.le_refl _⟩) hV (fun H locs hW hV => ?_)
  refine lv_iload_n hx hb dX5_takeSign_4 rfl (lv_at hl 1 rfl) ?_
  refine lv_icmp_eq (tgt := 10) hx hb dX5_takeSign_5 (by decide) (fun y7 => ?_) (fun y7 => ?_)
  · have hf := op_t y7 hf
    refine lv_aload_n hx hb dX5_takeSign_10 rfl (lv_at hl 0 rfl) ?_
    refine lv_dup hx hb dX5_takeSign_11 rfl ?_
    refine gf_RX5_19 hx hb hB hown hW dX5_takeSign_12 ?_
    refine lv_iconst (v := (1 : Int32)) hx hb dX5_takeSign_15 (by decide) ?_
    refine lv_iadd hx hb dX5_takeSign_16 ?_
    obtain ⟨μ8, e_μ8, hf⟩ := op_none hf
    refine pf_RX5_19 hx hb hB hown hW hV dX5_takeSign_17 (fun H locs hW hV => ?_)
    rw [Option.some.inj e_μ8] at hW
    refine lv_iconst (v := (1 : Int32)) hx hb dX5_takeSign_20 (by decide) ?_
    exact w_retN hx hb hr hlocks hW hV (by decide) (Prod.mk.inj (Option.some.inj hf)).1 (Prod.mk.inj (Option.some.inj hf)).2 dX5_takeSign_21
  · have hf := op_f y7 hf
    refine lv_iconst (v := (0 : Int32)) hx hb dX5_takeSign_8 (by decide) ?_
    exact w_retN hx hb hr hlocks hW hV (by decide) (Prod.mk.inj (Option.some.inj hf)).1 (Prod.mk.inj (Option.some.inj hf)).2 dX5_takeSign_9
set_option maxHeartbeats 8000000 in
set_option maxRecDepth 100000 in
theorem k_X5_takeWord (l : Launch) (E : WE) (μ : Mem) (k1 : Nat) (h1 : k1 < 9) (r : Int32) (μ' : Mem) (hf : f_X5_takeWord μ k1 = some (r, μ')) : Met l yX5_takeWord (.code yX5_takeWord cX5_takeWord 3 (some .boolean) :: BIG) ({ frames := 4, cells := 0, slots := 0, locals := 85 }) (PW E μ [.ref (ead E 2), .ref (adS E k1)]) (QN E .boolean r μ') 0 0 (eA E) := by
  refine Met.ofW (cc := cX5_takeWord) (maxL := 3) (ret := (some .boolean)) (by decide) rfl ?_
  intro p e s m args below meth c s₁ B hml hv
  obtain ⟨rfl, hW, hZ⟩ := hv
  have hx := B.exec
  have hb := B.bytes
  have hr := B.returns
  have hB : ∀ w ∈ BIG, w.before _ s = true := fun w h => atoms_spec (ws := (.code yX5_takeWord cX5_takeWord 3 (some .boolean) :: BIG)) B.pre w (List.mem_cons_of_mem _ h)
  have hown : s.vm.findClass RX5 = some m.cls := findClass_of_methodNamed B.named
  have hlocks := B.notSynchronized
  have hV : va_S (eA E) s.heap s.heap [] := va_S.rf
  have hl := lv_entry ([.ref (ead E 2), .ref (adS E k1)]) (n := 3) (Nat.le_of_ble_eq_true rfl)
  rw [lg_entry_eq]
  generalize (lg_sl ([.ref (ead E 2), .ref (adS E k1)]) ++ List.replicate (3 - (lg_sl ([.ref (ead E 2), .ref (adS E k1)])).length) Slot.unset).toArray = ls at hl ⊢
  have hl : lv_has ls 3 [(0, .ref (ead E 2)), (1, .ref (adS E k1))] := hl
  have c_2 : ∀ (n_2 : Nat) (μ_2 : Mem) (b2_2 : Int32) , f_X5_takeWord_2 k1 n_2 μ_2 b2_2 = some (r, μ') → ∀ (H : Heap) (locs : List Loc) (ls : Array Slot), Wd E μ_2 s H → va_S (eA E) s.heap H locs → lv_has ls 3 [(0, .ref (ead E 2)), (1, .ref (adS E k1)), (2, .int b2_2)] → W p l e (headSpec (.code yX5_takeWord cX5_takeWord 3 (some .boolean) :: BIG) ({ frames := 4, cells := 0, slots := 0, locals := 85 })).room s m ([.ref (ead E 2), .ref (adS E k1)] : List Value).toArray below meth c H locs 0 0 (MQ below (QN E .boolean r μ') ([.ref (ead E 2), .ref (adS E k1)] : List Value).toArray s 0 0 (eA E)) (F0 m 2 ls []) := by
    intro n_2
    induction n_2 with
    | zero =>
      intro μ_2 b2_2 hf H locs ls hW hV hl
      cases hf
    | succ n_2 ih_2 =>
      intro μ_2 b2_2 hf H locs ls hW hV hl
      rw [f_X5_takeWord_2] at hf
      refine lv_iload_n hx hb dX5_takeWord_2 rfl (lv_at hl 2 rfl) ?_
      refine lv_aload_n hx hb dX5_takeWord_3 rfl (lv_at hl 1 rfl) ?_
      obtain ⟨v12, e_13, hf⟩ := op_none hf
      refine w_callI (rn_RX5_26 (As := []) hx hb hml hown hB hW hZ hV (k_J0_length_8abf5 l E _ k1 h1 v12 e_13) rfl rfl ⟨(Nat.le_of_ble_eq_true rfl), (Nat.le_of_ble_eq_true rfl)⟩ (w_recS hZ hV h1) rfl hl.1 rfl (Nat.le_of_ble_eq_true rfl) dX5_takeWord_4 ⟨Nat.le_refl _, Nat.le_refl _⟩) hV (fun H locs hW hV => ?_)
      refine lv_icmp_ge (tgt := 30) hx hb dX5_takeWord_7 (by decide) (fun y14 => ?_) (fun y14 => ?_)
      · have hf := op_t y14 hf
        refine lv_iconst (v := (1 : Int32)) hx hb dX5_takeWord_30 (by decide) ?_
        exact w_retN hx hb hr hlocks hW hV (by decide) (Prod.mk.inj (Option.some.inj hf)).1 (Prod.mk.inj (Option.some.inj hf)).2 dX5_takeWord_31
      · have hf := op_f y14 hf
        refine lv_aload_n hx hb dX5_takeWord_10 rfl (lv_at hl 0 rfl) ?_
        refine lv_aload_n hx hb dX5_takeWord_11 rfl (lv_at hl 1 rfl) ?_
        refine lv_iload_n hx hb dX5_takeWord_12 rfl (lv_at hl 2 rfl) ?_
        obtain ⟨v15, e_16, hf⟩ := op_none hf
        refine w_callN (rn_RX5_30 (As := [.int b2_2]) hx hb hml hown hB hW hZ hV (k_J0_charAt_5068e l E _ k1 b2_2 h1 v15 e_16) rfl rfl ⟨(Nat.le_of_ble_eq_true rfl), (Nat.le_of_ble_eq_true rfl)⟩ (w_recS hZ hV h1) rfl hl.1 rfl (Nat.le_of_ble_eq_true rfl) dX5_takeWord_13 ⟨Nat.le_refl _, Nat.le_refl _⟩) hV (fun H locs hn_v15 hW hV => ?_)
        obtain ⟨p20, e_19, hf⟩ := op_none hf
        refine w_callN (rn_RX5_34 (As := [.int v15]) hx hb hml hown hB hW hZ hV (k_X5_takeSign l E _ v15 p20.1 p20.2 e_19) rfl rfl ⟨(Nat.le_of_ble_eq_true rfl), (Nat.le_of_ble_eq_true rfl)⟩ (w_rec hW oTx.1 (oTx.2 E _ _) rfl) rfl hl.1 rfl (Nat.le_of_ble_eq_true rfl) dX5_takeWord_16 ⟨Nat.le_refl _, Nat.le_refl _⟩) hV (fun H locs hn_p20_1 hW hV => ?_)
        refine lv_if_ne (tgt := 24) hx hb dX5_takeWord_19 (by decide) (fun y21 => ?_) (fun y21 => ?_)
        · have hf := op_f y21 hf
          obtain ⟨v22, e_v22, hf⟩ := op_none hf
          refine lv_iinc (v := v22) (lv' := [(2, .int v22), (0, .ref (ead E 2)), (1, .ref (adS E k1))]) hx hb dX5_takeWord_24 hl (k := 2) rfl (by rw [← Option.some.inj e_v22]; rfl) (by decide) rfl (fun ls hl => ?_)
          refine lv_goto (tgt := 2) hx hb dX5_takeWord_27 (by decide) ?_
          exact ih_2 p20.2 v22 hf H locs ls hW hV (lv_sub hl [1, 2, 0] rfl)
        · have hf := op_t y21 hf
          refine lv_iconst (v := (0 : Int32)) hx hb dX5_takeWord_22 (by decide) ?_
          exact w_retN hx hb hr hlocks hW hV (by decide) (Prod.mk.inj (Option.some.inj hf)).1 (Prod.mk.inj (Option.some.inj hf)).2 dX5_takeWord_23
  obtain ⟨H, hH⟩ : ∃ H : Heap, H = s.heap := ⟨_, rfl⟩
  obtain ⟨locs, hlocs⟩ : ∃ locs : List Loc, locs = [] := ⟨_, rfl⟩
  rw [show (W p l e (headSpec (.code yX5_takeWord cX5_takeWord 3 (some .boolean) :: BIG) ({ frames := 4, cells := 0, slots := 0, locals := 85 })).room s m ([.ref (ead E 2), .ref (adS E k1)] : List Value).toArray below meth c s.heap [] 0 0) = W p l e (headSpec (.code yX5_takeWord cX5_takeWord 3 (some .boolean) :: BIG) ({ frames := 4, cells := 0, slots := 0, locals := 85 })).room s m ([.ref (ead E 2), .ref (adS E k1)] : List Value).toArray below meth c H locs 0 0 by rw [hH, hlocs]]
  have hV : va_S (eA E) s.heap H locs := by rw [hH, hlocs]; exact hV
  have hW : Wd E μ s H := by rw [hH]; exact hW
  unfold f_X5_takeWord at hf
  refine lv_iconst (v := (0 : Int32)) hx hb dX5_takeWord_0 (by decide) ?_
  refine lv_istore_n (i := 2) (lv' := [(2, .int (0 : Int32)), (0, .ref (ead E 2)), (1, .ref (adS E k1))]) hx hb dX5_takeWord_1 rfl hl (by decide) rfl (fun ls hl => ?_)
  exact c_2 FU μ (0 : Int32) hf H locs ls hW hV (lv_sub hl [1, 2, 0] rfl)
set_option maxHeartbeats 8000000 in
set_option maxRecDepth 100000 in
theorem k_J1_canEncode_9a6ad (l : Launch) (E : WE) (μ : Mem) (a0 : Int32) (r : Int32) (hf : f_J1_canEncode_9a6ad μ a0 = some r) : Met l yJ1_canEncode_9a6ad (.code yJ1_canEncode_9a6ad cJ1_canEncode_9a6ad 1 (some .boolean) :: BIG) ({ frames := 0, cells := 0, slots := 0, locals := 0 }) (PW E μ [.int a0]) (QN E .boolean r μ) 0 0 (eA E) := by
  refine Met.ofW (cc := cJ1_canEncode_9a6ad) (maxL := 1) (ret := (some .boolean)) (by decide) rfl ?_
  intro p e s m args below meth c s₁ B hml hv
  obtain ⟨rfl, hW, hZ⟩ := hv
  have hx := B.exec
  have hb := B.bytes
  have hr := B.returns
  have hB : ∀ w ∈ BIG, w.before _ s = true := fun w h => atoms_spec (ws := (.code yJ1_canEncode_9a6ad cJ1_canEncode_9a6ad 1 (some .boolean) :: BIG)) B.pre w (List.mem_cons_of_mem _ h)
  have hown : s.vm.findClass RJ1 = some m.cls := findClass_of_methodNamed B.named
  have hlocks := B.notSynchronized
  have hV : va_S (eA E) s.heap s.heap [] := va_S.rf
  have hl := lv_entry ([.int a0]) (n := 1) (Nat.le_of_ble_eq_true rfl)
  rw [lg_entry_eq]
  generalize (lg_sl ([.int a0]) ++ List.replicate (1 - (lg_sl ([.int a0])).length) Slot.unset).toArray = ls at hl ⊢
  have hl : lv_has ls 1 [(0, .int a0)] := hl
  obtain ⟨H, hH⟩ : ∃ H : Heap, H = s.heap := ⟨_, rfl⟩
  obtain ⟨locs, hlocs⟩ : ∃ locs : List Loc, locs = [] := ⟨_, rfl⟩
  rw [show (W p l e (headSpec (.code yJ1_canEncode_9a6ad cJ1_canEncode_9a6ad 1 (some .boolean) :: BIG) ({ frames := 0, cells := 0, slots := 0, locals := 0 })).room s m ([.int a0] : List Value).toArray below meth c s.heap [] 0 0) = W p l e (headSpec (.code yJ1_canEncode_9a6ad cJ1_canEncode_9a6ad 1 (some .boolean) :: BIG) ({ frames := 0, cells := 0, slots := 0, locals := 0 })).room s m ([.int a0] : List Value).toArray below meth c H locs 0 0 by rw [hH, hlocs]]
  have hV : va_S (eA E) s.heap H locs := by rw [hH, hlocs]; exact hV
  have hW : Wd E μ s H := by rw [hH]; exact hW
  unfold f_J1_canEncode_9a6ad at hf
  refine lv_iload_n hx hb dJ1_canEncode_9a6ad_0 rfl (lv_at hl 0 rfl) ?_
  refine lv_if_lt (tgt := 15) hx hb dJ1_canEncode_9a6ad_1 (by decide) (fun y3 => ?_) (fun y3 => ?_)
  · have hf := op_t y3 hf
    refine lv_iconst (v := (0 : Int32)) hx hb dJ1_canEncode_9a6ad_15 (by decide) ?_
    exact w_retN hx hb hr hlocks hW hV (by decide) (Option.some.inj hf) rfl dJ1_canEncode_9a6ad_16
  · have hf := op_f y3 hf
    refine lv_iload_n hx hb dJ1_canEncode_9a6ad_4 rfl (lv_at hl 0 rfl) ?_
    refine lv_sipush (v := (255 : Int32)) hx hb dJ1_canEncode_9a6ad_5 (by decide) ?_
    refine lv_icmp_gt (tgt := 15) hx hb dJ1_canEncode_9a6ad_8 (by decide) (fun y4 => ?_) (fun y4 => ?_)
    · have hf := op_t y4 hf
      refine lv_iconst (v := (0 : Int32)) hx hb dJ1_canEncode_9a6ad_15 (by decide) ?_
      exact w_retN hx hb hr hlocks hW hV (by decide) (Option.some.inj hf) rfl dJ1_canEncode_9a6ad_16
    · have hf := op_f y4 hf
      refine lv_iconst (v := (1 : Int32)) hx hb dJ1_canEncode_9a6ad_11 (by decide) ?_
      refine lv_goto (tgt := 16) hx hb dJ1_canEncode_9a6ad_12 (by decide) ?_
      exact w_retN hx hb hr hlocks hW hV (by decide) (Option.some.inj hf) rfl dJ1_canEncode_9a6ad_16
set_option maxHeartbeats 8000000 in
set_option maxRecDepth 100000 in
theorem k_J1_indexOfChar_4cfef (l : Launch) (E : WE) (μ : Mem) (k0 : Nat) (a1 : Int32) (a2 : Int32) (a3 : Int32) (h0 : k0 < 9) (r : Int32) (hf : f_J1_indexOfChar_4cfef μ k0 a1 a2 a3 = some r) : Met l yJ1_indexOfChar_4cfef (.code yJ1_indexOfChar_4cfef cJ1_indexOfChar_4cfef 6 (some .int) :: BIG) ({ frames := 0, cells := 0, slots := 0, locals := 0 }) (PW E μ [.ref (adB E k0), .int a1, .int a2, .int a3]) (QI E r μ) 0 0 (eA E) := by
  refine Met.ofW (cc := cJ1_indexOfChar_4cfef) (maxL := 6) (ret := (some .int)) (by decide) rfl ?_
  intro p e s m args below meth c s₁ B hml hv
  obtain ⟨rfl, hW, hZ⟩ := hv
  have hx := B.exec
  have hb := B.bytes
  have hr := B.returns
  have hB : ∀ w ∈ BIG, w.before _ s = true := fun w h => atoms_spec (ws := (.code yJ1_indexOfChar_4cfef cJ1_indexOfChar_4cfef 6 (some .int) :: BIG)) B.pre w (List.mem_cons_of_mem _ h)
  have hown : s.vm.findClass RJ1 = some m.cls := findClass_of_methodNamed B.named
  have hlocks := B.notSynchronized
  have hV : va_S (eA E) s.heap s.heap [] := va_S.rf
  have hl := lv_entry ([.ref (adB E k0), .int a1, .int a2, .int a3]) (n := 6) (Nat.le_of_ble_eq_true rfl)
  rw [lg_entry_eq]
  generalize (lg_sl ([.ref (adB E k0), .int a1, .int a2, .int a3]) ++ List.replicate (6 - (lg_sl ([.ref (adB E k0), .int a1, .int a2, .int a3])).length) Slot.unset).toArray = ls at hl ⊢
  have hl : lv_has ls 6 [(0, .ref (adB E k0)), (1, .int a1), (2, .int a2), (3, .int a3)] := hl
  have c_7 : ∀ (n_7 : Nat) (b3_7 : Int32) (b4_7 : Int32) (b5_7 : Int32) , f_J1_indexOfChar_4cfef_7 μ k0 n_7 b3_7 b4_7 b5_7 = some r → ∀ (H : Heap) (locs : List Loc) (ls : Array Slot), Wd E μ s H → va_S (eA E) s.heap H locs → lv_has ls 6 [(0, .ref (adB E k0)), (3, .int b3_7), (4, .int b4_7), (5, .int b5_7)] → W p l e (headSpec (.code yJ1_indexOfChar_4cfef cJ1_indexOfChar_4cfef 6 (some .int) :: BIG) ({ frames := 0, cells := 0, slots := 0, locals := 0 })).room s m ([.ref (adB E k0), .int a1, .int a2, .int a3] : List Value).toArray below meth c H locs 0 0 (MQ below (QI E r μ) ([.ref (adB E k0), .int a1, .int a2, .int a3] : List Value).toArray s 0 0 (eA E)) (F0 m 7 ls []) := by
    intro n_7
    induction n_7 with
    | zero =>
      intro b3_7 b4_7 b5_7 hf H locs ls hW hV hl
      cases hf
    | succ n_7 ih_7 =>
      intro b3_7 b4_7 b5_7 hf H locs ls hW hV hl
      rw [f_J1_indexOfChar_4cfef_7] at hf
      refine lv_iload hx hb dJ1_indexOfChar_4cfef_7 (lv_at hl 3 rfl) ?_
      refine lv_iload_n hx hb dJ1_indexOfChar_4cfef_9 rfl (lv_at hl 1 rfl) ?_
      refine lv_icmp_ge (tgt := 31) hx hb dJ1_indexOfChar_4cfef_10 (by decide) (fun y6 => ?_) (fun y6 => ?_)
      · have hf := op_t y6 hf
        refine lv_iconst (v := (-1 : Int32)) hx hb dJ1_indexOfChar_4cfef_31 (by decide) ?_
        exact w_retI hx hb hr hlocks hW hV (Option.some.inj hf) rfl dJ1_indexOfChar_4cfef_32
      · have hf := op_f y6 hf
        refine lv_aload_n hx hb dJ1_indexOfChar_4cfef_13 rfl (lv_at hl 0 rfl) ?_
        refine lv_iload hx hb dJ1_indexOfChar_4cfef_14 (lv_at hl 3 rfl) ?_
        obtain ⟨v7, e_v7, hf⟩ := op_none hf
        refine w_sbald hx hb hZ hV h0 e_v7 dJ1_indexOfChar_4cfef_16 ?_
        refine lv_iload hx hb dJ1_indexOfChar_4cfef_17 (lv_at hl 2 rfl) ?_
        refine lv_icmp_ne (tgt := 25) hx hb dJ1_indexOfChar_4cfef_19 (by decide) (fun y8 => ?_) (fun y8 => ?_)
        · have hf := op_f y8 hf
          obtain ⟨v9, e_v9, hf⟩ := op_none hf
          refine lv_iinc (v := v9) (lv' := [(5, .int v9), (0, .ref (adB E k0)), (3, .int b3_7), (4, .int b4_7)]) hx hb dJ1_indexOfChar_4cfef_25 hl (k := 3) rfl (by rw [← Option.some.inj e_v9]; rfl) (by decide) rfl (fun ls hl => ?_)
          refine lv_goto (tgt := 7) hx hb dJ1_indexOfChar_4cfef_28 (by decide) ?_
          exact ih_7 b3_7 b4_7 v9 hf H locs ls hW hV (lv_sub hl [1, 2, 3, 0] rfl)
        · have hf := op_t y8 hf
          refine lv_iload hx hb dJ1_indexOfChar_4cfef_22 (lv_at hl 3 rfl) ?_
          exact w_retI hx hb hr hlocks hW hV (Option.some.inj hf) rfl dJ1_indexOfChar_4cfef_24
  obtain ⟨H, hH⟩ : ∃ H : Heap, H = s.heap := ⟨_, rfl⟩
  obtain ⟨locs, hlocs⟩ : ∃ locs : List Loc, locs = [] := ⟨_, rfl⟩
  rw [show (W p l e (headSpec (.code yJ1_indexOfChar_4cfef cJ1_indexOfChar_4cfef 6 (some .int) :: BIG) ({ frames := 0, cells := 0, slots := 0, locals := 0 })).room s m ([.ref (adB E k0), .int a1, .int a2, .int a3] : List Value).toArray below meth c s.heap [] 0 0) = W p l e (headSpec (.code yJ1_indexOfChar_4cfef cJ1_indexOfChar_4cfef 6 (some .int) :: BIG) ({ frames := 0, cells := 0, slots := 0, locals := 0 })).room s m ([.ref (adB E k0), .int a1, .int a2, .int a3] : List Value).toArray below meth c H locs 0 0 by rw [hH, hlocs]]
  have hV : va_S (eA E) s.heap H locs := by rw [hH, hlocs]; exact hV
  have hW : Wd E μ s H := by rw [hH]; exact hW
  unfold f_J1_indexOfChar_4cfef at hf
  refine lv_iload_n hx hb dJ1_indexOfChar_4cfef_0 rfl (lv_at hl 1 rfl) ?_
  refine lv_i2b hx hb dJ1_indexOfChar_4cfef_1 rfl ?_
  obtain ⟨v10, e_v10, hf⟩ := op_none hf
  refine lv_top' (Option.some.inj e_v10) ?_
  refine lv_istore (i := 4) (lv' := [(4, .int v10), (0, .ref (adB E k0)), (1, .int a1), (2, .int a2), (3, .int a3)]) hx hb dJ1_indexOfChar_4cfef_2 hl (by decide) rfl (fun ls hl => ?_)
  refine lv_iload_n hx hb dJ1_indexOfChar_4cfef_4 rfl (lv_at hl 3 rfl) ?_
  refine lv_istore (i := 5) (lv' := [(5, .int a2), (4, .int v10), (0, .ref (adB E k0)), (1, .int a1), (2, .int a2), (3, .int a3)]) hx hb dJ1_indexOfChar_4cfef_5 hl (by decide) rfl (fun ls hl => ?_)
  exact c_7 FU a3 v10 a2 hf H locs ls hW hV (lv_sub hl [2, 5, 1, 0] rfl)
set_option maxHeartbeats 8000000 in
set_option maxRecDepth 100000 in
theorem k_J1_indexOf_4cfef (l : Launch) (E : WE) (μ : Mem) (k0 : Nat) (a1 : Int32) (a2 : Int32) (a3 : Int32) (h0 : k0 < 9) (r : Int32) (hf : f_J1_indexOf_4cfef μ k0 a1 a2 a3 = some r) : Met l yJ1_indexOf_4cfef (.code yJ1_indexOf_4cfef cJ1_indexOf_4cfef 4 (some .int) :: BIG) ({ frames := 1, cells := 0, slots := 0, locals := 40 }) (PW E μ [.ref (adB E k0), .int a1, .int a2, .int a3]) (QI E r μ) 0 0 (eA E) := by
  refine Met.ofW (cc := cJ1_indexOf_4cfef) (maxL := 4) (ret := (some .int)) (by decide) rfl ?_
  intro p e s m args below meth c s₁ B hml hv
  obtain ⟨rfl, hW, hZ⟩ := hv
  have hx := B.exec
  have hb := B.bytes
  have hr := B.returns
  have hB : ∀ w ∈ BIG, w.before _ s = true := fun w h => atoms_spec (ws := (.code yJ1_indexOf_4cfef cJ1_indexOf_4cfef 4 (some .int) :: BIG)) B.pre w (List.mem_cons_of_mem _ h)
  have hown : s.vm.findClass RJ1 = some m.cls := findClass_of_methodNamed B.named
  have hlocks := B.notSynchronized
  have hV : va_S (eA E) s.heap s.heap [] := va_S.rf
  have hl := lv_entry ([.ref (adB E k0), .int a1, .int a2, .int a3]) (n := 4) (Nat.le_of_ble_eq_true rfl)
  rw [lg_entry_eq]
  generalize (lg_sl ([.ref (adB E k0), .int a1, .int a2, .int a3]) ++ List.replicate (4 - (lg_sl ([.ref (adB E k0), .int a1, .int a2, .int a3])).length) Slot.unset).toArray = ls at hl ⊢
  have hl : lv_has ls 4 [(0, .ref (adB E k0)), (1, .int a1), (2, .int a2), (3, .int a3)] := hl
  obtain ⟨H, hH⟩ : ∃ H : Heap, H = s.heap := ⟨_, rfl⟩
  obtain ⟨locs, hlocs⟩ : ∃ locs : List Loc, locs = [] := ⟨_, rfl⟩
  rw [show (W p l e (headSpec (.code yJ1_indexOf_4cfef cJ1_indexOf_4cfef 4 (some .int) :: BIG) ({ frames := 1, cells := 0, slots := 0, locals := 40 })).room s m ([.ref (adB E k0), .int a1, .int a2, .int a3] : List Value).toArray below meth c s.heap [] 0 0) = W p l e (headSpec (.code yJ1_indexOf_4cfef cJ1_indexOf_4cfef 4 (some .int) :: BIG) ({ frames := 1, cells := 0, slots := 0, locals := 40 })).room s m ([.ref (adB E k0), .int a1, .int a2, .int a3] : List Value).toArray below meth c H locs 0 0 by rw [hH, hlocs]]
  have hV : va_S (eA E) s.heap H locs := by rw [hH, hlocs]; exact hV
  have hW : Wd E μ s H := by rw [hH]; exact hW
  unfold f_J1_indexOf_4cfef at hf
  refine lv_iload_n hx hb dJ1_indexOf_4cfef_0 rfl (lv_at hl 1 rfl) ?_
  obtain ⟨v9, e_10, hf⟩ := op_none hf
  refine w_callN (rn_RJ1_88 (As := [.int a1]) hx hb hml hown hB hW hZ hV (k_J1_canEncode_9a6ad l E _ a1 v9 e_10) rfl rfl ⟨(Nat.le_of_ble_eq_true rfl), (Nat.le_of_ble_eq_true rfl)⟩ rfl hl.1 rfl (Nat.le_of_ble_eq_true rfl) dJ1_indexOf_4cfef_1 ⟨Nat.le_refl _, Nat.le_refl _⟩) hV (fun H locs hn_v9 hW hV => ?_)
  refine lv_if_ne (tgt := 9) hx hb dJ1_indexOf_4cfef_4 (by decide) (fun y11 => ?_) (fun y11 => ?_)
  · have hf := op_f y11 hf
    refine lv_iload_n hx hb dJ1_indexOf_4cfef_9 rfl (lv_at hl 2 rfl) ?_
    refine lv_iconst (v := (0 : Int32)) hx hb dJ1_indexOf_4cfef_10 (by decide) ?_
    refine va_mmax hx hb (hml.trans hl.1.symm) hown (hB _ q_896fb3c6) (hB _ q_8b9497d0) (hB _ q_544deca7) (hB _ q_7292adb7) (Nat.le_of_ble_eq_true rfl) (Nat.le_of_ble_eq_true rfl) (Nat.le_of_ble_eq_true rfl) (Nat.le_of_ble_eq_true rfl) dJ1_indexOf_4cfef_11 ?_
    obtain ⟨v12, e_v12, hf⟩ := op_none hf
    refine lv_top' (Option.some.inj e_v12) ?_
    refine lv_istore_n (i := 2) (lv' := [(2, .int v12), (0, .ref (adB E k0)), (1, .int a1), (3, .int a3)]) hx hb dJ1_indexOf_4cfef_14 rfl hl (by decide) rfl (fun ls hl => ?_)
    refine lv_iload_n hx hb dJ1_indexOf_4cfef_15 rfl (lv_at hl 3 rfl) ?_
    refine lv_aload_n hx hb dJ1_indexOf_4cfef_16 rfl (lv_at hl 1 rfl) ?_
    refine va_tlen hx hb (hZ.2.2.1.2.1 _ h0).2.2.2 hV rfl dJ1_indexOf_4cfef_17 ?_
    refine va_mmin hx hb (hml.trans hl.1.symm) hown (hB _ q_06c10ae1) (hB _ q_6443835c) (hB _ q_544deca7) (hB _ q_4cca8523) (Nat.le_of_ble_eq_true rfl) (Nat.le_of_ble_eq_true rfl) (Nat.le_of_ble_eq_true rfl) (Nat.le_of_ble_eq_true rfl) dJ1_indexOf_4cfef_18 ?_
    obtain ⟨v13, e_v13, hf⟩ := op_none hf
    refine lv_top' (Option.some.inj e_v13) ?_
    refine lv_istore_n (i := 3) (lv' := [(3, .int v13), (2, .int v12), (0, .ref (adB E k0)), (1, .int a1)]) hx hb dJ1_indexOf_4cfef_21 rfl hl (by decide) rfl (fun ls hl => ?_)
    refine lv_iload_n hx hb dJ1_indexOf_4cfef_22 rfl (lv_at hl 1 rfl) ?_
    refine lv_iload_n hx hb dJ1_indexOf_4cfef_23 rfl (lv_at hl 0 rfl) ?_
    refine lv_icmp_lt (tgt := 29) hx hb dJ1_indexOf_4cfef_24 (by decide) (fun y14 => ?_) (fun y14 => ?_)
    · have hf := op_t y14 hf
      refine lv_aload_n hx hb dJ1_indexOf_4cfef_29 rfl (lv_at hl 2 rfl) ?_
      refine lv_iload_n hx hb dJ1_indexOf_4cfef_30 rfl (lv_at hl 3 rfl) ?_
      refine lv_iload_n hx hb dJ1_indexOf_4cfef_31 rfl (lv_at hl 1 rfl) ?_
      refine lv_iload_n hx hb dJ1_indexOf_4cfef_32 rfl (lv_at hl 0 rfl) ?_
      obtain ⟨v15, e_16, hf⟩ := op_none hf
      refine w_callI (rn_RJ1_95 (As := [.ref (adB E k0), .int a1, .int v12, .int v13]) hx hb hml hown hB hW hZ hV (k_J1_indexOfChar_4cfef l E _ k0 a1 v12 v13 h0 v15 e_16) rfl rfl ⟨(Nat.le_of_ble_eq_true rfl), (Nat.le_of_ble_eq_true rfl)⟩ rfl hl.1 rfl (Nat.le_of_ble_eq_true rfl) dJ1_indexOf_4cfef_33 ⟨Nat.le_refl _, Nat.le_refl _⟩) hV (fun H locs hW hV => ?_)
      exact w_retI hx hb hr hlocks hW hV (Option.some.inj hf) rfl dJ1_indexOf_4cfef_36
    · have hf := op_f y14 hf
      refine lv_iconst (v := (-1 : Int32)) hx hb dJ1_indexOf_4cfef_27 (by decide) ?_
      exact w_retI hx hb hr hlocks hW hV (Option.some.inj hf) rfl dJ1_indexOf_4cfef_28
  · have hf := op_t y11 hf
    refine lv_iconst (v := (-1 : Int32)) hx hb dJ1_indexOf_4cfef_7 (by decide) ?_
    exact w_retI hx hb hr hlocks hW hV (Option.some.inj hf) rfl dJ1_indexOf_4cfef_8
set_option maxHeartbeats 8000000 in
set_option maxRecDepth 100000 in
theorem k_J0_indexOf_7cf53 (l : Launch) (E : WE) (μ : Mem) (k0 : Nat) (a1 : Int32) (a2 : Int32) (h0 : k0 < 9) (r : Int32) (hf : f_J0_indexOf_7cf53 μ k0 a1 a2 = some r) : Met l yJ0_indexOf_7cf53 (.code yJ0_indexOf_7cf53 cJ0_indexOf_7cf53 3 (some .int) :: BIG) ({ frames := 2, cells := 0, slots := 0, locals := 63 }) (PW E μ [.ref (adS E k0), .int a1, .int a2]) (QI E r μ) 0 0 (eA E) := by
  refine Met.ofW (cc := cJ0_indexOf_7cf53) (maxL := 3) (ret := (some .int)) (by decide) rfl ?_
  intro p e s m args below meth c s₁ B hml hv
  obtain ⟨rfl, hW, hZ⟩ := hv
  have hx := B.exec
  have hb := B.bytes
  have hr := B.returns
  have hB : ∀ w ∈ BIG, w.before _ s = true := fun w h => atoms_spec (ws := (.code yJ0_indexOf_7cf53 cJ0_indexOf_7cf53 3 (some .int) :: BIG)) B.pre w (List.mem_cons_of_mem _ h)
  have hown : s.vm.findClass RJ0 = some m.cls := findClass_of_methodNamed B.named
  have hlocks := B.notSynchronized
  have hV : va_S (eA E) s.heap s.heap [] := va_S.rf
  have hl := lv_entry ([.ref (adS E k0), .int a1, .int a2]) (n := 3) (Nat.le_of_ble_eq_true rfl)
  rw [lg_entry_eq]
  generalize (lg_sl ([.ref (adS E k0), .int a1, .int a2]) ++ List.replicate (3 - (lg_sl ([.ref (adS E k0), .int a1, .int a2])).length) Slot.unset).toArray = ls at hl ⊢
  have hl : lv_has ls 3 [(0, .ref (adS E k0)), (1, .int a1), (2, .int a2)] := hl
  obtain ⟨H, hH⟩ : ∃ H : Heap, H = s.heap := ⟨_, rfl⟩
  obtain ⟨locs, hlocs⟩ : ∃ locs : List Loc, locs = [] := ⟨_, rfl⟩
  rw [show (W p l e (headSpec (.code yJ0_indexOf_7cf53 cJ0_indexOf_7cf53 3 (some .int) :: BIG) ({ frames := 2, cells := 0, slots := 0, locals := 63 })).room s m ([.ref (adS E k0), .int a1, .int a2] : List Value).toArray below meth c s.heap [] 0 0) = W p l e (headSpec (.code yJ0_indexOf_7cf53 cJ0_indexOf_7cf53 3 (some .int) :: BIG) ({ frames := 2, cells := 0, slots := 0, locals := 63 })).room s m ([.ref (adS E k0), .int a1, .int a2] : List Value).toArray below meth c H locs 0 0 by rw [hH, hlocs]]
  have hV : va_S (eA E) s.heap H locs := by rw [hH, hlocs]; exact hV
  have hW : Wd E μ s H := by rw [hH]; exact hW
  unfold f_J0_indexOf_7cf53 at hf
  refine lv_aload_n hx hb dJ0_indexOf_7cf53_0 rfl (lv_at hl 0 rfl) ?_
  obtain ⟨v8, e_9, hf⟩ := op_none hf
  refine w_callN (rn_RJ0_492 (As := []) hx hb hml hown hB hW hZ hV (k_J0_isLatin1_aae02 l E _ k0 h0 v8 e_9) rfl rfl ⟨(Nat.le_of_ble_eq_true rfl), (Nat.le_of_ble_eq_true rfl)⟩ (w_recS hZ hV h0) rfl hl.1 rfl (Nat.le_of_ble_eq_true rfl) dJ0_indexOf_7cf53_1 ⟨Nat.le_refl _, Nat.le_refl _⟩) hV (fun H locs hn_v8 hW hV => ?_)
  refine lv_if_eq (tgt := 23) hx hb dJ0_indexOf_7cf53_4 (by decide) (fun y10 => ?_) (fun y10 => ?_)
  · have hf := op_t y10 hf
    cases hf
  · have hf := op_f y10 hf
    refine lv_aload_n hx hb dJ0_indexOf_7cf53_7 rfl (lv_at hl 0 rfl) ?_
    refine w_sval hx hb hB hown hZ hV h0 q_c1e2a654 dJ0_indexOf_7cf53_8 ?_
    refine lv_iload_n hx hb dJ0_indexOf_7cf53_11 rfl (lv_at hl 1 rfl) ?_
    refine lv_iload_n hx hb dJ0_indexOf_7cf53_12 rfl (lv_at hl 2 rfl) ?_
    refine lv_aload_n hx hb dJ0_indexOf_7cf53_13 rfl (lv_at hl 0 rfl) ?_
    obtain ⟨v11, e_12, hf⟩ := op_none hf
    refine w_callI (rn_RJ0_505 (As := []) hx hb hml hown hB hW hZ hV (k_J0_length_8abf5 l E _ k0 h0 v11 e_12) rfl rfl ⟨(Nat.le_of_ble_eq_true rfl), (Nat.le_of_ble_eq_true rfl)⟩ (w_recS hZ hV h0) rfl hl.1 rfl (Nat.le_of_ble_eq_true rfl) dJ0_indexOf_7cf53_14 ⟨Nat.le_refl _, Nat.le_refl _⟩) hV (fun H locs hW hV => ?_)
    obtain ⟨v13, e_14, hf⟩ := op_none hf
    refine w_callI (rn_RJ0_637 (As := [.ref (adB E k0), .int a1, .int a2, .int v11]) hx hb hml hown hB hW hZ hV (k_J1_indexOf_4cfef l E _ k0 a1 a2 v11 h0 v13 e_14) rfl rfl ⟨(Nat.le_of_ble_eq_true rfl), (Nat.le_of_ble_eq_true rfl)⟩ rfl hl.1 rfl (Nat.le_of_ble_eq_true rfl) dJ0_indexOf_7cf53_17 ⟨Nat.le_refl _, Nat.le_refl _⟩) hV (fun H locs hW hV => ?_)
    refine lv_goto (tgt := 36) hx hb dJ0_indexOf_7cf53_20 (by decide) ?_
    exact w_retI hx hb hr hlocks hW hV (Option.some.inj hf) rfl dJ0_indexOf_7cf53_36
set_option maxHeartbeats 8000000 in
set_option maxRecDepth 100000 in
theorem k_J0_indexOf_0f7a4 (l : Launch) (E : WE) (μ : Mem) (k0 : Nat) (a1 : Int32) (h0 : k0 < 9) (r : Int32) (hf : f_J0_indexOf_0f7a4 μ k0 a1 = some r) : Met l yJ0_indexOf_0f7a4 (.code yJ0_indexOf_0f7a4 cJ0_indexOf_0f7a4 2 (some .int) :: BIG) ({ frames := 3, cells := 0, slots := 0, locals := 85 }) (PW E μ [.ref (adS E k0), .int a1]) (QI E r μ) 0 0 (eA E) := by
  refine Met.ofW (cc := cJ0_indexOf_0f7a4) (maxL := 2) (ret := (some .int)) (by decide) rfl ?_
  intro p e s m args below meth c s₁ B hml hv
  obtain ⟨rfl, hW, hZ⟩ := hv
  have hx := B.exec
  have hb := B.bytes
  have hr := B.returns
  have hB : ∀ w ∈ BIG, w.before _ s = true := fun w h => atoms_spec (ws := (.code yJ0_indexOf_0f7a4 cJ0_indexOf_0f7a4 2 (some .int) :: BIG)) B.pre w (List.mem_cons_of_mem _ h)
  have hown : s.vm.findClass RJ0 = some m.cls := findClass_of_methodNamed B.named
  have hlocks := B.notSynchronized
  have hV : va_S (eA E) s.heap s.heap [] := va_S.rf
  have hl := lv_entry ([.ref (adS E k0), .int a1]) (n := 2) (Nat.le_of_ble_eq_true rfl)
  rw [lg_entry_eq]
  generalize (lg_sl ([.ref (adS E k0), .int a1]) ++ List.replicate (2 - (lg_sl ([.ref (adS E k0), .int a1])).length) Slot.unset).toArray = ls at hl ⊢
  have hl : lv_has ls 2 [(0, .ref (adS E k0)), (1, .int a1)] := hl
  obtain ⟨H, hH⟩ : ∃ H : Heap, H = s.heap := ⟨_, rfl⟩
  obtain ⟨locs, hlocs⟩ : ∃ locs : List Loc, locs = [] := ⟨_, rfl⟩
  rw [show (W p l e (headSpec (.code yJ0_indexOf_0f7a4 cJ0_indexOf_0f7a4 2 (some .int) :: BIG) ({ frames := 3, cells := 0, slots := 0, locals := 85 })).room s m ([.ref (adS E k0), .int a1] : List Value).toArray below meth c s.heap [] 0 0) = W p l e (headSpec (.code yJ0_indexOf_0f7a4 cJ0_indexOf_0f7a4 2 (some .int) :: BIG) ({ frames := 3, cells := 0, slots := 0, locals := 85 })).room s m ([.ref (adS E k0), .int a1] : List Value).toArray below meth c H locs 0 0 by rw [hH, hlocs]]
  have hV : va_S (eA E) s.heap H locs := by rw [hH, hlocs]; exact hV
  have hW : Wd E μ s H := by rw [hH]; exact hW
  unfold f_J0_indexOf_0f7a4 at hf
  refine lv_aload_n hx hb dJ0_indexOf_0f7a4_0 rfl (lv_at hl 0 rfl) ?_
  refine lv_iload_n hx hb dJ0_indexOf_0f7a4_1 rfl (lv_at hl 1 rfl) ?_
  refine lv_iconst (v := (0 : Int32)) hx hb dJ0_indexOf_0f7a4_2 (by decide) ?_
  obtain ⟨v3, e_4, hf⟩ := op_none hf
  refine w_callI (rn_RJ0_633 (As := [.int a1, .int (0 : Int32)]) hx hb hml hown hB hW hZ hV (k_J0_indexOf_7cf53 l E _ k0 a1 (0 : Int32) h0 v3 e_4) rfl rfl ⟨(Nat.le_of_ble_eq_true rfl), (Nat.le_of_ble_eq_true rfl)⟩ (w_recS hZ hV h0) rfl hl.1 rfl (Nat.le_of_ble_eq_true rfl) dJ0_indexOf_0f7a4_3 ⟨Nat.le_refl _, Nat.le_refl _⟩) hV (fun H locs hW hV => ?_)
  exact w_retI hx hb hr hlocks hW hV (Option.some.inj hf) rfl dJ0_indexOf_0f7a4_6
set_option maxHeartbeats 8000000 in
set_option maxRecDepth 100000 in
theorem k_X5_takeOneOf (l : Launch) (E : WE) (μ : Mem) (k1 : Nat) (h1 : k1 < 9) (r : Int32) (μ' : Mem) (hf : f_X5_takeOneOf μ k1 = some (r, μ')) : Met l yX5_takeOneOf (.code yX5_takeOneOf cX5_takeOneOf 4 (some .int) :: BIG) ({ frames := 4, cells := 0, slots := 0, locals := 106 }) (PW E μ [.ref (ead E 2), .ref (adS E k1)]) (QI E r μ') 0 0 (eA E) := by
  refine Met.ofW (cc := cX5_takeOneOf) (maxL := 4) (ret := (some .int)) (by decide) rfl ?_
  intro p e s m args below meth c s₁ B hml hv
  obtain ⟨rfl, hW, hZ⟩ := hv
  have hx := B.exec
  have hb := B.bytes
  have hr := B.returns
  have hB : ∀ w ∈ BIG, w.before _ s = true := fun w h => atoms_spec (ws := (.code yX5_takeOneOf cX5_takeOneOf 4 (some .int) :: BIG)) B.pre w (List.mem_cons_of_mem _ h)
  have hown : s.vm.findClass RX5 = some m.cls := findClass_of_methodNamed B.named
  have hlocks := B.notSynchronized
  have hV : va_S (eA E) s.heap s.heap [] := va_S.rf
  have hl := lv_entry ([.ref (ead E 2), .ref (adS E k1)]) (n := 4) (Nat.le_of_ble_eq_true rfl)
  rw [lg_entry_eq]
  generalize (lg_sl ([.ref (ead E 2), .ref (adS E k1)]) ++ List.replicate (4 - (lg_sl ([.ref (ead E 2), .ref (adS E k1)])).length) Slot.unset).toArray = ls at hl ⊢
  have hl : lv_has ls 4 [(0, .ref (ead E 2)), (1, .ref (adS E k1))] := hl
  have c_46 : ∀ (μ_46 : Mem) (s0_46 : Int32) , f_X5_takeOneOf_46 k1 μ_46 s0_46 = some (r, μ') → ∀ (H : Heap) (locs : List Loc) (ls : Array Slot), Wd E μ_46 s H → va_S (eA E) s.heap H locs → lv_has ls 4 [(0, .ref (ead E 2))] → W p l e (headSpec (.code yX5_takeOneOf cX5_takeOneOf 4 (some .int) :: BIG) ({ frames := 4, cells := 0, slots := 0, locals := 106 })).room s m ([.ref (ead E 2), .ref (adS E k1)] : List Value).toArray below meth c H locs 0 0 (MQ below (QI E r μ') ([.ref (ead E 2), .ref (adS E k1)] : List Value).toArray s 0 0 (eA E)) (F0 m 46 ls [.int s0_46]) := by
    intro μ_46 s0_46 hf H locs ls hW hV hl
    unfold f_X5_takeOneOf_46 at hf
    refine lv_istore_n (i := 3) (lv' := [(3, .int s0_46), (0, .ref (ead E 2))]) hx hb dX5_takeOneOf_46 rfl hl (by decide) rfl (fun ls hl => ?_)
    refine lv_iload_n hx hb dX5_takeOneOf_47 rfl (lv_at hl 0 rfl) ?_
    refine lv_if_lt (tgt := 61) hx hb dX5_takeOneOf_48 (by decide) (fun y9 => ?_) (fun y9 => ?_)
    · have hf := op_t y9 hf
      refine lv_iload_n hx hb dX5_takeOneOf_61 rfl (lv_at hl 0 rfl) ?_
      exact w_retI hx hb hr hlocks hW hV (Prod.mk.inj (Option.some.inj hf)).1 (Prod.mk.inj (Option.some.inj hf)).2 dX5_takeOneOf_62
    · have hf := op_f y9 hf
      refine lv_aload_n hx hb dX5_takeOneOf_51 rfl (lv_at hl 1 rfl) ?_
      refine lv_dup hx hb dX5_takeOneOf_52 rfl ?_
      refine gf_RX5_19 hx hb hB hown hW dX5_takeOneOf_53 ?_
      refine lv_iconst (v := (1 : Int32)) hx hb dX5_takeOneOf_56 (by decide) ?_
      refine lv_iadd hx hb dX5_takeOneOf_57 ?_
      obtain ⟨μ10, e_μ10, hf⟩ := op_none hf
      refine pf_RX5_19 hx hb hB hown hW hV dX5_takeOneOf_58 (fun H locs hW hV => ?_)
      rw [Option.some.inj e_μ10] at hW
      refine lv_iload_n hx hb dX5_takeOneOf_61 rfl (lv_at hl 0 rfl) ?_
      exact w_retI hx hb hr hlocks hW hV (Prod.mk.inj (Option.some.inj hf)).1 (Prod.mk.inj (Option.some.inj hf)).2 dX5_takeOneOf_62
  have c_23 : ∀ (μ_23 : Mem) (s0_23 : Int32) , f_X5_takeOneOf_23 k1 μ_23 s0_23 = some (r, μ') → ∀ (H : Heap) (locs : List Loc) (ls : Array Slot), Wd E μ_23 s H → va_S (eA E) s.heap H locs → lv_has ls 4 [(0, .ref (ead E 2)), (1, .ref (adS E k1))] → W p l e (headSpec (.code yX5_takeOneOf cX5_takeOneOf 4 (some .int) :: BIG) ({ frames := 4, cells := 0, slots := 0, locals := 106 })).room s m ([.ref (ead E 2), .ref (adS E k1)] : List Value).toArray below meth c H locs 0 0 (MQ below (QI E r μ') ([.ref (ead E 2), .ref (adS E k1)] : List Value).toArray s 0 0 (eA E)) (F0 m 23 ls [.int s0_23]) := by
    intro μ_23 s0_23 hf H locs ls hW hV hl
    unfold f_X5_takeOneOf_23 at hf
    refine lv_istore_n (i := 2) (lv' := [(2, .int s0_23), (0, .ref (ead E 2)), (1, .ref (adS E k1))]) hx hb dX5_takeOneOf_23 rfl hl (by decide) rfl (fun ls hl => ?_)
    refine lv_iload_n hx hb dX5_takeOneOf_24 rfl (lv_at hl 0 rfl) ?_
    refine lv_if_eq (tgt := 45) hx hb dX5_takeOneOf_25 (by decide) (fun y11 => ?_) (fun y11 => ?_)
    · have hf := op_t y11 hf
      refine lv_iconst (v := (-1 : Int32)) hx hb dX5_takeOneOf_45 (by decide) ?_
      exact c_46 μ_23 (-1 : Int32) hf H locs ls hW hV (lv_sub hl [1] rfl)
    · have hf := op_f y11 hf
      refine lv_aload_n hx hb dX5_takeOneOf_28 rfl (lv_at hl 2 rfl) ?_
      refine lv_aload_n hx hb dX5_takeOneOf_29 rfl (lv_at hl 1 rfl) ?_
      refine gf_RX5_9 hx hb hB hown hW dX5_takeOneOf_30 ?_
      refine lv_aload_n hx hb dX5_takeOneOf_33 rfl (lv_at hl 1 rfl) ?_
      refine gf_RX5_19 hx hb hB hown hW dX5_takeOneOf_34 ?_
      obtain ⟨v12, e_v12, hf⟩ := op_none hf
      refine w_bald hx hb hW b3.1 (b3.2 E _ _) e_v12 dX5_takeOneOf_37 ?_
      refine lv_i2c hx hb dX5_takeOneOf_38 rfl ?_
      obtain ⟨v13, e_14, hf⟩ := op_none hf
      refine w_callI (rn_RX5_38 (As := [.int ((v12.toUInt32 % 65536).toInt32)]) hx hb hml hown hB hW hZ hV (k_J0_indexOf_0f7a4 l E _ k1 ((v12.toUInt32 % 65536).toInt32) h1 v13 e_14) rfl rfl ⟨(Nat.le_of_ble_eq_true rfl), (Nat.le_of_ble_eq_true rfl)⟩ (w_recS hZ hV h1) rfl hl.1 rfl (Nat.le_of_ble_eq_true rfl) dX5_takeOneOf_39 ⟨Nat.le_refl _, Nat.le_refl _⟩) hV (fun H locs hW hV => ?_)
      refine lv_goto (tgt := 46) hx hb dX5_takeOneOf_42 (by decide) ?_
      exact c_46 μ_23 v13 hf H locs ls hW hV (lv_sub hl [1] rfl)
  have c_22 : ∀ (μ_22 : Mem) , f_X5_takeOneOf_22 k1 μ_22 = some (r, μ') → ∀ (H : Heap) (locs : List Loc) (ls : Array Slot), Wd E μ_22 s H → va_S (eA E) s.heap H locs → lv_has ls 4 [(0, .ref (ead E 2)), (1, .ref (adS E k1))] → W p l e (headSpec (.code yX5_takeOneOf cX5_takeOneOf 4 (some .int) :: BIG) ({ frames := 4, cells := 0, slots := 0, locals := 106 })).room s m ([.ref (ead E 2), .ref (adS E k1)] : List Value).toArray below meth c H locs 0 0 (MQ below (QI E r μ') ([.ref (ead E 2), .ref (adS E k1)] : List Value).toArray s 0 0 (eA E)) (F0 m 22 ls []) := by
    intro μ_22 hf H locs ls hW hV hl
    unfold f_X5_takeOneOf_22 at hf
    refine lv_iconst (v := (0 : Int32)) hx hb dX5_takeOneOf_22 (by decide) ?_
    exact c_23 μ_22 (0 : Int32) hf H locs ls hW hV (lv_sub hl [0, 1] rfl)
  obtain ⟨H, hH⟩ : ∃ H : Heap, H = s.heap := ⟨_, rfl⟩
  obtain ⟨locs, hlocs⟩ : ∃ locs : List Loc, locs = [] := ⟨_, rfl⟩
  rw [show (W p l e (headSpec (.code yX5_takeOneOf cX5_takeOneOf 4 (some .int) :: BIG) ({ frames := 4, cells := 0, slots := 0, locals := 106 })).room s m ([.ref (ead E 2), .ref (adS E k1)] : List Value).toArray below meth c s.heap [] 0 0) = W p l e (headSpec (.code yX5_takeOneOf cX5_takeOneOf 4 (some .int) :: BIG) ({ frames := 4, cells := 0, slots := 0, locals := 106 })).room s m ([.ref (ead E 2), .ref (adS E k1)] : List Value).toArray below meth c H locs 0 0 by rw [hH, hlocs]]
  have hV : va_S (eA E) s.heap H locs := by rw [hH, hlocs]; exact hV
  have hW : Wd E μ s H := by rw [hH]; exact hW
  unfold f_X5_takeOneOf at hf
  refine lv_aload_n hx hb dX5_takeOneOf_0 rfl (lv_at hl 0 rfl) ?_
  refine gf_RX5_19 hx hb hB hown hW dX5_takeOneOf_1 ?_
  refine lv_if_lt (tgt := 22) hx hb dX5_takeOneOf_4 (by decide) (fun y15 => ?_) (fun y15 => ?_)
  · have hf := op_t y15 hf
    exact c_22 μ hf H locs ls hW hV (lv_sub hl [0, 1] rfl)
  · have hf := op_f y15 hf
    refine lv_aload_n hx hb dX5_takeOneOf_7 rfl (lv_at hl 0 rfl) ?_
    refine gf_RX5_19 hx hb hB hown hW dX5_takeOneOf_8 ?_
    refine lv_aload_n hx hb dX5_takeOneOf_11 rfl (lv_at hl 0 rfl) ?_
    refine gf_RX5_15 hx hb hB hown hW dX5_takeOneOf_12 ?_
    refine lv_icmp_ge (tgt := 22) hx hb dX5_takeOneOf_15 (by decide) (fun y16 => ?_) (fun y16 => ?_)
    · have hf := op_t y16 hf
      exact c_22 μ hf H locs ls hW hV (lv_sub hl [0, 1] rfl)
    · have hf := op_f y16 hf
      refine lv_iconst (v := (1 : Int32)) hx hb dX5_takeOneOf_18 (by decide) ?_
      refine lv_goto (tgt := 23) hx hb dX5_takeOneOf_19 (by decide) ?_
      exact c_23 μ (1 : Int32) hf H locs ls hW hV (lv_sub hl [0, 1] rfl)
set_option maxHeartbeats 8000000 in
set_option maxRecDepth 100000 in
theorem k_X5_takeNumber (l : Launch) (E : WE) (μ : Mem) (r : Int32) (μ' : Mem) (hf : f_X5_takeNumber μ = some (r, μ')) : Met l yX5_takeNumber (.code yX5_takeNumber cX5_takeNumber 3 (some .int) :: BIG) ({ frames := 5, cells := 0, slots := 0, locals := 129 }) (PW E μ [.ref (ead E 2)]) (QI E r μ') 0 0 (eA E) := by
  refine Met.ofW (cc := cX5_takeNumber) (maxL := 3) (ret := (some .int)) (by decide) rfl ?_
  intro p e s m args below meth c s₁ B hml hv
  obtain ⟨rfl, hW, hZ⟩ := hv
  have hx := B.exec
  have hb := B.bytes
  have hr := B.returns
  have hB : ∀ w ∈ BIG, w.before _ s = true := fun w h => atoms_spec (ws := (.code yX5_takeNumber cX5_takeNumber 3 (some .int) :: BIG)) B.pre w (List.mem_cons_of_mem _ h)
  have hown : s.vm.findClass RX5 = some m.cls := findClass_of_methodNamed B.named
  have hlocks := B.notSynchronized
  have hV : va_S (eA E) s.heap s.heap [] := va_S.rf
  have hl := lv_entry ([.ref (ead E 2)]) (n := 3) (Nat.le_of_ble_eq_true rfl)
  rw [lg_entry_eq]
  generalize (lg_sl ([.ref (ead E 2)]) ++ List.replicate (3 - (lg_sl ([.ref (ead E 2)])).length) Slot.unset).toArray = ls at hl ⊢
  have hl : lv_has ls 3 [(0, .ref (ead E 2))] := hl
  obtain ⟨H, hH⟩ : ∃ H : Heap, H = s.heap := ⟨_, rfl⟩
  obtain ⟨locs, hlocs⟩ : ∃ locs : List Loc, locs = [] := ⟨_, rfl⟩
  rw [show (W p l e (headSpec (.code yX5_takeNumber cX5_takeNumber 3 (some .int) :: BIG) ({ frames := 5, cells := 0, slots := 0, locals := 129 })).room s m ([.ref (ead E 2)] : List Value).toArray below meth c s.heap [] 0 0) = W p l e (headSpec (.code yX5_takeNumber cX5_takeNumber 3 (some .int) :: BIG) ({ frames := 5, cells := 0, slots := 0, locals := 129 })).room s m ([.ref (ead E 2)] : List Value).toArray below meth c H locs 0 0 by rw [hH, hlocs]]
  have hV : va_S (eA E) s.heap H locs := by rw [hH, hlocs]; exact hV
  have hW : Wd E μ s H := by rw [hH]; exact hW
  unfold f_X5_takeNumber at hf
  refine lv_aload_n hx hb dX5_takeNumber_0 rfl (lv_at hl 0 rfl) ?_
  refine w_ldcS hx hb hown hZ (List.mem_of_getElem? (i := 3) rfl) dX5_takeNumber_1 ?_
  obtain ⟨p14, e_13, hf⟩ := op_none hf
  refine w_callI (rn_RX5_44 (As := [.ref (adS E 3)]) hx hb hml hown hB hW hZ hV (k_X5_takeOneOf l E _ 3 (by decide) p14.1 p14.2 e_13) rfl rfl ⟨(Nat.le_of_ble_eq_true rfl), (Nat.le_of_ble_eq_true rfl)⟩ (w_rec hW oTx.1 (oTx.2 E _ _) rfl) rfl hl.1 rfl (Nat.le_of_ble_eq_true rfl) dX5_takeNumber_3 ⟨Nat.le_refl _, Nat.le_refl _⟩) hV (fun H locs hW hV => ?_)
  refine lv_istore_n (i := 1) (lv' := [(1, .int p14.1), (0, .ref (ead E 2))]) hx hb dX5_takeNumber_6 rfl hl (by decide) rfl (fun ls hl => ?_)
  refine lv_iload_n hx hb dX5_takeNumber_7 rfl (lv_at hl 0 rfl) ?_
  refine lv_if_ge (tgt := 13) hx hb dX5_takeNumber_8 (by decide) (fun y15 => ?_) (fun y15 => ?_)
  · have hf := op_t y15 hf
    refine lv_aload_n hx hb dX5_takeNumber_13 rfl (lv_at hl 1 rfl) ?_
    refine w_ldcS hx hb hown hZ (List.mem_of_getElem? (i := 3) rfl) dX5_takeNumber_14 ?_
    obtain ⟨p19, e_18, hf⟩ := op_none hf
    refine w_callI (rn_RX5_44 (As := [.ref (adS E 3)]) hx hb hml hown hB hW hZ hV (k_X5_takeOneOf l E _ 3 (by decide) p19.1 p19.2 e_18) rfl rfl ⟨(Nat.le_of_ble_eq_true rfl), (Nat.le_of_ble_eq_true rfl)⟩ (w_rec hW oTx.1 (oTx.2 E _ _) rfl) rfl hl.1 rfl (Nat.le_of_ble_eq_true rfl) dX5_takeNumber_16 ⟨Nat.le_refl _, Nat.le_refl _⟩) hV (fun H locs hW hV => ?_)
    refine lv_istore_n (i := 2) (lv' := [(2, .int p19.1), (1, .int p14.1), (0, .ref (ead E 2))]) hx hb dX5_takeNumber_19 rfl hl (by decide) rfl (fun ls hl => ?_)
    refine lv_iload_n hx hb dX5_takeNumber_20 rfl (lv_at hl 0 rfl) ?_
    refine lv_if_ge (tgt := 28) hx hb dX5_takeNumber_21 (by decide) (fun y20 => ?_) (fun y20 => ?_)
    · have hf := op_t y20 hf
      refine lv_iload_n hx hb dX5_takeNumber_28 rfl (lv_at hl 1 rfl) ?_
      refine lv_bipush (v := (10 : Int32)) hx hb dX5_takeNumber_29 (by decide) ?_
      refine lv_imul hx hb dX5_takeNumber_31 ?_
      refine lv_iload_n hx hb dX5_takeNumber_32 rfl (lv_at hl 0 rfl) ?_
      refine lv_iadd hx hb dX5_takeNumber_33 ?_
      exact w_retI hx hb hr hlocks hW hV (Prod.mk.inj (Option.some.inj hf)).1 (Prod.mk.inj (Option.some.inj hf)).2 dX5_takeNumber_34
    · have hf := op_f y20 hf
      refine lv_iload_n hx hb dX5_takeNumber_24 rfl (lv_at hl 1 rfl) ?_
      refine lv_goto (tgt := 34) hx hb dX5_takeNumber_25 (by decide) ?_
      exact w_retI hx hb hr hlocks hW hV (Prod.mk.inj (Option.some.inj hf)).1 (Prod.mk.inj (Option.some.inj hf)).2 dX5_takeNumber_34
  · have hf := op_f y15 hf
    refine lv_iconst (v := (-1 : Int32)) hx hb dX5_takeNumber_11 (by decide) ?_
    exact w_retI hx hb hr hlocks hW hV (Prod.mk.inj (Option.some.inj hf)).1 (Prod.mk.inj (Option.some.inj hf)).2 dX5_takeNumber_12
set_option maxHeartbeats 8000000 in
set_option maxRecDepth 100000 in
theorem k_X3_keep (l : Launch) (E : WE) (μ : Mem) (k0 : Nat) (a1 : Int32) (h0 : isSo k0) (μ' : Mem) (hf : f_X3_keep μ k0 a1 = some μ') : Met l yX3_keep (.code yX3_keep cX3_keep 2 none :: BIG) ({ frames := 0, cells := 0, slots := 0, locals := 0 }) (PW E μ [.ref (ead E k0), .int a1]) (QV E μ') 0 0 (eA E) := by
  refine Met.ofW (cc := cX3_keep) (maxL := 2) (ret := none) (by decide) rfl ?_
  intro p e s m args below meth c s₁ B hml hv
  obtain ⟨rfl, hW, hZ⟩ := hv
  have hx := B.exec
  have hb := B.bytes
  have hr := B.returns
  have hB : ∀ w ∈ BIG, w.before _ s = true := fun w h => atoms_spec (ws := (.code yX3_keep cX3_keep 2 none :: BIG)) B.pre w (List.mem_cons_of_mem _ h)
  have hown : s.vm.findClass RX3 = some m.cls := findClass_of_methodNamed B.named
  have hlocks := B.notSynchronized
  have hV : va_S (eA E) s.heap s.heap [] := va_S.rf
  have hl := lv_entry ([.ref (ead E k0), .int a1]) (n := 2) (Nat.le_of_ble_eq_true rfl)
  rw [lg_entry_eq]
  generalize (lg_sl ([.ref (ead E k0), .int a1]) ++ List.replicate (2 - (lg_sl ([.ref (ead E k0), .int a1])).length) Slot.unset).toArray = ls at hl ⊢
  have hl : lv_has ls 2 [(0, .ref (ead E k0)), (1, .int a1)] := hl
  obtain ⟨H, hH⟩ : ∃ H : Heap, H = s.heap := ⟨_, rfl⟩
  obtain ⟨locs, hlocs⟩ : ∃ locs : List Loc, locs = [] := ⟨_, rfl⟩
  rw [show (W p l e (headSpec (.code yX3_keep cX3_keep 2 none :: BIG) ({ frames := 0, cells := 0, slots := 0, locals := 0 })).room s m ([.ref (ead E k0), .int a1] : List Value).toArray below meth c s.heap [] 0 0) = W p l e (headSpec (.code yX3_keep cX3_keep 2 none :: BIG) ({ frames := 0, cells := 0, slots := 0, locals := 0 })).room s m ([.ref (ead E k0), .int a1] : List Value).toArray below meth c H locs 0 0 by rw [hH, hlocs]]
  have hV : va_S (eA E) s.heap H locs := by rw [hH, hlocs]; exact hV
  have hW : Wd E μ s H := by rw [hH]; exact hW
  unfold f_X3_keep at hf
  refine lv_aload_n hx hb dX3_keep_0 rfl (lv_at hl 0 rfl) ?_
  refine gf_RX3_28 hx hb hB hown hW h0 dX3_keep_1 ?_
  refine lv_aload_n hx hb dX3_keep_4 rfl (lv_at hl 0 rfl) ?_
  refine gf_RX3_25 hx hb hB hown hW h0 dX3_keep_5 ?_
  refine w_alen (j := 0) (v := (100 : Int32)) hx hb hW (iSo3 h0).1 ((iSo3 h0).2 E _ _) rfl rfl rfl dX3_keep_8 ?_
  refine lv_icmp_ge (tgt := 32) hx hb dX3_keep_9 (by decide) (fun y4 => ?_) (fun y4 => ?_)
  · have hf := op_t y4 hf
    exact w_retV hx hb hr hlocks hW hV (Option.some.inj hf) dX3_keep_32
  · have hf := op_f y4 hf
    refine lv_aload_n hx hb dX3_keep_12 rfl (lv_at hl 0 rfl) ?_
    refine gf_RX3_25 hx hb hB hown hW h0 dX3_keep_13 ?_
    refine lv_aload_n hx hb dX3_keep_16 rfl (lv_at hl 0 rfl) ?_
    refine gf_RX3_28 hx hb hB hown hW h0 dX3_keep_17 ?_
    refine lv_iload_n hx hb dX3_keep_20 rfl (lv_at hl 1 rfl) ?_
    obtain ⟨μ5, e_μ5, hf⟩ := op_none hf
    refine w_iast hx hb hW hV (iSo3 h0).1 (fun f => (iSo3 h0).2 E f _) e_μ5 dX3_keep_21 (fun H locs hW hV => ?_)
    refine lv_aload_n hx hb dX3_keep_22 rfl (lv_at hl 0 rfl) ?_
    refine lv_dup hx hb dX3_keep_23 rfl ?_
    refine gf_RX3_28 hx hb hB hown hW h0 dX3_keep_24 ?_
    refine lv_iconst (v := (1 : Int32)) hx hb dX3_keep_27 (by decide) ?_
    refine lv_iadd hx hb dX3_keep_28 ?_
    obtain ⟨μ6, e_μ6, hf⟩ := op_none hf
    refine pf_RX3_28 hx hb hB hown hW h0 hV dX3_keep_29 (fun H locs hW hV => ?_)
    rw [Option.some.inj e_μ6] at hW
    exact w_retV hx hb hr hlocks hW hV (Option.some.inj hf) dX3_keep_32
