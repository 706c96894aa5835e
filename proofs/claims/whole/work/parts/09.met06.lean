set_option maxHeartbeats 8000000 in
set_option maxRecDepth 100000 in
theorem k_X0_perform (l : Launch) (E : WE) (μ : Mem) (k1 : Nat) (a2 : Int32) (a3 : Int32) (a4 : Int32) (h1 : isI k1 14) (r : Int32) (μ' : Mem) (hf : f_X0_perform μ k1 a2 a3 a4 = some (r, μ')) : Met l yX0_perform (.code yX0_perform cX0_perform 5 (some .int) :: BIG) ({ frames := 43, cells := 0, slots := 0, locals := 1191 }) (PW E μ [.ref (ead E 5), .ref (ead E k1), .int a2, .int a3, .int a4]) (QI E r μ') 0 0 (eA E) := by
  refine Met.ofW (cc := cX0_perform) (maxL := 5) (ret := (some .int)) (by decide) rfl ?_
  intro p e s m args below meth c s₁ B hml hv
  obtain ⟨rfl, hW, hZ⟩ := hv
  have hx := B.exec
  have hb := B.bytes
  have hr := B.returns
  have hB : ∀ w ∈ BIG, w.before _ s = true := fun w h => atoms_spec (ws := (.code yX0_perform cX0_perform 5 (some .int) :: BIG)) B.pre w (List.mem_cons_of_mem _ h)
  have hown : s.vm.findClass RX0 = some m.cls := findClass_of_methodNamed B.named
  have hlocks := B.notSynchronized
  have hV : va_S (eA E) s.heap s.heap [] := va_S.rf
  have hl := lv_entry ([.ref (ead E 5), .ref (ead E k1), .int a2, .int a3, .int a4]) (n := 5) (Nat.le_of_ble_eq_true rfl)
  rw [lg_entry_eq]
  generalize (lg_sl ([.ref (ead E 5), .ref (ead E k1), .int a2, .int a3, .int a4]) ++ List.replicate (5 - (lg_sl ([.ref (ead E 5), .ref (ead E k1), .int a2, .int a3, .int a4])).length) Slot.unset).toArray = ls at hl ⊢
  have hl : lv_has ls 5 [(0, .ref (ead E 5)), (1, .ref (ead E k1)), (2, .int a2), (3, .int a3), (4, .int a4)] := hl
  obtain ⟨H, hH⟩ : ∃ H : Heap, H = s.heap := ⟨_, rfl⟩
  obtain ⟨locs, hlocs⟩ : ∃ locs : List Loc, locs = [] := ⟨_, rfl⟩
  rw [show (W p l e (headSpec (.code yX0_perform cX0_perform 5 (some .int) :: BIG) ({ frames := 43, cells := 0, slots := 0, locals := 1191 })).room s m ([.ref (ead E 5), .ref (ead E k1), .int a2, .int a3, .int a4] : List Value).toArray below meth c s.heap [] 0 0) = W p l e (headSpec (.code yX0_perform cX0_perform 5 (some .int) :: BIG) ({ frames := 43, cells := 0, slots := 0, locals := 1191 })).room s m ([.ref (ead E 5), .ref (ead E k1), .int a2, .int a3, .int a4] : List Value).toArray below meth c H locs 0 0 by rw [hH, hlocs]]
  have hV : va_S (eA E) s.heap H locs := by rw [hH, hlocs]; exact hV
  have hW : Wd E μ s H := by rw [hH]; exact hW
  unfold f_X0_perform at hf
  refine lv_aload_n hx hb dX0_perform_0 rfl (lv_at hl 0 rfl) ?_
  refine lv_aload_n hx hb dX0_perform_1 rfl (lv_at hl 1 rfl) ?_
  refine lv_iconst (v := (0 : Int32)) hx hb dX0_perform_2 (by decide) ?_
  obtain ⟨v10, e_v10, hf⟩ := op_none hf
  refine w_iald hx hb hW h1.1 (h1.2 E _ _) e_v10 dX0_perform_3 ?_
  obtain ⟨μ11, e_μ11, hf⟩ := op_none hf
  refine pf_RX0_19 hx hb hB hown hW hV dX0_perform_4 (fun H locs hW hV => ?_)
  rw [Option.some.inj e_μ11] at hW
  refine lv_aload_n hx hb dX0_perform_7 rfl (lv_at hl 0 rfl) ?_
  refine lv_aload_n hx hb dX0_perform_8 rfl (lv_at hl 1 rfl) ?_
  refine lv_iconst (v := (1 : Int32)) hx hb dX0_perform_9 (by decide) ?_
  obtain ⟨v12, e_v12, hf⟩ := op_none hf
  refine w_iald hx hb hW h1.1 (h1.2 E _ _) e_v12 dX0_perform_10 ?_
  obtain ⟨μ13, e_μ13, hf⟩ := op_none hf
  refine pf_RX0_22 hx hb hB hown hW hV dX0_perform_11 (fun H locs hW hV => ?_)
  rw [Option.some.inj e_μ13] at hW
  refine lv_aload_n hx hb dX0_perform_14 rfl (lv_at hl 0 rfl) ?_
  refine lv_iload_n hx hb dX0_perform_15 rfl (lv_at hl 2 rfl) ?_
  obtain ⟨μ14, e_μ14, hf⟩ := op_none hf
  refine pf_RX0_25 hx hb hB hown hW hV dX0_perform_16 (fun H locs hW hV => ?_)
  rw [Option.some.inj e_μ14] at hW
  refine lv_aload_n hx hb dX0_perform_19 rfl (lv_at hl 0 rfl) ?_
  refine lv_iload_n hx hb dX0_perform_20 rfl (lv_at hl 3 rfl) ?_
  refine lv_iload hx hb dX0_perform_21 (lv_at hl 4 rfl) ?_
  refine lv_iconst (v := (0 : Int32)) hx hb dX0_perform_23 (by decide) ?_
  obtain ⟨p18, e_17, hf⟩ := op_none hf
  refine w_callI (rn_RX0_28 (As := [.int a3, .int a4, .int (0 : Int32)]) hx hb hml hown hB hW hZ hV (k_X0_own l E _ a3 a4 (0 : Int32) p18.1 p18.2 e_17) rfl rfl ⟨(Nat.le_of_ble_eq_true rfl), (Nat.le_of_ble_eq_true rfl)⟩ (w_rec hW oAc.1 (oAc.2 E _ _) rfl) rfl hl.1 rfl (Nat.le_of_ble_eq_true rfl) dX0_perform_24 ⟨Nat.le_refl _, Nat.le_refl _⟩) hV (fun H locs hW hV => ?_)
  exact w_retI hx hb hr hlocks hW hV (Prod.mk.inj (Option.some.inj hf)).1 (Prod.mk.inj (Option.some.inj hf)).2 dX0_perform_27
set_option maxHeartbeats 8000000 in
set_option maxRecDepth 100000 in
theorem k_X6_act (l : Launch) (E : WE) (μ : Mem) (a1 : Int32) (a2 : Int32) (a3 : Int32) (r : Int32) (μ' : Mem) (hf : f_X6_act μ a1 a2 a3 = some (r, μ')) : Met l yX6_act (.code yX6_act cX6_act 4 (some .int) :: BIG) ({ frames := 44, cells := 0, slots := 0, locals := 1215 }) (PW E μ [.ref (ead E 1), .int a1, .int a2, .int a3]) (QI E r μ') 0 0 (eA E) := by
  refine Met.ofW (cc := cX6_act) (maxL := 4) (ret := (some .int)) (by decide) rfl ?_
  intro p e s m args below meth c s₁ B hml hv
  obtain ⟨rfl, hW, hZ⟩ := hv
  have hx := B.exec
  have hb := B.bytes
  have hr := B.returns
  have hB : ∀ w ∈ BIG, w.before _ s = true := fun w h => atoms_spec (ws := (.code yX6_act cX6_act 4 (some .int) :: BIG)) B.pre w (List.mem_cons_of_mem _ h)
  have hown : s.vm.findClass RX6 = some m.cls := findClass_of_methodNamed B.named
  have hlocks := B.notSynchronized
  have hV : va_S (eA E) s.heap s.heap [] := va_S.rf
  have hl := lv_entry ([.ref (ead E 1), .int a1, .int a2, .int a3]) (n := 4) (Nat.le_of_ble_eq_true rfl)
  rw [lg_entry_eq]
  generalize (lg_sl ([.ref (ead E 1), .int a1, .int a2, .int a3]) ++ List.replicate (4 - (lg_sl ([.ref (ead E 1), .int a1, .int a2, .int a3])).length) Slot.unset).toArray = ls at hl ⊢
  have hl : lv_has ls 4 [(0, .ref (ead E 1)), (1, .int a1), (2, .int a2), (3, .int a3)] := hl
  obtain ⟨H, hH⟩ : ∃ H : Heap, H = s.heap := ⟨_, rfl⟩
  obtain ⟨locs, hlocs⟩ : ∃ locs : List Loc, locs = [] := ⟨_, rfl⟩
  rw [show (W p l e (headSpec (.code yX6_act cX6_act 4 (some .int) :: BIG) ({ frames := 44, cells := 0, slots := 0, locals := 1215 })).room s m ([.ref (ead E 1), .int a1, .int a2, .int a3] : List Value).toArray below meth c s.heap [] 0 0) = W p l e (headSpec (.code yX6_act cX6_act 4 (some .int) :: BIG) ({ frames := 44, cells := 0, slots := 0, locals := 1215 })).room s m ([.ref (ead E 1), .int a1, .int a2, .int a3] : List Value).toArray below meth c H locs 0 0 by rw [hH, hlocs]]
  have hV : va_S (eA E) s.heap H locs := by rw [hH, hlocs]; exact hV
  have hW : Wd E μ s H := by rw [hH]; exact hW
  unfold f_X6_act at hf
  refine lv_aload_n hx hb dX6_act_0 rfl (lv_at hl 0 rfl) ?_
  refine gf_RX6_48 hx hb hB hown hW dX6_act_1 ?_
  refine lv_iconst (v := (0 : Int32)) hx hb dX6_act_4 (by decide) ?_
  obtain ⟨μ13, e_μ13, hf⟩ := op_none hf
  refine pf_RX6_229 hx hb hB hown hW hV dX6_act_5 (fun H locs hW hV => ?_)
  rw [Option.some.inj e_μ13] at hW
  refine lv_aload_n hx hb dX6_act_8 rfl (lv_at hl 0 rfl) ?_
  refine gf_RX6_12 hx hb hB hown hW dX6_act_9 ?_
  refine lv_iload_n hx hb dX6_act_12 rfl (lv_at hl 1 rfl) ?_
  obtain ⟨v14, e_15, hf⟩ := op_none hf
  refine w_callN (rn_RX6_85 (As := [.int a1]) hx hb hml hown hB hW hZ hV (k_X2_has l E _ 100 a1 st1 v14 e_15) rfl rfl ⟨(Nat.le_of_ble_eq_true rfl), (Nat.le_of_ble_eq_true rfl)⟩ (w_rec hW (oSt st1).1 ((oSt st1).2 E _ _) rfl) rfl hl.1 rfl (Nat.le_of_ble_eq_true rfl) dX6_act_13 ⟨Nat.le_refl _, Nat.le_refl _⟩) hV (fun H locs hn_v14 hW hV => ?_)
  refine lv_if_eq (tgt := 31) hx hb dX6_act_16 (by decide) (fun y16 => ?_) (fun y16 => ?_)
  · have hf := op_t y16 hf
    refine lv_iconst (v := (0 : Int32)) hx hb dX6_act_31 (by decide) ?_
    exact w_retI hx hb hr hlocks hW hV (Prod.mk.inj (Option.some.inj hf)).1 (Prod.mk.inj (Option.some.inj hf)).2 dX6_act_32
  · have hf := op_f y16 hf
    refine lv_iload_n hx hb dX6_act_19 rfl (lv_at hl 2 rfl) ?_
    refine lv_i2l hx hb dX6_act_20 rfl ?_
    refine lv_lconst (v := (0 : Int64)) hx hb dX6_act_21 (by decide) ?_
    refine lv_ldc2 (v := (2 : Int64)) hx hb hown (hB _ q_abd799f0) dX6_act_22 ?_
    obtain ⟨v17, e_18, hf⟩ := op_none hf
    refine w_callN (rn_RX6_62 (As := [.long a2.toInt64, .long (0 : Int64), .long (2 : Int64)]) hx hb hml hown hB hW hZ hV (k_X6_within l E _ a2.toInt64 (0 : Int64) (2 : Int64) v17 e_18) rfl rfl ⟨(Nat.le_of_ble_eq_true rfl), (Nat.le_of_ble_eq_true rfl)⟩ rfl hl.1 rfl (Nat.le_of_ble_eq_true rfl) dX6_act_25 ⟨Nat.le_refl _, Nat.le_refl _⟩) hV (fun H locs hn_v17 hW hV => ?_)
    refine lv_if_ne (tgt := 33) hx hb dX6_act_28 (by decide) (fun y19 => ?_) (fun y19 => ?_)
    · have hf := op_f y19 hf
      refine lv_aload_n hx hb dX6_act_33 rfl (lv_at hl 0 rfl) ?_
      refine gf_RX6_48 hx hb hB hown hW dX6_act_34 ?_
      refine lv_aload_n hx hb dX6_act_37 rfl (lv_at hl 0 rfl) ?_
      refine gf_RX6_12 hx hb hB hown hW dX6_act_38 ?_
      refine gf_RX6_75 hx hb hB hown hW st1 dX6_act_41 ?_
      refine lv_iload_n hx hb dX6_act_44 rfl (lv_at hl 1 rfl) ?_
      obtain ⟨j20, e_j20, hf⟩ := op_none hf
      refine w_aald (j := 4) hx hb hW (rSt st1).1 ((rSt st1).2 E _ _) rfl rfl e_j20 dX6_act_45 ?_
      refine lv_iload_n hx hb dX6_act_46 rfl (lv_at hl 1 rfl) ?_
      refine lv_iload_n hx hb dX6_act_47 rfl (lv_at hl 2 rfl) ?_
      refine lv_iload_n hx hb dX6_act_48 rfl (lv_at hl 3 rfl) ?_
      obtain ⟨p24, e_23, hf⟩ := op_none hf
      refine w_callI (rn_RX6_232 (As := [.ref (ead E (100 + 1 + 1 + j20)), .int a1, .int a2, .int a3]) hx hb hml hown hB hW hZ hV (k_X0_perform l E _ (100 + 1 + 1 + j20) a1 a2 a3 (iEg st1 (aix_lt e_j20)) p24.1 p24.2 e_23) rfl rfl ⟨(Nat.le_of_ble_eq_true rfl), (Nat.le_of_ble_eq_true rfl)⟩ (w_rec hW oAc.1 (oAc.2 E _ _) rfl) rfl hl.1 rfl (Nat.le_of_ble_eq_true rfl) dX6_act_49 ⟨Nat.le_refl _, Nat.le_refl _⟩) hV (fun H locs hW hV => ?_)
      exact w_retI hx hb hr hlocks hW hV (Prod.mk.inj (Option.some.inj hf)).1 (Prod.mk.inj (Option.some.inj hf)).2 dX6_act_52
    · have hf := op_t y19 hf
      refine lv_iconst (v := (0 : Int32)) hx hb dX6_act_31 (by decide) ?_
      exact w_retI hx hb hr hlocks hW hV (Prod.mk.inj (Option.some.inj hf)).1 (Prod.mk.inj (Option.some.inj hf)).2 dX6_act_32
set_option maxHeartbeats 8000000 in
set_option maxRecDepth 100000 in
theorem k_X6_trace (l : Launch) (E : WE) (μ : Mem) (a1 : Int32) (r : Int32) (hf : f_X6_trace μ a1 = some r) : Met l yX6_trace (.code yX6_trace cX6_trace 2 (some .int) :: BIG) ({ frames := 1, cells := 0, slots := 0, locals := 40 }) (PW E μ [.ref (ead E 1), .int a1]) (QI E r μ) 0 0 (eA E) := by
  refine Met.ofW (cc := cX6_trace) (maxL := 2) (ret := (some .int)) (by decide) rfl ?_
  intro p e s m args below meth c s₁ B hml hv
  obtain ⟨rfl, hW, hZ⟩ := hv
  have hx := B.exec
  have hb := B.bytes
  have hr := B.returns
  have hB : ∀ w ∈ BIG, w.before _ s = true := fun w h => atoms_spec (ws := (.code yX6_trace cX6_trace 2 (some .int) :: BIG)) B.pre w (List.mem_cons_of_mem _ h)
  have hown : s.vm.findClass RX6 = some m.cls := findClass_of_methodNamed B.named
  have hlocks := B.notSynchronized
  have hV : va_S (eA E) s.heap s.heap [] := va_S.rf
  have hl := lv_entry ([.ref (ead E 1), .int a1]) (n := 2) (Nat.le_of_ble_eq_true rfl)
  rw [lg_entry_eq]
  generalize (lg_sl ([.ref (ead E 1), .int a1]) ++ List.replicate (2 - (lg_sl ([.ref (ead E 1), .int a1])).length) Slot.unset).toArray = ls at hl ⊢
  have hl : lv_has ls 2 [(0, .ref (ead E 1)), (1, .int a1)] := hl
  obtain ⟨H, hH⟩ : ∃ H : Heap, H = s.heap := ⟨_, rfl⟩
  obtain ⟨locs, hlocs⟩ : ∃ locs : List Loc, locs = [] := ⟨_, rfl⟩
  rw [show (W p l e (headSpec (.code yX6_trace cX6_trace 2 (some .int) :: BIG) ({ frames := 1, cells := 0, slots := 0, locals := 40 })).room s m ([.ref (ead E 1), .int a1] : List Value).toArray below meth c s.heap [] 0 0) = W p l e (headSpec (.code yX6_trace cX6_trace 2 (some .int) :: BIG) ({ frames := 1, cells := 0, slots := 0, locals := 40 })).room s m ([.ref (ead E 1), .int a1] : List Value).toArray below meth c H locs 0 0 by rw [hH, hlocs]]
  have hV : va_S (eA E) s.heap H locs := by rw [hH, hlocs]; exact hV
  have hW : Wd E μ s H := by rw [hH]; exact hW
  unfold f_X6_trace at hf
  refine lv_iload_n hx hb dX6_trace_0 rfl (lv_at hl 1 rfl) ?_
  refine lv_i2l hx hb dX6_trace_1 rfl ?_
  refine lv_lconst (v := (0 : Int64)) hx hb dX6_trace_2 (by decide) ?_
  refine lv_aload_n hx hb dX6_trace_3 rfl (lv_at hl 0 rfl) ?_
  refine gf_RX6_48 hx hb hB hown hW dX6_trace_4 ?_
  refine gf_RX6_229 hx hb hB hown hW dX6_trace_7 ?_
  refine lv_bipush (v := (20 : Int32)) hx hb dX6_trace_10 (by decide) ?_
  refine va_mmin hx hb (hml.trans hl.1.symm) hown (hB _ q_e56dddf2) (hB _ q_6443835c) (hB _ q_544deca7) (hB _ q_4cca8523) (Nat.le_of_ble_eq_true rfl) (Nat.le_of_ble_eq_true rfl) (Nat.le_of_ble_eq_true rfl) (Nat.le_of_ble_eq_true rfl) dX6_trace_12 ?_
  refine lv_iconst (v := (1 : Int32)) hx hb dX6_trace_15 (by decide) ?_
  refine lv_isub hx hb dX6_trace_16 ?_
  refine lv_i2l hx hb dX6_trace_17 rfl ?_
  obtain ⟨v5, e_6, hf⟩ := op_none hf
  refine w_callN (rn_RX6_62 (As := [.long a1.toInt64, .long (0 : Int64), .long (((if (20 : Int32) < (gI μ 5 1) then (20 : Int32) else (gI μ 5 1)) - (1 : Int32)).toInt64)]) hx hb hml hown hB hW hZ hV (k_X6_within l E _ a1.toInt64 (0 : Int64) (((if (20 : Int32) < (gI μ 5 1) then (20 : Int32) else (gI μ 5 1)) - (1 : Int32)).toInt64) v5 e_6) rfl rfl ⟨(Nat.le_of_ble_eq_true rfl), (Nat.le_of_ble_eq_true rfl)⟩ rfl hl.1 rfl (Nat.le_of_ble_eq_true rfl) dX6_trace_18 ⟨Nat.le_refl _, Nat.le_refl _⟩) hV (fun H locs hn_v5 hW hV => ?_)
  refine lv_if_eq (tgt := 36) hx hb dX6_trace_21 (by decide) (fun y7 => ?_) (fun y7 => ?_)
  · have hf := op_t y7 hf
    refine lv_iconst (v := (-1 : Int32)) hx hb dX6_trace_36 (by decide) ?_
    exact w_retI hx hb hr hlocks hW hV (Option.some.inj hf) rfl dX6_trace_37
  · have hf := op_f y7 hf
    refine lv_aload_n hx hb dX6_trace_24 rfl (lv_at hl 0 rfl) ?_
    refine gf_RX6_48 hx hb hB hown hW dX6_trace_25 ?_
    refine gf_RX6_242 hx hb hB hown hW dX6_trace_28 ?_
    refine lv_iload_n hx hb dX6_trace_31 rfl (lv_at hl 1 rfl) ?_
    obtain ⟨v8, e_v8, hf⟩ := op_none hf
    refine w_iald hx hb hW i6.1 (i6.2 E _ _) e_v8 dX6_trace_32 ?_
    refine lv_goto (tgt := 37) hx hb dX6_trace_33 (by decide) ?_
    exact w_retI hx hb hr hlocks hW hV (Option.some.inj hf) rfl dX6_trace_37
set_option maxHeartbeats 8000000 in
set_option maxRecDepth 100000 in
theorem k_X6_isUnder (l : Launch) (E : WE) (μ : Mem) (a0 : Int32) (a1 : Int32) (r : Int32) (hf : f_X6_isUnder μ a0 a1 = some r) : Met l yX6_isUnder (.code yX6_isUnder cX6_isUnder 4 (some .boolean) :: BIG) ({ frames := 0, cells := 0, slots := 0, locals := 0 }) (PW E μ [.int a0, .int a1]) (QN E .boolean r μ) 0 0 (eA E) := by
  refine Met.ofW (cc := cX6_isUnder) (maxL := 4) (ret := (some .boolean)) (by decide) rfl ?_
  intro p e s m args below meth c s₁ B hml hv
  obtain ⟨rfl, hW, hZ⟩ := hv
  have hx := B.exec
  have hb := B.bytes
  have hr := B.returns
  have hB : ∀ w ∈ BIG, w.before _ s = true := fun w h => atoms_spec (ws := (.code yX6_isUnder cX6_isUnder 4 (some .boolean) :: BIG)) B.pre w (List.mem_cons_of_mem _ h)
  have hown : s.vm.findClass RX6 = some m.cls := findClass_of_methodNamed B.named
  have hlocks := B.notSynchronized
  have hV : va_S (eA E) s.heap s.heap [] := va_S.rf
  have hl := lv_entry ([.int a0, .int a1]) (n := 4) (Nat.le_of_ble_eq_true rfl)
  rw [lg_entry_eq]
  generalize (lg_sl ([.int a0, .int a1]) ++ List.replicate (4 - (lg_sl ([.int a0, .int a1])).length) Slot.unset).toArray = ls at hl ⊢
  have hl : lv_has ls 4 [(0, .int a0), (1, .int a1)] := hl
  have c_4 : ∀ (n_4 : Nat) (b1_4 : Int32) (b2_4 : Int32) (b3_4 : Int32) , f_X6_isUnder_4 μ n_4 b1_4 b2_4 b3_4 = some r → ∀ (H : Heap) (locs : List Loc) (ls : Array Slot), Wd E μ s H → va_S (eA E) s.heap H locs → lv_has ls 4 [(1, .int b1_4), (2, .int b2_4), (3, .int b3_4)] → W p l e (headSpec (.code yX6_isUnder cX6_isUnder 4 (some .boolean) :: BIG) ({ frames := 0, cells := 0, slots := 0, locals := 0 })).room s m ([.int a0, .int a1] : List Value).toArray below meth c H locs 0 0 (MQ below (QN E .boolean r μ) ([.int a0, .int a1] : List Value).toArray s 0 0 (eA E)) (F0 m 4 ls []) := by
    intro n_4
    induction n_4 with
    | zero =>
      intro b1_4 b2_4 b3_4 hf H locs ls hW hV hl
      cases hf
    | succ n_4 ih_4 =>
      intro b1_4 b2_4 b3_4 hf H locs ls hW hV hl
      rw [f_X6_isUnder_4] at hf
      refine lv_iload_n hx hb dX6_isUnder_4 rfl (lv_at hl 2 rfl) ?_
      refine w_getsA hx hb hB hown hZ hV q_670d25a6 dX6_isUnder_5 ?_
      refine va_tlen hx hb hZ.1.2 hV rfl dX6_isUnder_8 ?_
      refine lv_icmp_ge (tgt := 35) hx hb dX6_isUnder_9 (by decide) (fun y6 => ?_) (fun y6 => ?_)
      · have hf := op_t y6 hf
        refine lv_iconst (v := (0 : Int32)) hx hb dX6_isUnder_35 (by decide) ?_
        exact w_retN hx hb hr hlocks hW hV (by decide) (Option.some.inj hf) rfl dX6_isUnder_36
      · have hf := op_f y6 hf
        refine lv_iload_n hx hb dX6_isUnder_12 rfl (lv_at hl 1 rfl) ?_
        refine lv_if_lt (tgt := 35) hx hb dX6_isUnder_13 (by decide) (fun y7 => ?_) (fun y7 => ?_)
        · have hf := op_t y7 hf
          refine lv_iconst (v := (0 : Int32)) hx hb dX6_isUnder_35 (by decide) ?_
          exact w_retN hx hb hr hlocks hW hV (by decide) (Option.some.inj hf) rfl dX6_isUnder_36
        · have hf := op_f y7 hf
          refine lv_iload_n hx hb dX6_isUnder_16 rfl (lv_at hl 1 rfl) ?_
          refine lv_iload_n hx hb dX6_isUnder_17 rfl (lv_at hl 0 rfl) ?_
          refine lv_icmp_ne (tgt := 23) hx hb dX6_isUnder_18 (by decide) (fun y8 => ?_) (fun y8 => ?_)
          · have hf := op_f y8 hf
            refine w_getsA hx hb hB hown hZ hV q_670d25a6 dX6_isUnder_23 ?_
            refine lv_iload_n hx hb dX6_isUnder_26 rfl (lv_at hl 1 rfl) ?_
            obtain ⟨v9, e_v9, hf⟩ := op_none hf
            refine w_taA hx hb hZ hV e_v9 dX6_isUnder_27 ?_
            refine lv_istore_n (i := 2) (lv' := [(2, .int v9), (1, .int b1_4), (3, .int b3_4)]) hx hb dX6_isUnder_28 rfl hl (by decide) rfl (fun ls hl => ?_)
            obtain ⟨v10, e_v10, hf⟩ := op_none hf
            refine lv_iinc (v := v10) (lv' := [(3, .int v10), (2, .int v9), (1, .int b1_4)]) hx hb dX6_isUnder_29 hl (k := 2) rfl (by rw [← Option.some.inj e_v10]; rfl) (by decide) rfl (fun ls hl => ?_)
            refine lv_goto (tgt := 4) hx hb dX6_isUnder_32 (by decide) ?_
            exact ih_4 b1_4 v9 v10 hf H locs ls hW hV (lv_sub hl [2, 1, 0] rfl)
          · have hf := op_t y8 hf
            refine lv_iconst (v := (1 : Int32)) hx hb dX6_isUnder_21 (by decide) ?_
            exact w_retN hx hb hr hlocks hW hV (by decide) (Option.some.inj hf) rfl dX6_isUnder_22
  obtain ⟨H, hH⟩ : ∃ H : Heap, H = s.heap := ⟨_, rfl⟩
  obtain ⟨locs, hlocs⟩ : ∃ locs : List Loc, locs = [] := ⟨_, rfl⟩
  rw [show (W p l e (headSpec (.code yX6_isUnder cX6_isUnder 4 (some .boolean) :: BIG) ({ frames := 0, cells := 0, slots := 0, locals := 0 })).room s m ([.int a0, .int a1] : List Value).toArray below meth c s.heap [] 0 0) = W p l e (headSpec (.code yX6_isUnder cX6_isUnder 4 (some .boolean) :: BIG) ({ frames := 0, cells := 0, slots := 0, locals := 0 })).room s m ([.int a0, .int a1] : List Value).toArray below meth c H locs 0 0 by rw [hH, hlocs]]
  have hV : va_S (eA E) s.heap H locs := by rw [hH, hlocs]; exact hV
  have hW : Wd E μ s H := by rw [hH]; exact hW
  unfold f_X6_isUnder at hf
  refine lv_iload_n hx hb dX6_isUnder_0 rfl (lv_at hl 0 rfl) ?_
  refine lv_istore_n (i := 2) (lv' := [(2, .int a0), (0, .int a0), (1, .int a1)]) hx hb dX6_isUnder_1 rfl hl (by decide) rfl (fun ls hl => ?_)
  refine lv_iconst (v := (0 : Int32)) hx hb dX6_isUnder_2 (by decide) ?_
  refine lv_istore_n (i := 3) (lv' := [(3, .int (0 : Int32)), (2, .int a0), (0, .int a0), (1, .int a1)]) hx hb dX6_isUnder_3 rfl hl (by decide) rfl (fun ls hl => ?_)
  exact c_4 FU a1 a0 (0 : Int32) hf H locs ls hW hV (lv_sub hl [3, 1, 0] rfl)
set_option maxHeartbeats 8000000 in
set_option maxRecDepth 100000 in
theorem k_X6_taken (l : Launch) (E : WE) (μ : Mem) (a1 : Int32) (a2 : Int32) (r : Int32) (hf : f_X6_taken μ a1 a2 = some r) : Met l yX6_taken (.code yX6_taken cX6_taken 4 (some .int) :: BIG) ({ frames := 1, cells := 0, slots := 0, locals := 25 }) (PW E μ [.ref (ead E 1), .int a1, .int a2]) (QI E r μ) 0 0 (eA E) := by
  refine Met.ofW (cc := cX6_taken) (maxL := 4) (ret := (some .int)) (by decide) rfl ?_
  intro p e s m args below meth c s₁ B hml hv
  obtain ⟨rfl, hW, hZ⟩ := hv
  have hx := B.exec
  have hb := B.bytes
  have hr := B.returns
  have hB : ∀ w ∈ BIG, w.before _ s = true := fun w h => atoms_spec (ws := (.code yX6_taken cX6_taken 4 (some .int) :: BIG)) B.pre w (List.mem_cons_of_mem _ h)
  have hown : s.vm.findClass RX6 = some m.cls := findClass_of_methodNamed B.named
  have hlocks := B.notSynchronized
  have hV : va_S (eA E) s.heap s.heap [] := va_S.rf
  have hl := lv_entry ([.ref (ead E 1), .int a1, .int a2]) (n := 4) (Nat.le_of_ble_eq_true rfl)
  rw [lg_entry_eq]
  generalize (lg_sl ([.ref (ead E 1), .int a1, .int a2]) ++ List.replicate (4 - (lg_sl ([.ref (ead E 1), .int a1, .int a2])).length) Slot.unset).toArray = ls at hl ⊢
  have hl : lv_has ls 4 [(0, .ref (ead E 1)), (1, .int a1), (2, .int a2)] := hl
  obtain ⟨H, hH⟩ : ∃ H : Heap, H = s.heap := ⟨_, rfl⟩
  obtain ⟨locs, hlocs⟩ : ∃ locs : List Loc, locs = [] := ⟨_, rfl⟩
  rw [show (W p l e (headSpec (.code yX6_taken cX6_taken 4 (some .int) :: BIG) ({ frames := 1, cells := 0, slots := 0, locals := 25 })).room s m ([.ref (ead E 1), .int a1, .int a2] : List Value).toArray below meth c s.heap [] 0 0) = W p l e (headSpec (.code yX6_taken cX6_taken 4 (some .int) :: BIG) ({ frames := 1, cells := 0, slots := 0, locals := 25 })).room s m ([.ref (ead E 1), .int a1, .int a2] : List Value).toArray below meth c H locs 0 0 by rw [hH, hlocs]]
  have hV : va_S (eA E) s.heap H locs := by rw [hH, hlocs]; exact hV
  have hW : Wd E μ s H := by rw [hH]; exact hW
  unfold f_X6_taken at hf
  refine lv_iload_n hx hb dX6_taken_0 rfl (lv_at hl 2 rfl) ?_
  refine lv_i2l hx hb dX6_taken_1 rfl ?_
  refine lv_lconst (v := (0 : Int64)) hx hb dX6_taken_2 (by decide) ?_
  refine lv_ldc2 (v := (6 : Int64)) hx hb hown (hB _ q_35312f71) dX6_taken_3 ?_
  obtain ⟨v12, e_13, hf⟩ := op_none hf
  refine w_callN (rn_RX6_62 (As := [.long a2.toInt64, .long (0 : Int64), .long (6 : Int64)]) hx hb hml hown hB hW hZ hV (k_X6_within l E _ a2.toInt64 (0 : Int64) (6 : Int64) v12 e_13) rfl rfl ⟨(Nat.le_of_ble_eq_true rfl), (Nat.le_of_ble_eq_true rfl)⟩ rfl hl.1 rfl (Nat.le_of_ble_eq_true rfl) dX6_taken_6 ⟨Nat.le_refl _, Nat.le_refl _⟩) hV (fun H locs hn_v12 hW hV => ?_)
  refine lv_if_ne (tgt := 15) hx hb dX6_taken_9 (by decide) (fun y14 => ?_) (fun y14 => ?_)
  · have hf := op_f y14 hf
    refine lv_aload_n hx hb dX6_taken_15 rfl (lv_at hl 0 rfl) ?_
    refine gf_RX6_12 hx hb hB hown hW dX6_taken_16 ?_
    refine lv_iload_n hx hb dX6_taken_19 rfl (lv_at hl 1 rfl) ?_
    obtain ⟨v15, e_16, hf⟩ := op_none hf
    refine w_callN (rn_RX6_85 (As := [.int a1]) hx hb hml hown hB hW hZ hV (k_X2_has l E _ 100 a1 st1 v15 e_16) rfl rfl ⟨(Nat.le_of_ble_eq_true rfl), (Nat.le_of_ble_eq_true rfl)⟩ (w_rec hW (oSt st1).1 ((oSt st1).2 E _ _) rfl) rfl hl.1 rfl (Nat.le_of_ble_eq_true rfl) dX6_taken_20 ⟨Nat.le_refl _, Nat.le_refl _⟩) hV (fun H locs hn_v15 hW hV => ?_)
    refine lv_if_ne (tgt := 29) hx hb dX6_taken_23 (by decide) (fun y17 => ?_) (fun y17 => ?_)
    · have hf := op_f y17 hf
      refine lv_aload_n hx hb dX6_taken_29 rfl (lv_at hl 0 rfl) ?_
      refine gf_RX6_12 hx hb hB hown hW dX6_taken_30 ?_
      refine gf_RX6_75 hx hb hB hown hW st1 dX6_taken_33 ?_
      refine lv_iload_n hx hb dX6_taken_36 rfl (lv_at hl 1 rfl) ?_
      obtain ⟨j18, e_j18, hf⟩ := op_none hf
      refine w_aald (j := 4) hx hb hW (rSt st1).1 ((rSt st1).2 E _ _) rfl rfl e_j18 dX6_taken_37 ?_
      refine lv_iconst (v := (0 : Int32)) hx hb dX6_taken_38 (by decide) ?_
      obtain ⟨v19, e_v19, hf⟩ := op_none hf
      refine w_iald hx hb hW (iEg st1 (aix_lt e_j18)).1 ((iEg st1 (aix_lt e_j18)).2 E _ _) e_v19 dX6_taken_39 ?_
      refine lv_istore_n (i := 3) (lv' := [(3, .int v19), (0, .ref (ead E 1)), (1, .int a1), (2, .int a2)]) hx hb dX6_taken_40 rfl hl (by decide) rfl (fun ls hl => ?_)
      refine lv_iload_n hx hb dX6_taken_41 rfl (lv_at hl 0 rfl) ?_
      refine lv_iload_n hx hb dX6_taken_42 rfl (lv_at hl 3 rfl) ?_
      obtain ⟨v20, e_21, hf⟩ := op_none hf
      refine w_callN (rn_RX6_246 (As := [.int v19, .int a2]) hx hb hml hown hB hW hZ hV (k_X6_isUnder l E _ v19 a2 v20 e_21) rfl rfl ⟨(Nat.le_of_ble_eq_true rfl), (Nat.le_of_ble_eq_true rfl)⟩ rfl hl.1 rfl (Nat.le_of_ble_eq_true rfl) dX6_taken_43 ⟨Nat.le_refl _, Nat.le_refl _⟩) hV (fun H locs hn_v20 hW hV => ?_)
      refine lv_if_eq (tgt := 53) hx hb dX6_taken_46 (by decide) (fun y22 => ?_) (fun y22 => ?_)
      · have hf := op_t y22 hf
        refine lv_bipush (v := (-12 : Int32)) hx hb dX6_taken_53 (by decide) ?_
        exact w_retI hx hb hr hlocks hW hV (Option.some.inj hf) rfl dX6_taken_55
      · have hf := op_f y22 hf
        refine lv_iload_n hx hb dX6_taken_49 rfl (lv_at hl 0 rfl) ?_
        refine lv_goto (tgt := 55) hx hb dX6_taken_50 (by decide) ?_
        exact w_retI hx hb hr hlocks hW hV (Option.some.inj hf) rfl dX6_taken_55
    · have hf := op_t y17 hf
      refine lv_bipush (v := (-11 : Int32)) hx hb dX6_taken_26 (by decide) ?_
      exact w_retI hx hb hr hlocks hW hV (Option.some.inj hf) rfl dX6_taken_28
  · have hf := op_t y14 hf
    refine lv_bipush (v := (-2 : Int32)) hx hb dX6_taken_12 (by decide) ?_
    exact w_retI hx hb hr hlocks hW hV (Option.some.inj hf) rfl dX6_taken_14
set_option maxHeartbeats 8000000 in
set_option maxRecDepth 100000 in
theorem k_X6_count (l : Launch) (E : WE) (μ : Mem) (a1 : Int32) (r : Int32) (hf : f_X6_count μ a1 = some r) : Met l yX6_count (.code yX6_count cX6_count 2 (some .int) :: BIG) ({ frames := 0, cells := 0, slots := 0, locals := 0 }) (PW E μ [.ref (ead E 1), .int a1]) (QI E r μ) 0 0 (eA E) := by
  refine Met.ofW (cc := cX6_count) (maxL := 2) (ret := (some .int)) (by decide) rfl ?_
  intro p e s m args below meth c s₁ B hml hv
  obtain ⟨rfl, hW, hZ⟩ := hv
  have hx := B.exec
  have hb := B.bytes
  have hr := B.returns
  have hB : ∀ w ∈ BIG, w.before _ s = true := fun w h => atoms_spec (ws := (.code yX6_count cX6_count 2 (some .int) :: BIG)) B.pre w (List.mem_cons_of_mem _ h)
  have hown : s.vm.findClass RX6 = some m.cls := findClass_of_methodNamed B.named
  have hlocks := B.notSynchronized
  have hV : va_S (eA E) s.heap s.heap [] := va_S.rf
  have hl := lv_entry ([.ref (ead E 1), .int a1]) (n := 2) (Nat.le_of_ble_eq_true rfl)
  rw [lg_entry_eq]
  generalize (lg_sl ([.ref (ead E 1), .int a1]) ++ List.replicate (2 - (lg_sl ([.ref (ead E 1), .int a1])).length) Slot.unset).toArray = ls at hl ⊢
  have hl : lv_has ls 2 [(0, .ref (ead E 1)), (1, .int a1)] := hl
  obtain ⟨H, hH⟩ : ∃ H : Heap, H = s.heap := ⟨_, rfl⟩
  obtain ⟨locs, hlocs⟩ : ∃ locs : List Loc, locs = [] := ⟨_, rfl⟩
  rw [show (W p l e (headSpec (.code yX6_count cX6_count 2 (some .int) :: BIG) ({ frames := 0, cells := 0, slots := 0, locals := 0 })).room s m ([.ref (ead E 1), .int a1] : List Value).toArray below meth c s.heap [] 0 0) = W p l e (headSpec (.code yX6_count cX6_count 2 (some .int) :: BIG) ({ frames := 0, cells := 0, slots := 0, locals := 0 })).room s m ([.ref (ead E 1), .int a1] : List Value).toArray below meth c H locs 0 0 by rw [hH, hlocs]]
  have hV : va_S (eA E) s.heap H locs := by rw [hH, hlocs]; exact hV
  have hW : Wd E μ s H := by rw [hH]; exact hW
  unfold f_X6_count at hf
  refine lv_iload_n hx hb dX6_count_0 rfl (lv_at hl 1 rfl) ?_
  by_cases y8 : a1 = (0 : Int32)
  · have hf := op_t y8 hf
    refine lv_tableIn (tgt := 44) (off := 43) hx hb dX6_count_1 (by rw [y8]; decide) (by rw [y8]; decide) (by rw [y8]; rfl) (by decide) ?_
    refine lv_aload_n hx hb dX6_count_44 rfl (lv_at hl 0 rfl) ?_
    refine gf_RX6_12 hx hb hB hown hW dX6_count_45 ?_
    refine gf_RX6_72 hx hb hB hown hW st1 dX6_count_48 ?_
    exact w_retI hx hb hr hlocks hW hV (Option.some.inj hf) rfl dX6_count_51
  have hf := op_f y8 hf
  by_cases y9 : a1 = (1 : Int32)
  · have hf := op_t y9 hf
    refine lv_tableIn (tgt := 52) (off := 51) hx hb dX6_count_1 (by rw [y9]; decide) (by rw [y9]; decide) (by rw [y9]; rfl) (by decide) ?_
    refine lv_aload_n hx hb dX6_count_52 rfl (lv_at hl 0 rfl) ?_
    refine gf_RX6_41 hx hb hB hown hW dX6_count_53 ?_
    exact w_retI hx hb hr hlocks hW hV (Option.some.inj hf) rfl dX6_count_56
  have hf := op_f y9 hf
  by_cases y10 : a1 = (2 : Int32)
  · have hf := op_t y10 hf
    refine lv_tableIn (tgt := 57) (off := 56) hx hb dX6_count_1 (by rw [y10]; decide) (by rw [y10]; decide) (by rw [y10]; rfl) (by decide) ?_
    refine lv_aload_n hx hb dX6_count_57 rfl (lv_at hl 0 rfl) ?_
    refine gf_RX6_12 hx hb hB hown hW dX6_count_58 ?_
    refine gf_RX6_169 hx hb hB hown hW st1 dX6_count_61 ?_
    refine gf_RX6_202 hx hb hB hown hW (rwH st1) dX6_count_64 ?_
    exact w_retI hx hb hr hlocks hW hV (Option.some.inj hf) rfl dX6_count_67
  have hf := op_f y10 hf
  by_cases y11 : a1 = (3 : Int32)
  · have hf := op_t y11 hf
    refine lv_tableIn (tgt := 68) (off := 67) hx hb dX6_count_1 (by rw [y11]; decide) (by rw [y11]; decide) (by rw [y11]; rfl) (by decide) ?_
    refine lv_aload_n hx hb dX6_count_68 rfl (lv_at hl 0 rfl) ?_
    refine gf_RX6_12 hx hb hB hown hW dX6_count_69 ?_
    refine gf_RX6_196 hx hb hB hown hW st1 dX6_count_72 ?_
    refine gf_RX6_202 hx hb hB hown hW (rwP st1) dX6_count_75 ?_
    exact w_retI hx hb hr hlocks hW hV (Option.some.inj hf) rfl dX6_count_78
  have hf := op_f y11 hf
  by_cases y12 : a1 = (4 : Int32)
  · have hf := op_t y12 hf
    refine lv_tableIn (tgt := 79) (off := 78) hx hb dX6_count_1 (by rw [y12]; decide) (by rw [y12]; decide) (by rw [y12]; rfl) (by decide) ?_
    refine lv_aload_n hx hb dX6_count_79 rfl (lv_at hl 0 rfl) ?_
    refine gf_RX6_12 hx hb hB hown hW dX6_count_80 ?_
    refine gf_RX6_212 hx hb hB hown hW st1 dX6_count_83 ?_
    refine gf_RX6_202 hx hb hB hown hW (rwB st1) dX6_count_86 ?_
    exact w_retI hx hb hr hlocks hW hV (Option.some.inj hf) rfl dX6_count_89
  have hf := op_f y12 hf
  by_cases y13 : a1 = (5 : Int32)
  · have hf := op_t y13 hf
    refine lv_tableIn (tgt := 90) (off := 89) hx hb dX6_count_1 (by rw [y13]; decide) (by rw [y13]; decide) (by rw [y13]; rfl) (by decide) ?_
    refine lv_aload_n hx hb dX6_count_90 rfl (lv_at hl 0 rfl) ?_
    refine gf_RX6_31 hx hb hB hown hW dX6_count_91 ?_
    refine gf_RX6_250 hx hb hB hown hW dX6_count_94 ?_
    exact w_retI hx hb hr hlocks hW hV (Option.some.inj hf) rfl dX6_count_97
  have hf := op_f y13 hf
  by_cases y14 : a1 = (6 : Int32)
  · have hf := op_t y14 hf
    refine lv_tableIn (tgt := 98) (off := 97) hx hb dX6_count_1 (by rw [y14]; decide) (by rw [y14]; decide) (by rw [y14]; rfl) (by decide) ?_
    refine lv_aload_n hx hb dX6_count_98 rfl (lv_at hl 0 rfl) ?_
    refine gf_RX6_48 hx hb hB hown hW dX6_count_99 ?_
    refine gf_RX6_229 hx hb hB hown hW dX6_count_102 ?_
    exact w_retI hx hb hr hlocks hW hV (Option.some.inj hf) rfl dX6_count_105
  have hf := op_f y14 hf
  refine lv_tableOut (tgt := 106) hx hb dX6_count_1 (by have a_y8 := lv_neT (a := 0) y8 (by decide); have a_y9 := lv_neT (a := 1) y9 (by decide); have a_y10 := lv_neT (a := 2) y10 (by decide); have a_y11 := lv_neT (a := 3) y11 (by decide); have a_y12 := lv_neT (a := 4) y12 (by decide); have a_y13 := lv_neT (a := 5) y13 (by decide); have a_y14 := lv_neT (a := 6) y14 (by decide); omega) (by decide) ?_
  refine lv_bipush (v := (-2 : Int32)) hx hb dX6_count_106 (by decide) ?_
  exact w_retI hx hb hr hlocks hW hV (Option.some.inj hf) rfl dX6_count_108
set_option maxHeartbeats 8000000 in
set_option maxRecDepth 100000 in
theorem k_J7_fill_d0a16 (l : Launch) (E : WE) (μ : Mem) (k0 : Nat) (a1 : Int64) (h0 : isJ k0 60) (μ' : Mem) (hf : f_J7_fill_d0a16 μ k0 a1 = some μ') : Met l yJ7_fill_d0a16 (.code yJ7_fill_d0a16 cJ7_fill_d0a16 5 none :: BIG) ({ frames := 0, cells := 0, slots := 0, locals := 0 }) (PW E μ [.ref (ead E k0), .long a1]) (QV E μ') 0 0 (eA E) := by
  refine Met.ofW (cc := cJ7_fill_d0a16) (maxL := 5) (ret := none) (by decide) rfl ?_
  intro p e s m args below meth c s₁ B hml hv
  obtain ⟨rfl, hW, hZ⟩ := hv
  have hx := B.exec
  have hb := B.bytes
  have hr := B.returns
  have hB : ∀ w ∈ BIG, w.before _ s = true := fun w h => atoms_spec (ws := (.code yJ7_fill_d0a16 cJ7_fill_d0a16 5 none :: BIG)) B.pre w (List.mem_cons_of_mem _ h)
  have hown : s.vm.findClass RJ7 = some m.cls := findClass_of_methodNamed B.named
  have hlocks := B.notSynchronized
  have hV : va_S (eA E) s.heap s.heap [] := va_S.rf
  have hl := lv_entry ([.ref (ead E k0), .long a1]) (n := 5) (Nat.le_of_ble_eq_true rfl)
  rw [lg_entry_eq]
  generalize (lg_sl ([.ref (ead E k0), .long a1]) ++ List.replicate (5 - (lg_sl ([.ref (ead E k0), .long a1])).length) Slot.unset).toArray = ls at hl ⊢
  have hl : lv_has ls 5 [(0, .ref (ead E k0)), (1, .long a1)] := hl
  have c_6 : ∀ (n_6 : Nat) (μ_6 : Mem) (b1_6 : Int64) (b3_6 : Int32) (b4_6 : Int32) , f_J7_fill_d0a16_6 k0 n_6 μ_6 b1_6 b3_6 b4_6 = some μ' → ∀ (H : Heap) (locs : List Loc) (ls : Array Slot), Wd E μ_6 s H → va_S (eA E) s.heap H locs → lv_has ls 5 [(0, .ref (ead E k0)), (1, .long b1_6), (3, .int b3_6), (4, .int b4_6)] → W p l e (headSpec (.code yJ7_fill_d0a16 cJ7_fill_d0a16 5 none :: BIG) ({ frames := 0, cells := 0, slots := 0, locals := 0 })).room s m ([.ref (ead E k0), .long a1] : List Value).toArray below meth c H locs 0 0 (MQ below (QV E μ') ([.ref (ead E k0), .long a1] : List Value).toArray s 0 0 (eA E)) (F0 m 6 ls []) := by
    intro n_6
    induction n_6 with
    | zero =>
      intro μ_6 b1_6 b3_6 b4_6 hf H locs ls hW hV hl
      cases hf
    | succ n_6 ih_6 =>
      intro μ_6 b1_6 b3_6 b4_6 hf H locs ls hW hV hl
      rw [f_J7_fill_d0a16_6] at hf
      refine lv_iload_n hx hb dJ7_fill_d0a16_6 rfl (lv_at hl 2 rfl) ?_
      refine lv_iload hx hb dJ7_fill_d0a16_7 (lv_at hl 3 rfl) ?_
      refine lv_icmp_ge (tgt := 22) hx hb dJ7_fill_d0a16_9 (by decide) (fun y4 => ?_) (fun y4 => ?_)
      · have hf := op_t y4 hf
        exact w_retV hx hb hr hlocks hW hV (Option.some.inj hf) dJ7_fill_d0a16_22
      · have hf := op_f y4 hf
        refine lv_aload_n hx hb dJ7_fill_d0a16_12 rfl (lv_at hl 0 rfl) ?_
        refine lv_iload_n hx hb dJ7_fill_d0a16_13 rfl (lv_at hl 2 rfl) ?_
        refine lv_lload_n hx hb dJ7_fill_d0a16_14 rfl (lv_at hl 1 rfl) ?_
        obtain ⟨μ5, e_μ5, hf⟩ := op_none hf
        refine w_last hx hb hW hV h0.1 (fun g => h0.2 E _ g) e_μ5 dJ7_fill_d0a16_15 (fun H locs hW hV => ?_)
        obtain ⟨v6, e_v6, hf⟩ := op_none hf
        refine lv_iinc (v := v6) (lv' := [(3, .int v6), (0, .ref (ead E k0)), (1, .long b1_6), (4, .int b4_6)]) hx hb dJ7_fill_d0a16_16 hl (k := 2) rfl (by rw [← Option.some.inj e_v6]; rfl) (by decide) rfl (fun ls hl => ?_)
        refine lv_goto (tgt := 6) hx hb dJ7_fill_d0a16_19 (by decide) ?_
        exact ih_6 μ5 b1_6 v6 b4_6 hf H locs ls hW hV (lv_sub hl [1, 2, 0, 3] rfl)
  obtain ⟨H, hH⟩ : ∃ H : Heap, H = s.heap := ⟨_, rfl⟩
  obtain ⟨locs, hlocs⟩ : ∃ locs : List Loc, locs = [] := ⟨_, rfl⟩
  rw [show (W p l e (headSpec (.code yJ7_fill_d0a16 cJ7_fill_d0a16 5 none :: BIG) ({ frames := 0, cells := 0, slots := 0, locals := 0 })).room s m ([.ref (ead E k0), .long a1] : List Value).toArray below meth c s.heap [] 0 0) = W p l e (headSpec (.code yJ7_fill_d0a16 cJ7_fill_d0a16 5 none :: BIG) ({ frames := 0, cells := 0, slots := 0, locals := 0 })).room s m ([.ref (ead E k0), .long a1] : List Value).toArray below meth c H locs 0 0 by rw [hH, hlocs]]
  have hV : va_S (eA E) s.heap H locs := by rw [hH, hlocs]; exact hV
  have hW : Wd E μ s H := by rw [hH]; exact hW
  unfold f_J7_fill_d0a16 at hf
  refine lv_iconst (v := (0 : Int32)) hx hb dJ7_fill_d0a16_0 (by decide) ?_
  refine lv_istore_n (i := 3) (lv' := [(3, .int (0 : Int32)), (0, .ref (ead E k0)), (1, .long a1)]) hx hb dJ7_fill_d0a16_1 rfl hl (by decide) rfl (fun ls hl => ?_)
  refine lv_aload_n hx hb dJ7_fill_d0a16_2 rfl (lv_at hl 1 rfl) ?_
  refine w_alen (j := 1) (v := (60 : Int32)) hx hb hW h0.1 (h0.2 E _ _) rfl rfl rfl dJ7_fill_d0a16_3 ?_
  refine lv_istore (i := 4) (lv' := [(4, .int (60 : Int32)), (3, .int (0 : Int32)), (0, .ref (ead E k0)), (1, .long a1)]) hx hb dJ7_fill_d0a16_4 hl (by decide) rfl (fun ls hl => ?_)
  exact c_6 FU μ a1 (0 : Int32) (60 : Int32) hf H locs ls hW hV (lv_sub hl [2, 3, 1, 0] rfl)
set_option maxHeartbeats 8000000 in
set_option maxRecDepth 100000 in
theorem k_X4_becomes (l : Launch) (E : WE) (μ : Mem) (k0 : Nat) (a1 : Int32) (a2 : Int32) (h0 : isTp k0) (μ' : Mem) (hf : f_X4_becomes μ k0 a1 a2 = some μ') : Met l yX4_becomes (.code yX4_becomes cX4_becomes 3 none :: BIG) ({ frames := 1, cells := 0, slots := 0, locals := 40 }) (PW E μ [.ref (ead E k0), .int a1, .int a2]) (QV E μ') 0 0 (eA E) := by
  refine Met.ofW (cc := cX4_becomes) (maxL := 3) (ret := none) (by decide) rfl ?_
  intro p e s m args below meth c s₁ B hml hv
  obtain ⟨rfl, hW, hZ⟩ := hv
  have hx := B.exec
  have hb := B.bytes
  have hr := B.returns
  have hB : ∀ w ∈ BIG, w.before _ s = true := fun w h => atoms_spec (ws := (.code yX4_becomes cX4_becomes 3 none :: BIG)) B.pre w (List.mem_cons_of_mem _ h)
  have hown : s.vm.findClass RX4 = some m.cls := findClass_of_methodNamed B.named
  have hlocks := B.notSynchronized
  have hV : va_S (eA E) s.heap s.heap [] := va_S.rf
  have hl := lv_entry ([.ref (ead E k0), .int a1, .int a2]) (n := 3) (Nat.le_of_ble_eq_true rfl)
  rw [lg_entry_eq]
  generalize (lg_sl ([.ref (ead E k0), .int a1, .int a2]) ++ List.replicate (3 - (lg_sl ([.ref (ead E k0), .int a1, .int a2])).length) Slot.unset).toArray = ls at hl ⊢
  have hl : lv_has ls 3 [(0, .ref (ead E k0)), (1, .int a1), (2, .int a2)] := hl
  obtain ⟨H, hH⟩ : ∃ H : Heap, H = s.heap := ⟨_, rfl⟩
  obtain ⟨locs, hlocs⟩ : ∃ locs : List Loc, locs = [] := ⟨_, rfl⟩
  rw [show (W p l e (headSpec (.code yX4_becomes cX4_becomes 3 none :: BIG) ({ frames := 1, cells := 0, slots := 0, locals := 40 })).room s m ([.ref (ead E k0), .int a1, .int a2] : List Value).toArray below meth c s.heap [] 0 0) = W p l e (headSpec (.code yX4_becomes cX4_becomes 3 none :: BIG) ({ frames := 1, cells := 0, slots := 0, locals := 40 })).room s m ([.ref (ead E k0), .int a1, .int a2] : List Value).toArray below meth c H locs 0 0 by rw [hH, hlocs]]
  have hV : va_S (eA E) s.heap H locs := by rw [hH, hlocs]; exact hV
  have hW : Wd E μ s H := by rw [hH]; exact hW
  unfold f_X4_becomes at hf
  refine lv_aload_n hx hb dX4_becomes_0 rfl (lv_at hl 0 rfl) ?_
  refine lv_iload_n hx hb dX4_becomes_1 rfl (lv_at hl 1 rfl) ?_
  obtain ⟨μ5, e_μ5, hf⟩ := op_none hf
  refine pf_RX4_9 hx hb hB hown hW h0 hV dX4_becomes_2 (fun H locs hW hV => ?_)
  rw [Option.some.inj e_μ5] at hW
  refine lv_aload_n hx hb dX4_becomes_5 rfl (lv_at hl 0 rfl) ?_
  refine lv_iload_n hx hb dX4_becomes_6 rfl (lv_at hl 2 rfl) ?_
  refine lv_bipush (v := (60 : Int32)) hx hb dX4_becomes_7 (by decide) ?_
  refine va_mmin hx hb (hml.trans hl.1.symm) hown (hB _ q_64001dce) (hB _ q_6443835c) (hB _ q_544deca7) (hB _ q_4cca8523) (Nat.le_of_ble_eq_true rfl) (Nat.le_of_ble_eq_true rfl) (Nat.le_of_ble_eq_true rfl) (Nat.le_of_ble_eq_true rfl) dX4_becomes_9 ?_
  obtain ⟨μ6, e_μ6, hf⟩ := op_none hf
  refine pf_RX4_15 hx hb hB hown hW h0 hV dX4_becomes_12 (fun H locs hW hV => ?_)
  rw [Option.some.inj e_μ6] at hW
  refine lv_aload_n hx hb dX4_becomes_15 rfl (lv_at hl 0 rfl) ?_
  refine gf_RX4_18 hx hb hB hown hW h0 dX4_becomes_16 ?_
  refine lv_lconst (v := (0 : Int64)) hx hb dX4_becomes_19 (by decide) ?_
  obtain ⟨μ7, e_8, hf⟩ := op_none hf
  refine w_callV (rn_RX4_28 (As := [.ref (ead E (k0 + 1)), .long (0 : Int64)]) hx hb hml hown hB hW hZ hV (k_J7_fill_d0a16 l E _ (k0 + 1) (0 : Int64) (jTp h0) μ7 e_8) rfl rfl ⟨(Nat.le_of_ble_eq_true rfl), (Nat.le_of_ble_eq_true rfl)⟩ rfl hl.1 rfl (Nat.le_of_ble_eq_true rfl) dX4_becomes_20 ⟨Nat.le_refl _, Nat.le_refl _⟩) hV (fun H locs hW hV => ?_)
  exact w_retV hx hb hr hlocks hW hV (Option.some.inj hf) dX4_becomes_23
set_option maxHeartbeats 8000000 in
set_option maxRecDepth 100000 in
theorem k_X6_tape (l : Launch) (E : WE) (μ : Mem) (a1 : Int32) (a2 : Int32) (a3 : Int32) (r : Int32) (μ' : Mem) (hf : f_X6_tape μ a1 a2 a3 = some (r, μ')) : Met l yX6_tape (.code yX6_tape cX6_tape 4 (some .int) :: BIG) ({ frames := 2, cells := 0, slots := 0, locals := 62 }) (PW E μ [.ref (ead E 1), .int a1, .int a2, .int a3]) (QI E r μ') 0 0 (eA E) := by
  refine Met.ofW (cc := cX6_tape) (maxL := 4) (ret := (some .int)) (by decide) rfl ?_
  intro p e s m args below meth c s₁ B hml hv
  obtain ⟨rfl, hW, hZ⟩ := hv
  have hx := B.exec
  have hb := B.bytes
  have hr := B.returns
  have hB : ∀ w ∈ BIG, w.before _ s = true := fun w h => atoms_spec (ws := (.code yX6_tape cX6_tape 4 (some .int) :: BIG)) B.pre w (List.mem_cons_of_mem _ h)
  have hown : s.vm.findClass RX6 = some m.cls := findClass_of_methodNamed B.named
  have hlocks := B.notSynchronized
  have hV : va_S (eA E) s.heap s.heap [] := va_S.rf
  have hl := lv_entry ([.ref (ead E 1), .int a1, .int a2, .int a3]) (n := 4) (Nat.le_of_ble_eq_true rfl)
  rw [lg_entry_eq]
  generalize (lg_sl ([.ref (ead E 1), .int a1, .int a2, .int a3]) ++ List.replicate (4 - (lg_sl ([.ref (ead E 1), .int a1, .int a2, .int a3])).length) Slot.unset).toArray = ls at hl ⊢
  have hl : lv_has ls 4 [(0, .ref (ead E 1)), (1, .int a1), (2, .int a2), (3, .int a3)] := hl
  obtain ⟨H, hH⟩ : ∃ H : Heap, H = s.heap := ⟨_, rfl⟩
  obtain ⟨locs, hlocs⟩ : ∃ locs : List Loc, locs = [] := ⟨_, rfl⟩
  rw [show (W p l e (headSpec (.code yX6_tape cX6_tape 4 (some .int) :: BIG) ({ frames := 2, cells := 0, slots := 0, locals := 62 })).room s m ([.ref (ead E 1), .int a1, .int a2, .int a3] : List Value).toArray below meth c s.heap [] 0 0) = W p l e (headSpec (.code yX6_tape cX6_tape 4 (some .int) :: BIG) ({ frames := 2, cells := 0, slots := 0, locals := 62 })).room s m ([.ref (ead E 1), .int a1, .int a2, .int a3] : List Value).toArray below meth c H locs 0 0 by rw [hH, hlocs]]
  have hV : va_S (eA E) s.heap H locs := by rw [hH, hlocs]; exact hV
  have hW : Wd E μ s H := by rw [hH]; exact hW
  unfold f_X6_tape at hf
  refine lv_iload_n hx hb dX6_tape_0 rfl (lv_at hl 1 rfl) ?_
  refine lv_i2l hx hb dX6_tape_1 rfl ?_
  refine lv_lconst (v := (0 : Int64)) hx hb dX6_tape_2 (by decide) ?_
  refine lv_ldc2 (v := (5 : Int64)) hx hb hown (hB _ q_24c8e270) dX6_tape_3 ?_
  obtain ⟨v16, e_17, hf⟩ := op_none hf
  refine w_callN (rn_RX6_62 (As := [.long a1.toInt64, .long (0 : Int64), .long (5 : Int64)]) hx hb hml hown hB hW hZ hV (k_X6_within l E _ a1.toInt64 (0 : Int64) (5 : Int64) v16 e_17) rfl rfl ⟨(Nat.le_of_ble_eq_true rfl), (Nat.le_of_ble_eq_true rfl)⟩ rfl hl.1 rfl (Nat.le_of_ble_eq_true rfl) dX6_tape_6 ⟨Nat.le_refl _, Nat.le_refl _⟩) hV (fun H locs hn_v16 hW hV => ?_)
  refine lv_if_ne (tgt := 14) hx hb dX6_tape_9 (by decide) (fun y18 => ?_) (fun y18 => ?_)
  · have hf := op_f y18 hf
    refine lv_iload_n hx hb dX6_tape_14 rfl (lv_at hl 2 rfl) ?_
    refine lv_iconst (v := (-1 : Int32)) hx hb dX6_tape_15 (by decide) ?_
    refine lv_icmp_ne (tgt := 32) hx hb dX6_tape_16 (by decide) (fun y19 => ?_) (fun y19 => ?_)
    · have hf := op_f y19 hf
      refine lv_iload_n hx hb dX6_tape_32 rfl (lv_at hl 2 rfl) ?_
      refine lv_i2l hx hb dX6_tape_33 rfl ?_
      refine lv_lconst (v := (0 : Int64)) hx hb dX6_tape_34 (by decide) ?_
      refine lv_ldc2 (v := (4 : Int64)) hx hb hown (hB _ q_c4181cd0) dX6_tape_35 ?_
      obtain ⟨v20, e_21, hf⟩ := op_none hf
      refine w_callN (rn_RX6_62 (As := [.long a2.toInt64, .long (0 : Int64), .long (4 : Int64)]) hx hb hml hown hB hW hZ hV (k_X6_within l E _ a2.toInt64 (0 : Int64) (4 : Int64) v20 e_21) rfl rfl ⟨(Nat.le_of_ble_eq_true rfl), (Nat.le_of_ble_eq_true rfl)⟩ rfl hl.1 rfl (Nat.le_of_ble_eq_true rfl) dX6_tape_38 ⟨Nat.le_refl _, Nat.le_refl _⟩) hV (fun H locs hn_v20 hW hV => ?_)
      refine lv_if_eq (tgt := 50) hx hb dX6_tape_41 (by decide) (fun y22 => ?_) (fun y22 => ?_)
      · have hf := op_t y22 hf
        refine lv_bipush (v := (-2 : Int32)) hx hb dX6_tape_50 (by decide) ?_
        exact w_retI hx hb hr hlocks hW hV (Prod.mk.inj (Option.some.inj hf)).1 (Prod.mk.inj (Option.some.inj hf)).2 dX6_tape_52
      · have hf := op_f y22 hf
        refine lv_iload_n hx hb dX6_tape_44 rfl (lv_at hl 3 rfl) ?_
        refine lv_bipush (v := (60 : Int32)) hx hb dX6_tape_45 (by decide) ?_
        refine lv_icmp_le (tgt := 53) hx hb dX6_tape_47 (by decide) (fun y23 => ?_) (fun y23 => ?_)
        · have hf := op_t y23 hf
          refine lv_iload_n hx hb dX6_tape_53 rfl (lv_at hl 3 rfl) ?_
          refine lv_if_ge (tgt := 60) hx hb dX6_tape_54 (by decide) (fun y24 => ?_) (fun y24 => ?_)
          · have hf := op_t y24 hf
            refine lv_aload_n hx hb dX6_tape_60 rfl (lv_at hl 0 rfl) ?_
            refine gf_RX6_54 hx hb hB hown hW dX6_tape_61 ?_
            refine lv_iload_n hx hb dX6_tape_64 rfl (lv_at hl 1 rfl) ?_
            obtain ⟨j25, e_j25, hf⟩ := op_none hf
            refine w_aald (j := 6) hx hb hW r7.1 (r7.2 E _ _) rfl rfl e_j25 dX6_tape_65 ?_
            refine lv_iload_n hx hb dX6_tape_66 rfl (lv_at hl 2 rfl) ?_
            refine lv_iload_n hx hb dX6_tape_67 rfl (lv_at hl 3 rfl) ?_
            obtain ⟨μ26, e_27, hf⟩ := op_none hf
            refine w_callV (rn_RX6_251 (As := [.int a2, .int a3]) hx hb hml hown hB hW hZ hV (k_X4_becomes l E _ (1100 + 2 * j25) a2 a3 (tpI (aix_lt e_j25)) μ26 e_27) rfl rfl ⟨(Nat.le_of_ble_eq_true rfl), (Nat.le_of_ble_eq_true rfl)⟩ (w_rec hW (oTp (tpI (aix_lt e_j25))).1 ((oTp (tpI (aix_lt e_j25))).2 E _ _) rfl) rfl hl.1 rfl (Nat.le_of_ble_eq_true rfl) dX6_tape_68 ⟨Nat.le_refl _, Nat.le_refl _⟩) hV (fun H locs hW hV => ?_)
            refine lv_iconst (v := (1 : Int32)) hx hb dX6_tape_71 (by decide) ?_
            exact w_retI hx hb hr hlocks hW hV (Prod.mk.inj (Option.some.inj hf)).1 (Prod.mk.inj (Option.some.inj hf)).2 dX6_tape_72
          · have hf := op_f y24 hf
            refine lv_bipush (v := (-14 : Int32)) hx hb dX6_tape_57 (by decide) ?_
            exact w_retI hx hb hr hlocks hW hV (Prod.mk.inj (Option.some.inj hf)).1 (Prod.mk.inj (Option.some.inj hf)).2 dX6_tape_59
        · have hf := op_f y23 hf
          refine lv_bipush (v := (-2 : Int32)) hx hb dX6_tape_50 (by decide) ?_
          exact w_retI hx hb hr hlocks hW hV (Prod.mk.inj (Option.some.inj hf)).1 (Prod.mk.inj (Option.some.inj hf)).2 dX6_tape_52
    · have hf := op_t y19 hf
      refine lv_aload_n hx hb dX6_tape_19 rfl (lv_at hl 0 rfl) ?_
      refine gf_RX6_54 hx hb hB hown hW dX6_tape_20 ?_
      refine lv_iload_n hx hb dX6_tape_23 rfl (lv_at hl 1 rfl) ?_
      obtain ⟨j28, e_j28, hf⟩ := op_none hf
      refine w_aald (j := 6) hx hb hW r7.1 (r7.2 E _ _) rfl rfl e_j28 dX6_tape_24 ?_
      refine lv_iconst (v := (-1 : Int32)) hx hb dX6_tape_25 (by decide) ?_
      refine lv_iconst (v := (0 : Int32)) hx hb dX6_tape_26 (by decide) ?_
      obtain ⟨μ29, e_30, hf⟩ := op_none hf
      refine w_callV (rn_RX6_251 (As := [.int (-1 : Int32), .int (0 : Int32)]) hx hb hml hown hB hW hZ hV (k_X4_becomes l E _ (1100 + 2 * j28) (-1 : Int32) (0 : Int32) (tpI (aix_lt e_j28)) μ29 e_30) rfl rfl ⟨(Nat.le_of_ble_eq_true rfl), (Nat.le_of_ble_eq_true rfl)⟩ (w_rec hW (oTp (tpI (aix_lt e_j28))).1 ((oTp (tpI (aix_lt e_j28))).2 E _ _) rfl) rfl hl.1 rfl (Nat.le_of_ble_eq_true rfl) dX6_tape_27 ⟨Nat.le_refl _, Nat.le_refl _⟩) hV (fun H locs hW hV => ?_)
      refine lv_iconst (v := (1 : Int32)) hx hb dX6_tape_30 (by decide) ?_
      exact w_retI hx hb hr hlocks hW hV (Prod.mk.inj (Option.some.inj hf)).1 (Prod.mk.inj (Option.some.inj hf)).2 dX6_tape_31
  · have hf := op_t y18 hf
    refine lv_iconst (v := (-1 : Int32)) hx hb dX6_tape_12 (by decide) ?_
    exact w_retI hx hb hr hlocks hW hV (Prod.mk.inj (Option.some.inj hf)).1 (Prod.mk.inj (Option.some.inj hf)).2 dX6_tape_13
set_option maxHeartbeats 8000000 in
set_option maxRecDepth 100000 in
theorem k_X4_asItem (l : Launch) (E : WE) (μ : Mem) (k0 : Nat) (a1 : Int64) (h0 : isTp k0) (r : Int64) (hf : f_X4_asItem μ k0 a1 = some r) : Met l yX4_asItem (.code yX4_asItem cX4_asItem 3 (some .long) :: BIG) ({ frames := 0, cells := 0, slots := 0, locals := 0 }) (PW E μ [.ref (ead E k0), .long a1]) (QL E r μ) 0 0 (eA E) := by
  refine Met.ofW (cc := cX4_asItem) (maxL := 3) (ret := (some .long)) (by decide) rfl ?_
  intro p e s m args below meth c s₁ B hml hv
  obtain ⟨rfl, hW, hZ⟩ := hv
  have hx := B.exec
  have hb := B.bytes
  have hr := B.returns
  have hB : ∀ w ∈ BIG, w.before _ s = true := fun w h => atoms_spec (ws := (.code yX4_asItem cX4_asItem 3 (some .long) :: BIG)) B.pre w (List.mem_cons_of_mem _ h)
  have hown : s.vm.findClass RX4 = some m.cls := findClass_of_methodNamed B.named
  have hlocks := B.notSynchronized
  have hV : va_S (eA E) s.heap s.heap [] := va_S.rf
  have hl := lv_entry ([.ref (ead E k0), .long a1]) (n := 3) (Nat.le_of_ble_eq_true rfl)
  rw [lg_entry_eq]
  generalize (lg_sl ([.ref (ead E k0), .long a1]) ++ List.replicate (3 - (lg_sl ([.ref (ead E k0), .long a1])).length) Slot.unset).toArray = ls at hl ⊢
  have hl : lv_has ls 3 [(0, .ref (ead E k0)), (1, .long a1)] := hl
  obtain ⟨H, hH⟩ : ∃ H : Heap, H = s.heap := ⟨_, rfl⟩
  obtain ⟨locs, hlocs⟩ : ∃ locs : List Loc, locs = [] := ⟨_, rfl⟩
  rw [show (W p l e (headSpec (.code yX4_asItem cX4_asItem 3 (some .long) :: BIG) ({ frames := 0, cells := 0, slots := 0, locals := 0 })).room s m ([.ref (ead E k0), .long a1] : List Value).toArray below meth c s.heap [] 0 0) = W p l e (headSpec (.code yX4_asItem cX4_asItem 3 (some .long) :: BIG) ({ frames := 0, cells := 0, slots := 0, locals := 0 })).room s m ([.ref (ead E k0), .long a1] : List Value).toArray below meth c H locs 0 0 by rw [hH, hlocs]]
  have hV : va_S (eA E) s.heap H locs := by rw [hH, hlocs]; exact hV
  have hW : Wd E μ s H := by rw [hH]; exact hW
  unfold f_X4_asItem at hf
  refine lv_aload_n hx hb dX4_asItem_0 rfl (lv_at hl 0 rfl) ?_
  refine gf_RX4_9 hx hb hB hown hW h0 dX4_asItem_1 ?_
  obtain ⟨v9, e_v9, hf⟩ := op_none hf
  refine lv_top' (Option.some.inj e_v9) ?_
  by_cases y10 : v9 = (0 : Int32)
  · have hf := op_t y10 hf
    refine lv_tableIn (tgt := 40) (off := 36) hx hb dX4_asItem_4 (by rw [y10]; decide) (by rw [y10]; decide) (by rw [y10]; rfl) (by decide) ?_
    refine lv_lload_n hx hb dX4_asItem_40 rfl (lv_at hl 1 rfl) ?_
    refine lv_l2i hx hb dX4_asItem_41 rfl ?_
    refine lv_i2b hx hb dX4_asItem_42 rfl ?_
    refine lv_i2l hx hb dX4_asItem_43 rfl ?_
    exact w_retL hx hb hr hlocks hW hV (Option.some.inj hf) rfl dX4_asItem_44
  have hf := op_f y10 hf
  by_cases y11 : v9 = (1 : Int32)
  · have hf := op_t y11 hf
    refine lv_tableIn (tgt := 45) (off := 41) hx hb dX4_asItem_4 (by rw [y11]; decide) (by rw [y11]; decide) (by rw [y11]; rfl) (by decide) ?_
    refine lv_lload_n hx hb dX4_asItem_45 rfl (lv_at hl 1 rfl) ?_
    refine lv_l2i hx hb dX4_asItem_46 rfl ?_
    refine lv_i2s hx hb dX4_asItem_47 rfl ?_
    refine lv_i2l hx hb dX4_asItem_48 rfl ?_
    exact w_retL hx hb hr hlocks hW hV (Option.some.inj hf) rfl dX4_asItem_49
  have hf := op_f y11 hf
  by_cases y12 : v9 = (2 : Int32)
  · have hf := op_t y12 hf
    refine lv_tableIn (tgt := 50) (off := 46) hx hb dX4_asItem_4 (by rw [y12]; decide) (by rw [y12]; decide) (by rw [y12]; rfl) (by decide) ?_
    refine lv_lload_n hx hb dX4_asItem_50 rfl (lv_at hl 1 rfl) ?_
    refine lv_l2i hx hb dX4_asItem_51 rfl ?_
    refine lv_i2l hx hb dX4_asItem_52 rfl ?_
    exact w_retL hx hb hr hlocks hW hV (Option.some.inj hf) rfl dX4_asItem_53
  have hf := op_f y12 hf
  by_cases y14 : v9 = (4 : Int32)
  · have hf := op_t y14 hf
    refine lv_tableIn (tgt := 54) (off := 50) hx hb dX4_asItem_4 (by rw [y14]; decide) (by rw [y14]; decide) (by rw [y14]; rfl) (by decide) ?_
    refine lv_lload_n hx hb dX4_asItem_54 rfl (lv_at hl 1 rfl) ?_
    refine lv_lconst (v := (0 : Int64)) hx hb dX4_asItem_55 (by decide) ?_
    refine W.lcmp hx hb dX4_asItem_56 ?_
    refine lv_if_eq (tgt := 64) hx hb dX4_asItem_57 (by decide) (fun y15 => ?_) (fun y15 => ?_)
    · have hf := op_t y15 hf
      refine lv_lconst (v := (0 : Int64)) hx hb dX4_asItem_64 (by decide) ?_
      exact w_retL hx hb hr hlocks hW hV (Option.some.inj hf) rfl dX4_asItem_65
    · have hf := op_f y15 hf
      refine lv_lconst (v := (1 : Int64)) hx hb dX4_asItem_60 (by decide) ?_
      refine lv_goto (tgt := 65) hx hb dX4_asItem_61 (by decide) ?_
      exact w_retL hx hb hr hlocks hW hV (Option.some.inj hf) rfl dX4_asItem_65
  have hf := op_f y14 hf
  by_cases y16 : v9 = (3 : Int32)
  · refine lv_tableIn (tgt := 66) (off := 62) hx hb dX4_asItem_4 (by rw [y16]; decide) (by rw [y16]; decide) (by rw [y16]; rfl) (by decide) ?_
    refine lv_lload_n hx hb dX4_asItem_66 rfl (lv_at hl 1 rfl) ?_
    exact w_retL hx hb hr hlocks hW hV (Option.some.inj hf) rfl dX4_asItem_67
  refine lv_tableOut (tgt := 66) hx hb dX4_asItem_4 (by have a_y10 := lv_neT (a := 0) y10 (by decide); have a_y11 := lv_neT (a := 1) y11 (by decide); have a_y12 := lv_neT (a := 2) y12 (by decide); have a_y14 := lv_neT (a := 4) y14 (by decide); have a_y16 := lv_neT (a := 3) y16 (by decide); omega) (by decide) ?_
  refine lv_lload_n hx hb dX4_asItem_66 rfl (lv_at hl 1 rfl) ?_
  exact w_retL hx hb hr hlocks hW hV (Option.some.inj hf) rfl dX4_asItem_67
set_option maxHeartbeats 8000000 in
set_option maxRecDepth 100000 in
theorem k_X6_item (l : Launch) (E : WE) (μ : Mem) (a1 : Int32) (a2 : Int32) (a3 : Int64) (r : Int32) (μ' : Mem) (hf : f_X6_item μ a1 a2 a3 = some (r, μ')) : Met l yX6_item (.code yX6_item cX6_item 6 (some .int) :: BIG) ({ frames := 1, cells := 0, slots := 0, locals := 25 }) (PW E μ [.ref (ead E 1), .int a1, .int a2, .long a3]) (QI E r μ') 0 0 (eA E) := by
  refine Met.ofW (cc := cX6_item) (maxL := 6) (ret := (some .int)) (by decide) rfl ?_
  intro p e s m args below meth c s₁ B hml hv
  obtain ⟨rfl, hW, hZ⟩ := hv
  have hx := B.exec
  have hb := B.bytes
  have hr := B.returns
  have hB : ∀ w ∈ BIG, w.before _ s = true := fun w h => atoms_spec (ws := (.code yX6_item cX6_item 6 (some .int) :: BIG)) B.pre w (List.mem_cons_of_mem _ h)
  have hown : s.vm.findClass RX6 = some m.cls := findClass_of_methodNamed B.named
  have hlocks := B.notSynchronized
  have hV : va_S (eA E) s.heap s.heap [] := va_S.rf
  have hl := lv_entry ([.ref (ead E 1), .int a1, .int a2, .long a3]) (n := 6) (Nat.le_of_ble_eq_true rfl)
  rw [lg_entry_eq]
  generalize (lg_sl ([.ref (ead E 1), .int a1, .int a2, .long a3]) ++ List.replicate (6 - (lg_sl ([.ref (ead E 1), .int a1, .int a2, .long a3])).length) Slot.unset).toArray = ls at hl ⊢
  have hl : lv_has ls 6 [(0, .ref (ead E 1)), (1, .int a1), (2, .int a2), (3, .long a3)] := hl
  obtain ⟨H, hH⟩ : ∃ H : Heap, H = s.heap := ⟨_, rfl⟩
  obtain ⟨locs, hlocs⟩ : ∃ locs : List Loc, locs = [] := ⟨_, rfl⟩
  rw [show (W p l e (headSpec (.code yX6_item cX6_item 6 (some .int) :: BIG) ({ frames := 1, cells := 0, slots := 0, locals := 25 })).room s m ([.ref (ead E 1), .int a1, .int a2, .long a3] : List Value).toArray below meth c s.heap [] 0 0) = W p l e (headSpec (.code yX6_item cX6_item 6 (some .int) :: BIG) ({ frames := 1, cells := 0, slots := 0, locals := 25 })).room s m ([.ref (ead E 1), .int a1, .int a2, .long a3] : List Value).toArray below meth c H locs 0 0 by rw [hH, hlocs]]
  have hV : va_S (eA E) s.heap H locs := by rw [hH, hlocs]; exact hV
  have hW : Wd E μ s H := by rw [hH]; exact hW
  unfold f_X6_item at hf
  refine lv_iload_n hx hb dX6_item_0 rfl (lv_at hl 1 rfl) ?_
  refine lv_i2l hx hb dX6_item_1 rfl ?_
  refine lv_lconst (v := (0 : Int64)) hx hb dX6_item_2 (by decide) ?_
  refine lv_ldc2 (v := (5 : Int64)) hx hb hown (hB _ q_24c8e270) dX6_item_3 ?_
  obtain ⟨v12, e_13, hf⟩ := op_none hf
  refine w_callN (rn_RX6_62 (As := [.long a1.toInt64, .long (0 : Int64), .long (5 : Int64)]) hx hb hml hown hB hW hZ hV (k_X6_within l E _ a1.toInt64 (0 : Int64) (5 : Int64) v12 e_13) rfl rfl ⟨(Nat.le_of_ble_eq_true rfl), (Nat.le_of_ble_eq_true rfl)⟩ rfl hl.1 rfl (Nat.le_of_ble_eq_true rfl) dX6_item_6 ⟨Nat.le_refl _, Nat.le_refl _⟩) hV (fun H locs hn_v12 hW hV => ?_)
  refine lv_if_ne (tgt := 14) hx hb dX6_item_9 (by decide) (fun y14 => ?_) (fun y14 => ?_)
  · have hf := op_f y14 hf
    refine lv_aload_n hx hb dX6_item_14 rfl (lv_at hl 0 rfl) ?_
    refine gf_RX6_54 hx hb hB hown hW dX6_item_15 ?_
    refine lv_iload_n hx hb dX6_item_18 rfl (lv_at hl 1 rfl) ?_
    obtain ⟨j15, e_j15, hf⟩ := op_none hf
    refine w_aald (j := 6) hx hb hW r7.1 (r7.2 E _ _) rfl rfl e_j15 dX6_item_19 ?_
    refine lv_astore (i := 5) (lv' := [(5, .ref (ead E (1100 + 2 * j15))), (0, .ref (ead E 1)), (1, .int a1), (2, .int a2), (3, .long a3)]) hx hb dX6_item_20 hl (by decide) rfl (fun ls hl => ?_)
    refine lv_aload hx hb dX6_item_22 (lv_at hl 0 rfl) ?_
    refine gf_RX6_219 hx hb hB hown hW (tpI (aix_lt e_j15)) dX6_item_24 ?_
    refine lv_if_ge (tgt := 33) hx hb dX6_item_27 (by decide) (fun y16 => ?_) (fun y16 => ?_)
    · have hf := op_t y16 hf
      refine lv_iload_n hx hb dX6_item_33 rfl (lv_at hl 3 rfl) ?_
      refine lv_i2l hx hb dX6_item_34 rfl ?_
      refine lv_lconst (v := (0 : Int64)) hx hb dX6_item_35 (by decide) ?_
      refine lv_aload hx hb dX6_item_36 (lv_at hl 0 rfl) ?_
      refine gf_RX6_222 hx hb hB hown hW (tpI (aix_lt e_j15)) dX6_item_38 ?_
      refine lv_iconst (v := (1 : Int32)) hx hb dX6_item_41 (by decide) ?_
      refine lv_isub hx hb dX6_item_42 ?_
      refine lv_i2l hx hb dX6_item_43 rfl ?_
      obtain ⟨v17, e_18, hf⟩ := op_none hf
      refine w_callN (rn_RX6_62 (As := [.long a2.toInt64, .long (0 : Int64), .long (((gI μ (1100 + 2 * j15) 1) - (1 : Int32)).toInt64)]) hx hb hml hown hB hW hZ hV (k_X6_within l E _ a2.toInt64 (0 : Int64) (((gI μ (1100 + 2 * j15) 1) - (1 : Int32)).toInt64) v17 e_18) rfl rfl ⟨(Nat.le_of_ble_eq_true rfl), (Nat.le_of_ble_eq_true rfl)⟩ rfl hl.1 rfl (Nat.le_of_ble_eq_true rfl) dX6_item_44 ⟨Nat.le_refl _, Nat.le_refl _⟩) hV (fun H locs hn_v17 hW hV => ?_)
      refine lv_if_ne (tgt := 53) hx hb dX6_item_47 (by decide) (fun y19 => ?_) (fun y19 => ?_)
      · have hf := op_f y19 hf
        refine lv_aload hx hb dX6_item_53 (lv_at hl 0 rfl) ?_
        refine gf_RX6_225 hx hb hB hown hW (tpI (aix_lt e_j15)) dX6_item_55 ?_
        refine lv_iload_n hx hb dX6_item_58 rfl (lv_at hl 3 rfl) ?_
        refine lv_aload hx hb dX6_item_59 (lv_at hl 0 rfl) ?_
        refine lv_lload_n hx hb dX6_item_61 rfl (lv_at hl 4 rfl) ?_
        obtain ⟨v20, e_21, hf⟩ := op_none hf
        refine w_callL (rn_RX6_255 (As := [.long a3]) hx hb hml hown hB hW hZ hV (k_X4_asItem l E _ (1100 + 2 * j15) a3 (tpI (aix_lt e_j15)) v20 e_21) rfl rfl ⟨(Nat.le_of_ble_eq_true rfl), (Nat.le_of_ble_eq_true rfl)⟩ (w_rec hW (oTp (tpI (aix_lt e_j15))).1 ((oTp (tpI (aix_lt e_j15))).2 E _ _) rfl) rfl hl.1 rfl (Nat.le_of_ble_eq_true rfl) dX6_item_62 ⟨Nat.le_refl _, Nat.le_refl _⟩) hV (fun H locs hW hV => ?_)
        obtain ⟨μ22, e_μ22, hf⟩ := op_none hf
        refine w_last hx hb hW hV (jTp (tpI (aix_lt e_j15))).1 (fun g => (jTp (tpI (aix_lt e_j15))).2 E _ g) e_μ22 dX6_item_65 (fun H locs hW hV => ?_)
        refine lv_iconst (v := (1 : Int32)) hx hb dX6_item_66 (by decide) ?_
        exact w_retI hx hb hr hlocks hW hV (Prod.mk.inj (Option.some.inj hf)).1 (Prod.mk.inj (Option.some.inj hf)).2 dX6_item_67
      · have hf := op_t y19 hf
        refine lv_bipush (v := (-13 : Int32)) hx hb dX6_item_50 (by decide) ?_
        exact w_retI hx hb hr hlocks hW hV (Prod.mk.inj (Option.some.inj hf)).1 (Prod.mk.inj (Option.some.inj hf)).2 dX6_item_52
    · have hf := op_f y16 hf
      refine lv_bipush (v := (-11 : Int32)) hx hb dX6_item_30 (by decide) ?_
      exact w_retI hx hb hr hlocks hW hV (Prod.mk.inj (Option.some.inj hf)).1 (Prod.mk.inj (Option.some.inj hf)).2 dX6_item_32
  · have hf := op_t y14 hf
    refine lv_iconst (v := (-1 : Int32)) hx hb dX6_item_12 (by decide) ?_
    exact w_retI hx hb hr hlocks hW hV (Prod.mk.inj (Option.some.inj hf)).1 (Prod.mk.inj (Option.some.inj hf)).2 dX6_item_13
set_option maxHeartbeats 8000000 in
set_option maxRecDepth 100000 in
theorem k_X6_read (l : Launch) (E : WE) (μ : Mem) (a1 : Int32) (a2 : Int32) (r : Int64) (hf : f_X6_read μ a1 a2 = some r) : Met l yX6_read (.code yX6_read cX6_read 3 (some .long) :: BIG) ({ frames := 1, cells := 0, slots := 0, locals := 25 }) (PW E μ [.ref (ead E 1), .int a1, .int a2]) (QL E r μ) 0 0 (eA E) := by
  refine Met.ofW (cc := cX6_read) (maxL := 3) (ret := (some .long)) (by decide) rfl ?_
  intro p e s m args below meth c s₁ B hml hv
  obtain ⟨rfl, hW, hZ⟩ := hv
  have hx := B.exec
  have hb := B.bytes
  have hr := B.returns
  have hB : ∀ w ∈ BIG, w.before _ s = true := fun w h => atoms_spec (ws := (.code yX6_read cX6_read 3 (some .long) :: BIG)) B.pre w (List.mem_cons_of_mem _ h)
  have hown : s.vm.findClass RX6 = some m.cls := findClass_of_methodNamed B.named
  have hlocks := B.notSynchronized
  have hV : va_S (eA E) s.heap s.heap [] := va_S.rf
  have hl := lv_entry ([.ref (ead E 1), .int a1, .int a2]) (n := 3) (Nat.le_of_ble_eq_true rfl)
  rw [lg_entry_eq]
  generalize (lg_sl ([.ref (ead E 1), .int a1, .int a2]) ++ List.replicate (3 - (lg_sl ([.ref (ead E 1), .int a1, .int a2])).length) Slot.unset).toArray = ls at hl ⊢
  have hl : lv_has ls 3 [(0, .ref (ead E 1)), (1, .int a1), (2, .int a2)] := hl
  obtain ⟨H, hH⟩ : ∃ H : Heap, H = s.heap := ⟨_, rfl⟩
  obtain ⟨locs, hlocs⟩ : ∃ locs : List Loc, locs = [] := ⟨_, rfl⟩
  rw [show (W p l e (headSpec (.code yX6_read cX6_read 3 (some .long) :: BIG) ({ frames := 1, cells := 0, slots := 0, locals := 25 })).room s m ([.ref (ead E 1), .int a1, .int a2] : List Value).toArray below meth c s.heap [] 0 0) = W p l e (headSpec (.code yX6_read cX6_read 3 (some .long) :: BIG) ({ frames := 1, cells := 0, slots := 0, locals := 25 })).room s m ([.ref (ead E 1), .int a1, .int a2] : List Value).toArray below meth c H locs 0 0 by rw [hH, hlocs]]
  have hV : va_S (eA E) s.heap H locs := by rw [hH, hlocs]; exact hV
  have hW : Wd E μ s H := by rw [hH]; exact hW
  unfold f_X6_read at hf
  refine lv_iload_n hx hb dX6_read_0 rfl (lv_at hl 1 rfl) ?_
  refine lv_i2l hx hb dX6_read_1 rfl ?_
  refine lv_lconst (v := (0 : Int64)) hx hb dX6_read_2 (by decide) ?_
  refine lv_ldc2 (v := (5 : Int64)) hx hb hown (hB _ q_24c8e270) dX6_read_3 ?_
  obtain ⟨v10, e_11, hf⟩ := op_none hf
  refine w_callN (rn_RX6_62 (As := [.long a1.toInt64, .long (0 : Int64), .long (5 : Int64)]) hx hb hml hown hB hW hZ hV (k_X6_within l E _ a1.toInt64 (0 : Int64) (5 : Int64) v10 e_11) rfl rfl ⟨(Nat.le_of_ble_eq_true rfl), (Nat.le_of_ble_eq_true rfl)⟩ rfl hl.1 rfl (Nat.le_of_ble_eq_true rfl) dX6_read_6 ⟨Nat.le_refl _, Nat.le_refl _⟩) hV (fun H locs hn_v10 hW hV => ?_)
  refine lv_if_eq (tgt := 33) hx hb dX6_read_9 (by decide) (fun y12 => ?_) (fun y12 => ?_)
  · have hf := op_t y12 hf
    refine lv_ldc2 (v := (-9223372036854775808 : Int64)) hx hb hown (hB _ q_23409f7e) dX6_read_33 ?_
    exact w_retL hx hb hr hlocks hW hV (Option.some.inj hf) rfl dX6_read_36
  · have hf := op_f y12 hf
    refine lv_iload_n hx hb dX6_read_12 rfl (lv_at hl 2 rfl) ?_
    refine lv_i2l hx hb dX6_read_13 rfl ?_
    refine lv_lconst (v := (0 : Int64)) hx hb dX6_read_14 (by decide) ?_
    refine lv_aload_n hx hb dX6_read_15 rfl (lv_at hl 0 rfl) ?_
    refine gf_RX6_54 hx hb hB hown hW dX6_read_16 ?_
    refine lv_iload_n hx hb dX6_read_19 rfl (lv_at hl 1 rfl) ?_
    obtain ⟨j13, e_j13, hf⟩ := op_none hf
    refine w_aald (j := 6) hx hb hW r7.1 (r7.2 E _ _) rfl rfl e_j13 dX6_read_20 ?_
    refine gf_RX6_222 hx hb hB hown hW (tpI (aix_lt e_j13)) dX6_read_21 ?_
    refine lv_iconst (v := (1 : Int32)) hx hb dX6_read_24 (by decide) ?_
    refine lv_isub hx hb dX6_read_25 ?_
    refine lv_i2l hx hb dX6_read_26 rfl ?_
    obtain ⟨v14, e_15, hf⟩ := op_none hf
    refine w_callN (rn_RX6_62 (As := [.long a2.toInt64, .long (0 : Int64), .long (((gI μ (1100 + 2 * j13) 1) - (1 : Int32)).toInt64)]) hx hb hml hown hB hW hZ hV (k_X6_within l E _ a2.toInt64 (0 : Int64) (((gI μ (1100 + 2 * j13) 1) - (1 : Int32)).toInt64) v14 e_15) rfl rfl ⟨(Nat.le_of_ble_eq_true rfl), (Nat.le_of_ble_eq_true rfl)⟩ rfl hl.1 rfl (Nat.le_of_ble_eq_true rfl) dX6_read_27 ⟨Nat.le_refl _, Nat.le_refl _⟩) hV (fun H locs hn_v14 hW hV => ?_)
    refine lv_if_ne (tgt := 37) hx hb dX6_read_30 (by decide) (fun y16 => ?_) (fun y16 => ?_)
    · have hf := op_f y16 hf
      refine lv_aload_n hx hb dX6_read_37 rfl (lv_at hl 0 rfl) ?_
      refine gf_RX6_54 hx hb hB hown hW dX6_read_38 ?_
      refine lv_iload_n hx hb dX6_read_41 rfl (lv_at hl 1 rfl) ?_
      obtain ⟨j17, e_j17, hf⟩ := op_none hf
      refine w_aald (j := 6) hx hb hW r7.1 (r7.2 E _ _) rfl rfl e_j17 dX6_read_42 ?_
      refine gf_RX6_225 hx hb hB hown hW (tpI (aix_lt e_j17)) dX6_read_43 ?_
      refine lv_iload_n hx hb dX6_read_46 rfl (lv_at hl 2 rfl) ?_
      obtain ⟨v18, e_v18, hf⟩ := op_none hf
      refine w_lald hx hb hW (jTp (tpI (aix_lt e_j17))).1 ((jTp (tpI (aix_lt e_j17))).2 E _ _) e_v18 dX6_read_47 ?_
      exact w_retL hx hb hr hlocks hW hV (Option.some.inj hf) rfl dX6_read_48
    · have hf := op_t y16 hf
      refine lv_ldc2 (v := (-9223372036854775808 : Int64)) hx hb hown (hB _ q_23409f7e) dX6_read_33 ?_
      exact w_retL hx hb hr hlocks hW hV (Option.some.inj hf) rfl dX6_read_36
set_option maxHeartbeats 8000000 in
set_option maxRecDepth 100000 in
theorem k_X4_hasRoom (l : Launch) (E : WE) (μ : Mem) (k0 : Nat) (a1 : Int32) (a2 : Int32) (h0 : isTp k0) (r : Int32) (hf : f_X4_hasRoom μ k0 a1 a2 = some r) : Met l yX4_hasRoom (.code yX4_hasRoom cX4_hasRoom 3 (some .boolean) :: BIG) ({ frames := 0, cells := 0, slots := 0, locals := 0 }) (PW E μ [.ref (ead E k0), .int a1, .int a2]) (QN E .boolean r μ) 0 0 (eA E) := by
  refine Met.ofW (cc := cX4_hasRoom) (maxL := 3) (ret := (some .boolean)) (by decide) rfl ?_
  intro p e s m args below meth c s₁ B hml hv
  obtain ⟨rfl, hW, hZ⟩ := hv
  have hx := B.exec
  have hb := B.bytes
  have hr := B.returns
  have hB : ∀ w ∈ BIG, w.before _ s = true := fun w h => atoms_spec (ws := (.code yX4_hasRoom cX4_hasRoom 3 (some .boolean) :: BIG)) B.pre w (List.mem_cons_of_mem _ h)
  have hown : s.vm.findClass RX4 = some m.cls := findClass_of_methodNamed B.named
  have hlocks := B.notSynchronized
  have hV : va_S (eA E) s.heap s.heap [] := va_S.rf
  have hl := lv_entry ([.ref (ead E k0), .int a1, .int a2]) (n := 3) (Nat.le_of_ble_eq_true rfl)
  rw [lg_entry_eq]
  generalize (lg_sl ([.ref (ead E k0), .int a1, .int a2]) ++ List.replicate (3 - (lg_sl ([.ref (ead E k0), .int a1, .int a2])).length) Slot.unset).toArray = ls at hl ⊢
  have hl : lv_has ls 3 [(0, .ref (ead E k0)), (1, .int a1), (2, .int a2)] := hl
  obtain ⟨H, hH⟩ : ∃ H : Heap, H = s.heap := ⟨_, rfl⟩
  obtain ⟨locs, hlocs⟩ : ∃ locs : List Loc, locs = [] := ⟨_, rfl⟩
  rw [show (W p l e (headSpec (.code yX4_hasRoom cX4_hasRoom 3 (some .boolean) :: BIG) ({ frames := 0, cells := 0, slots := 0, locals := 0 })).room s m ([.ref (ead E k0), .int a1, .int a2] : List Value).toArray below meth c s.heap [] 0 0) = W p l e (headSpec (.code yX4_hasRoom cX4_hasRoom 3 (some .boolean) :: BIG) ({ frames := 0, cells := 0, slots := 0, locals := 0 })).room s m ([.ref (ead E k0), .int a1, .int a2] : List Value).toArray below meth c H locs 0 0 by rw [hH, hlocs]]
  have hV : va_S (eA E) s.heap H locs := by rw [hH, hlocs]; exact hV
  have hW : Wd E μ s H := by rw [hH]; exact hW
  unfold f_X4_hasRoom at hf
  refine lv_iload_n hx hb dX4_hasRoom_0 rfl (lv_at hl 1 rfl) ?_
  refine lv_if_lt (tgt := 22) hx hb dX4_hasRoom_1 (by decide) (fun y4 => ?_) (fun y4 => ?_)
  · have hf := op_t y4 hf
    refine lv_iconst (v := (0 : Int32)) hx hb dX4_hasRoom_22 (by decide) ?_
    exact w_retN hx hb hr hlocks hW hV (by decide) (Option.some.inj hf) rfl dX4_hasRoom_23
  · have hf := op_f y4 hf
    refine lv_iload_n hx hb dX4_hasRoom_4 rfl (lv_at hl 2 rfl) ?_
    refine lv_if_lt (tgt := 22) hx hb dX4_hasRoom_5 (by decide) (fun y5 => ?_) (fun y5 => ?_)
    · have hf := op_t y5 hf
      refine lv_iconst (v := (0 : Int32)) hx hb dX4_hasRoom_22 (by decide) ?_
      exact w_retN hx hb hr hlocks hW hV (by decide) (Option.some.inj hf) rfl dX4_hasRoom_23
    · have hf := op_f y5 hf
      refine lv_iload_n hx hb dX4_hasRoom_8 rfl (lv_at hl 1 rfl) ?_
      refine lv_aload_n hx hb dX4_hasRoom_9 rfl (lv_at hl 0 rfl) ?_
      refine gf_RX4_15 hx hb hB hown hW h0 dX4_hasRoom_10 ?_
      refine lv_iload_n hx hb dX4_hasRoom_13 rfl (lv_at hl 2 rfl) ?_
      refine lv_isub hx hb dX4_hasRoom_14 ?_
      refine lv_icmp_gt (tgt := 22) hx hb dX4_hasRoom_15 (by decide) (fun y6 => ?_) (fun y6 => ?_)
      · have hf := op_t y6 hf
        refine lv_iconst (v := (0 : Int32)) hx hb dX4_hasRoom_22 (by decide) ?_
        exact w_retN hx hb hr hlocks hW hV (by decide) (Option.some.inj hf) rfl dX4_hasRoom_23
      · have hf := op_f y6 hf
        refine lv_iconst (v := (1 : Int32)) hx hb dX4_hasRoom_18 (by decide) ?_
        refine lv_goto (tgt := 23) hx hb dX4_hasRoom_19 (by decide) ?_
        exact w_retN hx hb hr hlocks hW hV (by decide) (Option.some.inj hf) rfl dX4_hasRoom_23
set_option maxHeartbeats 8000000 in
set_option maxRecDepth 100000 in
theorem k_X6_shift (l : Launch) (E : WE) (μ : Mem) (a1 : Int32) (a2 : Int32) (a3 : Int32) (a4 : Int32) (a5 : Int32) (r : Int32) (μ' : Mem) (hf : f_X6_shift μ a1 a2 a3 a4 a5 = some (r, μ')) : Met l yX6_shift (.code yX6_shift cX6_shift 8 (some .int) :: BIG) ({ frames := 1, cells := 0, slots := 0, locals := 40 }) (PW E μ [.ref (ead E 1), .int a1, .int a2, .int a3, .int a4, .int a5]) (QI E r μ') 0 0 (eA E) := by
  refine Met.ofW (cc := cX6_shift) (maxL := 8) (ret := (some .int)) (by decide) rfl ?_
  intro p e s m args below meth c s₁ B hml hv
  obtain ⟨rfl, hW, hZ⟩ := hv
  have hx := B.exec
  have hb := B.bytes
  have hr := B.returns
  have hB : ∀ w ∈ BIG, w.before _ s = true := fun w h => atoms_spec (ws := (.code yX6_shift cX6_shift 8 (some .int) :: BIG)) B.pre w (List.mem_cons_of_mem _ h)
  have hown : s.vm.findClass RX6 = some m.cls := findClass_of_methodNamed B.named
  have hlocks := B.notSynchronized
  have hV : va_S (eA E) s.heap s.heap [] := va_S.rf
  have hl := lv_entry ([.ref (ead E 1), .int a1, .int a2, .int a3, .int a4, .int a5]) (n := 8) (Nat.le_of_ble_eq_true rfl)
  rw [lg_entry_eq]
  generalize (lg_sl ([.ref (ead E 1), .int a1, .int a2, .int a3, .int a4, .int a5]) ++ List.replicate (8 - (lg_sl ([.ref (ead E 1), .int a1, .int a2, .int a3, .int a4, .int a5])).length) Slot.unset).toArray = ls at hl ⊢
  have hl : lv_has ls 8 [(0, .ref (ead E 1)), (1, .int a1), (2, .int a2), (3, .int a3), (4, .int a4), (5, .int a5)] := hl
  obtain ⟨H, hH⟩ : ∃ H : Heap, H = s.heap := ⟨_, rfl⟩
  obtain ⟨locs, hlocs⟩ : ∃ locs : List Loc, locs = [] := ⟨_, rfl⟩
  rw [show (W p l e (headSpec (.code yX6_shift cX6_shift 8 (some .int) :: BIG) ({ frames := 1, cells := 0, slots := 0, locals := 40 })).room s m ([.ref (ead E 1), .int a1, .int a2, .int a3, .int a4, .int a5] : List Value).toArray below meth c s.heap [] 0 0) = W p l e (headSpec (.code yX6_shift cX6_shift 8 (some .int) :: BIG) ({ frames := 1, cells := 0, slots := 0, locals := 40 })).room s m ([.ref (ead E 1), .int a1, .int a2, .int a3, .int a4, .int a5] : List Value).toArray below meth c H locs 0 0 by rw [hH, hlocs]]
  have hV : va_S (eA E) s.heap H locs := by rw [hH, hlocs]; exact hV
  have hW : Wd E μ s H := by rw [hH]; exact hW
  unfold f_X6_shift at hf
  refine lv_iload_n hx hb dX6_shift_0 rfl (lv_at hl 1 rfl) ?_
  refine lv_i2l hx hb dX6_shift_1 rfl ?_
  refine lv_lconst (v := (0 : Int64)) hx hb dX6_shift_2 (by decide) ?_
  refine lv_ldc2 (v := (5 : Int64)) hx hb hown (hB _ q_24c8e270) dX6_shift_3 ?_
  obtain ⟨v19, e_20, hf⟩ := op_none hf
  refine w_callN (rn_RX6_62 (As := [.long a1.toInt64, .long (0 : Int64), .long (5 : Int64)]) hx hb hml hown hB hW hZ hV (k_X6_within l E _ a1.toInt64 (0 : Int64) (5 : Int64) v19 e_20) rfl rfl ⟨(Nat.le_of_ble_eq_true rfl), (Nat.le_of_ble_eq_true rfl)⟩ rfl hl.1 rfl (Nat.le_of_ble_eq_true rfl) dX6_shift_6 ⟨Nat.le_refl _, Nat.le_refl _⟩) hV (fun H locs hn_v19 hW hV => ?_)
  refine lv_if_eq (tgt := 24) hx hb dX6_shift_9 (by decide) (fun y21 => ?_) (fun y21 => ?_)
  · have hf := op_t y21 hf
    refine lv_iconst (v := (-1 : Int32)) hx hb dX6_shift_24 (by decide) ?_
    exact w_retI hx hb hr hlocks hW hV (Prod.mk.inj (Option.some.inj hf)).1 (Prod.mk.inj (Option.some.inj hf)).2 dX6_shift_25
  · have hf := op_f y21 hf
    refine lv_iload_n hx hb dX6_shift_12 rfl (lv_at hl 3 rfl) ?_
    refine lv_i2l hx hb dX6_shift_13 rfl ?_
    refine lv_lconst (v := (0 : Int64)) hx hb dX6_shift_14 (by decide) ?_
    refine lv_ldc2 (v := (5 : Int64)) hx hb hown (hB _ q_24c8e270) dX6_shift_15 ?_
    obtain ⟨v22, e_23, hf⟩ := op_none hf
    refine w_callN (rn_RX6_62 (As := [.long a3.toInt64, .long (0 : Int64), .long (5 : Int64)]) hx hb hml hown hB hW hZ hV (k_X6_within l E _ a3.toInt64 (0 : Int64) (5 : Int64) v22 e_23) rfl rfl ⟨(Nat.le_of_ble_eq_true rfl), (Nat.le_of_ble_eq_true rfl)⟩ rfl hl.1 rfl (Nat.le_of_ble_eq_true rfl) dX6_shift_18 ⟨Nat.le_refl _, Nat.le_refl _⟩) hV (fun H locs hn_v22 hW hV => ?_)
    refine lv_if_ne (tgt := 26) hx hb dX6_shift_21 (by decide) (fun y24 => ?_) (fun y24 => ?_)
    · have hf := op_f y24 hf
      refine lv_aload_n hx hb dX6_shift_26 rfl (lv_at hl 0 rfl) ?_
      refine gf_RX6_54 hx hb hB hown hW dX6_shift_27 ?_
      refine lv_iload_n hx hb dX6_shift_30 rfl (lv_at hl 1 rfl) ?_
      obtain ⟨j25, e_j25, hf⟩ := op_none hf
      refine w_aald (j := 6) hx hb hW r7.1 (r7.2 E _ _) rfl rfl e_j25 dX6_shift_31 ?_
      refine lv_astore (i := 6) (lv' := [(6, .ref (ead E (1100 + 2 * j25))), (0, .ref (ead E 1)), (1, .int a1), (2, .int a2), (3, .int a3), (4, .int a4), (5, .int a5)]) hx hb dX6_shift_32 hl (by decide) rfl (fun ls hl => ?_)
      refine lv_aload_n hx hb dX6_shift_34 rfl (lv_at hl 1 rfl) ?_
      refine gf_RX6_54 hx hb hB hown hW dX6_shift_35 ?_
      refine lv_iload_n hx hb dX6_shift_38 rfl (lv_at hl 4 rfl) ?_
      obtain ⟨j26, e_j26, hf⟩ := op_none hf
      refine w_aald (j := 6) hx hb hW r7.1 (r7.2 E _ _) rfl rfl e_j26 dX6_shift_39 ?_
      refine lv_astore (i := 7) (lv' := [(7, .ref (ead E (1100 + 2 * j26))), (6, .ref (ead E (1100 + 2 * j25))), (0, .ref (ead E 1)), (1, .int a1), (2, .int a2), (3, .int a3), (4, .int a4), (5, .int a5)]) hx hb dX6_shift_40 hl (by decide) rfl (fun ls hl => ?_)
      refine lv_aload hx hb dX6_shift_42 (lv_at hl 1 rfl) ?_
      refine gf_RX6_219 hx hb hB hown hW (tpI (aix_lt e_j25)) dX6_shift_44 ?_
      refine lv_if_lt (tgt := 58) hx hb dX6_shift_47 (by decide) (fun y27 => ?_) (fun y27 => ?_)
      · have hf := op_t y27 hf
        refine lv_bipush (v := (-11 : Int32)) hx hb dX6_shift_58 (by decide) ?_
        exact w_retI hx hb hr hlocks hW hV (Prod.mk.inj (Option.some.inj hf)).1 (Prod.mk.inj (Option.some.inj hf)).2 dX6_shift_60
      · have hf := op_f y27 hf
        refine lv_aload hx hb dX6_shift_50 (lv_at hl 0 rfl) ?_
        refine gf_RX6_219 hx hb hB hown hW (tpI (aix_lt e_j26)) dX6_shift_52 ?_
        refine lv_if_ge (tgt := 61) hx hb dX6_shift_55 (by decide) (fun y28 => ?_) (fun y28 => ?_)
        · have hf := op_t y28 hf
          refine lv_aload hx hb dX6_shift_61 (lv_at hl 1 rfl) ?_
          refine gf_RX6_219 hx hb hB hown hW (tpI (aix_lt e_j25)) dX6_shift_63 ?_
          refine lv_aload hx hb dX6_shift_66 (lv_at hl 0 rfl) ?_
          refine gf_RX6_219 hx hb hB hown hW (tpI (aix_lt e_j26)) dX6_shift_68 ?_
          refine lv_icmp_eq (tgt := 77) hx hb dX6_shift_71 (by decide) (fun y29 => ?_) (fun y29 => ?_)
          · have hf := op_t y29 hf
            refine lv_aload hx hb dX6_shift_77 (lv_at hl 1 rfl) ?_
            refine lv_iload_n hx hb dX6_shift_79 rfl (lv_at hl 4 rfl) ?_
            refine lv_iload hx hb dX6_shift_80 (lv_at hl 7 rfl) ?_
            obtain ⟨v30, e_31, hf⟩ := op_none hf
            refine w_callN (rn_RX6_259 (As := [.int a2, .int a5]) hx hb hml hown hB hW hZ hV (k_X4_hasRoom l E _ (1100 + 2 * j25) a2 a5 (tpI (aix_lt e_j25)) v30 e_31) rfl rfl ⟨(Nat.le_of_ble_eq_true rfl), (Nat.le_of_ble_eq_true rfl)⟩ (w_rec hW (oTp (tpI (aix_lt e_j25))).1 ((oTp (tpI (aix_lt e_j25))).2 E _ _) rfl) rfl hl.1 rfl (Nat.le_of_ble_eq_true rfl) dX6_shift_82 ⟨Nat.le_refl _, Nat.le_refl _⟩) hV (fun H locs hn_v30 hW hV => ?_)
            refine lv_if_eq (tgt := 100) hx hb dX6_shift_85 (by decide) (fun y32 => ?_) (fun y32 => ?_)
            · have hf := op_t y32 hf
              refine lv_bipush (v := (-13 : Int32)) hx hb dX6_shift_100 (by decide) ?_
              exact w_retI hx hb hr hlocks hW hV (Prod.mk.inj (Option.some.inj hf)).1 (Prod.mk.inj (Option.some.inj hf)).2 dX6_shift_102
            · have hf := op_f y32 hf
              refine lv_aload hx hb dX6_shift_88 (lv_at hl 0 rfl) ?_
              refine lv_iload hx hb dX6_shift_90 (lv_at hl 6 rfl) ?_
              refine lv_iload hx hb dX6_shift_92 (lv_at hl 7 rfl) ?_
              obtain ⟨v33, e_34, hf⟩ := op_none hf
              refine w_callN (rn_RX6_259 (As := [.int a4, .int a5]) hx hb hml hown hB hW hZ hV (k_X4_hasRoom l E _ (1100 + 2 * j26) a4 a5 (tpI (aix_lt e_j26)) v33 e_34) rfl rfl ⟨(Nat.le_of_ble_eq_true rfl), (Nat.le_of_ble_eq_true rfl)⟩ (w_rec hW (oTp (tpI (aix_lt e_j26))).1 ((oTp (tpI (aix_lt e_j26))).2 E _ _) rfl) rfl hl.1 rfl (Nat.le_of_ble_eq_true rfl) dX6_shift_94 ⟨Nat.le_refl _, Nat.le_refl _⟩) hV (fun H locs hn_v33 hW hV => ?_)
              refine lv_if_ne (tgt := 103) hx hb dX6_shift_97 (by decide) (fun y35 => ?_) (fun y35 => ?_)
              · have hf := op_f y35 hf
                refine lv_aload hx hb dX6_shift_103 (lv_at hl 1 rfl) ?_
                refine gf_RX6_225 hx hb hB hown hW (tpI (aix_lt e_j25)) dX6_shift_105 ?_
                refine lv_iload_n hx hb dX6_shift_108 rfl (lv_at hl 4 rfl) ?_
                refine lv_aload hx hb dX6_shift_109 (lv_at hl 0 rfl) ?_
                refine gf_RX6_225 hx hb hB hown hW (tpI (aix_lt e_j26)) dX6_shift_111 ?_
                refine lv_iload hx hb dX6_shift_114 (lv_at hl 6 rfl) ?_
                refine lv_iload hx hb dX6_shift_116 (lv_at hl 7 rfl) ?_
                obtain ⟨μ36, e_μ36, hf⟩ := op_none hf
                refine w_cpL hx hb (hml.trans hl.1.symm) hown (hB _ q_a32263da) (hB _ q_3d265588) (hB _ q_b29db291) (hB _ q_a5e0699f) hW hV (jTp (tpI (aix_lt e_j25))) (jTp (tpI (aix_lt e_j26))) e_μ36 (Nat.le_of_ble_eq_true rfl) (Nat.le_of_ble_eq_true rfl) dX6_shift_118 (fun H locs hW hV => ?_)
                refine lv_iload hx hb dX6_shift_121 (lv_at hl 7 rfl) ?_
                exact w_retI hx hb hr hlocks hW hV (Prod.mk.inj (Option.some.inj hf)).1 (Prod.mk.inj (Option.some.inj hf)).2 dX6_shift_123
              · have hf := op_t y35 hf
                refine lv_bipush (v := (-13 : Int32)) hx hb dX6_shift_100 (by decide) ?_
                exact w_retI hx hb hr hlocks hW hV (Prod.mk.inj (Option.some.inj hf)).1 (Prod.mk.inj (Option.some.inj hf)).2 dX6_shift_102
          · have hf := op_f y29 hf
            refine lv_bipush (v := (-12 : Int32)) hx hb dX6_shift_74 (by decide) ?_
            exact w_retI hx hb hr hlocks hW hV (Prod.mk.inj (Option.some.inj hf)).1 (Prod.mk.inj (Option.some.inj hf)).2 dX6_shift_76
        · have hf := op_f y28 hf
          refine lv_bipush (v := (-11 : Int32)) hx hb dX6_shift_58 (by decide) ?_
          exact w_retI hx hb hr hlocks hW hV (Prod.mk.inj (Option.some.inj hf)).1 (Prod.mk.inj (Option.some.inj hf)).2 dX6_shift_60
    · have hf := op_t y24 hf
      refine lv_iconst (v := (-1 : Int32)) hx hb dX6_shift_24 (by decide) ?_
      exact w_retI hx hb hr hlocks hW hV (Prod.mk.inj (Option.some.inj hf)).1 (Prod.mk.inj (Option.some.inj hf)).2 dX6_shift_25
set_option maxHeartbeats 8000000 in
set_option maxRecDepth 100000 in
theorem k_X7_within (l : Launch) (E : WE) (μ : Mem) (a0 : Int32) (a1 : Int32) (a2 : Int32) (r : Int32) (hf : f_X7_within μ a0 a1 a2 = some r) : Met l yX7_within (.code yX7_within cX7_within 3 (some .boolean) :: BIG) ({ frames := 0, cells := 0, slots := 0, locals := 0 }) (PW E μ [.int a0, .int a1, .int a2]) (QN E .boolean r μ) 0 0 (eA E) := by
  refine Met.ofW (cc := cX7_within) (maxL := 3) (ret := (some .boolean)) (by decide) rfl ?_
  intro p e s m args below meth c s₁ B hml hv
  obtain ⟨rfl, hW, hZ⟩ := hv
  have hx := B.exec
  have hb := B.bytes
  have hr := B.returns
  have hB : ∀ w ∈ BIG, w.before _ s = true := fun w h => atoms_spec (ws := (.code yX7_within cX7_within 3 (some .boolean) :: BIG)) B.pre w (List.mem_cons_of_mem _ h)
  have hown : s.vm.findClass RX7 = some m.cls := findClass_of_methodNamed B.named
  have hlocks := B.notSynchronized
  have hV : va_S (eA E) s.heap s.heap [] := va_S.rf
  have hl := lv_entry ([.int a0, .int a1, .int a2]) (n := 3) (Nat.le_of_ble_eq_true rfl)
  rw [lg_entry_eq]
  generalize (lg_sl ([.int a0, .int a1, .int a2]) ++ List.replicate (3 - (lg_sl ([.int a0, .int a1, .int a2])).length) Slot.unset).toArray = ls at hl ⊢
  have hl : lv_has ls 3 [(0, .int a0), (1, .int a1), (2, .int a2)] := hl
  obtain ⟨H, hH⟩ : ∃ H : Heap, H = s.heap := ⟨_, rfl⟩
  obtain ⟨locs, hlocs⟩ : ∃ locs : List Loc, locs = [] := ⟨_, rfl⟩
  rw [show (W p l e (headSpec (.code yX7_within cX7_within 3 (some .boolean) :: BIG) ({ frames := 0, cells := 0, slots := 0, locals := 0 })).room s m ([.int a0, .int a1, .int a2] : List Value).toArray below meth c s.heap [] 0 0) = W p l e (headSpec (.code yX7_within cX7_within 3 (some .boolean) :: BIG) ({ frames := 0, cells := 0, slots := 0, locals := 0 })).room s m ([.int a0, .int a1, .int a2] : List Value).toArray below meth c H locs 0 0 by rw [hH, hlocs]]
  have hV : va_S (eA E) s.heap H locs := by rw [hH, hlocs]; exact hV
  have hW : Wd E μ s H := by rw [hH]; exact hW
  unfold f_X7_within at hf
  refine lv_iload_n hx hb dX7_within_0 rfl (lv_at hl 0 rfl) ?_
  refine lv_iload_n hx hb dX7_within_1 rfl (lv_at hl 1 rfl) ?_
  refine lv_icmp_lt (tgt := 14) hx hb dX7_within_2 (by decide) (fun y3 => ?_) (fun y3 => ?_)
  · have hf := op_t y3 hf
    refine lv_iconst (v := (0 : Int32)) hx hb dX7_within_14 (by decide) ?_
    exact w_retN hx hb hr hlocks hW hV (by decide) (Option.some.inj hf) rfl dX7_within_15
  · have hf := op_f y3 hf
    refine lv_iload_n hx hb dX7_within_5 rfl (lv_at hl 0 rfl) ?_
    refine lv_iload_n hx hb dX7_within_6 rfl (lv_at hl 2 rfl) ?_
    refine lv_icmp_gt (tgt := 14) hx hb dX7_within_7 (by decide) (fun y4 => ?_) (fun y4 => ?_)
    · have hf := op_t y4 hf
      refine lv_iconst (v := (0 : Int32)) hx hb dX7_within_14 (by decide) ?_
      exact w_retN hx hb hr hlocks hW hV (by decide) (Option.some.inj hf) rfl dX7_within_15
    · have hf := op_f y4 hf
      refine lv_iconst (v := (1 : Int32)) hx hb dX7_within_10 (by decide) ?_
      refine lv_goto (tgt := 15) hx hb dX7_within_11 (by decide) ?_
      exact w_retN hx hb hr hlocks hW hV (by decide) (Option.some.inj hf) rfl dX7_within_15
set_option maxHeartbeats 8000000 in
set_option maxRecDepth 100000 in
theorem k_X7_isOne (l : Launch) (E : WE) (μ : Mem) (a1 : Int32) (r : Int32) (hf : f_X7_isOne μ a1 = some r) : Met l yX7_isOne (.code yX7_isOne cX7_isOne 2 (some .boolean) :: BIG) ({ frames := 1, cells := 0, slots := 0, locals := 22 }) (PW E μ [.ref (ead E 2000), .int a1]) (QN E .boolean r μ) 0 0 (eA E) := by
  refine Met.ofW (cc := cX7_isOne) (maxL := 2) (ret := (some .boolean)) (by decide) rfl ?_
  intro p e s m args below meth c s₁ B hml hv
  obtain ⟨rfl, hW, hZ⟩ := hv
  have hx := B.exec
  have hb := B.bytes
  have hr := B.returns
  have hB : ∀ w ∈ BIG, w.before _ s = true := fun w h => atoms_spec (ws := (.code yX7_isOne cX7_isOne 2 (some .boolean) :: BIG)) B.pre w (List.mem_cons_of_mem _ h)
  have hown : s.vm.findClass RX7 = some m.cls := findClass_of_methodNamed B.named
  have hlocks := B.notSynchronized
  have hV : va_S (eA E) s.heap s.heap [] := va_S.rf
  have hl := lv_entry ([.ref (ead E 2000), .int a1]) (n := 2) (Nat.le_of_ble_eq_true rfl)
  rw [lg_entry_eq]
  generalize (lg_sl ([.ref (ead E 2000), .int a1]) ++ List.replicate (2 - (lg_sl ([.ref (ead E 2000), .int a1])).length) Slot.unset).toArray = ls at hl ⊢
  have hl : lv_has ls 2 [(0, .ref (ead E 2000)), (1, .int a1)] := hl
  obtain ⟨H, hH⟩ : ∃ H : Heap, H = s.heap := ⟨_, rfl⟩
  obtain ⟨locs, hlocs⟩ : ∃ locs : List Loc, locs = [] := ⟨_, rfl⟩
  rw [show (W p l e (headSpec (.code yX7_isOne cX7_isOne 2 (some .boolean) :: BIG) ({ frames := 1, cells := 0, slots := 0, locals := 22 })).room s m ([.ref (ead E 2000), .int a1] : List Value).toArray below meth c s.heap [] 0 0) = W p l e (headSpec (.code yX7_isOne cX7_isOne 2 (some .boolean) :: BIG) ({ frames := 1, cells := 0, slots := 0, locals := 22 })).room s m ([.ref (ead E 2000), .int a1] : List Value).toArray below meth c H locs 0 0 by rw [hH, hlocs]]
  have hV : va_S (eA E) s.heap H locs := by rw [hH, hlocs]; exact hV
  have hW : Wd E μ s H := by rw [hH]; exact hW
  unfold f_X7_isOne at hf
  refine lv_iload_n hx hb dX7_isOne_0 rfl (lv_at hl 1 rfl) ?_
  refine lv_iconst (v := (0 : Int32)) hx hb dX7_isOne_1 (by decide) ?_
  refine lv_aload_n hx hb dX7_isOne_2 rfl (lv_at hl 0 rfl) ?_
  refine gf_RX7_108 hx hb hB hown hW dX7_isOne_3 ?_
  refine lv_iconst (v := (1 : Int32)) hx hb dX7_isOne_6 (by decide) ?_
  refine lv_isub hx hb dX7_isOne_7 ?_
  obtain ⟨v3, e_4, hf⟩ := op_none hf
  refine w_callN (rn_RX7_111 (As := [.int a1, .int (0 : Int32), .int ((gI μ 2000 0) - (1 : Int32))]) hx hb hml hown hB hW hZ hV (k_X7_within l E _ a1 (0 : Int32) ((gI μ 2000 0) - (1 : Int32)) v3 e_4) rfl rfl ⟨(Nat.le_of_ble_eq_true rfl), (Nat.le_of_ble_eq_true rfl)⟩ rfl hl.1 rfl (Nat.le_of_ble_eq_true rfl) dX7_isOne_8 ⟨Nat.le_refl _, Nat.le_refl _⟩) hV (fun H locs hn_v3 hW hV => ?_)
  exact w_retN hx hb hr hlocks hW hV hn_v3 (Option.some.inj hf) rfl dX7_isOne_11
set_option maxHeartbeats 8000000 in
set_option maxRecDepth 100000 in
theorem k_X7_egg (l : Launch) (E : WE) (μ : Mem) (a1 : Int32) (a2 : Int32) (a3 : Int32) (a4 : Int32) (r : Int32) (μ' : Mem) (hf : f_X7_egg μ a1 a2 a3 a4 = some (r, μ')) : Met l yX7_egg (.code yX7_egg cX7_egg 6 (some .int) :: BIG) ({ frames := 1, cells := 0, slots := 0, locals := 22 }) (PW E μ [.ref (ead E 2000), .int a1, .int a2, .int a3, .int a4]) (QI E r μ') 0 0 (eA E) := by
  refine Met.ofW (cc := cX7_egg) (maxL := 6) (ret := (some .int)) (by decide) rfl ?_
  intro p e s m args below meth c s₁ B hml hv
  obtain ⟨rfl, hW, hZ⟩ := hv
  have hx := B.exec
  have hb := B.bytes
  have hr := B.returns
  have hB : ∀ w ∈ BIG, w.before _ s = true := fun w h => atoms_spec (ws := (.code yX7_egg cX7_egg 6 (some .int) :: BIG)) B.pre w (List.mem_cons_of_mem _ h)
  have hown : s.vm.findClass RX7 = some m.cls := findClass_of_methodNamed B.named
  have hlocks := B.notSynchronized
  have hV : va_S (eA E) s.heap s.heap [] := va_S.rf
  have hl := lv_entry ([.ref (ead E 2000), .int a1, .int a2, .int a3, .int a4]) (n := 6) (Nat.le_of_ble_eq_true rfl)
  rw [lg_entry_eq]
  generalize (lg_sl ([.ref (ead E 2000), .int a1, .int a2, .int a3, .int a4]) ++ List.replicate (6 - (lg_sl ([.ref (ead E 2000), .int a1, .int a2, .int a3, .int a4])).length) Slot.unset).toArray = ls at hl ⊢
  have hl : lv_has ls 6 [(0, .ref (ead E 2000)), (1, .int a1), (2, .int a2), (3, .int a3), (4, .int a4)] := hl
  have c_132 : ∀ (n_132 : Nat) (μ_132 : Mem) (b5_132 : Int32) , f_X7_egg_132 n_132 μ_132 b5_132 = some (r, μ') → ∀ (H : Heap) (locs : List Loc) (ls : Array Slot), Wd E μ_132 s H → va_S (eA E) s.heap H locs → lv_has ls 6 [(0, .ref (ead E 2000)), (5, .int b5_132)] → W p l e (headSpec (.code yX7_egg cX7_egg 6 (some .int) :: BIG) ({ frames := 1, cells := 0, slots := 0, locals := 22 })).room s m ([.ref (ead E 2000), .int a1, .int a2, .int a3, .int a4] : List Value).toArray below meth c H locs 0 0 (MQ below (QI E r μ') ([.ref (ead E 2000), .int a1, .int a2, .int a3, .int a4] : List Value).toArray s 0 0 (eA E)) (F0 m 132 ls []) := by
    intro n_132
    induction n_132 with
    | zero =>
      intro μ_132 b5_132 hf H locs ls hW hV hl
      cases hf
    | succ n_132 ih_132 =>
      intro μ_132 b5_132 hf H locs ls hW hV hl
      rw [f_X7_egg_132] at hf
      refine lv_iload hx hb dX7_egg_132 (lv_at hl 1 rfl) ?_
      refine lv_iconst (v := (4 : Int32)) hx hb dX7_egg_134 (by decide) ?_
      refine lv_icmp_ge (tgt := 159) hx hb dX7_egg_135 (by decide) (fun y26 => ?_) (fun y26 => ?_)
      · have hf := op_t y26 hf
        refine lv_aload_n hx hb dX7_egg_159 rfl (lv_at hl 0 rfl) ?_
        refine lv_dup hx hb dX7_egg_160 rfl ?_
        refine gf_RX7_108 hx hb hB hown hW dX7_egg_161 ?_
        obtain ⟨v27, e_v27, hf⟩ := op_none hf
        refine lv_top' (Option.some.inj e_v27) ?_
        refine lv_dup_x1 hx hb dX7_egg_164 rfl rfl ?_
        refine lv_iconst (v := (1 : Int32)) hx hb dX7_egg_165 (by decide) ?_
        refine lv_iadd hx hb dX7_egg_166 ?_
        obtain ⟨μ28, e_μ28, hf⟩ := op_none hf
        refine pf_RX7_108 hx hb hB hown hW hV dX7_egg_167 (fun H locs hW hV => ?_)
        rw [Option.some.inj e_μ28] at hW
        exact w_retI hx hb hr hlocks hW hV (Prod.mk.inj (Option.some.inj hf)).1 (Prod.mk.inj (Option.some.inj hf)).2 dX7_egg_170
      · have hf := op_f y26 hf
        refine lv_aload_n hx hb dX7_egg_138 rfl (lv_at hl 0 rfl) ?_
        refine gf_RX7_33 hx hb hB hown hW dX7_egg_139 ?_
        refine lv_iconst (v := (4 : Int32)) hx hb dX7_egg_142 (by decide) ?_
        refine lv_aload_n hx hb dX7_egg_143 rfl (lv_at hl 0 rfl) ?_
        refine gf_RX7_108 hx hb hB hown hW dX7_egg_144 ?_
        refine lv_imul hx hb dX7_egg_147 ?_
        refine lv_iload hx hb dX7_egg_148 (lv_at hl 1 rfl) ?_
        refine lv_iadd hx hb dX7_egg_150 ?_
        refine lv_iconst (v := (0 : Int32)) hx hb dX7_egg_151 (by decide) ?_
        obtain ⟨μ29, e_μ29, hf⟩ := op_none hf
        refine w_iast hx hb hW hV iM8.1 (fun f => iM8.2 E f _) e_μ29 dX7_egg_152 (fun H locs hW hV => ?_)
        obtain ⟨v30, e_v30, hf⟩ := op_none hf
        refine lv_iinc (v := v30) (lv' := [(5, .int v30), (0, .ref (ead E 2000))]) hx hb dX7_egg_153 hl (k := 1) rfl (by rw [← Option.some.inj e_v30]; rfl) (by decide) rfl (fun ls hl => ?_)
        refine lv_goto (tgt := 132) hx hb dX7_egg_156 (by decide) ?_
        exact ih_132 μ29 v30 hf H locs ls hW hV (lv_sub hl [1, 0] rfl)
  obtain ⟨H, hH⟩ : ∃ H : Heap, H = s.heap := ⟨_, rfl⟩
  obtain ⟨locs, hlocs⟩ : ∃ locs : List Loc, locs = [] := ⟨_, rfl⟩
  rw [show (W p l e (headSpec (.code yX7_egg cX7_egg 6 (some .int) :: BIG) ({ frames := 1, cells := 0, slots := 0, locals := 22 })).room s m ([.ref (ead E 2000), .int a1, .int a2, .int a3, .int a4] : List Value).toArray below meth c s.heap [] 0 0) = W p l e (headSpec (.code yX7_egg cX7_egg 6 (some .int) :: BIG) ({ frames := 1, cells := 0, slots := 0, locals := 22 })).room s m ([.ref (ead E 2000), .int a1, .int a2, .int a3, .int a4] : List Value).toArray below meth c H locs 0 0 by rw [hH, hlocs]]
  have hV : va_S (eA E) s.heap H locs := by rw [hH, hlocs]; exact hV
  have hW : Wd E μ s H := by rw [hH]; exact hW
  unfold f_X7_egg at hf
  refine lv_iload_n hx hb dX7_egg_0 rfl (lv_at hl 1 rfl) ?_
  refine lv_iconst (v := (0 : Int32)) hx hb dX7_egg_1 (by decide) ?_
  refine lv_bipush (v := (6 : Int32)) hx hb dX7_egg_2 (by decide) ?_
  obtain ⟨v31, e_32, hf⟩ := op_none hf
  refine w_callN (rn_RX7_111 (As := [.int a1, .int (0 : Int32), .int (6 : Int32)]) hx hb hml hown hB hW hZ hV (k_X7_within l E _ a1 (0 : Int32) (6 : Int32) v31 e_32) rfl rfl ⟨(Nat.le_of_ble_eq_true rfl), (Nat.le_of_ble_eq_true rfl)⟩ rfl hl.1 rfl (Nat.le_of_ble_eq_true rfl) dX7_egg_4 ⟨Nat.le_refl _, Nat.le_refl _⟩) hV (fun H locs hn_v31 hW hV => ?_)
  refine lv_if_ne (tgt := 12) hx hb dX7_egg_7 (by decide) (fun y33 => ?_) (fun y33 => ?_)
  · have hf := op_f y33 hf
    refine lv_iload_n hx hb dX7_egg_12 rfl (lv_at hl 2 rfl) ?_
    refine lv_iconst (v := (0 : Int32)) hx hb dX7_egg_13 (by decide) ?_
    refine lv_bipush (v := (9 : Int32)) hx hb dX7_egg_14 (by decide) ?_
    obtain ⟨v34, e_35, hf⟩ := op_none hf
    refine w_callN (rn_RX7_111 (As := [.int a2, .int (0 : Int32), .int (9 : Int32)]) hx hb hml hown hB hW hZ hV (k_X7_within l E _ a2 (0 : Int32) (9 : Int32) v34 e_35) rfl rfl ⟨(Nat.le_of_ble_eq_true rfl), (Nat.le_of_ble_eq_true rfl)⟩ rfl hl.1 rfl (Nat.le_of_ble_eq_true rfl) dX7_egg_16 ⟨Nat.le_refl _, Nat.le_refl _⟩) hV (fun H locs hn_v34 hW hV => ?_)
    refine lv_if_eq (tgt := 43) hx hb dX7_egg_19 (by decide) (fun y36 => ?_) (fun y36 => ?_)
    · have hf := op_t y36 hf
      refine lv_bipush (v := (-2 : Int32)) hx hb dX7_egg_43 (by decide) ?_
      exact w_retI hx hb hr hlocks hW hV (Prod.mk.inj (Option.some.inj hf)).1 (Prod.mk.inj (Option.some.inj hf)).2 dX7_egg_45
    · have hf := op_f y36 hf
      refine lv_iload_n hx hb dX7_egg_22 rfl (lv_at hl 3 rfl) ?_
      refine lv_iconst (v := (1 : Int32)) hx hb dX7_egg_23 (by decide) ?_
      refine lv_bipush (v := (30 : Int32)) hx hb dX7_egg_24 (by decide) ?_
      obtain ⟨v37, e_38, hf⟩ := op_none hf
      refine w_callN (rn_RX7_111 (As := [.int a3, .int (1 : Int32), .int (30 : Int32)]) hx hb hml hown hB hW hZ hV (k_X7_within l E _ a3 (1 : Int32) (30 : Int32) v37 e_38) rfl rfl ⟨(Nat.le_of_ble_eq_true rfl), (Nat.le_of_ble_eq_true rfl)⟩ rfl hl.1 rfl (Nat.le_of_ble_eq_true rfl) dX7_egg_26 ⟨Nat.le_refl _, Nat.le_refl _⟩) hV (fun H locs hn_v37 hW hV => ?_)
      refine lv_if_eq (tgt := 43) hx hb dX7_egg_29 (by decide) (fun y39 => ?_) (fun y39 => ?_)
      · have hf := op_t y39 hf
        refine lv_bipush (v := (-2 : Int32)) hx hb dX7_egg_43 (by decide) ?_
        exact w_retI hx hb hr hlocks hW hV (Prod.mk.inj (Option.some.inj hf)).1 (Prod.mk.inj (Option.some.inj hf)).2 dX7_egg_45
      · have hf := op_f y39 hf
        refine lv_iload hx hb dX7_egg_32 (lv_at hl 4 rfl) ?_
        refine lv_iconst (v := (0 : Int32)) hx hb dX7_egg_34 (by decide) ?_
        refine lv_bipush (v := (29 : Int32)) hx hb dX7_egg_35 (by decide) ?_
        obtain ⟨v40, e_41, hf⟩ := op_none hf
        refine w_callN (rn_RX7_111 (As := [.int a4, .int (0 : Int32), .int (29 : Int32)]) hx hb hml hown hB hW hZ hV (k_X7_within l E _ a4 (0 : Int32) (29 : Int32) v40 e_41) rfl rfl ⟨(Nat.le_of_ble_eq_true rfl), (Nat.le_of_ble_eq_true rfl)⟩ rfl hl.1 rfl (Nat.le_of_ble_eq_true rfl) dX7_egg_37 ⟨Nat.le_refl _, Nat.le_refl _⟩) hV (fun H locs hn_v40 hW hV => ?_)
        refine lv_if_ne (tgt := 46) hx hb dX7_egg_40 (by decide) (fun y42 => ?_) (fun y42 => ?_)
        · have hf := op_f y42 hf
          refine lv_aload_n hx hb dX7_egg_46 rfl (lv_at hl 0 rfl) ?_
          refine gf_RX7_108 hx hb hB hown hW dX7_egg_47 ?_
          refine lv_bipush (v := (6 : Int32)) hx hb dX7_egg_50 (by decide) ?_
          refine lv_icmp_ne (tgt := 58) hx hb dX7_egg_52 (by decide) (fun y43 => ?_) (fun y43 => ?_)
          · have hf := op_f y43 hf
            refine lv_aload_n hx hb dX7_egg_58 rfl (lv_at hl 0 rfl) ?_
            refine gf_RX7_9 hx hb hB hown hW dX7_egg_59 ?_
            refine lv_aload_n hx hb dX7_egg_62 rfl (lv_at hl 0 rfl) ?_
            refine gf_RX7_108 hx hb hB hown hW dX7_egg_63 ?_
            refine lv_iload_n hx hb dX7_egg_66 rfl (lv_at hl 1 rfl) ?_
            obtain ⟨μ44, e_μ44, hf⟩ := op_none hf
            refine w_iast hx hb hW hV iM1.1 (fun f => iM1.2 E f _) e_μ44 dX7_egg_67 (fun H locs hW hV => ?_)
            refine lv_aload_n hx hb dX7_egg_68 rfl (lv_at hl 0 rfl) ?_
            refine gf_RX7_15 hx hb hB hown hW dX7_egg_69 ?_
            refine lv_aload_n hx hb dX7_egg_72 rfl (lv_at hl 0 rfl) ?_
            refine gf_RX7_108 hx hb hB hown hW dX7_egg_73 ?_
            refine lv_iload_n hx hb dX7_egg_76 rfl (lv_at hl 2 rfl) ?_
            obtain ⟨μ45, e_μ45, hf⟩ := op_none hf
            refine w_iast hx hb hW hV iM2.1 (fun f => iM2.2 E f _) e_μ45 dX7_egg_77 (fun H locs hW hV => ?_)
            refine lv_aload_n hx hb dX7_egg_78 rfl (lv_at hl 0 rfl) ?_
            refine gf_RX7_18 hx hb hB hown hW dX7_egg_79 ?_
            refine lv_aload_n hx hb dX7_egg_82 rfl (lv_at hl 0 rfl) ?_
            refine gf_RX7_108 hx hb hB hown hW dX7_egg_83 ?_
            refine lv_iload_n hx hb dX7_egg_86 rfl (lv_at hl 3 rfl) ?_
            obtain ⟨μ46, e_μ46, hf⟩ := op_none hf
            refine w_iast hx hb hW hV iM3.1 (fun f => iM3.2 E f _) e_μ46 dX7_egg_87 (fun H locs hW hV => ?_)
            refine lv_aload_n hx hb dX7_egg_88 rfl (lv_at hl 0 rfl) ?_
            refine gf_RX7_21 hx hb hB hown hW dX7_egg_89 ?_
            refine lv_aload_n hx hb dX7_egg_92 rfl (lv_at hl 0 rfl) ?_
            refine gf_RX7_108 hx hb hB hown hW dX7_egg_93 ?_
            refine lv_iload hx hb dX7_egg_96 (lv_at hl 4 rfl) ?_
            obtain ⟨μ47, e_μ47, hf⟩ := op_none hf
            refine w_iast hx hb hW hV iM4.1 (fun f => iM4.2 E f _) e_μ47 dX7_egg_98 (fun H locs hW hV => ?_)
            refine lv_aload_n hx hb dX7_egg_99 rfl (lv_at hl 0 rfl) ?_
            refine gf_RX7_24 hx hb hB hown hW dX7_egg_100 ?_
            refine lv_aload_n hx hb dX7_egg_103 rfl (lv_at hl 0 rfl) ?_
            refine gf_RX7_108 hx hb hB hown hW dX7_egg_104 ?_
            refine lv_iconst (v := (0 : Int32)) hx hb dX7_egg_107 (by decide) ?_
            obtain ⟨μ48, e_μ48, hf⟩ := op_none hf
            refine w_iast hx hb hW hV iM5.1 (fun f => iM5.2 E f _) e_μ48 dX7_egg_108 (fun H locs hW hV => ?_)
            refine lv_aload_n hx hb dX7_egg_109 rfl (lv_at hl 0 rfl) ?_
            refine gf_RX7_27 hx hb hB hown hW dX7_egg_110 ?_
            refine lv_aload_n hx hb dX7_egg_113 rfl (lv_at hl 0 rfl) ?_
            refine gf_RX7_108 hx hb hB hown hW dX7_egg_114 ?_
            refine lv_iconst (v := (0 : Int32)) hx hb dX7_egg_117 (by decide) ?_
            obtain ⟨μ49, e_μ49, hf⟩ := op_none hf
            refine w_iast hx hb hW hV iM6.1 (fun f => iM6.2 E f _) e_μ49 dX7_egg_118 (fun H locs hW hV => ?_)
            refine lv_aload_n hx hb dX7_egg_119 rfl (lv_at hl 0 rfl) ?_
            refine gf_RX7_30 hx hb hB hown hW dX7_egg_120 ?_
            refine lv_aload_n hx hb dX7_egg_123 rfl (lv_at hl 0 rfl) ?_
            refine gf_RX7_108 hx hb hB hown hW dX7_egg_124 ?_
            refine lv_iconst (v := (0 : Int32)) hx hb dX7_egg_127 (by decide) ?_
            obtain ⟨μ50, e_μ50, hf⟩ := op_none hf
            refine w_iast hx hb hW hV iM7.1 (fun f => iM7.2 E f _) e_μ50 dX7_egg_128 (fun H locs hW hV => ?_)
            refine lv_iconst (v := (0 : Int32)) hx hb dX7_egg_129 (by decide) ?_
            refine lv_istore (i := 5) (lv' := [(5, .int (0 : Int32)), (0, .ref (ead E 2000)), (1, .int a1), (2, .int a2), (3, .int a3), (4, .int a4)]) hx hb dX7_egg_130 hl (by decide) rfl (fun ls hl => ?_)
            exact c_132 FU μ50 (0 : Int32) hf H locs ls hW hV (lv_sub hl [1, 0] rfl)
          · have hf := op_t y43 hf
            refine lv_bipush (v := (-4 : Int32)) hx hb dX7_egg_55 (by decide) ?_
            exact w_retI hx hb hr hlocks hW hV (Prod.mk.inj (Option.some.inj hf)).1 (Prod.mk.inj (Option.some.inj hf)).2 dX7_egg_57
        · have hf := op_t y42 hf
          refine lv_bipush (v := (-2 : Int32)) hx hb dX7_egg_43 (by decide) ?_
          exact w_retI hx hb hr hlocks hW hV (Prod.mk.inj (Option.some.inj hf)).1 (Prod.mk.inj (Option.some.inj hf)).2 dX7_egg_45
  · have hf := op_t y33 hf
    refine lv_iconst (v := (-1 : Int32)) hx hb dX7_egg_10 (by decide) ?_
    exact w_retI hx hb hr hlocks hW hV (Prod.mk.inj (Option.some.inj hf)).1 (Prod.mk.inj (Option.some.inj hf)).2 dX7_egg_11
