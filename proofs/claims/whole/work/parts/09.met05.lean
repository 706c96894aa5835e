set_option maxHeartbeats 8000000 in
set_option maxRecDepth 100000 in
theorem k_X6_mean (l : Launch) (E : WE) (μ : Mem) (a1 : Int32) (a2 : Int32) (r : Int64) (μ' : Mem) (hf : f_X6_mean μ a1 a2 = some (r, μ')) : Met l yX6_mean (.code yX6_mean cX6_mean 3 (some .long) :: BIG) ({ frames := 7, cells := 0, slots := 0, locals := 166 }) (PW E μ [.ref (ead E 1), .int a1, .int a2]) (QL E r μ') 0 0 (eA E) := by
  refine Met.ofW (cc := cX6_mean) (maxL := 3) (ret := (some .long)) (by decide) rfl ?_
  intro p e s m args below meth c s₁ B hml hv
  obtain ⟨rfl, hW, hZ⟩ := hv
  have hx := B.exec
  have hb := B.bytes
  have hr := B.returns
  have hB : ∀ w ∈ BIG, w.before _ s = true := fun w h => atoms_spec (ws := (.code yX6_mean cX6_mean 3 (some .long) :: BIG)) B.pre w (List.mem_cons_of_mem _ h)
  have hown : s.vm.findClass RX6 = some m.cls := findClass_of_methodNamed B.named
  have hlocks := B.notSynchronized
  have hV : va_S (eA E) s.heap s.heap [] := va_S.rf
  have hl := lv_entry ([.ref (ead E 1), .int a1, .int a2]) (n := 3) (Nat.le_of_ble_eq_true rfl)
  rw [lg_entry_eq]
  generalize (lg_sl ([.ref (ead E 1), .int a1, .int a2]) ++ List.replicate (3 - (lg_sl ([.ref (ead E 1), .int a1, .int a2])).length) Slot.unset).toArray = ls at hl ⊢
  have hl : lv_has ls 3 [(0, .ref (ead E 1)), (1, .int a1), (2, .int a2)] := hl
  obtain ⟨H, hH⟩ : ∃ H : Heap, H = s.heap := ⟨_, rfl⟩
  obtain ⟨locs, hlocs⟩ : ∃ locs : List Loc, locs = [] := ⟨_, rfl⟩
  rw [show (W p l e (headSpec (.code yX6_mean cX6_mean 3 (some .long) :: BIG) ({ frames := 7, cells := 0, slots := 0, locals := 166 })).room s m ([.ref (ead E 1), .int a1, .int a2] : List Value).toArray below meth c s.heap [] 0 0) = W p l e (headSpec (.code yX6_mean cX6_mean 3 (some .long) :: BIG) ({ frames := 7, cells := 0, slots := 0, locals := 166 })).room s m ([.ref (ead E 1), .int a1, .int a2] : List Value).toArray below meth c H locs 0 0 by rw [hH, hlocs]]
  have hV : va_S (eA E) s.heap H locs := by rw [hH, hlocs]; exact hV
  have hW : Wd E μ s H := by rw [hH]; exact hW
  unfold f_X6_mean at hf
  refine lv_iload_n hx hb dX6_mean_0 rfl (lv_at hl 1 rfl) ?_
  refine lv_i2l hx hb dX6_mean_1 rfl ?_
  refine lv_lconst (v := (0 : Int64)) hx hb dX6_mean_2 (by decide) ?_
  refine lv_ldc2 (v := (60 : Int64)) hx hb hown (hB _ q_20c81cf4) dX6_mean_3 ?_
  obtain ⟨v14, e_15, hf⟩ := op_none hf
  refine w_callN (rn_RX6_62 (As := [.long a1.toInt64, .long (0 : Int64), .long (60 : Int64)]) hx hb hml hown hB hW hZ hV (k_X6_within l E _ a1.toInt64 (0 : Int64) (60 : Int64) v14 e_15) rfl rfl ⟨(Nat.le_of_ble_eq_true rfl), (Nat.le_of_ble_eq_true rfl)⟩ rfl hl.1 rfl (Nat.le_of_ble_eq_true rfl) dX6_mean_6 ⟨Nat.le_refl _, Nat.le_refl _⟩) hV (fun H locs hn_v14 hW hV => ?_)
  refine lv_if_eq (tgt := 32) hx hb dX6_mean_9 (by decide) (fun y16 => ?_) (fun y16 => ?_)
  · have hf := op_t y16 hf
    refine lv_ldc2 (v := (-9223372036854775808 : Int64)) hx hb hown (hB _ q_23409f7e) dX6_mean_32 ?_
    exact w_retL hx hb hr hlocks hW hV (Prod.mk.inj (Option.some.inj hf)).1 (Prod.mk.inj (Option.some.inj hf)).2 dX6_mean_35
  · have hf := op_f y16 hf
    refine lv_iload_n hx hb dX6_mean_12 rfl (lv_at hl 2 rfl) ?_
    refine lv_i2l hx hb dX6_mean_13 rfl ?_
    refine lv_lconst (v := (0 : Int64)) hx hb dX6_mean_14 (by decide) ?_
    refine lv_lconst (v := (1 : Int64)) hx hb dX6_mean_15 (by decide) ?_
    obtain ⟨v17, e_18, hf⟩ := op_none hf
    refine w_callN (rn_RX6_62 (As := [.long a2.toInt64, .long (0 : Int64), .long (1 : Int64)]) hx hb hml hown hB hW hZ hV (k_X6_within l E _ a2.toInt64 (0 : Int64) (1 : Int64) v17 e_18) rfl rfl ⟨(Nat.le_of_ble_eq_true rfl), (Nat.le_of_ble_eq_true rfl)⟩ rfl hl.1 rfl (Nat.le_of_ble_eq_true rfl) dX6_mean_16 ⟨Nat.le_refl _, Nat.le_refl _⟩) hV (fun H locs hn_v17 hW hV => ?_)
    refine lv_if_eq (tgt := 32) hx hb dX6_mean_19 (by decide) (fun y19 => ?_) (fun y19 => ?_)
    · have hf := op_t y19 hf
      refine lv_ldc2 (v := (-9223372036854775808 : Int64)) hx hb hown (hB _ q_23409f7e) dX6_mean_32 ?_
      exact w_retL hx hb hr hlocks hW hV (Prod.mk.inj (Option.some.inj hf)).1 (Prod.mk.inj (Option.some.inj hf)).2 dX6_mean_35
    · have hf := op_f y19 hf
      refine lv_aload_n hx hb dX6_mean_22 rfl (lv_at hl 0 rfl) ?_
      refine gf_RX6_12 hx hb hB hown hW dX6_mean_23 ?_
      refine gf_RX6_72 hx hb hB hown hW st1 dX6_mean_26 ?_
      refine lv_if_ne (tgt := 36) hx hb dX6_mean_29 (by decide) (fun y20 => ?_) (fun y20 => ?_)
      · have hf := op_f y20 hf
        refine lv_aload_n hx hb dX6_mean_36 rfl (lv_at hl 0 rfl) ?_
        refine lv_iload_n hx hb dX6_mean_37 rfl (lv_at hl 1 rfl) ?_
        obtain ⟨μ21, e_22, hf⟩ := op_none hf
        refine w_callV (rn_RX6_150 (As := [.int a1]) hx hb hml hown hB hW hZ hV (k_X6_tryDays l E _ a1 μ21 e_22) rfl rfl ⟨(Nat.le_of_ble_eq_true rfl), (Nat.le_of_ble_eq_true rfl)⟩ (w_rec hW oX.1 (oX.2 E _ _) rfl) rfl hl.1 rfl (Nat.le_of_ble_eq_true rfl) dX6_mean_38 ⟨Nat.le_refl _, Nat.le_refl _⟩) hV (fun H locs hW hV => ?_)
        refine lv_aload_n hx hb dX6_mean_41 rfl (lv_at hl 0 rfl) ?_
        refine gf_RX6_21 hx hb hB hown hW dX6_mean_42 ?_
        refine lv_iconst (v := (5 : Int32)) hx hb dX6_mean_45 (by decide) ?_
        obtain ⟨v23, e_24, hf⟩ := op_none hf
        refine w_callI (rn_RX6_138 (As := [.int (5 : Int32)]) hx hb hml hown hB hW hZ hV (k_X2_total l E _ 300 (5 : Int32) st3 v23 e_24) rfl rfl ⟨(Nat.le_of_ble_eq_true rfl), (Nat.le_of_ble_eq_true rfl)⟩ (w_rec hW (oSt st3).1 ((oSt st3).2 E _ _) rfl) rfl hl.1 rfl (Nat.le_of_ble_eq_true rfl) dX6_mean_46 ⟨Nat.le_refl _, Nat.le_refl _⟩) hV (fun H locs hW hV => ?_)
        refine lv_i2l hx hb dX6_mean_49 rfl ?_
        refine lv_aload_n hx hb dX6_mean_50 rfl (lv_at hl 0 rfl) ?_
        refine gf_RX6_12 hx hb hB hown hW dX6_mean_51 ?_
        refine gf_RX6_72 hx hb hB hown hW st1 dX6_mean_54 ?_
        refine lv_i2l hx hb dX6_mean_57 rfl ?_
        refine lv_iload_n hx hb dX6_mean_58 rfl (lv_at hl 2 rfl) ?_
        obtain ⟨v25, e_26, hf⟩ := op_none hf
        refine w_callL (rn_RX6_192 (As := [.long v23.toInt64, .long ((gI μ21 100 0).toInt64), .int a2]) hx hb hml hown hB hW hZ hV (k_X6_inLowestTerms l E _ v23.toInt64 ((gI μ21 100 0).toInt64) a2 v25 e_26) rfl rfl ⟨(Nat.le_of_ble_eq_true rfl), (Nat.le_of_ble_eq_true rfl)⟩ rfl hl.1 rfl (Nat.le_of_ble_eq_true rfl) dX6_mean_59 ⟨Nat.le_refl _, Nat.le_refl _⟩) hV (fun H locs hW hV => ?_)
        exact w_retL hx hb hr hlocks hW hV (Prod.mk.inj (Option.some.inj hf)).1 (Prod.mk.inj (Option.some.inj hf)).2 dX6_mean_62
      · have hf := op_t y20 hf
        refine lv_ldc2 (v := (-9223372036854775808 : Int64)) hx hb hown (hB _ q_23409f7e) dX6_mean_32 ?_
        exact w_retL hx hb hr hlocks hW hV (Prod.mk.inj (Option.some.inj hf)).1 (Prod.mk.inj (Option.some.inj hf)).2 dX6_mean_35
set_option maxHeartbeats 8000000 in
set_option maxRecDepth 100000 in
theorem k_X6_plan (l : Launch) (E : WE) (μ : Mem) (a1 : Int32) (a2 : Int32) (r : Int32) (μ' : Mem) (hf : f_X6_plan μ a1 a2 = some (r, μ')) : Met l yX6_plan (.code yX6_plan cX6_plan 3 (some .int) :: BIG) ({ frames := 1, cells := 0, slots := 0, locals := 25 }) (PW E μ [.ref (ead E 1), .int a1, .int a2]) (QI E r μ') 0 0 (eA E) := by
  refine Met.ofW (cc := cX6_plan) (maxL := 3) (ret := (some .int)) (by decide) rfl ?_
  intro p e s m args below meth c s₁ B hml hv
  obtain ⟨rfl, hW, hZ⟩ := hv
  have hx := B.exec
  have hb := B.bytes
  have hr := B.returns
  have hB : ∀ w ∈ BIG, w.before _ s = true := fun w h => atoms_spec (ws := (.code yX6_plan cX6_plan 3 (some .int) :: BIG)) B.pre w (List.mem_cons_of_mem _ h)
  have hown : s.vm.findClass RX6 = some m.cls := findClass_of_methodNamed B.named
  have hlocks := B.notSynchronized
  have hV : va_S (eA E) s.heap s.heap [] := va_S.rf
  have hl := lv_entry ([.ref (ead E 1), .int a1, .int a2]) (n := 3) (Nat.le_of_ble_eq_true rfl)
  rw [lg_entry_eq]
  generalize (lg_sl ([.ref (ead E 1), .int a1, .int a2]) ++ List.replicate (3 - (lg_sl ([.ref (ead E 1), .int a1, .int a2])).length) Slot.unset).toArray = ls at hl ⊢
  have hl : lv_has ls 3 [(0, .ref (ead E 1)), (1, .int a1), (2, .int a2)] := hl
  have c_73 : ∀ (μ_73 : Mem) (b1_73 : Int32) (b2_73 : Int32) , f_X6_plan_73 μ_73 b1_73 b2_73 = some (r, μ') → ∀ (H : Heap) (locs : List Loc) (ls : Array Slot), Wd E μ_73 s H → va_S (eA E) s.heap H locs → lv_has ls 3 [(0, .ref (ead E 1)), (1, .int b1_73), (2, .int b2_73)] → W p l e (headSpec (.code yX6_plan cX6_plan 3 (some .int) :: BIG) ({ frames := 1, cells := 0, slots := 0, locals := 25 })).room s m ([.ref (ead E 1), .int a1, .int a2] : List Value).toArray below meth c H locs 0 0 (MQ below (QI E r μ') ([.ref (ead E 1), .int a1, .int a2] : List Value).toArray s 0 0 (eA E)) (F0 m 73 ls []) := by
    intro μ_73 b1_73 b2_73 hf H locs ls hW hV hl
    unfold f_X6_plan_73 at hf
    refine lv_aload_n hx hb dX6_plan_73 rfl (lv_at hl 0 rfl) ?_
    refine gf_RX6_12 hx hb hB hown hW dX6_plan_74 ?_
    refine gf_RX6_196 hx hb hB hown hW st1 dX6_plan_77 ?_
    refine lv_iload_n hx hb dX6_plan_80 rfl (lv_at hl 1 rfl) ?_
    refine lv_iload_n hx hb dX6_plan_81 rfl (lv_at hl 2 rfl) ?_
    refine lv_iconst (v := (0 : Int32)) hx hb dX6_plan_82 (by decide) ?_
    obtain ⟨p25, e_24, hf⟩ := op_none hf
    refine w_callI (rn_RX6_177 (As := [.int b1_73, .int b2_73, .int (0 : Int32)]) hx hb hml hown hB hW hZ hV (k_X1_add l E _ (100 + 30) 10 b1_73 b2_73 (0 : Int32) (rwP st1) p25.1 p25.2 e_24) rfl rfl ⟨(Nat.le_of_ble_eq_true rfl), (Nat.le_of_ble_eq_true rfl)⟩ (w_rec hW (oRw (rwP st1)).1 ((oRw (rwP st1)).2 E _ _) rfl) rfl hl.1 rfl (Nat.le_of_ble_eq_true rfl) dX6_plan_83 ⟨Nat.le_refl _, Nat.le_refl _⟩) hV (fun H locs hW hV => ?_)
    exact w_retI hx hb hr hlocks hW hV (Prod.mk.inj (Option.some.inj hf)).1 (Prod.mk.inj (Option.some.inj hf)).2 dX6_plan_86
  have c_53 : ∀ (μ_53 : Mem) (b1_53 : Int32) (b2_53 : Int32) , f_X6_plan_53 μ_53 b1_53 b2_53 = some (r, μ') → ∀ (H : Heap) (locs : List Loc) (ls : Array Slot), Wd E μ_53 s H → va_S (eA E) s.heap H locs → lv_has ls 3 [(0, .ref (ead E 1)), (1, .int b1_53), (2, .int b2_53)] → W p l e (headSpec (.code yX6_plan cX6_plan 3 (some .int) :: BIG) ({ frames := 1, cells := 0, slots := 0, locals := 25 })).room s m ([.ref (ead E 1), .int a1, .int a2] : List Value).toArray below meth c H locs 0 0 (MQ below (QI E r μ') ([.ref (ead E 1), .int a1, .int a2] : List Value).toArray s 0 0 (eA E)) (F0 m 53 ls []) := by
    intro μ_53 b1_53 b2_53 hf H locs ls hW hV hl
    unfold f_X6_plan_53 at hf
    refine lv_iload_n hx hb dX6_plan_53 rfl (lv_at hl 1 rfl) ?_
    refine lv_iconst (v := (3 : Int32)) hx hb dX6_plan_54 (by decide) ?_
    refine lv_icmp_ne (tgt := 73) hx hb dX6_plan_55 (by decide) (fun y26 => ?_) (fun y26 => ?_)
    · have hf := op_f y26 hf
      exact c_73 μ_53 b1_53 b2_53 hf H locs ls hW hV (lv_sub hl [0, 1, 2] rfl)
    · have hf := op_t y26 hf
      refine lv_iload_n hx hb dX6_plan_58 rfl (lv_at hl 2 rfl) ?_
      refine lv_i2l hx hb dX6_plan_59 rfl ?_
      refine lv_lconst (v := (0 : Int64)) hx hb dX6_plan_60 (by decide) ?_
      refine lv_ldc2 (v := (127 : Int64)) hx hb hown (hB _ q_a06158da) dX6_plan_61 ?_
      obtain ⟨v27, e_28, hf⟩ := op_none hf
      refine w_callN (rn_RX6_62 (As := [.long b2_53.toInt64, .long (0 : Int64), .long (127 : Int64)]) hx hb hml hown hB hW hZ hV (k_X6_within l E _ b2_53.toInt64 (0 : Int64) (127 : Int64) v27 e_28) rfl rfl ⟨(Nat.le_of_ble_eq_true rfl), (Nat.le_of_ble_eq_true rfl)⟩ rfl hl.1 rfl (Nat.le_of_ble_eq_true rfl) dX6_plan_64 ⟨Nat.le_refl _, Nat.le_refl _⟩) hV (fun H locs hn_v27 hW hV => ?_)
      refine lv_if_ne (tgt := 73) hx hb dX6_plan_67 (by decide) (fun y29 => ?_) (fun y29 => ?_)
      · have hf := op_f y29 hf
        exact c_73 μ_53 b1_53 b2_53 hf H locs ls hW hV (lv_sub hl [0, 1, 2] rfl)
      · have hf := op_t y29 hf
        refine lv_bipush (v := (-2 : Int32)) hx hb dX6_plan_70 (by decide) ?_
        exact w_retI hx hb hr hlocks hW hV (Prod.mk.inj (Option.some.inj hf)).1 (Prod.mk.inj (Option.some.inj hf)).2 dX6_plan_72
  have c_40 : ∀ (μ_40 : Mem) (b1_40 : Int32) (b2_40 : Int32) , f_X6_plan_40 μ_40 b1_40 b2_40 = some (r, μ') → ∀ (H : Heap) (locs : List Loc) (ls : Array Slot), Wd E μ_40 s H → va_S (eA E) s.heap H locs → lv_has ls 3 [(0, .ref (ead E 1)), (1, .int b1_40), (2, .int b2_40)] → W p l e (headSpec (.code yX6_plan cX6_plan 3 (some .int) :: BIG) ({ frames := 1, cells := 0, slots := 0, locals := 25 })).room s m ([.ref (ead E 1), .int a1, .int a2] : List Value).toArray below meth c H locs 0 0 (MQ below (QI E r μ') ([.ref (ead E 1), .int a1, .int a2] : List Value).toArray s 0 0 (eA E)) (F0 m 40 ls []) := by
    intro μ_40 b1_40 b2_40 hf H locs ls hW hV hl
    unfold f_X6_plan_40 at hf
    refine lv_aload_n hx hb dX6_plan_40 rfl (lv_at hl 0 rfl) ?_
    refine gf_RX6_12 hx hb hB hown hW dX6_plan_41 ?_
    refine lv_iload_n hx hb dX6_plan_44 rfl (lv_at hl 2 rfl) ?_
    obtain ⟨v30, e_31, hf⟩ := op_none hf
    refine w_callN (rn_RX6_85 (As := [.int b2_40]) hx hb hml hown hB hW hZ hV (k_X2_has l E _ 100 b2_40 st1 v30 e_31) rfl rfl ⟨(Nat.le_of_ble_eq_true rfl), (Nat.le_of_ble_eq_true rfl)⟩ (w_rec hW (oSt st1).1 ((oSt st1).2 E _ _) rfl) rfl hl.1 rfl (Nat.le_of_ble_eq_true rfl) dX6_plan_45 ⟨Nat.le_refl _, Nat.le_refl _⟩) hV (fun H locs hn_v30 hW hV => ?_)
    refine lv_if_ne (tgt := 53) hx hb dX6_plan_48 (by decide) (fun y32 => ?_) (fun y32 => ?_)
    · have hf := op_f y32 hf
      exact c_53 μ_40 b1_40 b2_40 hf H locs ls hW hV (lv_sub hl [0, 1, 2] rfl)
    · have hf := op_t y32 hf
      refine lv_iconst (v := (-1 : Int32)) hx hb dX6_plan_51 (by decide) ?_
      exact w_retI hx hb hr hlocks hW hV (Prod.mk.inj (Option.some.inj hf)).1 (Prod.mk.inj (Option.some.inj hf)).2 dX6_plan_52
  obtain ⟨H, hH⟩ : ∃ H : Heap, H = s.heap := ⟨_, rfl⟩
  obtain ⟨locs, hlocs⟩ : ∃ locs : List Loc, locs = [] := ⟨_, rfl⟩
  rw [show (W p l e (headSpec (.code yX6_plan cX6_plan 3 (some .int) :: BIG) ({ frames := 1, cells := 0, slots := 0, locals := 25 })).room s m ([.ref (ead E 1), .int a1, .int a2] : List Value).toArray below meth c s.heap [] 0 0) = W p l e (headSpec (.code yX6_plan cX6_plan 3 (some .int) :: BIG) ({ frames := 1, cells := 0, slots := 0, locals := 25 })).room s m ([.ref (ead E 1), .int a1, .int a2] : List Value).toArray below meth c H locs 0 0 by rw [hH, hlocs]]
  have hV : va_S (eA E) s.heap H locs := by rw [hH, hlocs]; exact hV
  have hW : Wd E μ s H := by rw [hH]; exact hW
  unfold f_X6_plan at hf
  refine lv_iload_n hx hb dX6_plan_0 rfl (lv_at hl 1 rfl) ?_
  refine lv_iconst (v := (-1 : Int32)) hx hb dX6_plan_1 (by decide) ?_
  refine lv_icmp_ne (tgt := 16) hx hb dX6_plan_2 (by decide) (fun y33 => ?_) (fun y33 => ?_)
  · have hf := op_f y33 hf
    refine lv_iload_n hx hb dX6_plan_16 rfl (lv_at hl 1 rfl) ?_
    refine lv_i2l hx hb dX6_plan_17 rfl ?_
    refine lv_lconst (v := (0 : Int64)) hx hb dX6_plan_18 (by decide) ?_
    refine lv_ldc2 (v := (3 : Int64)) hx hb hown (hB _ q_e3e92a5a) dX6_plan_19 ?_
    obtain ⟨v34, e_35, hf⟩ := op_none hf
    refine w_callN (rn_RX6_62 (As := [.long a1.toInt64, .long (0 : Int64), .long (3 : Int64)]) hx hb hml hown hB hW hZ hV (k_X6_within l E _ a1.toInt64 (0 : Int64) (3 : Int64) v34 e_35) rfl rfl ⟨(Nat.le_of_ble_eq_true rfl), (Nat.le_of_ble_eq_true rfl)⟩ rfl hl.1 rfl (Nat.le_of_ble_eq_true rfl) dX6_plan_22 ⟨Nat.le_refl _, Nat.le_refl _⟩) hV (fun H locs hn_v34 hW hV => ?_)
    refine lv_if_ne (tgt := 30) hx hb dX6_plan_25 (by decide) (fun y36 => ?_) (fun y36 => ?_)
    · have hf := op_f y36 hf
      refine lv_iload_n hx hb dX6_plan_30 rfl (lv_at hl 1 rfl) ?_
      refine lv_iconst (v := (1 : Int32)) hx hb dX6_plan_31 (by decide) ?_
      refine lv_icmp_eq (tgt := 40) hx hb dX6_plan_32 (by decide) (fun y37 => ?_) (fun y37 => ?_)
      · have hf := op_t y37 hf
        exact c_40 μ a1 a2 hf H locs ls hW hV (lv_sub hl [0, 1, 2] rfl)
      · have hf := op_f y37 hf
        refine lv_iload_n hx hb dX6_plan_35 rfl (lv_at hl 1 rfl) ?_
        refine lv_iconst (v := (2 : Int32)) hx hb dX6_plan_36 (by decide) ?_
        refine lv_icmp_ne (tgt := 53) hx hb dX6_plan_37 (by decide) (fun y38 => ?_) (fun y38 => ?_)
        · have hf := op_f y38 hf
          exact c_53 μ a1 a2 hf H locs ls hW hV (lv_sub hl [0, 1, 2] rfl)
        · have hf := op_t y38 hf
          exact c_40 μ a1 a2 hf H locs ls hW hV (lv_sub hl [0, 1, 2] rfl)
    · have hf := op_t y36 hf
      refine lv_iconst (v := (-1 : Int32)) hx hb dX6_plan_28 (by decide) ?_
      exact w_retI hx hb hr hlocks hW hV (Prod.mk.inj (Option.some.inj hf)).1 (Prod.mk.inj (Option.some.inj hf)).2 dX6_plan_29
  · have hf := op_t y33 hf
    refine lv_aload_n hx hb dX6_plan_5 rfl (lv_at hl 0 rfl) ?_
    refine gf_RX6_12 hx hb hB hown hW dX6_plan_6 ?_
    refine gf_RX6_196 hx hb hB hown hW st1 dX6_plan_9 ?_
    obtain ⟨p42, e_41, hf⟩ := op_none hf
    refine w_callI (rn_RX6_173 (As := []) hx hb hml hown hB hW hZ hV (k_X1_empty l E _ (100 + 30) 10 (rwP st1) p42.1 p42.2 e_41) rfl rfl ⟨(Nat.le_of_ble_eq_true rfl), (Nat.le_of_ble_eq_true rfl)⟩ (w_rec hW (oRw (rwP st1)).1 ((oRw (rwP st1)).2 E _ _) rfl) rfl hl.1 rfl (Nat.le_of_ble_eq_true rfl) dX6_plan_12 ⟨Nat.le_refl _, Nat.le_refl _⟩) hV (fun H locs hW hV => ?_)
    exact w_retI hx hb hr hlocks hW hV (Prod.mk.inj (Option.some.inj hf)).1 (Prod.mk.inj (Option.some.inj hf)).2 dX6_plan_15
set_option maxHeartbeats 8000000 in
set_option maxRecDepth 100000 in
theorem k_X6_tryRow (l : Launch) (E : WE) (μ : Mem) (k1 : Nat) (h1 : isI k1 3) (μ' : Mem) (hf : f_X6_tryRow μ k1 = some μ') : Met l yX6_tryRow (.code yX6_tryRow cX6_tryRow 3 none :: BIG) ({ frames := 6, cells := 0, slots := 0, locals := 145 }) (PW E μ [.ref (ead E 1), .ref (ead E k1)]) (QV E μ') 0 0 (eA E) := by
  refine Met.ofW (cc := cX6_tryRow) (maxL := 3) (ret := none) (by decide) rfl ?_
  intro p e s m args below meth c s₁ B hml hv
  obtain ⟨rfl, hW, hZ⟩ := hv
  have hx := B.exec
  have hb := B.bytes
  have hr := B.returns
  have hB : ∀ w ∈ BIG, w.before _ s = true := fun w h => atoms_spec (ws := (.code yX6_tryRow cX6_tryRow 3 none :: BIG)) B.pre w (List.mem_cons_of_mem _ h)
  have hown : s.vm.findClass RX6 = some m.cls := findClass_of_methodNamed B.named
  have hlocks := B.notSynchronized
  have hV : va_S (eA E) s.heap s.heap [] := va_S.rf
  have hl := lv_entry ([.ref (ead E 1), .ref (ead E k1)]) (n := 3) (Nat.le_of_ble_eq_true rfl)
  rw [lg_entry_eq]
  generalize (lg_sl ([.ref (ead E 1), .ref (ead E k1)]) ++ List.replicate (3 - (lg_sl ([.ref (ead E 1), .ref (ead E k1)])).length) Slot.unset).toArray = ls at hl ⊢
  have hl : lv_has ls 3 [(0, .ref (ead E 1)), (1, .ref (ead E k1))] := hl
  have c_98 : ∀ (μ_98 : Mem) (s0_98 : Int32) (s1_98 : Int32) (s2_98 : Nat) (hs2_98 : isI s2_98 14) , f_X6_tryRow_98 k1 μ_98 s0_98 s1_98 s2_98 = some μ' → ∀ (H : Heap) (locs : List Loc) (ls : Array Slot), Wd E μ_98 s H → va_S (eA E) s.heap H locs → lv_has ls 3 [] → W p l e (headSpec (.code yX6_tryRow cX6_tryRow 3 none :: BIG) ({ frames := 6, cells := 0, slots := 0, locals := 145 })).room s m ([.ref (ead E 1), .ref (ead E k1)] : List Value).toArray below meth c H locs 0 0 (MQ below (QV E μ') ([.ref (ead E 1), .ref (ead E k1)] : List Value).toArray s 0 0 (eA E)) (F0 m 98 ls [.int s0_98, .int s1_98, .ref (ead E s2_98)]) := by
    intro μ_98 s0_98 s1_98 s2_98 hs2_98 hf H locs ls hW hV hl
    unfold f_X6_tryRow_98 at hf
    obtain ⟨μ17, e_μ17, hf⟩ := op_none hf
    refine w_iast hx hb hW hV hs2_98.1 (fun f => hs2_98.2 E f _) e_μ17 dX6_tryRow_98 (fun H locs hW hV => ?_)
    exact w_retV hx hb hr hlocks hW hV (Option.some.inj hf) dX6_tryRow_99
  obtain ⟨H, hH⟩ : ∃ H : Heap, H = s.heap := ⟨_, rfl⟩
  obtain ⟨locs, hlocs⟩ : ∃ locs : List Loc, locs = [] := ⟨_, rfl⟩
  rw [show (W p l e (headSpec (.code yX6_tryRow cX6_tryRow 3 none :: BIG) ({ frames := 6, cells := 0, slots := 0, locals := 145 })).room s m ([.ref (ead E 1), .ref (ead E k1)] : List Value).toArray below meth c s.heap [] 0 0) = W p l e (headSpec (.code yX6_tryRow cX6_tryRow 3 none :: BIG) ({ frames := 6, cells := 0, slots := 0, locals := 145 })).room s m ([.ref (ead E 1), .ref (ead E k1)] : List Value).toArray below meth c H locs 0 0 by rw [hH, hlocs]]
  have hV : va_S (eA E) s.heap H locs := by rw [hH, hlocs]; exact hV
  have hW : Wd E μ s H := by rw [hH]; exact hW
  unfold f_X6_tryRow at hf
  refine lv_aload_n hx hb dX6_tryRow_0 rfl (lv_at hl 1 rfl) ?_
  refine lv_iconst (v := (1 : Int32)) hx hb dX6_tryRow_1 (by decide) ?_
  obtain ⟨v18, e_v18, hf⟩ := op_none hf
  refine w_iald hx hb hW h1.1 (h1.2 E _ _) e_v18 dX6_tryRow_2 ?_
  refine lv_istore_n (i := 2) (lv' := [(2, .int v18), (0, .ref (ead E 1)), (1, .ref (ead E k1))]) hx hb dX6_tryRow_3 rfl hl (by decide) rfl (fun ls hl => ?_)
  refine lv_aload_n hx hb dX6_tryRow_4 rfl (lv_at hl 2 rfl) ?_
  refine lv_iconst (v := (0 : Int32)) hx hb dX6_tryRow_5 (by decide) ?_
  obtain ⟨v19, e_v19, hf⟩ := op_none hf
  refine w_iald hx hb hW h1.1 (h1.2 E _ _) e_v19 dX6_tryRow_6 ?_
  by_cases y20 : v19 = (0 : Int32)
  · have hf := op_t y20 hf
    refine lv_lookup (tgt := 32) (off := 25) hx hb dX6_tryRow_7 (by decide) (by rw [y20]; decide) (by decide) ?_
    refine lv_aload_n hx hb dX6_tryRow_32 rfl (lv_at hl 1 rfl) ?_
    refine lv_aload_n hx hb dX6_tryRow_33 rfl (lv_at hl 1 rfl) ?_
    refine gf_RX6_21 hx hb hB hown hW dX6_tryRow_34 ?_
    obtain ⟨μ21, e_22, hf⟩ := op_none hf
    refine w_callV (rn_RX6_89 (As := [.ref (ead E 300)]) hx hb hml hown hB hW hZ hV (k_X6_reckon l E _ 300 st3 μ21 e_22) rfl rfl ⟨(Nat.le_of_ble_eq_true rfl), (Nat.le_of_ble_eq_true rfl)⟩ (w_rec hW oX.1 (oX.2 E _ _) rfl) rfl hl.1 rfl (Nat.le_of_ble_eq_true rfl) dX6_tryRow_37 ⟨Nat.le_refl _, Nat.le_refl _⟩) hV (fun H locs hW hV => ?_)
    refine lv_aload_n hx hb dX6_tryRow_40 rfl (lv_at hl 1 rfl) ?_
    refine gf_RX6_21 hx hb hB hown hW dX6_tryRow_41 ?_
    refine lv_iconst (v := (1 : Int32)) hx hb dX6_tryRow_44 (by decide) ?_
    refine lv_ldcw (v := (2147483647 : Int32)) hx hb hown (hB _ q_3e236384) dX6_tryRow_45 ?_
    obtain ⟨μ23, e_24, hf⟩ := op_none hf
    refine w_callV (rn_RX6_144 (As := [.int (1 : Int32), .int (2147483647 : Int32)]) hx hb hml hown hB hW hZ hV (k_X2_go l E _ 300 (1 : Int32) (2147483647 : Int32) st3 μ23 e_24) rfl rfl ⟨(Nat.le_of_ble_eq_true rfl), (Nat.le_of_ble_eq_true rfl)⟩ (w_rec hW (oSt st3).1 ((oSt st3).2 E _ _) rfl) rfl hl.1 rfl (Nat.le_of_ble_eq_true rfl) dX6_tryRow_48 ⟨Nat.le_refl _, Nat.le_refl _⟩) hV (fun H locs hW hV => ?_)
    refine lv_goto (tgt := 99) hx hb dX6_tryRow_51 (by decide) ?_
    exact w_retV hx hb hr hlocks hW hV (Option.some.inj hf) dX6_tryRow_99
  have hf := op_f y20 hf
  by_cases y25 : v19 = (3 : Int32)
  · have hf := op_t y25 hf
    refine lv_lookup (tgt := 54) (off := 47) hx hb dX6_tryRow_7 (by decide) (by rw [y25]; decide) (by decide) ?_
    refine lv_aload_n hx hb dX6_tryRow_54 rfl (lv_at hl 1 rfl) ?_
    refine gf_RX6_21 hx hb hB hown hW dX6_tryRow_55 ?_
    refine lv_iload_n hx hb dX6_tryRow_58 rfl (lv_at hl 0 rfl) ?_
    obtain ⟨μ26, e_μ26, hf⟩ := op_none hf
    refine pf_RX6_99 hx hb hB hown hW st3 hV dX6_tryRow_59 (fun H locs hW hV => ?_)
    rw [Option.some.inj e_μ26] at hW
    refine lv_goto (tgt := 99) hx hb dX6_tryRow_62 (by decide) ?_
    exact w_retV hx hb hr hlocks hW hV (Option.some.inj hf) dX6_tryRow_99
  have hf := op_f y25 hf
  refine lv_lookup (tgt := 65) (off := 58) hx hb dX6_tryRow_7 (by decide) (by rw [lv_osw y20 (by decide)]; rw [lv_osw y25 (by decide)]; rfl) (by decide) ?_
  refine lv_aload_n hx hb dX6_tryRow_65 rfl (lv_at hl 1 rfl) ?_
  refine gf_RX6_21 hx hb hB hown hW dX6_tryRow_66 ?_
  refine lv_iload_n hx hb dX6_tryRow_69 rfl (lv_at hl 0 rfl) ?_
  obtain ⟨v27, e_28, hf⟩ := op_none hf
  refine w_callN (rn_RX6_85 (As := [.int v18]) hx hb hml hown hB hW hZ hV (k_X2_has l E _ 300 v18 st3 v27 e_28) rfl rfl ⟨(Nat.le_of_ble_eq_true rfl), (Nat.le_of_ble_eq_true rfl)⟩ (w_rec hW (oSt st3).1 ((oSt st3).2 E _ _) rfl) rfl hl.1 rfl (Nat.le_of_ble_eq_true rfl) dX6_tryRow_70 ⟨Nat.le_refl _, Nat.le_refl _⟩) hV (fun H locs hn_v27 hW hV => ?_)
  refine lv_if_eq (tgt := 99) hx hb dX6_tryRow_73 (by decide) (fun y29 => ?_) (fun y29 => ?_)
  · have hf := op_t y29 hf
    exact w_retV hx hb hr hlocks hW hV (Option.some.inj hf) dX6_tryRow_99
  · have hf := op_f y29 hf
    refine lv_aload_n hx hb dX6_tryRow_76 rfl (lv_at hl 1 rfl) ?_
    refine gf_RX6_21 hx hb hB hown hW dX6_tryRow_77 ?_
    refine gf_RX6_75 hx hb hB hown hW st3 dX6_tryRow_80 ?_
    refine lv_iload_n hx hb dX6_tryRow_83 rfl (lv_at hl 0 rfl) ?_
    obtain ⟨j30, e_j30, hf⟩ := op_none hf
    refine w_aald (j := 4) hx hb hW (rSt st3).1 ((rSt st3).2 E _ _) rfl rfl e_j30 dX6_tryRow_84 ?_
    refine lv_iconst (v := (4 : Int32)) hx hb dX6_tryRow_85 (by decide) ?_
    refine lv_aload_n hx hb dX6_tryRow_86 rfl (lv_at hl 2 rfl) ?_
    refine lv_iconst (v := (0 : Int32)) hx hb dX6_tryRow_87 (by decide) ?_
    obtain ⟨v31, e_v31, hf⟩ := op_none hf
    refine w_iald hx hb hW h1.1 (h1.2 E _ _) e_v31 dX6_tryRow_88 ?_
    refine lv_iconst (v := (1 : Int32)) hx hb dX6_tryRow_89 (by decide) ?_
    refine lv_icmp_ne (tgt := 97) hx hb dX6_tryRow_90 (by decide) (fun y32 => ?_) (fun y32 => ?_)
    · have hf := op_f y32 hf
      refine lv_iconst (v := (0 : Int32)) hx hb dX6_tryRow_97 (by decide) ?_
      exact c_98 μ (0 : Int32) (4 : Int32) (300 + 1 + 1 + j30) (iEg st3 (aix_lt e_j30)) hf H locs ls hW hV (lv_sub hl [] rfl)
    · have hf := op_t y32 hf
      refine lv_iconst (v := (1 : Int32)) hx hb dX6_tryRow_93 (by decide) ?_
      refine lv_goto (tgt := 98) hx hb dX6_tryRow_94 (by decide) ?_
      exact c_98 μ (1 : Int32) (4 : Int32) (300 + 1 + 1 + j30) (iEg st3 (aix_lt e_j30)) hf H locs ls hW hV (lv_sub hl [] rfl)
set_option maxHeartbeats 8000000 in
set_option maxRecDepth 100000 in
theorem k_X6_ends (l : Launch) (E : WE) (μ : Mem) (a1 : Int32) (r : Int32) (μ' : Mem) (hf : f_X6_ends μ a1 = some (r, μ')) : Met l yX6_ends (.code yX6_ends cX6_ends 3 (some .int) :: BIG) ({ frames := 7, cells := 0, slots := 0, locals := 167 }) (PW E μ [.ref (ead E 1), .int a1]) (QI E r μ') 0 0 (eA E) := by
  refine Met.ofW (cc := cX6_ends) (maxL := 3) (ret := (some .int)) (by decide) rfl ?_
  intro p e s m args below meth c s₁ B hml hv
  obtain ⟨rfl, hW, hZ⟩ := hv
  have hx := B.exec
  have hb := B.bytes
  have hr := B.returns
  have hB : ∀ w ∈ BIG, w.before _ s = true := fun w h => atoms_spec (ws := (.code yX6_ends cX6_ends 3 (some .int) :: BIG)) B.pre w (List.mem_cons_of_mem _ h)
  have hown : s.vm.findClass RX6 = some m.cls := findClass_of_methodNamed B.named
  have hlocks := B.notSynchronized
  have hV : va_S (eA E) s.heap s.heap [] := va_S.rf
  have hl := lv_entry ([.ref (ead E 1), .int a1]) (n := 3) (Nat.le_of_ble_eq_true rfl)
  rw [lg_entry_eq]
  generalize (lg_sl ([.ref (ead E 1), .int a1]) ++ List.replicate (3 - (lg_sl ([.ref (ead E 1), .int a1])).length) Slot.unset).toArray = ls at hl ⊢
  have hl : lv_has ls 3 [(0, .ref (ead E 1)), (1, .int a1)] := hl
  have c_75 : ∀ (μ_75 : Mem) (s0_75 : Int32) , f_X6_ends_75 μ_75 s0_75 = some (r, μ') → ∀ (H : Heap) (locs : List Loc) (ls : Array Slot), Wd E μ_75 s H → va_S (eA E) s.heap H locs → lv_has ls 3 [] → W p l e (headSpec (.code yX6_ends cX6_ends 3 (some .int) :: BIG) ({ frames := 7, cells := 0, slots := 0, locals := 167 })).room s m ([.ref (ead E 1), .int a1] : List Value).toArray below meth c H locs 0 0 (MQ below (QI E r μ') ([.ref (ead E 1), .int a1] : List Value).toArray s 0 0 (eA E)) (F0 m 75 ls [.int s0_75, .ref (ead E 300)]) := by
    intro μ_75 s0_75 hf H locs ls hW hV hl
    unfold f_X6_ends_75 at hf
    obtain ⟨v14, e_15, hf⟩ := op_none hf
    refine w_callI (rn_RX6_138 (As := [.int s0_75]) hx hb hml hown hB hW hZ hV (k_X2_total l E _ 300 s0_75 st3 v14 e_15) rfl rfl ⟨(Nat.le_of_ble_eq_true rfl), (Nat.le_of_ble_eq_true rfl)⟩ (w_rec hW (oSt st3).1 ((oSt st3).2 E _ _) rfl) rfl hl.1 rfl (Nat.le_of_ble_eq_true rfl) dX6_ends_75 ⟨Nat.le_refl _, Nat.le_refl _⟩) hV (fun H locs hW hV => ?_)
    exact w_retI hx hb hr hlocks hW hV (Prod.mk.inj (Option.some.inj hf)).1 (Prod.mk.inj (Option.some.inj hf)).2 dX6_ends_78
  have c_25 : ∀ (n_25 : Nat) (μ_25 : Mem) (b1_25 : Int32) (b2_25 : Int32) , f_X6_ends_25 n_25 μ_25 b1_25 b2_25 = some (r, μ') → ∀ (H : Heap) (locs : List Loc) (ls : Array Slot), Wd E μ_25 s H → va_S (eA E) s.heap H locs → lv_has ls 3 [(0, .ref (ead E 1)), (1, .int b1_25), (2, .int b2_25)] → W p l e (headSpec (.code yX6_ends cX6_ends 3 (some .int) :: BIG) ({ frames := 7, cells := 0, slots := 0, locals := 167 })).room s m ([.ref (ead E 1), .int a1] : List Value).toArray below meth c H locs 0 0 (MQ below (QI E r μ') ([.ref (ead E 1), .int a1] : List Value).toArray s 0 0 (eA E)) (F0 m 25 ls []) := by
    intro n_25
    induction n_25 with
    | zero =>
      intro μ_25 b1_25 b2_25 hf H locs ls hW hV hl
      cases hf
    | succ n_25 ih_25 =>
      intro μ_25 b1_25 b2_25 hf H locs ls hW hV hl
      rw [f_X6_ends_25] at hf
      refine lv_iload_n hx hb dX6_ends_25 rfl (lv_at hl 2 rfl) ?_
      refine lv_aload_n hx hb dX6_ends_26 rfl (lv_at hl 0 rfl) ?_
      refine gf_RX6_12 hx hb hB hown hW dX6_ends_27 ?_
      refine gf_RX6_196 hx hb hB hown hW st1 dX6_ends_30 ?_
      refine gf_RX6_202 hx hb hB hown hW (rwP st1) dX6_ends_33 ?_
      refine lv_icmp_ge (tgt := 61) hx hb dX6_ends_36 (by decide) (fun y16 => ?_) (fun y16 => ?_)
      · have hf := op_t y16 hf
        refine lv_aload_n hx hb dX6_ends_61 rfl (lv_at hl 0 rfl) ?_
        refine gf_RX6_21 hx hb hB hown hW dX6_ends_62 ?_
        refine lv_iload_n hx hb dX6_ends_65 rfl (lv_at hl 1 rfl) ?_
        refine lv_if_ne (tgt := 73) hx hb dX6_ends_66 (by decide) (fun y17 => ?_) (fun y17 => ?_)
        · have hf := op_f y17 hf
          refine lv_bipush (v := (6 : Int32)) hx hb dX6_ends_73 (by decide) ?_
          exact c_75 μ_25 (6 : Int32) hf H locs ls hW hV (lv_sub hl [] rfl)
        · have hf := op_t y17 hf
          refine lv_iconst (v := (5 : Int32)) hx hb dX6_ends_69 (by decide) ?_
          refine lv_goto (tgt := 75) hx hb dX6_ends_70 (by decide) ?_
          exact c_75 μ_25 (5 : Int32) hf H locs ls hW hV (lv_sub hl [] rfl)
      · have hf := op_f y16 hf
        refine lv_aload_n hx hb dX6_ends_39 rfl (lv_at hl 0 rfl) ?_
        refine lv_aload_n hx hb dX6_ends_40 rfl (lv_at hl 0 rfl) ?_
        refine gf_RX6_12 hx hb hB hown hW dX6_ends_41 ?_
        refine gf_RX6_196 hx hb hB hown hW st1 dX6_ends_44 ?_
        refine gf_RX6_205 hx hb hB hown hW (rwP st1) dX6_ends_47 ?_
        refine lv_iload_n hx hb dX6_ends_50 rfl (lv_at hl 2 rfl) ?_
        obtain ⟨j18, e_j18, hf⟩ := op_none hf
        refine w_aald (j := 4) hx hb hW (rRw (rwP st1)).1 ((rRw (rwP st1)).2 E _ _) rfl rfl e_j18 dX6_ends_51 ?_
        obtain ⟨μ19, e_20, hf⟩ := op_none hf
        refine w_callV (rn_RX6_208 (As := [.ref (ead E ((100 + 30) + 1 + 1 + j18))]) hx hb hml hown hB hW hZ hV (k_X6_tryRow l E _ ((100 + 30) + 1 + 1 + j18) (iRw (rwP st1) (aix_lt e_j18)) μ19 e_20) rfl rfl ⟨(Nat.le_of_ble_eq_true rfl), (Nat.le_of_ble_eq_true rfl)⟩ (w_rec hW oX.1 (oX.2 E _ _) rfl) rfl hl.1 rfl (Nat.le_of_ble_eq_true rfl) dX6_ends_52 ⟨Nat.le_refl _, Nat.le_refl _⟩) hV (fun H locs hW hV => ?_)
        obtain ⟨v21, e_v21, hf⟩ := op_none hf
        refine lv_iinc (v := v21) (lv' := [(2, .int v21), (0, .ref (ead E 1)), (1, .int b1_25)]) hx hb dX6_ends_55 hl (k := 2) rfl (by rw [← Option.some.inj e_v21]; rfl) (by decide) rfl (fun ls hl => ?_)
        refine lv_goto (tgt := 25) hx hb dX6_ends_58 (by decide) ?_
        exact ih_25 μ19 b1_25 v21 hf H locs ls hW hV (lv_sub hl [1, 2, 0] rfl)
  obtain ⟨H, hH⟩ : ∃ H : Heap, H = s.heap := ⟨_, rfl⟩
  obtain ⟨locs, hlocs⟩ : ∃ locs : List Loc, locs = [] := ⟨_, rfl⟩
  rw [show (W p l e (headSpec (.code yX6_ends cX6_ends 3 (some .int) :: BIG) ({ frames := 7, cells := 0, slots := 0, locals := 167 })).room s m ([.ref (ead E 1), .int a1] : List Value).toArray below meth c s.heap [] 0 0) = W p l e (headSpec (.code yX6_ends cX6_ends 3 (some .int) :: BIG) ({ frames := 7, cells := 0, slots := 0, locals := 167 })).room s m ([.ref (ead E 1), .int a1] : List Value).toArray below meth c H locs 0 0 by rw [hH, hlocs]]
  have hV : va_S (eA E) s.heap H locs := by rw [hH, hlocs]; exact hV
  have hW : Wd E μ s H := by rw [hH]; exact hW
  unfold f_X6_ends at hf
  refine lv_iload_n hx hb dX6_ends_0 rfl (lv_at hl 1 rfl) ?_
  refine lv_i2l hx hb dX6_ends_1 rfl ?_
  refine lv_lconst (v := (0 : Int64)) hx hb dX6_ends_2 (by decide) ?_
  refine lv_lconst (v := (1 : Int64)) hx hb dX6_ends_3 (by decide) ?_
  obtain ⟨v22, e_23, hf⟩ := op_none hf
  refine w_callN (rn_RX6_62 (As := [.long a1.toInt64, .long (0 : Int64), .long (1 : Int64)]) hx hb hml hown hB hW hZ hV (k_X6_within l E _ a1.toInt64 (0 : Int64) (1 : Int64) v22 e_23) rfl rfl ⟨(Nat.le_of_ble_eq_true rfl), (Nat.le_of_ble_eq_true rfl)⟩ rfl hl.1 rfl (Nat.le_of_ble_eq_true rfl) dX6_ends_4 ⟨Nat.le_refl _, Nat.le_refl _⟩) hV (fun H locs hn_v22 hW hV => ?_)
  refine lv_if_ne (tgt := 12) hx hb dX6_ends_7 (by decide) (fun y24 => ?_) (fun y24 => ?_)
  · have hf := op_f y24 hf
    refine lv_aload_n hx hb dX6_ends_12 rfl (lv_at hl 0 rfl) ?_
    refine gf_RX6_21 hx hb hB hown hW dX6_ends_13 ?_
    refine lv_aload_n hx hb dX6_ends_16 rfl (lv_at hl 0 rfl) ?_
    refine gf_RX6_12 hx hb hB hown hW dX6_ends_17 ?_
    obtain ⟨μ25, e_26, hf⟩ := op_none hf
    refine w_callV (rn_RX6_199 (As := [.ref (ead E 100)]) hx hb hml hown hB hW hZ hV (k_X2_becomes l E _ 300 100 st3 st1 μ25 e_26) rfl rfl ⟨(Nat.le_of_ble_eq_true rfl), (Nat.le_of_ble_eq_true rfl)⟩ (w_rec hW (oSt st3).1 ((oSt st3).2 E _ _) rfl) rfl hl.1 rfl (Nat.le_of_ble_eq_true rfl) dX6_ends_20 ⟨Nat.le_refl _, Nat.le_refl _⟩) hV (fun H locs hW hV => ?_)
    refine lv_iconst (v := (0 : Int32)) hx hb dX6_ends_23 (by decide) ?_
    refine lv_istore_n (i := 2) (lv' := [(2, .int (0 : Int32)), (0, .ref (ead E 1)), (1, .int a1)]) hx hb dX6_ends_24 rfl hl (by decide) rfl (fun ls hl => ?_)
    exact c_25 FU μ25 a1 (0 : Int32) hf H locs ls hW hV (lv_sub hl [1, 2, 0] rfl)
  · have hf := op_t y24 hf
    refine lv_iconst (v := (-1 : Int32)) hx hb dX6_ends_10 (by decide) ?_
    exact w_retI hx hb hr hlocks hW hV (Prod.mk.inj (Option.some.inj hf)).1 (Prod.mk.inj (Option.some.inj hf)).2 dX6_ends_11
set_option maxHeartbeats 8000000 in
set_option maxRecDepth 100000 in
theorem k_X6_book (l : Launch) (E : WE) (μ : Mem) (a1 : Int32) (a2 : Int32) (r : Int32) (μ' : Mem) (hf : f_X6_book μ a1 a2 = some (r, μ')) : Met l yX6_book (.code yX6_book cX6_book 3 (some .int) :: BIG) ({ frames := 1, cells := 0, slots := 0, locals := 25 }) (PW E μ [.ref (ead E 1), .int a1, .int a2]) (QI E r μ') 0 0 (eA E) := by
  refine Met.ofW (cc := cX6_book) (maxL := 3) (ret := (some .int)) (by decide) rfl ?_
  intro p e s m args below meth c s₁ B hml hv
  obtain ⟨rfl, hW, hZ⟩ := hv
  have hx := B.exec
  have hb := B.bytes
  have hr := B.returns
  have hB : ∀ w ∈ BIG, w.before _ s = true := fun w h => atoms_spec (ws := (.code yX6_book cX6_book 3 (some .int) :: BIG)) B.pre w (List.mem_cons_of_mem _ h)
  have hown : s.vm.findClass RX6 = some m.cls := findClass_of_methodNamed B.named
  have hlocks := B.notSynchronized
  have hV : va_S (eA E) s.heap s.heap [] := va_S.rf
  have hl := lv_entry ([.ref (ead E 1), .int a1, .int a2]) (n := 3) (Nat.le_of_ble_eq_true rfl)
  rw [lg_entry_eq]
  generalize (lg_sl ([.ref (ead E 1), .int a1, .int a2]) ++ List.replicate (3 - (lg_sl ([.ref (ead E 1), .int a1, .int a2])).length) Slot.unset).toArray = ls at hl ⊢
  have hl : lv_has ls 3 [(0, .ref (ead E 1)), (1, .int a1), (2, .int a2)] := hl
  obtain ⟨H, hH⟩ : ∃ H : Heap, H = s.heap := ⟨_, rfl⟩
  obtain ⟨locs, hlocs⟩ : ∃ locs : List Loc, locs = [] := ⟨_, rfl⟩
  rw [show (W p l e (headSpec (.code yX6_book cX6_book 3 (some .int) :: BIG) ({ frames := 1, cells := 0, slots := 0, locals := 25 })).room s m ([.ref (ead E 1), .int a1, .int a2] : List Value).toArray below meth c s.heap [] 0 0) = W p l e (headSpec (.code yX6_book cX6_book 3 (some .int) :: BIG) ({ frames := 1, cells := 0, slots := 0, locals := 25 })).room s m ([.ref (ead E 1), .int a1, .int a2] : List Value).toArray below meth c H locs 0 0 by rw [hH, hlocs]]
  have hV : va_S (eA E) s.heap H locs := by rw [hH, hlocs]; exact hV
  have hW : Wd E μ s H := by rw [hH]; exact hW
  unfold f_X6_book at hf
  refine lv_iload_n hx hb dX6_book_0 rfl (lv_at hl 1 rfl) ?_
  refine lv_iconst (v := (-1 : Int32)) hx hb dX6_book_1 (by decide) ?_
  refine lv_icmp_ne (tgt := 16) hx hb dX6_book_2 (by decide) (fun y16 => ?_) (fun y16 => ?_)
  · have hf := op_f y16 hf
    refine lv_aload_n hx hb dX6_book_16 rfl (lv_at hl 0 rfl) ?_
    refine gf_RX6_12 hx hb hB hown hW dX6_book_17 ?_
    refine lv_iload_n hx hb dX6_book_20 rfl (lv_at hl 1 rfl) ?_
    obtain ⟨v17, e_18, hf⟩ := op_none hf
    refine w_callN (rn_RX6_85 (As := [.int a1]) hx hb hml hown hB hW hZ hV (k_X2_has l E _ 100 a1 st1 v17 e_18) rfl rfl ⟨(Nat.le_of_ble_eq_true rfl), (Nat.le_of_ble_eq_true rfl)⟩ (w_rec hW (oSt st1).1 ((oSt st1).2 E _ _) rfl) rfl hl.1 rfl (Nat.le_of_ble_eq_true rfl) dX6_book_21 ⟨Nat.le_refl _, Nat.le_refl _⟩) hV (fun H locs hn_v17 hW hV => ?_)
    refine lv_if_ne (tgt := 29) hx hb dX6_book_24 (by decide) (fun y19 => ?_) (fun y19 => ?_)
    · have hf := op_f y19 hf
      refine lv_iload_n hx hb dX6_book_29 rfl (lv_at hl 2 rfl) ?_
      refine lv_i2l hx hb dX6_book_30 rfl ?_
      refine lv_lconst (v := (0 : Int64)) hx hb dX6_book_31 (by decide) ?_
      refine lv_ldc2 (v := (9999 : Int64)) hx hb hown (hB _ q_8390adc8) dX6_book_32 ?_
      obtain ⟨v20, e_21, hf⟩ := op_none hf
      refine w_callN (rn_RX6_62 (As := [.long a2.toInt64, .long (0 : Int64), .long (9999 : Int64)]) hx hb hml hown hB hW hZ hV (k_X6_within l E _ a2.toInt64 (0 : Int64) (9999 : Int64) v20 e_21) rfl rfl ⟨(Nat.le_of_ble_eq_true rfl), (Nat.le_of_ble_eq_true rfl)⟩ rfl hl.1 rfl (Nat.le_of_ble_eq_true rfl) dX6_book_35 ⟨Nat.le_refl _, Nat.le_refl _⟩) hV (fun H locs hn_v20 hW hV => ?_)
      refine lv_if_ne (tgt := 44) hx hb dX6_book_38 (by decide) (fun y22 => ?_) (fun y22 => ?_)
      · have hf := op_f y22 hf
        refine lv_aload_n hx hb dX6_book_44 rfl (lv_at hl 0 rfl) ?_
        refine gf_RX6_12 hx hb hB hown hW dX6_book_45 ?_
        refine gf_RX6_212 hx hb hB hown hW st1 dX6_book_48 ?_
        refine lv_iload_n hx hb dX6_book_51 rfl (lv_at hl 1 rfl) ?_
        refine lv_iload_n hx hb dX6_book_52 rfl (lv_at hl 2 rfl) ?_
        refine lv_iconst (v := (0 : Int32)) hx hb dX6_book_53 (by decide) ?_
        obtain ⟨p26, e_25, hf⟩ := op_none hf
        refine w_callI (rn_RX6_177 (As := [.int a1, .int a2, .int (0 : Int32)]) hx hb hml hown hB hW hZ hV (k_X1_add l E _ (100 + 50) 8 a1 a2 (0 : Int32) (rwB st1) p26.1 p26.2 e_25) rfl rfl ⟨(Nat.le_of_ble_eq_true rfl), (Nat.le_of_ble_eq_true rfl)⟩ (w_rec hW (oRw (rwB st1)).1 ((oRw (rwB st1)).2 E _ _) rfl) rfl hl.1 rfl (Nat.le_of_ble_eq_true rfl) dX6_book_54 ⟨Nat.le_refl _, Nat.le_refl _⟩) hV (fun H locs hW hV => ?_)
        exact w_retI hx hb hr hlocks hW hV (Prod.mk.inj (Option.some.inj hf)).1 (Prod.mk.inj (Option.some.inj hf)).2 dX6_book_57
      · have hf := op_t y22 hf
        refine lv_bipush (v := (-2 : Int32)) hx hb dX6_book_41 (by decide) ?_
        exact w_retI hx hb hr hlocks hW hV (Prod.mk.inj (Option.some.inj hf)).1 (Prod.mk.inj (Option.some.inj hf)).2 dX6_book_43
    · have hf := op_t y19 hf
      refine lv_iconst (v := (-1 : Int32)) hx hb dX6_book_27 (by decide) ?_
      exact w_retI hx hb hr hlocks hW hV (Prod.mk.inj (Option.some.inj hf)).1 (Prod.mk.inj (Option.some.inj hf)).2 dX6_book_28
  · have hf := op_t y16 hf
    refine lv_aload_n hx hb dX6_book_5 rfl (lv_at hl 0 rfl) ?_
    refine gf_RX6_12 hx hb hB hown hW dX6_book_6 ?_
    refine gf_RX6_212 hx hb hB hown hW st1 dX6_book_9 ?_
    obtain ⟨p30, e_29, hf⟩ := op_none hf
    refine w_callI (rn_RX6_173 (As := []) hx hb hml hown hB hW hZ hV (k_X1_empty l E _ (100 + 50) 8 (rwB st1) p30.1 p30.2 e_29) rfl rfl ⟨(Nat.le_of_ble_eq_true rfl), (Nat.le_of_ble_eq_true rfl)⟩ (w_rec hW (oRw (rwB st1)).1 ((oRw (rwB st1)).2 E _ _) rfl) rfl hl.1 rfl (Nat.le_of_ble_eq_true rfl) dX6_book_12 ⟨Nat.le_refl _, Nat.le_refl _⟩) hV (fun H locs hW hV => ?_)
    exact w_retI hx hb hr hlocks hW hV (Prod.mk.inj (Option.some.inj hf)).1 (Prod.mk.inj (Option.some.inj hf)).2 dX6_book_15
set_option maxHeartbeats 8000000 in
set_option maxRecDepth 100000 in
theorem k_X6_looked (l : Launch) (E : WE) (μ : Mem) (r : Int32) (hf : f_X6_looked μ = some r) : Met l yX6_looked (.code yX6_looked cX6_looked 3 (some .int) :: BIG) ({ frames := 1, cells := 0, slots := 0, locals := 21 }) (PW E μ [.ref (ead E 1)]) (QI E r μ) 0 0 (eA E) := by
  refine Met.ofW (cc := cX6_looked) (maxL := 3) (ret := (some .int)) (by decide) rfl ?_
  intro p e s m args below meth c s₁ B hml hv
  obtain ⟨rfl, hW, hZ⟩ := hv
  have hx := B.exec
  have hb := B.bytes
  have hr := B.returns
  have hB : ∀ w ∈ BIG, w.before _ s = true := fun w h => atoms_spec (ws := (.code yX6_looked cX6_looked 3 (some .int) :: BIG)) B.pre w (List.mem_cons_of_mem _ h)
  have hown : s.vm.findClass RX6 = some m.cls := findClass_of_methodNamed B.named
  have hlocks := B.notSynchronized
  have hV : va_S (eA E) s.heap s.heap [] := va_S.rf
  have hl := lv_entry ([.ref (ead E 1)]) (n := 3) (Nat.le_of_ble_eq_true rfl)
  rw [lg_entry_eq]
  generalize (lg_sl ([.ref (ead E 1)]) ++ List.replicate (3 - (lg_sl ([.ref (ead E 1)])).length) Slot.unset).toArray = ls at hl ⊢
  have hl : lv_has ls 3 [(0, .ref (ead E 1))] := hl
  have c_2 : ∀ (n_2 : Nat) (b1_2 : Int32) , f_X6_looked_2 μ n_2 b1_2 = some r → ∀ (H : Heap) (locs : List Loc) (ls : Array Slot), Wd E μ s H → va_S (eA E) s.heap H locs → lv_has ls 3 [(0, .ref (ead E 1)), (1, .int b1_2)] → W p l e (headSpec (.code yX6_looked cX6_looked 3 (some .int) :: BIG) ({ frames := 1, cells := 0, slots := 0, locals := 21 })).room s m ([.ref (ead E 1)] : List Value).toArray below meth c H locs 0 0 (MQ below (QI E r μ) ([.ref (ead E 1)] : List Value).toArray s 0 0 (eA E)) (F0 m 2 ls []) := by
    intro n_2
    induction n_2 with
    | zero =>
      intro b1_2 hf H locs ls hW hV hl
      cases hf
    | succ n_2 ih_2 =>
      have c_63 : ∀ (b1_63 : Int32) , f_X6_looked_63 μ (fun z0 => f_X6_looked_2 μ n_2 z0) b1_63 = some r → ∀ (H : Heap) (locs : List Loc) (ls : Array Slot), Wd E μ s H → va_S (eA E) s.heap H locs → lv_has ls 3 [(0, .ref (ead E 1)), (1, .int b1_63)] → W p l e (headSpec (.code yX6_looked cX6_looked 3 (some .int) :: BIG) ({ frames := 1, cells := 0, slots := 0, locals := 21 })).room s m ([.ref (ead E 1)] : List Value).toArray below meth c H locs 0 0 (MQ below (QI E r μ) ([.ref (ead E 1)] : List Value).toArray s 0 0 (eA E)) (F0 m 63 ls []) := by
        intro b1_63 hf H locs ls hW hV hl
        unfold f_X6_looked_63 at hf
        obtain ⟨v13, e_v13, hf⟩ := op_none hf
        refine lv_iinc (v := v13) (lv' := [(1, .int v13), (0, .ref (ead E 1))]) hx hb dX6_looked_63 hl (k := 1) rfl (by rw [← Option.some.inj e_v13]; rfl) (by decide) rfl (fun ls hl => ?_)
        refine lv_goto (tgt := 2) hx hb dX6_looked_66 (by decide) ?_
        exact ih_2 v13 hf H locs ls hW hV (lv_sub hl [1, 0] rfl)
      intro b1_2 hf H locs ls hW hV hl
      rw [f_X6_looked_2] at hf
      refine lv_iload_n hx hb dX6_looked_2 rfl (lv_at hl 1 rfl) ?_
      refine lv_aload_n hx hb dX6_looked_3 rfl (lv_at hl 0 rfl) ?_
      refine gf_RX6_12 hx hb hB hown hW dX6_looked_4 ?_
      refine gf_RX6_212 hx hb hB hown hW st1 dX6_looked_7 ?_
      refine gf_RX6_202 hx hb hB hown hW (rwB st1) dX6_looked_10 ?_
      refine lv_icmp_ge (tgt := 69) hx hb dX6_looked_13 (by decide) (fun y14 => ?_) (fun y14 => ?_)
      · have hf := op_t y14 hf
        refine lv_bipush (v := (-5 : Int32)) hx hb dX6_looked_69 (by decide) ?_
        exact w_retI hx hb hr hlocks hW hV (Option.some.inj hf) rfl dX6_looked_71
      · have hf := op_f y14 hf
        refine lv_aload_n hx hb dX6_looked_16 rfl (lv_at hl 0 rfl) ?_
        refine gf_RX6_12 hx hb hB hown hW dX6_looked_17 ?_
        refine gf_RX6_212 hx hb hB hown hW st1 dX6_looked_20 ?_
        refine gf_RX6_205 hx hb hB hown hW (rwB st1) dX6_looked_23 ?_
        refine lv_iload_n hx hb dX6_looked_26 rfl (lv_at hl 1 rfl) ?_
        obtain ⟨j15, e_j15, hf⟩ := op_none hf
        refine w_aald (j := 4) hx hb hW (rRw (rwB st1)).1 ((rRw (rwB st1)).2 E _ _) rfl rfl e_j15 dX6_looked_27 ?_
        refine lv_astore_n (i := 2) (lv' := [(2, .ref (ead E ((100 + 50) + 1 + 1 + j15))), (0, .ref (ead E 1)), (1, .int b1_2)]) hx hb dX6_looked_28 rfl hl (by decide) rfl (fun ls hl => ?_)
        refine lv_aload_n hx hb dX6_looked_29 rfl (lv_at hl 1 rfl) ?_
        refine gf_RX6_12 hx hb hB hown hW dX6_looked_30 ?_
        refine lv_aload_n hx hb dX6_looked_33 rfl (lv_at hl 0 rfl) ?_
        refine lv_iconst (v := (0 : Int32)) hx hb dX6_looked_34 (by decide) ?_
        obtain ⟨v16, e_v16, hf⟩ := op_none hf
        refine w_iald hx hb hW (iRw (rwB st1) (aix_lt e_j15)).1 ((iRw (rwB st1) (aix_lt e_j15)).2 E _ _) e_v16 dX6_looked_35 ?_
        obtain ⟨v17, e_18, hf⟩ := op_none hf
        refine w_callN (rn_RX6_85 (As := [.int v16]) hx hb hml hown hB hW hZ hV (k_X2_has l E _ 100 v16 st1 v17 e_18) rfl rfl ⟨(Nat.le_of_ble_eq_true rfl), (Nat.le_of_ble_eq_true rfl)⟩ (w_rec hW (oSt st1).1 ((oSt st1).2 E _ _) rfl) rfl hl.1 rfl (Nat.le_of_ble_eq_true rfl) dX6_looked_36 ⟨Nat.le_refl _, Nat.le_refl _⟩) hV (fun H locs hn_v17 hW hV => ?_)
        refine lv_if_eq (tgt := 63) hx hb dX6_looked_39 (by decide) (fun y19 => ?_) (fun y19 => ?_)
        · have hf := op_t y19 hf
          exact c_63 b1_2 hf H locs ls hW hV (lv_sub hl [1, 2] rfl)
        · have hf := op_f y19 hf
          refine lv_aload_n hx hb dX6_looked_42 rfl (lv_at hl 1 rfl) ?_
          refine gf_RX6_12 hx hb hB hown hW dX6_looked_43 ?_
          refine gf_RX6_75 hx hb hB hown hW st1 dX6_looked_46 ?_
          refine lv_aload_n hx hb dX6_looked_49 rfl (lv_at hl 0 rfl) ?_
          refine lv_iconst (v := (0 : Int32)) hx hb dX6_looked_50 (by decide) ?_
          obtain ⟨v20, e_v20, hf⟩ := op_none hf
          refine w_iald hx hb hW (iRw (rwB st1) (aix_lt e_j15)).1 ((iRw (rwB st1) (aix_lt e_j15)).2 E _ _) e_v20 dX6_looked_51 ?_
          obtain ⟨j21, e_j21, hf⟩ := op_none hf
          refine w_aald (j := 4) hx hb hW (rSt st1).1 ((rSt st1).2 E _ _) rfl rfl e_j21 dX6_looked_52 ?_
          refine lv_iconst (v := (5 : Int32)) hx hb dX6_looked_53 (by decide) ?_
          obtain ⟨v22, e_v22, hf⟩ := op_none hf
          refine w_iald hx hb hW (iEg st1 (aix_lt e_j21)).1 ((iEg st1 (aix_lt e_j21)).2 E _ _) e_v22 dX6_looked_54 ?_
          refine lv_aload_n hx hb dX6_looked_55 rfl (lv_at hl 0 rfl) ?_
          refine lv_iconst (v := (1 : Int32)) hx hb dX6_looked_56 (by decide) ?_
          obtain ⟨v23, e_v23, hf⟩ := op_none hf
          refine w_iald hx hb hW (iRw (rwB st1) (aix_lt e_j15)).1 ((iRw (rwB st1) (aix_lt e_j15)).2 E _ _) e_v23 dX6_looked_57 ?_
          refine lv_icmp_eq (tgt := 63) hx hb dX6_looked_58 (by decide) (fun y24 => ?_) (fun y24 => ?_)
          · have hf := op_t y24 hf
            exact c_63 b1_2 hf H locs ls hW hV (lv_sub hl [1, 2] rfl)
          · have hf := op_f y24 hf
            refine lv_iload_n hx hb dX6_looked_61 rfl (lv_at hl 2 rfl) ?_
            exact w_retI hx hb hr hlocks hW hV (Option.some.inj hf) rfl dX6_looked_62
  obtain ⟨H, hH⟩ : ∃ H : Heap, H = s.heap := ⟨_, rfl⟩
  obtain ⟨locs, hlocs⟩ : ∃ locs : List Loc, locs = [] := ⟨_, rfl⟩
  rw [show (W p l e (headSpec (.code yX6_looked cX6_looked 3 (some .int) :: BIG) ({ frames := 1, cells := 0, slots := 0, locals := 21 })).room s m ([.ref (ead E 1)] : List Value).toArray below meth c s.heap [] 0 0) = W p l e (headSpec (.code yX6_looked cX6_looked 3 (some .int) :: BIG) ({ frames := 1, cells := 0, slots := 0, locals := 21 })).room s m ([.ref (ead E 1)] : List Value).toArray below meth c H locs 0 0 by rw [hH, hlocs]]
  have hV : va_S (eA E) s.heap H locs := by rw [hH, hlocs]; exact hV
  have hW : Wd E μ s H := by rw [hH]; exact hW
  unfold f_X6_looked at hf
  refine lv_iconst (v := (0 : Int32)) hx hb dX6_looked_0 (by decide) ?_
  refine lv_istore_n (i := 1) (lv' := [(1, .int (0 : Int32)), (0, .ref (ead E 1))]) hx hb dX6_looked_1 rfl hl (by decide) rfl (fun ls hl => ?_)
  exact c_2 FU (0 : Int32) hf H locs ls hW hV (lv_sub hl [1, 0] rfl)
set_option maxHeartbeats 8000000 in
set_option maxRecDepth 100000 in
theorem k_X6_judge (l : Launch) (E : WE) (μ : Mem) (a1 : Int32) (a2 : Int32) (r : Int32) (hf : f_X6_judge μ a1 a2 = some r) : Met l yX6_judge (.code yX6_judge cX6_judge 7 (some .int) :: BIG) ({ frames := 1, cells := 0, slots := 0, locals := 25 }) (PW E μ [.ref (ead E 1), .int a1, .int a2]) (QI E r μ) 0 0 (eA E) := by
  refine Met.ofW (cc := cX6_judge) (maxL := 7) (ret := (some .int)) (by decide) rfl ?_
  intro p e s m args below meth c s₁ B hml hv
  obtain ⟨rfl, hW, hZ⟩ := hv
  have hx := B.exec
  have hb := B.bytes
  have hr := B.returns
  have hB : ∀ w ∈ BIG, w.before _ s = true := fun w h => atoms_spec (ws := (.code yX6_judge cX6_judge 7 (some .int) :: BIG)) B.pre w (List.mem_cons_of_mem _ h)
  have hown : s.vm.findClass RX6 = some m.cls := findClass_of_methodNamed B.named
  have hlocks := B.notSynchronized
  have hV : va_S (eA E) s.heap s.heap [] := va_S.rf
  have hl := lv_entry ([.ref (ead E 1), .int a1, .int a2]) (n := 7) (Nat.le_of_ble_eq_true rfl)
  rw [lg_entry_eq]
  generalize (lg_sl ([.ref (ead E 1), .int a1, .int a2]) ++ List.replicate (7 - (lg_sl ([.ref (ead E 1), .int a1, .int a2])).length) Slot.unset).toArray = ls at hl ⊢
  have hl : lv_has ls 7 [(0, .ref (ead E 1)), (1, .int a1), (2, .int a2)] := hl
  have c_42 : ∀ (n_42 : Nat) (b2_42 : Int32) (b3_42 : Nat) (b4_42 : Int32) (hb3_42 : isTp b3_42) , f_X6_judge_42 μ n_42 b2_42 b3_42 b4_42 = some r → ∀ (H : Heap) (locs : List Loc) (ls : Array Slot), Wd E μ s H → va_S (eA E) s.heap H locs → lv_has ls 7 [(0, .ref (ead E 1)), (2, .int b2_42), (3, .ref (ead E b3_42)), (4, .int b4_42)] → W p l e (headSpec (.code yX6_judge cX6_judge 7 (some .int) :: BIG) ({ frames := 1, cells := 0, slots := 0, locals := 25 })).room s m ([.ref (ead E 1), .int a1, .int a2] : List Value).toArray below meth c H locs 0 0 (MQ below (QI E r μ) ([.ref (ead E 1), .int a1, .int a2] : List Value).toArray s 0 0 (eA E)) (F0 m 42 ls []) := by
    intro n_42
    induction n_42 with
    | zero =>
      intro b2_42 b3_42 b4_42 hb3_42 hf H locs ls hW hV hl
      cases hf
    | succ n_42 ih_42 =>
      intro b2_42 b3_42 b4_42 hb3_42 hf H locs ls hW hV hl
      rw [f_X6_judge_42] at hf
      refine lv_iload hx hb dX6_judge_42 (lv_at hl 3 rfl) ?_
      refine lv_aload_n hx hb dX6_judge_44 rfl (lv_at hl 0 rfl) ?_
      refine gf_RX6_12 hx hb hB hown hW dX6_judge_45 ?_
      refine gf_RX6_72 hx hb hB hown hW st1 dX6_judge_48 ?_
      refine lv_icmp_ge (tgt := 117) hx hb dX6_judge_51 (by decide) (fun y16 => ?_) (fun y16 => ?_)
      · have hf := op_t y16 hf
        refine lv_bipush (v := (-5 : Int32)) hx hb dX6_judge_117 (by decide) ?_
        exact w_retI hx hb hr hlocks hW hV (Option.some.inj hf) rfl dX6_judge_119
      · have hf := op_f y16 hf
        refine lv_iload_n hx hb dX6_judge_54 rfl (lv_at hl 1 rfl) ?_
        refine lv_i2l hx hb dX6_judge_55 rfl ?_
        refine lv_iload hx hb dX6_judge_56 (lv_at hl 3 rfl) ?_
        refine lv_i2l hx hb dX6_judge_58 rfl ?_
        refine lv_ladd hx hb dX6_judge_59 ?_
        obtain ⟨v17, e_v17, hf⟩ := op_none hf
        refine lv_topL' (Option.some.inj e_v17) ?_
        refine lv_lstore (i := 5) (lv' := [(5, .long v17), (0, .ref (ead E 1)), (2, .int b2_42), (3, .ref (ead E b3_42)), (4, .int b4_42)]) hx hb dX6_judge_60 hl (by decide) rfl (fun ls hl => ?_)
        refine lv_iload_n hx hb dX6_judge_62 rfl (lv_at hl 2 rfl) ?_
        refine lv_if_lt (tgt := 77) hx hb dX6_judge_63 (by decide) (fun y18 => ?_) (fun y18 => ?_)
        · have hf := op_t y18 hf
          refine lv_bipush (v := (100 : Int32)) hx hb dX6_judge_77 (by decide) ?_
          refine lv_iload hx hb dX6_judge_79 (lv_at hl 4 rfl) ?_
          refine lv_iadd hx hb dX6_judge_81 ?_
          exact w_retI hx hb hr hlocks hW hV (Option.some.inj hf) rfl dX6_judge_82
        · have hf := op_f y18 hf
          refine lv_lload hx hb dX6_judge_66 (lv_at hl 0 rfl) ?_
          refine lv_aload_n hx hb dX6_judge_68 rfl (lv_at hl 3 rfl) ?_
          refine gf_RX6_222 hx hb hB hown hW hb3_42 dX6_judge_69 ?_
          refine lv_i2l hx hb dX6_judge_72 rfl ?_
          refine W.lcmp hx hb dX6_judge_73 ?_
          refine lv_if_lt (tgt := 83) hx hb dX6_judge_74 (by decide) (fun y19 => ?_) (fun y19 => ?_)
          · have hf := op_t y19 hf
            refine lv_aload_n hx hb dX6_judge_83 rfl (lv_at hl 3 rfl) ?_
            refine gf_RX6_225 hx hb hB hown hW hb3_42 dX6_judge_84 ?_
            refine lv_lload hx hb dX6_judge_87 (lv_at hl 0 rfl) ?_
            refine lv_l2i hx hb dX6_judge_89 rfl ?_
            obtain ⟨v20, e_v20, hf⟩ := op_none hf
            refine w_lald hx hb hW (jTp hb3_42).1 ((jTp hb3_42).2 E _ _) e_v20 dX6_judge_90 ?_
            refine lv_aload_n hx hb dX6_judge_91 rfl (lv_at hl 1 rfl) ?_
            refine gf_RX6_12 hx hb hB hown hW dX6_judge_92 ?_
            refine gf_RX6_75 hx hb hB hown hW st1 dX6_judge_95 ?_
            refine lv_iload hx hb dX6_judge_98 (lv_at hl 4 rfl) ?_
            obtain ⟨j21, e_j21, hf⟩ := op_none hf
            refine w_aald (j := 4) hx hb hW (rSt st1).1 ((rSt st1).2 E _ _) rfl rfl e_j21 dX6_judge_100 ?_
            refine lv_iconst (v := (5 : Int32)) hx hb dX6_judge_101 (by decide) ?_
            obtain ⟨v22, e_v22, hf⟩ := op_none hf
            refine w_iald hx hb hW (iEg st1 (aix_lt e_j21)).1 ((iEg st1 (aix_lt e_j21)).2 E _ _) e_v22 dX6_judge_102 ?_
            refine lv_i2l hx hb dX6_judge_103 rfl ?_
            refine W.lcmp hx hb dX6_judge_104 ?_
            refine lv_if_eq (tgt := 111) hx hb dX6_judge_105 (by decide) (fun y23 => ?_) (fun y23 => ?_)
            · have hf := op_t y23 hf
              obtain ⟨v24, e_v24, hf⟩ := op_none hf
              refine lv_iinc (v := v24) (lv' := [(4, .int v24), (5, .long v17), (0, .ref (ead E 1)), (2, .int b2_42), (3, .ref (ead E b3_42))]) hx hb dX6_judge_111 hl (k := 4) rfl (by rw [← Option.some.inj e_v24]; rfl) (by decide) rfl (fun ls hl => ?_)
              refine lv_goto (tgt := 42) hx hb dX6_judge_114 (by decide) ?_
              exact ih_42 b2_42 b3_42 v24 hb3_42 hf H locs ls hW hV (lv_sub hl [2, 3, 4, 0] rfl)
            · have hf := op_f y23 hf
              refine lv_iload hx hb dX6_judge_108 (lv_at hl 4 rfl) ?_
              exact w_retI hx hb hr hlocks hW hV (Option.some.inj hf) rfl dX6_judge_110
          · have hf := op_f y19 hf
            refine lv_bipush (v := (100 : Int32)) hx hb dX6_judge_77 (by decide) ?_
            refine lv_iload hx hb dX6_judge_79 (lv_at hl 4 rfl) ?_
            refine lv_iadd hx hb dX6_judge_81 ?_
            exact w_retI hx hb hr hlocks hW hV (Option.some.inj hf) rfl dX6_judge_82
  have c_39 : ∀ (b2_39 : Int32) (b3_39 : Nat) (hb3_39 : isTp b3_39) , f_X6_judge_39 μ b2_39 b3_39 = some r → ∀ (H : Heap) (locs : List Loc) (ls : Array Slot), Wd E μ s H → va_S (eA E) s.heap H locs → lv_has ls 7 [(0, .ref (ead E 1)), (2, .int b2_39), (3, .ref (ead E b3_39))] → W p l e (headSpec (.code yX6_judge cX6_judge 7 (some .int) :: BIG) ({ frames := 1, cells := 0, slots := 0, locals := 25 })).room s m ([.ref (ead E 1), .int a1, .int a2] : List Value).toArray below meth c H locs 0 0 (MQ below (QI E r μ) ([.ref (ead E 1), .int a1, .int a2] : List Value).toArray s 0 0 (eA E)) (F0 m 39 ls []) := by
    intro b2_39 b3_39 hb3_39 hf H locs ls hW hV hl
    unfold f_X6_judge_39 at hf
    refine lv_iconst (v := (0 : Int32)) hx hb dX6_judge_39 (by decide) ?_
    refine lv_istore (i := 4) (lv' := [(4, .int (0 : Int32)), (0, .ref (ead E 1)), (2, .int b2_39), (3, .ref (ead E b3_39))]) hx hb dX6_judge_40 hl (by decide) rfl (fun ls hl => ?_)
    exact c_42 FU b2_39 b3_39 (0 : Int32) hb3_39 hf H locs ls hW hV (lv_sub hl [1, 2, 3, 0] rfl)
  obtain ⟨H, hH⟩ : ∃ H : Heap, H = s.heap := ⟨_, rfl⟩
  obtain ⟨locs, hlocs⟩ : ∃ locs : List Loc, locs = [] := ⟨_, rfl⟩
  rw [show (W p l e (headSpec (.code yX6_judge cX6_judge 7 (some .int) :: BIG) ({ frames := 1, cells := 0, slots := 0, locals := 25 })).room s m ([.ref (ead E 1), .int a1, .int a2] : List Value).toArray below meth c s.heap [] 0 0) = W p l e (headSpec (.code yX6_judge cX6_judge 7 (some .int) :: BIG) ({ frames := 1, cells := 0, slots := 0, locals := 25 })).room s m ([.ref (ead E 1), .int a1, .int a2] : List Value).toArray below meth c H locs 0 0 by rw [hH, hlocs]]
  have hV : va_S (eA E) s.heap H locs := by rw [hH, hlocs]; exact hV
  have hW : Wd E μ s H := by rw [hH]; exact hW
  unfold f_X6_judge at hf
  refine lv_iload_n hx hb dX6_judge_0 rfl (lv_at hl 1 rfl) ?_
  refine lv_i2l hx hb dX6_judge_1 rfl ?_
  refine lv_lconst (v := (0 : Int64)) hx hb dX6_judge_2 (by decide) ?_
  refine lv_ldc2 (v := (5 : Int64)) hx hb hown (hB _ q_24c8e270) dX6_judge_3 ?_
  obtain ⟨v25, e_26, hf⟩ := op_none hf
  refine w_callN (rn_RX6_62 (As := [.long a1.toInt64, .long (0 : Int64), .long (5 : Int64)]) hx hb hml hown hB hW hZ hV (k_X6_within l E _ a1.toInt64 (0 : Int64) (5 : Int64) v25 e_26) rfl rfl ⟨(Nat.le_of_ble_eq_true rfl), (Nat.le_of_ble_eq_true rfl)⟩ rfl hl.1 rfl (Nat.le_of_ble_eq_true rfl) dX6_judge_6 ⟨Nat.le_refl _, Nat.le_refl _⟩) hV (fun H locs hn_v25 hW hV => ?_)
  refine lv_if_ne (tgt := 14) hx hb dX6_judge_9 (by decide) (fun y27 => ?_) (fun y27 => ?_)
  · have hf := op_f y27 hf
    refine lv_aload_n hx hb dX6_judge_14 rfl (lv_at hl 0 rfl) ?_
    refine gf_RX6_54 hx hb hB hown hW dX6_judge_15 ?_
    refine lv_iload_n hx hb dX6_judge_18 rfl (lv_at hl 1 rfl) ?_
    obtain ⟨j28, e_j28, hf⟩ := op_none hf
    refine w_aald (j := 6) hx hb hW r7.1 (r7.2 E _ _) rfl rfl e_j28 dX6_judge_19 ?_
    refine lv_astore_n (i := 3) (lv' := [(3, .ref (ead E (1100 + 2 * j28))), (0, .ref (ead E 1)), (1, .int a1), (2, .int a2)]) hx hb dX6_judge_20 rfl hl (by decide) rfl (fun ls hl => ?_)
    refine lv_aload_n hx hb dX6_judge_21 rfl (lv_at hl 0 rfl) ?_
    refine gf_RX6_219 hx hb hB hown hW (tpI (aix_lt e_j28)) dX6_judge_22 ?_
    refine lv_if_lt (tgt := 39) hx hb dX6_judge_25 (by decide) (fun y29 => ?_) (fun y29 => ?_)
    · have hf := op_t y29 hf
      exact c_39 a2 (1100 + 2 * j28) (tpI (aix_lt e_j28)) hf H locs ls hW hV (lv_sub hl [1, 3, 0] rfl)
    · have hf := op_f y29 hf
      refine lv_aload_n hx hb dX6_judge_28 rfl (lv_at hl 0 rfl) ?_
      refine gf_RX6_219 hx hb hB hown hW (tpI (aix_lt e_j28)) dX6_judge_29 ?_
      refine lv_iconst (v := (3 : Int32)) hx hb dX6_judge_32 (by decide) ?_
      refine lv_icmp_eq (tgt := 39) hx hb dX6_judge_33 (by decide) (fun y30 => ?_) (fun y30 => ?_)
      · have hf := op_t y30 hf
        exact c_39 a2 (1100 + 2 * j28) (tpI (aix_lt e_j28)) hf H locs ls hW hV (lv_sub hl [1, 3, 0] rfl)
      · have hf := op_f y30 hf
        refine lv_bipush (v := (-12 : Int32)) hx hb dX6_judge_36 (by decide) ?_
        exact w_retI hx hb hr hlocks hW hV (Option.some.inj hf) rfl dX6_judge_38
  · have hf := op_t y27 hf
    refine lv_iconst (v := (-1 : Int32)) hx hb dX6_judge_12 (by decide) ?_
    exact w_retI hx hb hr hlocks hW hV (Option.some.inj hf) rfl dX6_judge_13
set_option maxHeartbeats 8000000 in
set_option maxRecDepth 100000 in
theorem k_X6_image (l : Launch) (E : WE) (μ : Mem) (r : Int32) (μ' : Mem) (hf : f_X6_image μ = some (r, μ')) : Met l yX6_image (.code yX6_image cX6_image 1 (some .int) :: BIG) ({ frames := 3, cells := 0, slots := 0, locals := 69 }) (PW E μ [.ref (ead E 1)]) (QI E r μ') 0 0 (eA E) := by
  refine Met.ofW (cc := cX6_image) (maxL := 1) (ret := (some .int)) (by decide) rfl ?_
  intro p e s m args below meth c s₁ B hml hv
  obtain ⟨rfl, hW, hZ⟩ := hv
  have hx := B.exec
  have hb := B.bytes
  have hr := B.returns
  have hB : ∀ w ∈ BIG, w.before _ s = true := fun w h => atoms_spec (ws := (.code yX6_image cX6_image 1 (some .int) :: BIG)) B.pre w (List.mem_cons_of_mem _ h)
  have hown : s.vm.findClass RX6 = some m.cls := findClass_of_methodNamed B.named
  have hlocks := B.notSynchronized
  have hV : va_S (eA E) s.heap s.heap [] := va_S.rf
  have hl := lv_entry ([.ref (ead E 1)]) (n := 1) (Nat.le_of_ble_eq_true rfl)
  rw [lg_entry_eq]
  generalize (lg_sl ([.ref (ead E 1)]) ++ List.replicate (1 - (lg_sl ([.ref (ead E 1)])).length) Slot.unset).toArray = ls at hl ⊢
  have hl : lv_has ls 1 [(0, .ref (ead E 1))] := hl
  obtain ⟨H, hH⟩ : ∃ H : Heap, H = s.heap := ⟨_, rfl⟩
  obtain ⟨locs, hlocs⟩ : ∃ locs : List Loc, locs = [] := ⟨_, rfl⟩
  rw [show (W p l e (headSpec (.code yX6_image cX6_image 1 (some .int) :: BIG) ({ frames := 3, cells := 0, slots := 0, locals := 69 })).room s m ([.ref (ead E 1)] : List Value).toArray below meth c s.heap [] 0 0) = W p l e (headSpec (.code yX6_image cX6_image 1 (some .int) :: BIG) ({ frames := 3, cells := 0, slots := 0, locals := 69 })).room s m ([.ref (ead E 1)] : List Value).toArray below meth c H locs 0 0 by rw [hH, hlocs]]
  have hV : va_S (eA E) s.heap H locs := by rw [hH, hlocs]; exact hV
  have hW : Wd E μ s H := by rw [hH]; exact hW
  unfold f_X6_image at hf
  refine lv_aload_n hx hb dX6_image_0 rfl (lv_at hl 0 rfl) ?_
  refine gf_RX6_18 hx hb hB hown hW dX6_image_1 ?_
  refine lv_aload_n hx hb dX6_image_4 rfl (lv_at hl 0 rfl) ?_
  refine gf_RX6_12 hx hb hB hown hW dX6_image_5 ?_
  obtain ⟨μ4, e_5, hf⟩ := op_none hf
  refine w_callV (rn_RX6_199 (As := [.ref (ead E 100)]) hx hb hml hown hB hW hZ hV (k_X2_becomes l E _ 200 100 st2 st1 μ4 e_5) rfl rfl ⟨(Nat.le_of_ble_eq_true rfl), (Nat.le_of_ble_eq_true rfl)⟩ (w_rec hW (oSt st2).1 ((oSt st2).2 E _ _) rfl) rfl hl.1 rfl (Nat.le_of_ble_eq_true rfl) dX6_image_8 ⟨Nat.le_refl _, Nat.le_refl _⟩) hV (fun H locs hW hV => ?_)
  refine lv_aload_n hx hb dX6_image_11 rfl (lv_at hl 0 rfl) ?_
  refine lv_iconst (v := (1 : Int32)) hx hb dX6_image_12 (by decide) ?_
  obtain ⟨μ6, e_μ6, hf⟩ := op_none hf
  refine pf_RX6_24 hx hb hB hown hW hV (by decide) dX6_image_13 (fun H locs hW hV => ?_)
  rw [Option.some.inj e_μ6] at hW
  refine lv_aload_n hx hb dX6_image_16 rfl (lv_at hl 0 rfl) ?_
  refine gf_RX6_12 hx hb hB hown hW dX6_image_17 ?_
  refine gf_RX6_72 hx hb hB hown hW st1 dX6_image_20 ?_
  exact w_retI hx hb hr hlocks hW hV (Prod.mk.inj (Option.some.inj hf)).1 (Prod.mk.inj (Option.some.inj hf)).2 dX6_image_23
set_option maxHeartbeats 8000000 in
set_option maxRecDepth 100000 in
theorem k_X6_undo (l : Launch) (E : WE) (μ : Mem) (r : Int32) (μ' : Mem) (hf : f_X6_undo μ = some (r, μ')) : Met l yX6_undo (.code yX6_undo cX6_undo 1 (some .int) :: BIG) ({ frames := 3, cells := 0, slots := 0, locals := 69 }) (PW E μ [.ref (ead E 1)]) (QI E r μ') 0 0 (eA E) := by
  refine Met.ofW (cc := cX6_undo) (maxL := 1) (ret := (some .int)) (by decide) rfl ?_
  intro p e s m args below meth c s₁ B hml hv
  obtain ⟨rfl, hW, hZ⟩ := hv
  have hx := B.exec
  have hb := B.bytes
  have hr := B.returns
  have hB : ∀ w ∈ BIG, w.before _ s = true := fun w h => atoms_spec (ws := (.code yX6_undo cX6_undo 1 (some .int) :: BIG)) B.pre w (List.mem_cons_of_mem _ h)
  have hown : s.vm.findClass RX6 = some m.cls := findClass_of_methodNamed B.named
  have hlocks := B.notSynchronized
  have hV : va_S (eA E) s.heap s.heap [] := va_S.rf
  have hl := lv_entry ([.ref (ead E 1)]) (n := 1) (Nat.le_of_ble_eq_true rfl)
  rw [lg_entry_eq]
  generalize (lg_sl ([.ref (ead E 1)]) ++ List.replicate (1 - (lg_sl ([.ref (ead E 1)])).length) Slot.unset).toArray = ls at hl ⊢
  have hl : lv_has ls 1 [(0, .ref (ead E 1))] := hl
  obtain ⟨H, hH⟩ : ∃ H : Heap, H = s.heap := ⟨_, rfl⟩
  obtain ⟨locs, hlocs⟩ : ∃ locs : List Loc, locs = [] := ⟨_, rfl⟩
  rw [show (W p l e (headSpec (.code yX6_undo cX6_undo 1 (some .int) :: BIG) ({ frames := 3, cells := 0, slots := 0, locals := 69 })).room s m ([.ref (ead E 1)] : List Value).toArray below meth c s.heap [] 0 0) = W p l e (headSpec (.code yX6_undo cX6_undo 1 (some .int) :: BIG) ({ frames := 3, cells := 0, slots := 0, locals := 69 })).room s m ([.ref (ead E 1)] : List Value).toArray below meth c H locs 0 0 by rw [hH, hlocs]]
  have hV : va_S (eA E) s.heap H locs := by rw [hH, hlocs]; exact hV
  have hW : Wd E μ s H := by rw [hH]; exact hW
  unfold f_X6_undo at hf
  refine lv_aload_n hx hb dX6_undo_0 rfl (lv_at hl 0 rfl) ?_
  refine gf_RX6_24 hx hb hB hown hW dX6_undo_1 ?_
  refine lv_if_ne (tgt := 10) hx hb dX6_undo_4 (by decide) (fun y4 => ?_) (fun y4 => ?_)
  · have hf := op_f y4 hf
    refine lv_aload_n hx hb dX6_undo_10 rfl (lv_at hl 0 rfl) ?_
    refine gf_RX6_12 hx hb hB hown hW dX6_undo_11 ?_
    refine lv_aload_n hx hb dX6_undo_14 rfl (lv_at hl 0 rfl) ?_
    refine gf_RX6_18 hx hb hB hown hW dX6_undo_15 ?_
    obtain ⟨μ5, e_6, hf⟩ := op_none hf
    refine w_callV (rn_RX6_199 (As := [.ref (ead E 200)]) hx hb hml hown hB hW hZ hV (k_X2_becomes l E _ 100 200 st1 st2 μ5 e_6) rfl rfl ⟨(Nat.le_of_ble_eq_true rfl), (Nat.le_of_ble_eq_true rfl)⟩ (w_rec hW (oSt st1).1 ((oSt st1).2 E _ _) rfl) rfl hl.1 rfl (Nat.le_of_ble_eq_true rfl) dX6_undo_18 ⟨Nat.le_refl _, Nat.le_refl _⟩) hV (fun H locs hW hV => ?_)
    refine lv_aload_n hx hb dX6_undo_21 rfl (lv_at hl 0 rfl) ?_
    refine gf_RX6_12 hx hb hB hown hW dX6_undo_22 ?_
    refine gf_RX6_72 hx hb hB hown hW st1 dX6_undo_25 ?_
    exact w_retI hx hb hr hlocks hW hV (Prod.mk.inj (Option.some.inj hf)).1 (Prod.mk.inj (Option.some.inj hf)).2 dX6_undo_28
  · have hf := op_t y4 hf
    refine lv_bipush (v := (-3 : Int32)) hx hb dX6_undo_7 (by decide) ?_
    exact w_retI hx hb hr hlocks hW hV (Prod.mk.inj (Option.some.inj hf)).1 (Prod.mk.inj (Option.some.inj hf)).2 dX6_undo_9
set_option maxHeartbeats 8000000 in
set_option maxRecDepth 100000 in
theorem k_X0_withBody (l : Launch) (E : WE) (μ : Mem) (a0 : Int32) (a1 : Int32) (r : Int32) (hf : f_X0_withBody μ a0 a1 = some r) : Met l yX0_withBody (.code yX0_withBody cX0_withBody 4 (some .int) :: BIG) ({ frames := 1, cells := 0, slots := 0, locals := 25 }) (PW E μ [.int a0, .int a1]) (QI E r μ) 0 0 (eA E) := by
  refine Met.ofW (cc := cX0_withBody) (maxL := 4) (ret := (some .int)) (by decide) rfl ?_
  intro p e s m args below meth c s₁ B hml hv
  obtain ⟨rfl, hW, hZ⟩ := hv
  have hx := B.exec
  have hb := B.bytes
  have hr := B.returns
  have hB : ∀ w ∈ BIG, w.before _ s = true := fun w h => atoms_spec (ws := (.code yX0_withBody cX0_withBody 4 (some .int) :: BIG)) B.pre w (List.mem_cons_of_mem _ h)
  have hown : s.vm.findClass RX0 = some m.cls := findClass_of_methodNamed B.named
  have hlocks := B.notSynchronized
  have hV : va_S (eA E) s.heap s.heap [] := va_S.rf
  have hl := lv_entry ([.int a0, .int a1]) (n := 4) (Nat.le_of_ble_eq_true rfl)
  rw [lg_entry_eq]
  generalize (lg_sl ([.int a0, .int a1]) ++ List.replicate (4 - (lg_sl ([.int a0, .int a1])).length) Slot.unset).toArray = ls at hl ⊢
  have hl : lv_has ls 4 [(0, .int a0), (1, .int a1)] := hl
  have c_4 : ∀ (n_4 : Nat) (b1_4 : Int32) (b2_4 : Int32) (b3_4 : Int32) , f_X0_withBody_4 μ n_4 b1_4 b2_4 b3_4 = some r → ∀ (H : Heap) (locs : List Loc) (ls : Array Slot), Wd E μ s H → va_S (eA E) s.heap H locs → lv_has ls 4 [(1, .int b1_4), (2, .int b2_4), (3, .int b3_4)] → W p l e (headSpec (.code yX0_withBody cX0_withBody 4 (some .int) :: BIG) ({ frames := 1, cells := 0, slots := 0, locals := 25 })).room s m ([.int a0, .int a1] : List Value).toArray below meth c H locs 0 0 (MQ below (QI E r μ) ([.int a0, .int a1] : List Value).toArray s 0 0 (eA E)) (F0 m 4 ls []) := by
    intro n_4
    induction n_4 with
    | zero =>
      intro b1_4 b2_4 b3_4 hf H locs ls hW hV hl
      cases hf
    | succ n_4 ih_4 =>
      intro b1_4 b2_4 b3_4 hf H locs ls hW hV hl
      rw [f_X0_withBody_4] at hf
      refine lv_iload_n hx hb dX0_withBody_4 rfl (lv_at hl 2 rfl) ?_
      refine w_getsAN hx hb hown hZ hV dX0_withBody_5 ?_
      refine va_tlen hx hb hZ.1.2 hV rfl dX0_withBody_8 ?_
      refine lv_icmp_ge (tgt := 50) hx hb dX0_withBody_9 (by decide) (fun y9 => ?_) (fun y9 => ?_)
      · have hf := op_t y9 hf
        refine lv_iconst (v := (-1 : Int32)) hx hb dX0_withBody_50 (by decide) ?_
        exact w_retI hx hb hr hlocks hW hV (Option.some.inj hf) rfl dX0_withBody_51
      · have hf := op_f y9 hf
        refine lv_iload_n hx hb dX0_withBody_12 rfl (lv_at hl 1 rfl) ?_
        refine lv_i2l hx hb dX0_withBody_13 rfl ?_
        refine lv_lconst (v := (0 : Int64)) hx hb dX0_withBody_14 (by decide) ?_
        refine lv_ldc2 (v := (6 : Int64)) hx hb hown (hB _ q_9815c3e7) dX0_withBody_15 ?_
        obtain ⟨v10, e_11, hf⟩ := op_none hf
        refine w_callN (rn_RX0_52 (As := [.long b2_4.toInt64, .long (0 : Int64), .long (6 : Int64)]) hx hb hml hown hB hW hZ hV (k_X6_within l E _ b2_4.toInt64 (0 : Int64) (6 : Int64) v10 e_11) rfl rfl ⟨(Nat.le_of_ble_eq_true rfl), (Nat.le_of_ble_eq_true rfl)⟩ rfl hl.1 rfl (Nat.le_of_ble_eq_true rfl) dX0_withBody_18 ⟨Nat.le_refl _, Nat.le_refl _⟩) hV (fun H locs hn_v10 hW hV => ?_)
        refine lv_if_eq (tgt := 50) hx hb dX0_withBody_21 (by decide) (fun y12 => ?_) (fun y12 => ?_)
        · have hf := op_t y12 hf
          refine lv_iconst (v := (-1 : Int32)) hx hb dX0_withBody_50 (by decide) ?_
          exact w_retI hx hb hr hlocks hW hV (Option.some.inj hf) rfl dX0_withBody_51
        · have hf := op_f y12 hf
          refine w_getsB hx hb hB hown hZ hV q_a564ff87 dX0_withBody_24 ?_
          refine lv_iload_n hx hb dX0_withBody_27 rfl (lv_at hl 1 rfl) ?_
          refine lv_iconst (v := (3 : Int32)) hx hb dX0_withBody_28 (by decide) ?_
          refine lv_imul hx hb dX0_withBody_29 ?_
          refine lv_iload_n hx hb dX0_withBody_30 rfl (lv_at hl 0 rfl) ?_
          refine lv_iadd hx hb dX0_withBody_31 ?_
          obtain ⟨v13, e_v13, hf⟩ := op_none hf
          refine w_taB hx hb hZ hV e_v13 dX0_withBody_32 ?_
          refine lv_if_eq (tgt := 38) hx hb dX0_withBody_33 (by decide) (fun y14 => ?_) (fun y14 => ?_)
          · have hf := op_t y14 hf
            refine w_getsAN hx hb hown hZ hV dX0_withBody_38 ?_
            refine lv_iload_n hx hb dX0_withBody_41 rfl (lv_at hl 1 rfl) ?_
            obtain ⟨v15, e_v15, hf⟩ := op_none hf
            refine w_taA hx hb hZ hV e_v15 dX0_withBody_42 ?_
            refine lv_istore_n (i := 2) (lv' := [(2, .int v15), (1, .int b1_4), (3, .int b3_4)]) hx hb dX0_withBody_43 rfl hl (by decide) rfl (fun ls hl => ?_)
            obtain ⟨v16, e_v16, hf⟩ := op_none hf
            refine lv_iinc (v := v16) (lv' := [(3, .int v16), (2, .int v15), (1, .int b1_4)]) hx hb dX0_withBody_44 hl (k := 2) rfl (by rw [← Option.some.inj e_v16]; rfl) (by decide) rfl (fun ls hl => ?_)
            refine lv_goto (tgt := 4) hx hb dX0_withBody_47 (by decide) ?_
            exact ih_4 b1_4 v15 v16 hf H locs ls hW hV (lv_sub hl [2, 1, 0] rfl)
          · have hf := op_f y14 hf
            refine lv_iload_n hx hb dX0_withBody_36 rfl (lv_at hl 1 rfl) ?_
            exact w_retI hx hb hr hlocks hW hV (Option.some.inj hf) rfl dX0_withBody_37
  obtain ⟨H, hH⟩ : ∃ H : Heap, H = s.heap := ⟨_, rfl⟩
  obtain ⟨locs, hlocs⟩ : ∃ locs : List Loc, locs = [] := ⟨_, rfl⟩
  rw [show (W p l e (headSpec (.code yX0_withBody cX0_withBody 4 (some .int) :: BIG) ({ frames := 1, cells := 0, slots := 0, locals := 25 })).room s m ([.int a0, .int a1] : List Value).toArray below meth c s.heap [] 0 0) = W p l e (headSpec (.code yX0_withBody cX0_withBody 4 (some .int) :: BIG) ({ frames := 1, cells := 0, slots := 0, locals := 25 })).room s m ([.int a0, .int a1] : List Value).toArray below meth c H locs 0 0 by rw [hH, hlocs]]
  have hV : va_S (eA E) s.heap H locs := by rw [hH, hlocs]; exact hV
  have hW : Wd E μ s H := by rw [hH]; exact hW
  unfold f_X0_withBody at hf
  refine lv_iload_n hx hb dX0_withBody_0 rfl (lv_at hl 0 rfl) ?_
  refine lv_istore_n (i := 2) (lv' := [(2, .int a0), (0, .int a0), (1, .int a1)]) hx hb dX0_withBody_1 rfl hl (by decide) rfl (fun ls hl => ?_)
  refine lv_iconst (v := (0 : Int32)) hx hb dX0_withBody_2 (by decide) ?_
  refine lv_istore_n (i := 3) (lv' := [(3, .int (0 : Int32)), (2, .int a0), (0, .int a0), (1, .int a1)]) hx hb dX0_withBody_3 rfl hl (by decide) rfl (fun ls hl => ?_)
  exact c_4 FU a1 a0 (0 : Int32) hf H locs ls hW hV (lv_sub hl [3, 1, 0] rfl)
set_option maxHeartbeats 8000000 in
set_option maxRecDepth 100000 in
theorem k_X0_begin (l : Launch) (E : WE) (μ : Mem) (a1 : Int32) (μ' : Mem) (hf : f_X0_begin μ a1 = some μ') : Met l yX0_begin (.code yX0_begin cX0_begin 2 none :: BIG) ({ frames := 0, cells := 0, slots := 0, locals := 0 }) (PW E μ [.ref (ead E 5), .int a1]) (QV E μ') 0 0 (eA E) := by
  refine Met.ofW (cc := cX0_begin) (maxL := 2) (ret := none) (by decide) rfl ?_
  intro p e s m args below meth c s₁ B hml hv
  obtain ⟨rfl, hW, hZ⟩ := hv
  have hx := B.exec
  have hb := B.bytes
  have hr := B.returns
  have hB : ∀ w ∈ BIG, w.before _ s = true := fun w h => atoms_spec (ws := (.code yX0_begin cX0_begin 2 none :: BIG)) B.pre w (List.mem_cons_of_mem _ h)
  have hown : s.vm.findClass RX0 = some m.cls := findClass_of_methodNamed B.named
  have hlocks := B.notSynchronized
  have hV : va_S (eA E) s.heap s.heap [] := va_S.rf
  have hl := lv_entry ([.ref (ead E 5), .int a1]) (n := 2) (Nat.le_of_ble_eq_true rfl)
  rw [lg_entry_eq]
  generalize (lg_sl ([.ref (ead E 5), .int a1]) ++ List.replicate (2 - (lg_sl ([.ref (ead E 5), .int a1])).length) Slot.unset).toArray = ls at hl ⊢
  have hl : lv_has ls 2 [(0, .ref (ead E 5)), (1, .int a1)] := hl
  have c_19 : ∀ (μ_19 : Mem) , f_X0_begin_19 μ_19 = some μ' → ∀ (H : Heap) (locs : List Loc) (ls : Array Slot), Wd E μ_19 s H → va_S (eA E) s.heap H locs → lv_has ls 2 [(0, .ref (ead E 5))] → W p l e (headSpec (.code yX0_begin cX0_begin 2 none :: BIG) ({ frames := 0, cells := 0, slots := 0, locals := 0 })).room s m ([.ref (ead E 5), .int a1] : List Value).toArray below meth c H locs 0 0 (MQ below (QV E μ') ([.ref (ead E 5), .int a1] : List Value).toArray s 0 0 (eA E)) (F0 m 19 ls []) := by
    intro μ_19 hf H locs ls hW hV hl
    unfold f_X0_begin_19 at hf
    refine lv_aload_n hx hb dX0_begin_19 rfl (lv_at hl 0 rfl) ?_
    refine lv_dup hx hb dX0_begin_20 rfl ?_
    refine gf_RX0_15 hx hb hB hown hW dX0_begin_21 ?_
    refine lv_iconst (v := (1 : Int32)) hx hb dX0_begin_24 (by decide) ?_
    refine lv_iadd hx hb dX0_begin_25 ?_
    obtain ⟨μ4, e_μ4, hf⟩ := op_none hf
    refine pf_RX0_15 hx hb hB hown hW hV dX0_begin_26 (fun H locs hW hV => ?_)
    rw [Option.some.inj e_μ4] at hW
    exact w_retV hx hb hr hlocks hW hV (Option.some.inj hf) dX0_begin_29
  obtain ⟨H, hH⟩ : ∃ H : Heap, H = s.heap := ⟨_, rfl⟩
  obtain ⟨locs, hlocs⟩ : ∃ locs : List Loc, locs = [] := ⟨_, rfl⟩
  rw [show (W p l e (headSpec (.code yX0_begin cX0_begin 2 none :: BIG) ({ frames := 0, cells := 0, slots := 0, locals := 0 })).room s m ([.ref (ead E 5), .int a1] : List Value).toArray below meth c s.heap [] 0 0) = W p l e (headSpec (.code yX0_begin cX0_begin 2 none :: BIG) ({ frames := 0, cells := 0, slots := 0, locals := 0 })).room s m ([.ref (ead E 5), .int a1] : List Value).toArray below meth c H locs 0 0 by rw [hH, hlocs]]
  have hV : va_S (eA E) s.heap H locs := by rw [hH, hlocs]; exact hV
  have hW : Wd E μ s H := by rw [hH]; exact hW
  unfold f_X0_begin at hf
  refine lv_aload_n hx hb dX0_begin_0 rfl (lv_at hl 0 rfl) ?_
  refine gf_RX0_15 hx hb hB hown hW dX0_begin_1 ?_
  refine lv_bipush (v := (20 : Int32)) hx hb dX0_begin_4 (by decide) ?_
  refine lv_icmp_ge (tgt := 19) hx hb dX0_begin_6 (by decide) (fun y5 => ?_) (fun y5 => ?_)
  · have hf := op_t y5 hf
    exact c_19 μ hf H locs ls hW hV (lv_sub hl [0] rfl)
  · have hf := op_f y5 hf
    refine lv_aload_n hx hb dX0_begin_9 rfl (lv_at hl 0 rfl) ?_
    refine gf_RX0_9 hx hb hB hown hW dX0_begin_10 ?_
    refine lv_aload_n hx hb dX0_begin_13 rfl (lv_at hl 0 rfl) ?_
    refine gf_RX0_15 hx hb hB hown hW dX0_begin_14 ?_
    refine lv_iload_n hx hb dX0_begin_17 rfl (lv_at hl 1 rfl) ?_
    obtain ⟨μ6, e_μ6, hf⟩ := op_none hf
    refine w_iast hx hb hW hV i6.1 (fun f => i6.2 E f _) e_μ6 dX0_begin_18 (fun H locs hW hV => ?_)
    exact c_19 μ6 hf H locs ls hW hV (lv_sub hl [0] rfl)
set_option maxHeartbeats 8000000 in
set_option maxRecDepth 100000 in
theorem kg_acts (l : Launch) (E : WE) : ∀ d : Nat, (∀ (μ : Mem) (a1 : Int32) (a2 : Int32) (a3 : Int32) (r : Int32) (μ' : Mem) , (G_acts d).1 μ a1 a2 a3 = some (r, μ') → Met l yX0_own (.code yX0_own cX0_own 4 (some .int) :: BIG) ({ frames := 2 + d, cells := 0, slots := 0, locals := 48 + d * 28 }) (PW E μ [.ref (ead E 5), .int a1, .int a2, .int a3]) (QI E r μ') 0 0 (eA E)) ∧ (∀ (μ : Mem) (a1 : Int32) (a2 : Int32) (a3 : Int32) (a4 : Int32) (r : Int32) (μ' : Mem) , (G_acts d).2 μ a1 a2 a3 a4 = some (r, μ') → Met l yX0_run (.code yX0_run cX0_run 9 (some .int) :: BIG) ({ frames := 2 + d, cells := 0, slots := 0, locals := 48 + d * 28 }) (PW E μ [.ref (ead E 5), .int a1, .int a2, .int a3, .int a4]) (QI E r μ') 0 0 (eA E)) := by
  intro d
  induction d with
  | zero =>
    refine ⟨?_, ?_⟩
    · intro μ a1 a2 a3 r μ' hf
      cases hf
    · intro μ a1 a2 a3 a4 r μ' hf
      cases hf
  | succ d ih =>
    obtain ⟨G, hG⟩ : ∃ G : (Mem → Int32 → Int32 → Int32 → Option (Int32 × Mem)) × (Mem → Int32 → Int32 → Int32 → Int32 → Option (Int32 × Mem)), G = G_acts d := ⟨_, rfl⟩
    rw [← hG] at ih
    refine ⟨?_, ?_⟩
    · intro μ a1 a2 a3 r μ' hf
      have hf : b_X0_own G μ a1 a2 a3 = some (r, μ') := by rw [hG]; exact hf
      unfold b_X0_own at hf
      refine Met.ofW (cc := cX0_own) (maxL := 4) (ret := (some .int)) (by decide) rfl ?_
      intro p e s m args below meth c s₁ B hml hv
      obtain ⟨rfl, hW, hZ⟩ := hv
      have hx := B.exec
      have hb := B.bytes
      have hr := B.returns
      have hB : ∀ w ∈ BIG, w.before _ s = true := fun w h => atoms_spec (ws := (.code yX0_own cX0_own 4 (some .int) :: BIG)) B.pre w (List.mem_cons_of_mem _ h)
      have hown : s.vm.findClass RX0 = some m.cls := findClass_of_methodNamed B.named
      have hlocks := B.notSynchronized
      have hV : va_S (eA E) s.heap s.heap [] := va_S.rf
      have hl := lv_entry ([.ref (ead E 5), .int a1, .int a2, .int a3]) (n := 4) (Nat.le_of_ble_eq_true rfl)
      rw [lg_entry_eq]
      generalize (lg_sl ([.ref (ead E 5), .int a1, .int a2, .int a3]) ++ List.replicate (4 - (lg_sl ([.ref (ead E 5), .int a1, .int a2, .int a3])).length) Slot.unset).toArray = ls at hl ⊢
      have hl : lv_has ls 4 [(0, .ref (ead E 5)), (1, .int a1), (2, .int a2), (3, .int a3)] := hl
      obtain ⟨H, hH⟩ : ∃ H : Heap, H = s.heap := ⟨_, rfl⟩
      obtain ⟨locs, hlocs⟩ : ∃ locs : List Loc, locs = [] := ⟨_, rfl⟩
      rw [show (W p l e (headSpec (.code yX0_own cX0_own 4 (some .int) :: BIG) ({ frames := 2 + (d + 1), cells := 0, slots := 0, locals := 48 + (d + 1) * 28 })).room s m ([.ref (ead E 5), .int a1, .int a2, .int a3] : List Value).toArray below meth c s.heap [] 0 0) = W p l e (headSpec (.code yX0_own cX0_own 4 (some .int) :: BIG) ({ frames := 2 + (d + 1), cells := 0, slots := 0, locals := 48 + (d + 1) * 28 })).room s m ([.ref (ead E 5), .int a1, .int a2, .int a3] : List Value).toArray below meth c H locs 0 0 by rw [hH, hlocs]]
      have hV : va_S (eA E) s.heap H locs := by rw [hH, hlocs]; exact hV
      have hW : Wd E μ s H := by rw [hH]; exact hW
      refine lv_aload_n hx hb dX0_own_0 rfl (lv_at hl 0 rfl) ?_
      refine lv_aload_n hx hb dX0_own_1 rfl (lv_at hl 0 rfl) ?_
      refine gf_RX0_19 hx hb hB hown hW dX0_own_2 ?_
      refine lv_iload_n hx hb dX0_own_5 rfl (lv_at hl 1 rfl) ?_
      refine lv_iload_n hx hb dX0_own_6 rfl (lv_at hl 2 rfl) ?_
      refine lv_iload_n hx hb dX0_own_7 rfl (lv_at hl 3 rfl) ?_
      obtain ⟨p8, e_7, hf⟩ := op_none hf
      refine w_callI (rn_RX0_32 (As := [.int (gI μ 5 2), .int a1, .int a2, .int a3]) hx hb hml hown hB hW hZ hV (ih.2 _ (gI μ 5 2) a1 a2 a3 p8.1 p8.2 e_7) rfl rfl ⟨(by dsimp only [headSpec]; omega), (by dsimp only [headSpec]; omega)⟩ (w_rec hW oAc.1 (oAc.2 E _ _) rfl) rfl hl.1 rfl (Nat.le_of_ble_eq_true rfl) dX0_own_8 ⟨Nat.le_refl _, Nat.le_refl _⟩) hV (fun H locs hW hV => ?_)
      exact w_retI hx hb hr hlocks hW hV (Prod.mk.inj (Option.some.inj hf)).1 (Prod.mk.inj (Option.some.inj hf)).2 dX0_own_11
    · intro μ a1 a2 a3 a4 r μ' hf
      have hf : b_X0_run G μ a1 a2 a3 a4 = some (r, μ') := by rw [hG]; exact hf
      unfold b_X0_run at hf
      refine Met.ofW (cc := cX0_run) (maxL := 9) (ret := (some .int)) (by decide) rfl ?_
      intro p e s m args below meth c s₁ B hml hv
      obtain ⟨rfl, hW, hZ⟩ := hv
      have hx := B.exec
      have hb := B.bytes
      have hr := B.returns
      have hB : ∀ w ∈ BIG, w.before _ s = true := fun w h => atoms_spec (ws := (.code yX0_run cX0_run 9 (some .int) :: BIG)) B.pre w (List.mem_cons_of_mem _ h)
      have hown : s.vm.findClass RX0 = some m.cls := findClass_of_methodNamed B.named
      have hlocks := B.notSynchronized
      have hV : va_S (eA E) s.heap s.heap [] := va_S.rf
      have hl := lv_entry ([.ref (ead E 5), .int a1, .int a2, .int a3, .int a4]) (n := 9) (Nat.le_of_ble_eq_true rfl)
      rw [lg_entry_eq]
      generalize (lg_sl ([.ref (ead E 5), .int a1, .int a2, .int a3, .int a4]) ++ List.replicate (9 - (lg_sl ([.ref (ead E 5), .int a1, .int a2, .int a3, .int a4])).length) Slot.unset).toArray = ls at hl ⊢
      have hl : lv_has ls 9 [(0, .ref (ead E 5)), (1, .int a1), (2, .int a2), (3, .int a3), (4, .int a4)] := hl
      obtain ⟨H, hH⟩ : ∃ H : Heap, H = s.heap := ⟨_, rfl⟩
      obtain ⟨locs, hlocs⟩ : ∃ locs : List Loc, locs = [] := ⟨_, rfl⟩
      rw [show (W p l e (headSpec (.code yX0_run cX0_run 9 (some .int) :: BIG) ({ frames := 2 + (d + 1), cells := 0, slots := 0, locals := 48 + (d + 1) * 28 })).room s m ([.ref (ead E 5), .int a1, .int a2, .int a3, .int a4] : List Value).toArray below meth c s.heap [] 0 0) = W p l e (headSpec (.code yX0_run cX0_run 9 (some .int) :: BIG) ({ frames := 2 + (d + 1), cells := 0, slots := 0, locals := 48 + (d + 1) * 28 })).room s m ([.ref (ead E 5), .int a1, .int a2, .int a3, .int a4] : List Value).toArray below meth c H locs 0 0 by rw [hH, hlocs]]
      have hV : va_S (eA E) s.heap H locs := by rw [hH, hlocs]; exact hV
      have hW : Wd E μ s H := by rw [hH]; exact hW
      refine lv_iload_n hx hb dX0_run_0 rfl (lv_at hl 1 rfl) ?_
      refine lv_iload_n hx hb dX0_run_1 rfl (lv_at hl 2 rfl) ?_
      obtain ⟨v69, e_70, hf⟩ := op_none hf
      refine w_callI (rn_RX0_36 (As := [.int a1, .int a2]) hx hb hml hown hB hW hZ hV (k_X0_withBody l E _ a1 a2 v69 e_70) rfl rfl ⟨(by dsimp only [headSpec]; omega), (by dsimp only [headSpec]; omega)⟩ rfl hl.1 rfl (Nat.le_of_ble_eq_true rfl) dX0_run_2 ⟨Nat.le_refl _, Nat.le_refl _⟩) hV (fun H locs hW hV => ?_)
      refine lv_istore (i := 5) (lv' := [(5, .int v69), (0, .ref (ead E 5)), (1, .int a1), (2, .int a2), (3, .int a3), (4, .int a4)]) hx hb dX0_run_5 hl (by decide) rfl (fun ls hl => ?_)
      refine lv_iload hx hb dX0_run_7 (lv_at hl 0 rfl) ?_
      refine lv_if_lt (tgt := 19) hx hb dX0_run_9 (by decide) (fun y71 => ?_) (fun y71 => ?_)
      · have hf := op_t y71 hf
        refine lv_iconst (v := (0 : Int32)) hx hb dX0_run_19 (by decide) ?_
        exact w_retI hx hb hr hlocks hW hV (Prod.mk.inj (Option.some.inj hf)).1 (Prod.mk.inj (Option.some.inj hf)).2 dX0_run_20
      · have hf := op_f y71 hf
        refine lv_iload hx hb dX0_run_12 (lv_at hl 5 rfl) ?_
        refine lv_bipush (v := (20 : Int32)) hx hb dX0_run_14 (by decide) ?_
        refine lv_icmp_le (tgt := 21) hx hb dX0_run_16 (by decide) (fun y72 => ?_) (fun y72 => ?_)
        · have hf := op_t y72 hf
          refine w_getsB hx hb hB hown hZ hV q_a564ff87 dX0_run_21 ?_
          refine lv_iload hx hb dX0_run_24 (lv_at hl 0 rfl) ?_
          refine lv_iconst (v := (3 : Int32)) hx hb dX0_run_26 (by decide) ?_
          refine lv_imul hx hb dX0_run_27 ?_
          refine lv_iload_n hx hb dX0_run_28 rfl (lv_at hl 3 rfl) ?_
          refine lv_iadd hx hb dX0_run_29 ?_
          obtain ⟨v73, e_v73, hf⟩ := op_none hf
          refine w_taB hx hb hZ hV e_v73 dX0_run_30 ?_
          refine lv_istore (i := 6) (lv' := [(6, .int v73), (5, .int v69), (0, .ref (ead E 5)), (1, .int a1), (2, .int a2), (3, .int a3), (4, .int a4)]) hx hb dX0_run_31 hl (by decide) rfl (fun ls hl => ?_)
          refine w_getsAN hx hb hown hZ hV dX0_run_33 ?_
          refine lv_iload hx hb dX0_run_36 (lv_at hl 1 rfl) ?_
          obtain ⟨v74, e_v74, hf⟩ := op_none hf
          refine w_taA hx hb hZ hV e_v74 dX0_run_38 ?_
          refine lv_istore (i := 7) (lv' := [(7, .int v74), (6, .int v73), (5, .int v69), (0, .ref (ead E 5)), (1, .int a1), (2, .int a2), (3, .int a3), (4, .int a4)]) hx hb dX0_run_39 hl (by decide) rfl (fun ls hl => ?_)
          refine lv_iload hx hb dX0_run_41 (lv_at hl 7 rfl) ?_
          refine lv_iconst (v := (1 : Int32)) hx hb dX0_run_43 (by decide) ?_
          refine lv_iadd hx hb dX0_run_44 ?_
          obtain ⟨v75, e_v75, hf⟩ := op_none hf
          refine lv_top' (Option.some.inj e_v75) ?_
          refine lv_istore (i := 8) (lv' := [(8, .int v75), (7, .int v74), (6, .int v73), (5, .int v69), (0, .ref (ead E 5)), (1, .int a1), (2, .int a2), (3, .int a3), (4, .int a4)]) hx hb dX0_run_45 hl (by decide) rfl (fun ls hl => ?_)
          refine lv_aload_n hx hb dX0_run_47 rfl (lv_at hl 4 rfl) ?_
          refine lv_iload hx hb dX0_run_48 (lv_at hl 2 rfl) ?_
          obtain ⟨μ76, e_77, hf⟩ := op_none hf
          refine w_callV (rn_RX0_46 (As := [.int v73]) hx hb hml hown hB hW hZ hV (k_X0_begin l E _ v73 μ76 e_77) rfl rfl ⟨(by dsimp only [headSpec]; omega), (by dsimp only [headSpec]; omega)⟩ (w_rec hW oAc.1 (oAc.2 E _ _) rfl) rfl hl.1 rfl (Nat.le_of_ble_eq_true rfl) dX0_run_50 ⟨Nat.le_refl _, Nat.le_refl _⟩) hV (fun H locs hW hV => ?_)
          refine lv_iload hx hb dX0_run_53 (lv_at hl 2 rfl) ?_
          by_cases y78 : v73 = (10 : Int32)
          · have hf := op_t y78 hf
            refine lv_lookup (tgt := 152) (off := 97) hx hb dX0_run_55 (by decide) (by rw [y78]; decide) (by decide) ?_
            refine lv_iload_n hx hb dX0_run_152 rfl (lv_at hl 7 rfl) ?_
            refine lv_aload_n hx hb dX0_run_153 rfl (lv_at hl 4 rfl) ?_
            refine gf_RX0_25 hx hb hB hown hW dX0_run_154 ?_
            refine lv_iadd hx hb dX0_run_157 ?_
            exact w_retI hx hb hr hlocks hW hV (Prod.mk.inj (Option.some.inj hf)).1 (Prod.mk.inj (Option.some.inj hf)).2 dX0_run_158
          have hf := op_f y78 hf
          by_cases y79 : v73 = (11 : Int32)
          · have hf := op_t y79 hf
            refine lv_lookup (tgt := 159) (off := 104) hx hb dX0_run_55 (by decide) (by rw [y79]; decide) (by decide) ?_
            refine lv_aload_n hx hb dX0_run_159 rfl (lv_at hl 4 rfl) ?_
            refine lv_iconst (v := (0 : Int32)) hx hb dX0_run_160 (by decide) ?_
            refine lv_iload_n hx hb dX0_run_161 rfl (lv_at hl 7 rfl) ?_
            refine lv_iload hx hb dX0_run_162 (lv_at hl 0 rfl) ?_
            obtain ⟨p83, e_82, hf⟩ := op_none hf
            refine w_callI (rn_RX0_28 (As := [.int (0 : Int32), .int a3, .int v75]) hx hb hml hown hB hW hZ hV (ih.1 _ (0 : Int32) a3 v75 p83.1 p83.2 e_82) rfl rfl ⟨(by dsimp only [headSpec]; omega), (by dsimp only [headSpec]; omega)⟩ (w_rec hW oAc.1 (oAc.2 E _ _) rfl) rfl hl.1 rfl (Nat.le_of_ble_eq_true rfl) dX0_run_164 ⟨Nat.le_refl _, Nat.le_refl _⟩) hV (fun H locs hW hV => ?_)
            refine lv_aload_n hx hb dX0_run_167 rfl (lv_at hl 4 rfl) ?_
            refine gf_RX0_22 hx hb hB hown hW dX0_run_168 ?_
            refine lv_isub hx hb dX0_run_171 ?_
            exact w_retI hx hb hr hlocks hW hV (Prod.mk.inj (Option.some.inj hf)).1 (Prod.mk.inj (Option.some.inj hf)).2 dX0_run_172
          have hf := op_f y79 hf
          by_cases y84 : v73 = (12 : Int32)
          · have hf := op_t y84 hf
            refine lv_lookup (tgt := 173) (off := 118) hx hb dX0_run_55 (by decide) (by rw [y84]; decide) (by decide) ?_
            refine lv_aload_n hx hb dX0_run_173 rfl (lv_at hl 4 rfl) ?_
            refine lv_iconst (v := (1 : Int32)) hx hb dX0_run_174 (by decide) ?_
            refine lv_iload_n hx hb dX0_run_175 rfl (lv_at hl 7 rfl) ?_
            refine lv_iload hx hb dX0_run_176 (lv_at hl 0 rfl) ?_
            obtain ⟨p88, e_87, hf⟩ := op_none hf
            refine w_callI (rn_RX0_28 (As := [.int (1 : Int32), .int a3, .int v75]) hx hb hml hown hB hW hZ hV (ih.1 _ (1 : Int32) a3 v75 p88.1 p88.2 e_87) rfl rfl ⟨(by dsimp only [headSpec]; omega), (by dsimp only [headSpec]; omega)⟩ (w_rec hW oAc.1 (oAc.2 E _ _) rfl) rfl hl.1 rfl (Nat.le_of_ble_eq_true rfl) dX0_run_178 ⟨Nat.le_refl _, Nat.le_refl _⟩) hV (fun H locs hW hV => ?_)
            refine lv_iconst (v := (2 : Int32)) hx hb dX0_run_181 (by decide) ?_
            refine lv_imul hx hb dX0_run_182 ?_
            exact w_retI hx hb hr hlocks hW hV (Prod.mk.inj (Option.some.inj hf)).1 (Prod.mk.inj (Option.some.inj hf)).2 dX0_run_183
          have hf := op_f y84 hf
          by_cases y89 : v73 = (20 : Int32)
          · have hf := op_t y89 hf
            refine lv_lookup (tgt := 184) (off := 129) hx hb dX0_run_55 (by decide) (by rw [y89]; decide) (by decide) ?_
            refine lv_aload_n hx hb dX0_run_184 rfl (lv_at hl 4 rfl) ?_
            refine lv_iload hx hb dX0_run_185 (lv_at hl 1 rfl) ?_
            refine lv_iconst (v := (1 : Int32)) hx hb dX0_run_187 (by decide) ?_
            refine lv_iload_n hx hb dX0_run_188 rfl (lv_at hl 7 rfl) ?_
            refine lv_iload hx hb dX0_run_189 (lv_at hl 0 rfl) ?_
            obtain ⟨p93, e_92, hf⟩ := op_none hf
            refine w_callI (rn_RX0_32 (As := [.int v74, .int (1 : Int32), .int a3, .int v75]) hx hb hml hown hB hW hZ hV (ih.2 _ v74 (1 : Int32) a3 v75 p93.1 p93.2 e_92) rfl rfl ⟨(by dsimp only [headSpec]; omega), (by dsimp only [headSpec]; omega)⟩ (w_rec hW oAc.1 (oAc.2 E _ _) rfl) rfl hl.1 rfl (Nat.le_of_ble_eq_true rfl) dX0_run_191 ⟨Nat.le_refl _, Nat.le_refl _⟩) hV (fun H locs hW hV => ?_)
            refine lv_bipush (v := (6 : Int32)) hx hb dX0_run_194 (by decide) ?_
            refine lv_ixor hx hb dX0_run_196 ?_
            exact w_retI hx hb hr hlocks hW hV (Prod.mk.inj (Option.some.inj hf)).1 (Prod.mk.inj (Option.some.inj hf)).2 dX0_run_197
          have hf := op_f y89 hf
          by_cases y94 : v73 = (30 : Int32)
          · have hf := op_t y94 hf
            refine lv_lookup (tgt := 198) (off := 143) hx hb dX0_run_55 (by decide) (by rw [y94]; decide) (by decide) ?_
            refine lv_aload_n hx hb dX0_run_198 rfl (lv_at hl 4 rfl) ?_
            refine lv_iload hx hb dX0_run_199 (lv_at hl 1 rfl) ?_
            refine lv_iconst (v := (0 : Int32)) hx hb dX0_run_201 (by decide) ?_
            refine lv_iload_n hx hb dX0_run_202 rfl (lv_at hl 7 rfl) ?_
            refine lv_iconst (v := (3 : Int32)) hx hb dX0_run_203 (by decide) ?_
            refine lv_imul hx hb dX0_run_204 ?_
            refine lv_iload hx hb dX0_run_205 (lv_at hl 0 rfl) ?_
            obtain ⟨p98, e_97, hf⟩ := op_none hf
            refine w_callI (rn_RX0_32 (As := [.int v74, .int (0 : Int32), .int (a3 * (3 : Int32)), .int v75]) hx hb hml hown hB hW hZ hV (ih.2 _ v74 (0 : Int32) (a3 * (3 : Int32)) v75 p98.1 p98.2 e_97) rfl rfl ⟨(by dsimp only [headSpec]; omega), (by dsimp only [headSpec]; omega)⟩ (w_rec hW oAc.1 (oAc.2 E _ _) rfl) rfl hl.1 rfl (Nat.le_of_ble_eq_true rfl) dX0_run_207 ⟨Nat.le_refl _, Nat.le_refl _⟩) hV (fun H locs hW hV => ?_)
            exact w_retI hx hb hr hlocks hW hV (Prod.mk.inj (Option.some.inj hf)).1 (Prod.mk.inj (Option.some.inj hf)).2 dX0_run_210
          have hf := op_f y94 hf
          by_cases y99 : v73 = (40 : Int32)
          · have hf := op_t y99 hf
            refine lv_lookup (tgt := 211) (off := 156) hx hb dX0_run_55 (by decide) (by rw [y99]; decide) (by decide) ?_
            refine lv_aload_n hx hb dX0_run_211 rfl (lv_at hl 4 rfl) ?_
            refine lv_iload hx hb dX0_run_212 (lv_at hl 1 rfl) ?_
            refine lv_iconst (v := (2 : Int32)) hx hb dX0_run_214 (by decide) ?_
            refine lv_iload_n hx hb dX0_run_215 rfl (lv_at hl 7 rfl) ?_
            refine lv_iload hx hb dX0_run_216 (lv_at hl 0 rfl) ?_
            obtain ⟨p103, e_102, hf⟩ := op_none hf
            refine w_callI (rn_RX0_32 (As := [.int v74, .int (2 : Int32), .int a3, .int v75]) hx hb hml hown hB hW hZ hV (ih.2 _ v74 (2 : Int32) a3 v75 p103.1 p103.2 e_102) rfl rfl ⟨(by dsimp only [headSpec]; omega), (by dsimp only [headSpec]; omega)⟩ (w_rec hW oAc.1 (oAc.2 E _ _) rfl) rfl hl.1 rfl (Nat.le_of_ble_eq_true rfl) dX0_run_218 ⟨Nat.le_refl _, Nat.le_refl _⟩) hV (fun H locs hW hV => ?_)
            refine lv_aload_n hx hb dX0_run_221 rfl (lv_at hl 4 rfl) ?_
            refine lv_iconst (v := (1 : Int32)) hx hb dX0_run_222 (by decide) ?_
            refine lv_iconst (v := (1 : Int32)) hx hb dX0_run_223 (by decide) ?_
            refine lv_iload hx hb dX0_run_224 (lv_at hl 0 rfl) ?_
            obtain ⟨p107, e_106, hf⟩ := op_none hf
            refine w_callI (rn_RX0_28 (As := [.int (1 : Int32), .int (1 : Int32), .int v75]) hx hb hml hown hB hW hZ hV (ih.1 _ (1 : Int32) (1 : Int32) v75 p107.1 p107.2 e_106) rfl rfl ⟨(by dsimp only [headSpec]; omega), (by dsimp only [headSpec]; omega)⟩ (w_rec hW oAc.1 (oAc.2 E _ _) rfl) rfl hl.1 rfl (Nat.le_of_ble_eq_true rfl) dX0_run_226 ⟨Nat.le_refl _, Nat.le_refl _⟩) hV (fun H locs hW hV => ?_)
            refine lv_iadd hx hb dX0_run_229 ?_
            exact w_retI hx hb hr hlocks hW hV (Prod.mk.inj (Option.some.inj hf)).1 (Prod.mk.inj (Option.some.inj hf)).2 dX0_run_230
          have hf := op_f y99 hf
          by_cases y108 : v73 = (50 : Int32)
          · have hf := op_t y108 hf
            refine lv_lookup (tgt := 231) (off := 176) hx hb dX0_run_55 (by decide) (by rw [y108]; decide) (by decide) ?_
            refine lv_aload_n hx hb dX0_run_231 rfl (lv_at hl 4 rfl) ?_
            refine lv_iload hx hb dX0_run_232 (lv_at hl 1 rfl) ?_
            refine lv_iconst (v := (0 : Int32)) hx hb dX0_run_234 (by decide) ?_
            refine lv_iload_n hx hb dX0_run_235 rfl (lv_at hl 7 rfl) ?_
            refine lv_iload hx hb dX0_run_236 (lv_at hl 0 rfl) ?_
            obtain ⟨p112, e_111, hf⟩ := op_none hf
            refine w_callI (rn_RX0_32 (As := [.int v74, .int (0 : Int32), .int a3, .int v75]) hx hb hml hown hB hW hZ hV (ih.2 _ v74 (0 : Int32) a3 v75 p112.1 p112.2 e_111) rfl rfl ⟨(by dsimp only [headSpec]; omega), (by dsimp only [headSpec]; omega)⟩ (w_rec hW oAc.1 (oAc.2 E _ _) rfl) rfl hl.1 rfl (Nat.le_of_ble_eq_true rfl) dX0_run_238 ⟨Nat.le_refl _, Nat.le_refl _⟩) hV (fun H locs hW hV => ?_)
            refine lv_ineg hx hb dX0_run_241 ?_
            exact w_retI hx hb hr hlocks hW hV (Prod.mk.inj (Option.some.inj hf)).1 (Prod.mk.inj (Option.some.inj hf)).2 dX0_run_242
          have hf := op_f y108 hf
          by_cases y113 : v73 = (51 : Int32)
          · have hf := op_t y113 hf
            refine lv_lookup (tgt := 243) (off := 188) hx hb dX0_run_55 (by decide) (by rw [y113]; decide) (by decide) ?_
            refine lv_aload_n hx hb dX0_run_243 rfl (lv_at hl 4 rfl) ?_
            refine lv_iload hx hb dX0_run_244 (lv_at hl 1 rfl) ?_
            refine lv_iconst (v := (1 : Int32)) hx hb dX0_run_246 (by decide) ?_
            refine lv_iload_n hx hb dX0_run_247 rfl (lv_at hl 7 rfl) ?_
            refine lv_iconst (v := (1 : Int32)) hx hb dX0_run_248 (by decide) ?_
            refine lv_iadd hx hb dX0_run_249 ?_
            refine lv_iload hx hb dX0_run_250 (lv_at hl 0 rfl) ?_
            obtain ⟨p117, e_116, hf⟩ := op_none hf
            refine w_callI (rn_RX0_32 (As := [.int v74, .int (1 : Int32), .int (a3 + (1 : Int32)), .int v75]) hx hb hml hown hB hW hZ hV (ih.2 _ v74 (1 : Int32) (a3 + (1 : Int32)) v75 p117.1 p117.2 e_116) rfl rfl ⟨(by dsimp only [headSpec]; omega), (by dsimp only [headSpec]; omega)⟩ (w_rec hW oAc.1 (oAc.2 E _ _) rfl) rfl hl.1 rfl (Nat.le_of_ble_eq_true rfl) dX0_run_252 ⟨Nat.le_refl _, Nat.le_refl _⟩) hV (fun H locs hW hV => ?_)
            exact w_retI hx hb hr hlocks hW hV (Prod.mk.inj (Option.some.inj hf)).1 (Prod.mk.inj (Option.some.inj hf)).2 dX0_run_255
          have hf := op_f y113 hf
          by_cases y118 : v73 = (60 : Int32)
          · have hf := op_t y118 hf
            refine lv_lookup (tgt := 256) (off := 201) hx hb dX0_run_55 (by decide) (by rw [y118]; decide) (by decide) ?_
            refine lv_aload_n hx hb dX0_run_256 rfl (lv_at hl 4 rfl) ?_
            refine lv_iload hx hb dX0_run_257 (lv_at hl 1 rfl) ?_
            refine lv_iconst (v := (2 : Int32)) hx hb dX0_run_259 (by decide) ?_
            refine lv_iload_n hx hb dX0_run_260 rfl (lv_at hl 7 rfl) ?_
            refine lv_aload_n hx hb dX0_run_261 rfl (lv_at hl 4 rfl) ?_
            refine gf_RX0_25 hx hb hB hown hW dX0_run_262 ?_
            refine lv_isub hx hb dX0_run_265 ?_
            refine lv_iload hx hb dX0_run_266 (lv_at hl 0 rfl) ?_
            obtain ⟨p122, e_121, hf⟩ := op_none hf
            refine w_callI (rn_RX0_32 (As := [.int v74, .int (2 : Int32), .int (a3 - (gI μ76 5 4)), .int v75]) hx hb hml hown hB hW hZ hV (ih.2 _ v74 (2 : Int32) (a3 - (gI μ76 5 4)) v75 p122.1 p122.2 e_121) rfl rfl ⟨(by dsimp only [headSpec]; omega), (by dsimp only [headSpec]; omega)⟩ (w_rec hW oAc.1 (oAc.2 E _ _) rfl) rfl hl.1 rfl (Nat.le_of_ble_eq_true rfl) dX0_run_268 ⟨Nat.le_refl _, Nat.le_refl _⟩) hV (fun H locs hW hV => ?_)
            exact w_retI hx hb hr hlocks hW hV (Prod.mk.inj (Option.some.inj hf)).1 (Prod.mk.inj (Option.some.inj hf)).2 dX0_run_271
          have hf := op_f y118 hf
          by_cases y123 : v73 = (70 : Int32)
          · have hf := op_t y123 hf
            refine lv_lookup (tgt := 272) (off := 217) hx hb dX0_run_55 (by decide) (by rw [y123]; decide) (by decide) ?_
            refine lv_aload_n hx hb dX0_run_272 rfl (lv_at hl 4 rfl) ?_
            refine lv_iload hx hb dX0_run_273 (lv_at hl 1 rfl) ?_
            refine lv_iconst (v := (1 : Int32)) hx hb dX0_run_275 (by decide) ?_
            refine lv_iload_n hx hb dX0_run_276 rfl (lv_at hl 7 rfl) ?_
            refine lv_iload hx hb dX0_run_277 (lv_at hl 0 rfl) ?_
            obtain ⟨p127, e_126, hf⟩ := op_none hf
            refine w_callI (rn_RX0_32 (As := [.int v74, .int (1 : Int32), .int a3, .int v75]) hx hb hml hown hB hW hZ hV (ih.2 _ v74 (1 : Int32) a3 v75 p127.1 p127.2 e_126) rfl rfl ⟨(by dsimp only [headSpec]; omega), (by dsimp only [headSpec]; omega)⟩ (w_rec hW oAc.1 (oAc.2 E _ _) rfl) rfl hl.1 rfl (Nat.le_of_ble_eq_true rfl) dX0_run_279 ⟨Nat.le_refl _, Nat.le_refl _⟩) hV (fun H locs hW hV => ?_)
            refine lv_aload_n hx hb dX0_run_282 rfl (lv_at hl 4 rfl) ?_
            refine lv_iload hx hb dX0_run_283 (lv_at hl 1 rfl) ?_
            refine lv_iconst (v := (0 : Int32)) hx hb dX0_run_285 (by decide) ?_
            refine lv_iconst (v := (2 : Int32)) hx hb dX0_run_286 (by decide) ?_
            refine lv_iload hx hb dX0_run_287 (lv_at hl 0 rfl) ?_
            obtain ⟨p131, e_130, hf⟩ := op_none hf
            refine w_callI (rn_RX0_32 (As := [.int v74, .int (0 : Int32), .int (2 : Int32), .int v75]) hx hb hml hown hB hW hZ hV (ih.2 _ v74 (0 : Int32) (2 : Int32) v75 p131.1 p131.2 e_130) rfl rfl ⟨(by dsimp only [headSpec]; omega), (by dsimp only [headSpec]; omega)⟩ (w_rec hW oAc.1 (oAc.2 E _ _) rfl) rfl hl.1 rfl (Nat.le_of_ble_eq_true rfl) dX0_run_289 ⟨Nat.le_refl _, Nat.le_refl _⟩) hV (fun H locs hW hV => ?_)
            refine lv_iadd hx hb dX0_run_292 ?_
            exact w_retI hx hb hr hlocks hW hV (Prod.mk.inj (Option.some.inj hf)).1 (Prod.mk.inj (Option.some.inj hf)).2 dX0_run_293
          have hf := op_f y123 hf
          by_cases y132 : v73 = (71 : Int32)
          · have hf := op_t y132 hf
            refine lv_lookup (tgt := 294) (off := 239) hx hb dX0_run_55 (by decide) (by rw [y132]; decide) (by decide) ?_
            refine lv_aload_n hx hb dX0_run_294 rfl (lv_at hl 4 rfl) ?_
            refine lv_iload hx hb dX0_run_295 (lv_at hl 1 rfl) ?_
            refine lv_iconst (v := (0 : Int32)) hx hb dX0_run_297 (by decide) ?_
            refine lv_iload_n hx hb dX0_run_298 rfl (lv_at hl 7 rfl) ?_
            refine lv_iload hx hb dX0_run_299 (lv_at hl 0 rfl) ?_
            obtain ⟨p136, e_135, hf⟩ := op_none hf
            refine w_callI (rn_RX0_32 (As := [.int v74, .int (0 : Int32), .int a3, .int v75]) hx hb hml hown hB hW hZ hV (ih.2 _ v74 (0 : Int32) a3 v75 p136.1 p136.2 e_135) rfl rfl ⟨(by dsimp only [headSpec]; omega), (by dsimp only [headSpec]; omega)⟩ (w_rec hW oAc.1 (oAc.2 E _ _) rfl) rfl hl.1 rfl (Nat.le_of_ble_eq_true rfl) dX0_run_301 ⟨Nat.le_refl _, Nat.le_refl _⟩) hV (fun H locs hW hV => ?_)
            refine lv_aload_n hx hb dX0_run_304 rfl (lv_at hl 4 rfl) ?_
            refine gf_RX0_22 hx hb hB hown hW dX0_run_305 ?_
            refine lv_ixor hx hb dX0_run_308 ?_
            exact w_retI hx hb hr hlocks hW hV (Prod.mk.inj (Option.some.inj hf)).1 (Prod.mk.inj (Option.some.inj hf)).2 dX0_run_309
          have hf := op_f y132 hf
          refine lv_lookup (tgt := 310) (off := 255) hx hb dX0_run_55 (by decide) (by rw [lv_osw y78 (by decide)]; rw [lv_osw y79 (by decide)]; rw [lv_osw y84 (by decide)]; rw [lv_osw y89 (by decide)]; rw [lv_osw y94 (by decide)]; rw [lv_osw y99 (by decide)]; rw [lv_osw y108 (by decide)]; rw [lv_osw y113 (by decide)]; rw [lv_osw y118 (by decide)]; rw [lv_osw y123 (by decide)]; rw [lv_osw y132 (by decide)]; rfl) (by decide) ?_
          refine lv_iconst (v := (0 : Int32)) hx hb dX0_run_310 (by decide) ?_
          exact w_retI hx hb hr hlocks hW hV (Prod.mk.inj (Option.some.inj hf)).1 (Prod.mk.inj (Option.some.inj hf)).2 dX0_run_311
        · have hf := op_f y72 hf
          refine lv_iconst (v := (0 : Int32)) hx hb dX0_run_19 (by decide) ?_
          exact w_retI hx hb hr hlocks hW hV (Prod.mk.inj (Option.some.inj hf)).1 (Prod.mk.inj (Option.some.inj hf)).2 dX0_run_20
theorem k_X0_own (l : Launch) (E : WE) (μ : Mem) (a1 : Int32) (a2 : Int32) (a3 : Int32) (r : Int32) (μ' : Mem) (hf : f_X0_own μ a1 a2 a3 = some (r, μ')) : Met l yX0_own (.code yX0_own cX0_own 4 (some .int) :: BIG) ({ frames := 42, cells := 0, slots := 0, locals := 1168 }) (PW E μ [.ref (ead E 5), .int a1, .int a2, .int a3]) (QI E r μ') 0 0 (eA E) := (kg_acts l E 40).1 μ a1 a2 a3 r μ' hf
theorem k_X0_run (l : Launch) (E : WE) (μ : Mem) (a1 : Int32) (a2 : Int32) (a3 : Int32) (a4 : Int32) (r : Int32) (μ' : Mem) (hf : f_X0_run μ a1 a2 a3 a4 = some (r, μ')) : Met l yX0_run (.code yX0_run cX0_run 9 (some .int) :: BIG) ({ frames := 42, cells := 0, slots := 0, locals := 1168 }) (PW E μ [.ref (ead E 5), .int a1, .int a2, .int a3, .int a4]) (QI E r μ') 0 0 (eA E) := (kg_acts l E 40).2 μ a1 a2 a3 a4 r μ' hf
