set_option maxHeartbeats 8000000 in
set_option maxRecDepth 100000 in
theorem k_X7_turn (l : Launch) (E : WE) (μ : Mem) (a1 : Int32) (r : Int32) (hf : f_X7_turn μ a1 = some r) : Met l yX7_turn (.code yX7_turn cX7_turn 2 (some .int) :: BIG) ({ frames := 0, cells := 0, slots := 0, locals := 0 }) (PW E μ [.ref (ead E 2000), .int a1]) (QI E r μ) 0 0 (eA E) := by
  refine Met.ofW (cc := cX7_turn) (maxL := 2) (ret := (some .int)) (by decide) rfl ?_
  intro p e s m args below meth c s₁ B hml hv
  obtain ⟨rfl, hW, hZ⟩ := hv
  have hx := B.exec
  have hb := B.bytes
  have hr := B.returns
  have hB : ∀ w ∈ BIG, w.before _ s = true := fun w h => atoms_spec (ws := (.code yX7_turn cX7_turn 2 (some .int) :: BIG)) B.pre w (List.mem_cons_of_mem _ h)
  have hown : s.vm.findClass RX7 = some m.cls := findClass_of_methodNamed B.named
  have hlocks := B.notSynchronized
  have hV : va_S (eA E) s.heap s.heap [] := va_S.rf
  have hl := lv_entry ([.ref (ead E 2000), .int a1]) (n := 2) (Nat.le_of_ble_eq_true rfl)
  rw [lg_entry_eq]
  generalize (lg_sl ([.ref (ead E 2000), .int a1]) ++ List.replicate (2 - (lg_sl ([.ref (ead E 2000), .int a1])).length) Slot.unset).toArray = ls at hl ⊢
  have hl : lv_has ls 2 [(0, .ref (ead E 2000)), (1, .int a1)] := hl
  have c_74 : ∀ (b1_74 : Int32) , f_X7_turn_74 μ b1_74 = some r → ∀ (H : Heap) (locs : List Loc) (ls : Array Slot), Wd E μ s H → va_S (eA E) s.heap H locs → lv_has ls 2 [(0, .ref (ead E 2000)), (1, .int b1_74)] → W p l e (headSpec (.code yX7_turn cX7_turn 2 (some .int) :: BIG) ({ frames := 0, cells := 0, slots := 0, locals := 0 })).room s m ([.ref (ead E 2000), .int a1] : List Value).toArray below meth c H locs 0 0 (MQ below (QI E r μ) ([.ref (ead E 2000), .int a1] : List Value).toArray s 0 0 (eA E)) (F0 m 74 ls []) := by
    intro b1_74 hf H locs ls hW hV hl
    unfold f_X7_turn_74 at hf
    refine lv_aload_n hx hb dX7_turn_74 rfl (lv_at hl 0 rfl) ?_
    refine gf_RX7_18 hx hb hB hown hW dX7_turn_75 ?_
    refine lv_iload_n hx hb dX7_turn_78 rfl (lv_at hl 1 rfl) ?_
    obtain ⟨v13, e_v13, hf⟩ := op_none hf
    refine w_iald hx hb hW iM3.1 (iM3.2 E _ _) e_v13 dX7_turn_79 ?_
    exact w_retI hx hb hr hlocks hW hV (Option.some.inj hf) rfl dX7_turn_80
  have c_49 : ∀ (b1_49 : Int32) , f_X7_turn_49 μ b1_49 = some r → ∀ (H : Heap) (locs : List Loc) (ls : Array Slot), Wd E μ s H → va_S (eA E) s.heap H locs → lv_has ls 2 [(0, .ref (ead E 2000)), (1, .int b1_49)] → W p l e (headSpec (.code yX7_turn cX7_turn 2 (some .int) :: BIG) ({ frames := 0, cells := 0, slots := 0, locals := 0 })).room s m ([.ref (ead E 2000), .int a1] : List Value).toArray below meth c H locs 0 0 (MQ below (QI E r μ) ([.ref (ead E 2000), .int a1] : List Value).toArray s 0 0 (eA E)) (F0 m 49 ls []) := by
    intro b1_49 hf H locs ls hW hV hl
    unfold f_X7_turn_49 at hf
    refine lv_aload_n hx hb dX7_turn_49 rfl (lv_at hl 0 rfl) ?_
    refine gf_RX7_18 hx hb hB hown hW dX7_turn_50 ?_
    refine lv_iload_n hx hb dX7_turn_53 rfl (lv_at hl 1 rfl) ?_
    obtain ⟨v14, e_v14, hf⟩ := op_none hf
    refine w_iald hx hb hW iM3.1 (iM3.2 E _ _) e_v14 dX7_turn_54 ?_
    refine lv_aload_n hx hb dX7_turn_55 rfl (lv_at hl 0 rfl) ?_
    refine gf_RX7_15 hx hb hB hown hW dX7_turn_56 ?_
    refine lv_iload_n hx hb dX7_turn_59 rfl (lv_at hl 1 rfl) ?_
    obtain ⟨v15, e_v15, hf⟩ := op_none hf
    refine w_iald hx hb hW iM2.1 (iM2.2 E _ _) e_v15 dX7_turn_60 ?_
    refine lv_iadd hx hb dX7_turn_61 ?_
    exact w_retI hx hb hr hlocks hW hV (Option.some.inj hf) rfl dX7_turn_62
  obtain ⟨H, hH⟩ : ∃ H : Heap, H = s.heap := ⟨_, rfl⟩
  obtain ⟨locs, hlocs⟩ : ∃ locs : List Loc, locs = [] := ⟨_, rfl⟩
  rw [show (W p l e (headSpec (.code yX7_turn cX7_turn 2 (some .int) :: BIG) ({ frames := 0, cells := 0, slots := 0, locals := 0 })).room s m ([.ref (ead E 2000), .int a1] : List Value).toArray below meth c s.heap [] 0 0) = W p l e (headSpec (.code yX7_turn cX7_turn 2 (some .int) :: BIG) ({ frames := 0, cells := 0, slots := 0, locals := 0 })).room s m ([.ref (ead E 2000), .int a1] : List Value).toArray below meth c H locs 0 0 by rw [hH, hlocs]]
  have hV : va_S (eA E) s.heap H locs := by rw [hH, hlocs]; exact hV
  have hW : Wd E μ s H := by rw [hH]; exact hW
  unfold f_X7_turn at hf
  refine lv_aload_n hx hb dX7_turn_0 rfl (lv_at hl 0 rfl) ?_
  refine gf_RX7_9 hx hb hB hown hW dX7_turn_1 ?_
  refine lv_iload_n hx hb dX7_turn_4 rfl (lv_at hl 1 rfl) ?_
  obtain ⟨v16, e_v16, hf⟩ := op_none hf
  refine w_iald hx hb hW iM1.1 (iM1.2 E _ _) e_v16 dX7_turn_5 ?_
  by_cases y17 : v16 = (2 : Int32)
  · have hf := op_t y17 hf
    refine lv_tableIn (tgt := 40) (off := 34) hx hb dX7_turn_6 (by rw [y17]; decide) (by rw [y17]; decide) (by rw [y17]; rfl) (by decide) ?_
    refine lv_iconst (v := (2 : Int32)) hx hb dX7_turn_40 (by decide) ?_
    refine lv_aload_n hx hb dX7_turn_41 rfl (lv_at hl 0 rfl) ?_
    refine gf_RX7_18 hx hb hB hown hW dX7_turn_42 ?_
    refine lv_iload_n hx hb dX7_turn_45 rfl (lv_at hl 1 rfl) ?_
    obtain ⟨v18, e_v18, hf⟩ := op_none hf
    refine w_iald hx hb hW iM3.1 (iM3.2 E _ _) e_v18 dX7_turn_46 ?_
    refine lv_imul hx hb dX7_turn_47 ?_
    exact w_retI hx hb hr hlocks hW hV (Option.some.inj hf) rfl dX7_turn_48
  have hf := op_f y17 hf
  by_cases y19 : v16 = (3 : Int32)
  · have hf := op_t y19 hf
    refine lv_tableIn (tgt := 49) (off := 43) hx hb dX7_turn_6 (by rw [y19]; decide) (by rw [y19]; decide) (by rw [y19]; rfl) (by decide) ?_
    exact c_49 a1 hf H locs ls hW hV (lv_sub hl [0, 1] rfl)
  have hf := op_f y19 hf
  by_cases y21 : v16 = (5 : Int32)
  · have hf := op_t y21 hf
    refine lv_tableIn (tgt := 63) (off := 57) hx hb dX7_turn_6 (by rw [y21]; decide) (by rw [y21]; decide) (by rw [y21]; rfl) (by decide) ?_
    refine lv_iconst (v := (2 : Int32)) hx hb dX7_turn_63 (by decide) ?_
    refine lv_aload_n hx hb dX7_turn_64 rfl (lv_at hl 0 rfl) ?_
    refine gf_RX7_18 hx hb hB hown hW dX7_turn_65 ?_
    refine lv_iload_n hx hb dX7_turn_68 rfl (lv_at hl 1 rfl) ?_
    obtain ⟨v22, e_v22, hf⟩ := op_none hf
    refine w_iald hx hb hW iM3.1 (iM3.2 E _ _) e_v22 dX7_turn_69 ?_
    refine lv_imul hx hb dX7_turn_70 ?_
    refine lv_iconst (v := (1 : Int32)) hx hb dX7_turn_71 (by decide) ?_
    refine lv_iadd hx hb dX7_turn_72 ?_
    exact w_retI hx hb hr hlocks hW hV (Option.some.inj hf) rfl dX7_turn_73
  have hf := op_f y21 hf
  by_cases y23 : v16 = (6 : Int32)
  · have hf := op_t y23 hf
    refine lv_tableIn (tgt := 49) (off := 43) hx hb dX7_turn_6 (by rw [y23]; decide) (by rw [y23]; decide) (by rw [y23]; rfl) (by decide) ?_
    exact c_49 a1 hf H locs ls hW hV (lv_sub hl [0, 1] rfl)
  have hf := op_f y23 hf
  by_cases y24 : v16 = (4 : Int32)
  · refine lv_tableIn (tgt := 74) (off := 68) hx hb dX7_turn_6 (by rw [y24]; decide) (by rw [y24]; decide) (by rw [y24]; rfl) (by decide) ?_
    exact c_74 a1 hf H locs ls hW hV (lv_sub hl [0, 1] rfl)
  refine lv_tableOut (tgt := 74) hx hb dX7_turn_6 (by have a_y17 := lv_neT (a := 2) y17 (by decide); have a_y19 := lv_neT (a := 3) y19 (by decide); have a_y21 := lv_neT (a := 5) y21 (by decide); have a_y23 := lv_neT (a := 6) y23 (by decide); have a_y24 := lv_neT (a := 4) y24 (by decide); omega) (by decide) ?_
  exact c_74 a1 hf H locs ls hW hV (lv_sub hl [0, 1] rfl)
set_option maxHeartbeats 8000000 in
set_option maxRecDepth 100000 in
theorem k_X7_allBy (l : Launch) (E : WE) (μ : Mem) (r : Int32) (hf : f_X7_allBy μ = some r) : Met l yX7_allBy (.code yX7_allBy cX7_allBy 3 (some .int) :: BIG) ({ frames := 0, cells := 0, slots := 0, locals := 0 }) (PW E μ [.ref (ead E 2000)]) (QI E r μ) 0 0 (eA E) := by
  refine Met.ofW (cc := cX7_allBy) (maxL := 3) (ret := (some .int)) (by decide) rfl ?_
  intro p e s m args below meth c s₁ B hml hv
  obtain ⟨rfl, hW, hZ⟩ := hv
  have hx := B.exec
  have hb := B.bytes
  have hr := B.returns
  have hB : ∀ w ∈ BIG, w.before _ s = true := fun w h => atoms_spec (ws := (.code yX7_allBy cX7_allBy 3 (some .int) :: BIG)) B.pre w (List.mem_cons_of_mem _ h)
  have hown : s.vm.findClass RX7 = some m.cls := findClass_of_methodNamed B.named
  have hlocks := B.notSynchronized
  have hV : va_S (eA E) s.heap s.heap [] := va_S.rf
  have hl := lv_entry ([.ref (ead E 2000)]) (n := 3) (Nat.le_of_ble_eq_true rfl)
  rw [lg_entry_eq]
  generalize (lg_sl ([.ref (ead E 2000)]) ++ List.replicate (3 - (lg_sl ([.ref (ead E 2000)])).length) Slot.unset).toArray = ls at hl ⊢
  have hl : lv_has ls 3 [(0, .ref (ead E 2000))] := hl
  have c_4 : ∀ (n_4 : Nat) (b1_4 : Int32) (b2_4 : Int32) , f_X7_allBy_4 μ n_4 b1_4 b2_4 = some r → ∀ (H : Heap) (locs : List Loc) (ls : Array Slot), Wd E μ s H → va_S (eA E) s.heap H locs → lv_has ls 3 [(0, .ref (ead E 2000)), (1, .int b1_4), (2, .int b2_4)] → W p l e (headSpec (.code yX7_allBy cX7_allBy 3 (some .int) :: BIG) ({ frames := 0, cells := 0, slots := 0, locals := 0 })).room s m ([.ref (ead E 2000)] : List Value).toArray below meth c H locs 0 0 (MQ below (QI E r μ) ([.ref (ead E 2000)] : List Value).toArray s 0 0 (eA E)) (F0 m 4 ls []) := by
    intro n_4
    induction n_4 with
    | zero =>
      intro b1_4 b2_4 hf H locs ls hW hV hl
      cases hf
    | succ n_4 ih_4 =>
      have c_58 : ∀ (b1_58 : Int32) (b2_58 : Int32) , f_X7_allBy_58 μ (fun z0 z1 => f_X7_allBy_4 μ n_4 z0 z1) b1_58 b2_58 = some r → ∀ (H : Heap) (locs : List Loc) (ls : Array Slot), Wd E μ s H → va_S (eA E) s.heap H locs → lv_has ls 3 [(0, .ref (ead E 2000)), (1, .int b1_58), (2, .int b2_58)] → W p l e (headSpec (.code yX7_allBy cX7_allBy 3 (some .int) :: BIG) ({ frames := 0, cells := 0, slots := 0, locals := 0 })).room s m ([.ref (ead E 2000)] : List Value).toArray below meth c H locs 0 0 (MQ below (QI E r μ) ([.ref (ead E 2000)] : List Value).toArray s 0 0 (eA E)) (F0 m 58 ls []) := by
        intro b1_58 b2_58 hf H locs ls hW hV hl
        unfold f_X7_allBy_58 at hf
        obtain ⟨v8, e_v8, hf⟩ := op_none hf
        refine lv_iinc (v := v8) (lv' := [(2, .int v8), (0, .ref (ead E 2000)), (1, .int b1_58)]) hx hb dX7_allBy_58 hl (k := 2) rfl (by rw [← Option.some.inj e_v8]; rfl) (by decide) rfl (fun ls hl => ?_)
        refine lv_goto (tgt := 4) hx hb dX7_allBy_61 (by decide) ?_
        exact ih_4 b1_58 v8 hf H locs ls hW hV (lv_sub hl [1, 2, 0] rfl)
      intro b1_4 b2_4 hf H locs ls hW hV hl
      rw [f_X7_allBy_4] at hf
      refine lv_aload_n hx hb dX7_allBy_4 rfl (lv_at hl 0 rfl) ?_
      refine gf_RX7_105 hx hb hB hown hW dX7_allBy_5 ?_
      refine lv_iconst (v := (-1 : Int32)) hx hb dX7_allBy_8 (by decide) ?_
      refine lv_icmp_eq (tgt := 64) hx hb dX7_allBy_9 (by decide) (fun y9 => ?_) (fun y9 => ?_)
      · have hf := op_t y9 hf
        refine lv_iload_n hx hb dX7_allBy_64 rfl (lv_at hl 1 rfl) ?_
        exact w_retI hx hb hr hlocks hW hV (Option.some.inj hf) rfl dX7_allBy_65
      · have hf := op_f y9 hf
        refine lv_iload_n hx hb dX7_allBy_12 rfl (lv_at hl 2 rfl) ?_
        refine lv_aload_n hx hb dX7_allBy_13 rfl (lv_at hl 0 rfl) ?_
        refine gf_RX7_39 hx hb hB hown hW dX7_allBy_14 ?_
        refine lv_aload_n hx hb dX7_allBy_17 rfl (lv_at hl 0 rfl) ?_
        refine gf_RX7_105 hx hb hB hown hW dX7_allBy_18 ?_
        obtain ⟨v10, e_v10, hf⟩ := op_none hf
        refine w_iald hx hb hW iM19.1 (iM19.2 E _ _) e_v10 dX7_allBy_21 ?_
        refine lv_icmp_ge (tgt := 64) hx hb dX7_allBy_22 (by decide) (fun y11 => ?_) (fun y11 => ?_)
        · have hf := op_t y11 hf
          refine lv_iload_n hx hb dX7_allBy_64 rfl (lv_at hl 1 rfl) ?_
          exact w_retI hx hb hr hlocks hW hV (Option.some.inj hf) rfl dX7_allBy_65
        · have hf := op_f y11 hf
          refine lv_aload_n hx hb dX7_allBy_25 rfl (lv_at hl 0 rfl) ?_
          refine gf_RX7_42 hx hb hB hown hW dX7_allBy_26 ?_
          refine lv_bipush (v := (10 : Int32)) hx hb dX7_allBy_29 (by decide) ?_
          refine lv_aload_n hx hb dX7_allBy_31 rfl (lv_at hl 0 rfl) ?_
          refine gf_RX7_105 hx hb hB hown hW dX7_allBy_32 ?_
          refine lv_imul hx hb dX7_allBy_35 ?_
          refine lv_iload_n hx hb dX7_allBy_36 rfl (lv_at hl 2 rfl) ?_
          refine lv_iadd hx hb dX7_allBy_37 ?_
          obtain ⟨v12, e_v12, hf⟩ := op_none hf
          refine w_iald hx hb hW iM20.1 (iM20.2 E _ _) e_v12 dX7_allBy_38 ?_
          refine lv_iconst (v := (2 : Int32)) hx hb dX7_allBy_39 (by decide) ?_
          refine lv_icmp_ne (tgt := 58) hx hb dX7_allBy_40 (by decide) (fun y13 => ?_) (fun y13 => ?_)
          · have hf := op_f y13 hf
            exact c_58 b1_4 b2_4 hf H locs ls hW hV (lv_sub hl [0, 1, 2] rfl)
          · have hf := op_t y13 hf
            refine lv_aload_n hx hb dX7_allBy_43 rfl (lv_at hl 0 rfl) ?_
            refine gf_RX7_45 hx hb hB hown hW dX7_allBy_44 ?_
            refine lv_bipush (v := (10 : Int32)) hx hb dX7_allBy_47 (by decide) ?_
            refine lv_aload_n hx hb dX7_allBy_49 rfl (lv_at hl 0 rfl) ?_
            refine gf_RX7_105 hx hb hB hown hW dX7_allBy_50 ?_
            refine lv_imul hx hb dX7_allBy_53 ?_
            refine lv_iload_n hx hb dX7_allBy_54 rfl (lv_at hl 2 rfl) ?_
            refine lv_iadd hx hb dX7_allBy_55 ?_
            obtain ⟨v14, e_v14, hf⟩ := op_none hf
            refine w_iald hx hb hW iM21.1 (iM21.2 E _ _) e_v14 dX7_allBy_56 ?_
            refine lv_istore_n (i := 1) (lv' := [(1, .int v14), (0, .ref (ead E 2000)), (2, .int b2_4)]) hx hb dX7_allBy_57 rfl hl (by decide) rfl (fun ls hl => ?_)
            exact c_58 v14 b2_4 hf H locs ls hW hV (lv_sub hl [1, 0, 2] rfl)
  obtain ⟨H, hH⟩ : ∃ H : Heap, H = s.heap := ⟨_, rfl⟩
  obtain ⟨locs, hlocs⟩ : ∃ locs : List Loc, locs = [] := ⟨_, rfl⟩
  rw [show (W p l e (headSpec (.code yX7_allBy cX7_allBy 3 (some .int) :: BIG) ({ frames := 0, cells := 0, slots := 0, locals := 0 })).room s m ([.ref (ead E 2000)] : List Value).toArray below meth c s.heap [] 0 0) = W p l e (headSpec (.code yX7_allBy cX7_allBy 3 (some .int) :: BIG) ({ frames := 0, cells := 0, slots := 0, locals := 0 })).room s m ([.ref (ead E 2000)] : List Value).toArray below meth c H locs 0 0 by rw [hH, hlocs]]
  have hV : va_S (eA E) s.heap H locs := by rw [hH, hlocs]; exact hV
  have hW : Wd E μ s H := by rw [hH]; exact hW
  unfold f_X7_allBy at hf
  refine lv_iconst (v := (0 : Int32)) hx hb dX7_allBy_0 (by decide) ?_
  refine lv_istore_n (i := 1) (lv' := [(1, .int (0 : Int32)), (0, .ref (ead E 2000))]) hx hb dX7_allBy_1 rfl hl (by decide) rfl (fun ls hl => ?_)
  refine lv_iconst (v := (0 : Int32)) hx hb dX7_allBy_2 (by decide) ?_
  refine lv_istore_n (i := 2) (lv' := [(2, .int (0 : Int32)), (1, .int (0 : Int32)), (0, .ref (ead E 2000))]) hx hb dX7_allBy_3 rfl hl (by decide) rfl (fun ls hl => ?_)
  exact c_4 FU (0 : Int32) (0 : Int32) hf H locs ls hW hV (lv_sub hl [2, 1, 0] rfl)
set_option maxHeartbeats 8000000 in
set_option maxRecDepth 100000 in
theorem k_X7_letterOf (l : Launch) (E : WE) (μ : Mem) (a1 : Int32) (a2 : Int32) (r : Int32) (hf : f_X7_letterOf μ a1 a2 = some r) : Met l yX7_letterOf (.code yX7_letterOf cX7_letterOf 3 (some .int) :: BIG) ({ frames := 0, cells := 0, slots := 0, locals := 0 }) (PW E μ [.ref (ead E 2000), .int a1, .int a2]) (QI E r μ) 0 0 (eA E) := by
  refine Met.ofW (cc := cX7_letterOf) (maxL := 3) (ret := (some .int)) (by decide) rfl ?_
  intro p e s m args below meth c s₁ B hml hv
  obtain ⟨rfl, hW, hZ⟩ := hv
  have hx := B.exec
  have hb := B.bytes
  have hr := B.returns
  have hB : ∀ w ∈ BIG, w.before _ s = true := fun w h => atoms_spec (ws := (.code yX7_letterOf cX7_letterOf 3 (some .int) :: BIG)) B.pre w (List.mem_cons_of_mem _ h)
  have hown : s.vm.findClass RX7 = some m.cls := findClass_of_methodNamed B.named
  have hlocks := B.notSynchronized
  have hV : va_S (eA E) s.heap s.heap [] := va_S.rf
  have hl := lv_entry ([.ref (ead E 2000), .int a1, .int a2]) (n := 3) (Nat.le_of_ble_eq_true rfl)
  rw [lg_entry_eq]
  generalize (lg_sl ([.ref (ead E 2000), .int a1, .int a2]) ++ List.replicate (3 - (lg_sl ([.ref (ead E 2000), .int a1, .int a2])).length) Slot.unset).toArray = ls at hl ⊢
  have hl : lv_has ls 3 [(0, .ref (ead E 2000)), (1, .int a1), (2, .int a2)] := hl
  obtain ⟨H, hH⟩ : ∃ H : Heap, H = s.heap := ⟨_, rfl⟩
  obtain ⟨locs, hlocs⟩ : ∃ locs : List Loc, locs = [] := ⟨_, rfl⟩
  rw [show (W p l e (headSpec (.code yX7_letterOf cX7_letterOf 3 (some .int) :: BIG) ({ frames := 0, cells := 0, slots := 0, locals := 0 })).room s m ([.ref (ead E 2000), .int a1, .int a2] : List Value).toArray below meth c s.heap [] 0 0) = W p l e (headSpec (.code yX7_letterOf cX7_letterOf 3 (some .int) :: BIG) ({ frames := 0, cells := 0, slots := 0, locals := 0 })).room s m ([.ref (ead E 2000), .int a1, .int a2] : List Value).toArray below meth c H locs 0 0 by rw [hH, hlocs]]
  have hV : va_S (eA E) s.heap H locs := by rw [hH, hlocs]; exact hV
  have hW : Wd E μ s H := by rw [hH]; exact hW
  unfold f_X7_letterOf at hf
  refine lv_iload_n hx hb dX7_letterOf_0 rfl (lv_at hl 2 rfl) ?_
  by_cases y11 : a2 = (0 : Int32)
  · have hf := op_t y11 hf
    refine lv_tableIn (tgt := 36) (off := 35) hx hb dX7_letterOf_1 (by rw [y11]; decide) (by rw [y11]; decide) (by rw [y11]; rfl) (by decide) ?_
    refine lv_iload_n hx hb dX7_letterOf_36 rfl (lv_at hl 1 rfl) ?_
    exact w_retI hx hb hr hlocks hW hV (Option.some.inj hf) rfl dX7_letterOf_37
  have hf := op_f y11 hf
  by_cases y12 : a2 = (1 : Int32)
  · have hf := op_t y12 hf
    refine lv_tableIn (tgt := 38) (off := 37) hx hb dX7_letterOf_1 (by rw [y12]; decide) (by rw [y12]; decide) (by rw [y12]; rfl) (by decide) ?_
    refine lv_aload_n hx hb dX7_letterOf_38 rfl (lv_at hl 0 rfl) ?_
    refine gf_RX7_9 hx hb hB hown hW dX7_letterOf_39 ?_
    refine lv_iload_n hx hb dX7_letterOf_42 rfl (lv_at hl 1 rfl) ?_
    obtain ⟨v13, e_v13, hf⟩ := op_none hf
    refine w_iald hx hb hW iM1.1 (iM1.2 E _ _) e_v13 dX7_letterOf_43 ?_
    exact w_retI hx hb hr hlocks hW hV (Option.some.inj hf) rfl dX7_letterOf_44
  have hf := op_f y12 hf
  by_cases y14 : a2 = (2 : Int32)
  · have hf := op_t y14 hf
    refine lv_tableIn (tgt := 45) (off := 44) hx hb dX7_letterOf_1 (by rw [y14]; decide) (by rw [y14]; decide) (by rw [y14]; rfl) (by decide) ?_
    refine lv_aload_n hx hb dX7_letterOf_45 rfl (lv_at hl 0 rfl) ?_
    refine gf_RX7_15 hx hb hB hown hW dX7_letterOf_46 ?_
    refine lv_iload_n hx hb dX7_letterOf_49 rfl (lv_at hl 1 rfl) ?_
    obtain ⟨v15, e_v15, hf⟩ := op_none hf
    refine w_iald hx hb hW iM2.1 (iM2.2 E _ _) e_v15 dX7_letterOf_50 ?_
    exact w_retI hx hb hr hlocks hW hV (Option.some.inj hf) rfl dX7_letterOf_51
  have hf := op_f y14 hf
  by_cases y16 : a2 = (3 : Int32)
  · have hf := op_t y16 hf
    refine lv_tableIn (tgt := 52) (off := 51) hx hb dX7_letterOf_1 (by rw [y16]; decide) (by rw [y16]; decide) (by rw [y16]; rfl) (by decide) ?_
    refine lv_aload_n hx hb dX7_letterOf_52 rfl (lv_at hl 0 rfl) ?_
    refine gf_RX7_18 hx hb hB hown hW dX7_letterOf_53 ?_
    refine lv_iload_n hx hb dX7_letterOf_56 rfl (lv_at hl 1 rfl) ?_
    obtain ⟨v17, e_v17, hf⟩ := op_none hf
    refine w_iald hx hb hW iM3.1 (iM3.2 E _ _) e_v17 dX7_letterOf_57 ?_
    exact w_retI hx hb hr hlocks hW hV (Option.some.inj hf) rfl dX7_letterOf_58
  have hf := op_f y16 hf
  by_cases y18 : a2 = (4 : Int32)
  · have hf := op_t y18 hf
    refine lv_tableIn (tgt := 59) (off := 58) hx hb dX7_letterOf_1 (by rw [y18]; decide) (by rw [y18]; decide) (by rw [y18]; rfl) (by decide) ?_
    refine lv_aload_n hx hb dX7_letterOf_59 rfl (lv_at hl 0 rfl) ?_
    refine gf_RX7_21 hx hb hB hown hW dX7_letterOf_60 ?_
    refine lv_iload_n hx hb dX7_letterOf_63 rfl (lv_at hl 1 rfl) ?_
    obtain ⟨v19, e_v19, hf⟩ := op_none hf
    refine w_iald hx hb hW iM4.1 (iM4.2 E _ _) e_v19 dX7_letterOf_64 ?_
    exact w_retI hx hb hr hlocks hW hV (Option.some.inj hf) rfl dX7_letterOf_65
  have hf := op_f y18 hf
  refine lv_tableOut (tgt := 66) hx hb dX7_letterOf_1 (by have a_y11 := lv_neT (a := 0) y11 (by decide); have a_y12 := lv_neT (a := 1) y12 (by decide); have a_y14 := lv_neT (a := 2) y14 (by decide); have a_y16 := lv_neT (a := 3) y16 (by decide); have a_y18 := lv_neT (a := 4) y18 (by decide); omega) (by decide) ?_
  refine lv_aload_n hx hb dX7_letterOf_66 rfl (lv_at hl 0 rfl) ?_
  refine gf_RX7_24 hx hb hB hown hW dX7_letterOf_67 ?_
  refine lv_iload_n hx hb dX7_letterOf_70 rfl (lv_at hl 1 rfl) ?_
  obtain ⟨v20, e_v20, hf⟩ := op_none hf
  refine w_iald hx hb hW iM5.1 (iM5.2 E _ _) e_v20 dX7_letterOf_71 ?_
  exact w_retI hx hb hr hlocks hW hV (Option.some.inj hf) rfl dX7_letterOf_72
set_option maxHeartbeats 8000000 in
set_option maxRecDepth 100000 in
theorem k_X7_isTrue (l : Launch) (E : WE) (μ : Mem) (a1 : Int32) (a2 : Int32) (r : Int32) (μ' : Mem) (hf : f_X7_isTrue μ a1 a2 = some (r, μ')) : Met l yX7_isTrue (.code yX7_isTrue cX7_isTrue 9 (some .boolean) :: BIG) ({ frames := 1, cells := 0, slots := 0, locals := 22 }) (PW E μ [.ref (ead E 2000), .int a1, .int a2]) (QN E .boolean r μ') 0 0 (eA E) := by
  refine Met.ofW (cc := cX7_isTrue) (maxL := 9) (ret := (some .boolean)) (by decide) rfl ?_
  intro p e s m args below meth c s₁ B hml hv
  obtain ⟨rfl, hW, hZ⟩ := hv
  have hx := B.exec
  have hb := B.bytes
  have hr := B.returns
  have hB : ∀ w ∈ BIG, w.before _ s = true := fun w h => atoms_spec (ws := (.code yX7_isTrue cX7_isTrue 9 (some .boolean) :: BIG)) B.pre w (List.mem_cons_of_mem _ h)
  have hown : s.vm.findClass RX7 = some m.cls := findClass_of_methodNamed B.named
  have hlocks := B.notSynchronized
  have hV : va_S (eA E) s.heap s.heap [] := va_S.rf
  have hl := lv_entry ([.ref (ead E 2000), .int a1, .int a2]) (n := 9) (Nat.le_of_ble_eq_true rfl)
  rw [lg_entry_eq]
  generalize (lg_sl ([.ref (ead E 2000), .int a1, .int a2]) ++ List.replicate (9 - (lg_sl ([.ref (ead E 2000), .int a1, .int a2])).length) Slot.unset).toArray = ls at hl ⊢
  have hl : lv_has ls 9 [(0, .ref (ead E 2000)), (1, .int a1), (2, .int a2)] := hl
  have c_10 : ∀ (n_10 : Nat) (μ_10 : Mem) (b1_10 : Int32) (b2_10 : Int32) (b3_10 : Int32) (b4_10 : Int32) , f_X7_isTrue_10 n_10 μ_10 b1_10 b2_10 b3_10 b4_10 = some (r, μ') → ∀ (H : Heap) (locs : List Loc) (ls : Array Slot), Wd E μ_10 s H → va_S (eA E) s.heap H locs → lv_has ls 9 [(0, .ref (ead E 2000)), (1, .int b1_10), (2, .int b2_10), (3, .int b3_10), (4, .int b4_10)] → W p l e (headSpec (.code yX7_isTrue cX7_isTrue 9 (some .boolean) :: BIG) ({ frames := 1, cells := 0, slots := 0, locals := 22 })).room s m ([.ref (ead E 2000), .int a1, .int a2] : List Value).toArray below meth c H locs 0 0 (MQ below (QN E .boolean r μ') ([.ref (ead E 2000), .int a1, .int a2] : List Value).toArray s 0 0 (eA E)) (F0 m 10 ls []) := by
    intro n_10
    induction n_10 with
    | zero =>
      intro μ_10 b1_10 b2_10 b3_10 b4_10 hf H locs ls hW hV hl
      cases hf
    | succ n_10 ih_10 =>
      have c_245 : ∀ (μ_245 : Mem) (b1_245 : Int32) (b2_245 : Int32) (b3_245 : Int32) (b4_245 : Int32) , f_X7_isTrue_245 (fun μ z0 z1 z2 z3 => f_X7_isTrue_10 n_10 μ z0 z1 z2 z3) μ_245 b1_245 b2_245 b3_245 b4_245 = some (r, μ') → ∀ (H : Heap) (locs : List Loc) (ls : Array Slot), Wd E μ_245 s H → va_S (eA E) s.heap H locs → lv_has ls 9 [(0, .ref (ead E 2000)), (1, .int b1_245), (2, .int b2_245), (3, .int b3_245), (4, .int b4_245)] → W p l e (headSpec (.code yX7_isTrue cX7_isTrue 9 (some .boolean) :: BIG) ({ frames := 1, cells := 0, slots := 0, locals := 22 })).room s m ([.ref (ead E 2000), .int a1, .int a2] : List Value).toArray below meth c H locs 0 0 (MQ below (QN E .boolean r μ') ([.ref (ead E 2000), .int a1, .int a2] : List Value).toArray s 0 0 (eA E)) (F0 m 245 ls []) := by
        intro μ_245 b1_245 b2_245 b3_245 b4_245 hf H locs ls hW hV hl
        unfold f_X7_isTrue_245 at hf
        obtain ⟨v37, e_v37, hf⟩ := op_none hf
        refine lv_iinc (v := v37) (lv' := [(4, .int v37), (0, .ref (ead E 2000)), (1, .int b1_245), (2, .int b2_245), (3, .int b3_245)]) hx hb dX7_isTrue_245 hl (k := 4) rfl (by rw [← Option.some.inj e_v37]; rfl) (by decide) rfl (fun ls hl => ?_)
        refine lv_goto (tgt := 10) hx hb dX7_isTrue_248 (by decide) ?_
        exact ih_10 μ_245 b1_245 b2_245 b3_245 v37 hf H locs ls hW hV (lv_sub hl [1, 2, 3, 4, 0] rfl)
      have c_139 : ∀ (μ_139 : Mem) (b1_139 : Int32) (b2_139 : Int32) (b3_139 : Int32) (b4_139 : Int32) (s0_139 : Int32) (s1_139 : Int32) , f_X7_isTrue_139 (fun μ z0 z1 z2 z3 => f_X7_isTrue_10 n_10 μ z0 z1 z2 z3) μ_139 b1_139 b2_139 b3_139 b4_139 s0_139 s1_139 = some (r, μ') → ∀ (H : Heap) (locs : List Loc) (ls : Array Slot), Wd E μ_139 s H → va_S (eA E) s.heap H locs → lv_has ls 9 [(0, .ref (ead E 2000)), (1, .int b1_139), (2, .int b2_139), (3, .int b3_139), (4, .int b4_139)] → W p l e (headSpec (.code yX7_isTrue cX7_isTrue 9 (some .boolean) :: BIG) ({ frames := 1, cells := 0, slots := 0, locals := 22 })).room s m ([.ref (ead E 2000), .int a1, .int a2] : List Value).toArray below meth c H locs 0 0 (MQ below (QN E .boolean r μ') ([.ref (ead E 2000), .int a1, .int a2] : List Value).toArray s 0 0 (eA E)) (F0 m 139 ls [.int s0_139, .int s1_139, .ref (ead E 2026)]) := by
        intro μ_139 b1_139 b2_139 b3_139 b4_139 s0_139 s1_139 hf H locs ls hW hV hl
        unfold f_X7_isTrue_139 at hf
        obtain ⟨μ38, e_μ38, hf⟩ := op_none hf
        refine w_zast hx hb hW hV zM26.1 (fun f => zM26.2 E f _) e_μ38 dX7_isTrue_139 (fun H locs hW hV => ?_)
        refine lv_goto (tgt := 245) hx hb dX7_isTrue_140 (by decide) ?_
        exact c_245 μ38 b1_139 b2_139 b3_139 b4_139 hf H locs ls hW hV (lv_sub hl [0, 1, 2, 3, 4] rfl)
      have c_171 : ∀ (μ_171 : Mem) (b1_171 : Int32) (b2_171 : Int32) (b3_171 : Int32) (b4_171 : Int32) (s0_171 : Int32) (s1_171 : Int32) , f_X7_isTrue_171 (fun μ z0 z1 z2 z3 => f_X7_isTrue_10 n_10 μ z0 z1 z2 z3) μ_171 b1_171 b2_171 b3_171 b4_171 s0_171 s1_171 = some (r, μ') → ∀ (H : Heap) (locs : List Loc) (ls : Array Slot), Wd E μ_171 s H → va_S (eA E) s.heap H locs → lv_has ls 9 [(0, .ref (ead E 2000)), (1, .int b1_171), (2, .int b2_171), (3, .int b3_171), (4, .int b4_171)] → W p l e (headSpec (.code yX7_isTrue cX7_isTrue 9 (some .boolean) :: BIG) ({ frames := 1, cells := 0, slots := 0, locals := 22 })).room s m ([.ref (ead E 2000), .int a1, .int a2] : List Value).toArray below meth c H locs 0 0 (MQ below (QN E .boolean r μ') ([.ref (ead E 2000), .int a1, .int a2] : List Value).toArray s 0 0 (eA E)) (F0 m 171 ls [.int s0_171, .int s1_171, .ref (ead E 2026)]) := by
        intro μ_171 b1_171 b2_171 b3_171 b4_171 s0_171 s1_171 hf H locs ls hW hV hl
        unfold f_X7_isTrue_171 at hf
        obtain ⟨μ39, e_μ39, hf⟩ := op_none hf
        refine w_zast hx hb hW hV zM26.1 (fun f => zM26.2 E f _) e_μ39 dX7_isTrue_171 (fun H locs hW hV => ?_)
        refine lv_goto (tgt := 245) hx hb dX7_isTrue_172 (by decide) ?_
        exact c_245 μ39 b1_171 b2_171 b3_171 b4_171 hf H locs ls hW hV (lv_sub hl [0, 1, 2, 3, 4] rfl)
      have c_244 : ∀ (μ_244 : Mem) (b1_244 : Int32) (b2_244 : Int32) (b3_244 : Int32) (b4_244 : Int32) (s0_244 : Int32) (s1_244 : Int32) , f_X7_isTrue_244 (fun μ z0 z1 z2 z3 => f_X7_isTrue_10 n_10 μ z0 z1 z2 z3) μ_244 b1_244 b2_244 b3_244 b4_244 s0_244 s1_244 = some (r, μ') → ∀ (H : Heap) (locs : List Loc) (ls : Array Slot), Wd E μ_244 s H → va_S (eA E) s.heap H locs → lv_has ls 9 [(0, .ref (ead E 2000)), (1, .int b1_244), (2, .int b2_244), (3, .int b3_244), (4, .int b4_244)] → W p l e (headSpec (.code yX7_isTrue cX7_isTrue 9 (some .boolean) :: BIG) ({ frames := 1, cells := 0, slots := 0, locals := 22 })).room s m ([.ref (ead E 2000), .int a1, .int a2] : List Value).toArray below meth c H locs 0 0 (MQ below (QN E .boolean r μ') ([.ref (ead E 2000), .int a1, .int a2] : List Value).toArray s 0 0 (eA E)) (F0 m 244 ls [.int s0_244, .int s1_244, .ref (ead E 2026)]) := by
        intro μ_244 b1_244 b2_244 b3_244 b4_244 s0_244 s1_244 hf H locs ls hW hV hl
        unfold f_X7_isTrue_244 at hf
        obtain ⟨μ40, e_μ40, hf⟩ := op_none hf
        refine w_zast hx hb hW hV zM26.1 (fun f => zM26.2 E f _) e_μ40 dX7_isTrue_244 (fun H locs hW hV => ?_)
        exact c_245 μ40 b1_244 b2_244 b3_244 b4_244 hf H locs ls hW hV (lv_sub hl [0, 1, 2, 3, 4] rfl)
      have c_215 : ∀ (μ_215 : Mem) (b1_215 : Int32) (b2_215 : Int32) (b3_215 : Int32) (b4_215 : Int32) (s0_215 : Int32) , f_X7_isTrue_215 (fun μ z0 z1 z2 z3 => f_X7_isTrue_10 n_10 μ z0 z1 z2 z3) μ_215 b1_215 b2_215 b3_215 b4_215 s0_215 = some (r, μ') → ∀ (H : Heap) (locs : List Loc) (ls : Array Slot), Wd E μ_215 s H → va_S (eA E) s.heap H locs → lv_has ls 9 [(0, .ref (ead E 2000)), (1, .int b1_215), (2, .int b2_215), (3, .int b3_215), (4, .int b4_215)] → W p l e (headSpec (.code yX7_isTrue cX7_isTrue 9 (some .boolean) :: BIG) ({ frames := 1, cells := 0, slots := 0, locals := 22 })).room s m ([.ref (ead E 2000), .int a1, .int a2] : List Value).toArray below meth c H locs 0 0 (MQ below (QN E .boolean r μ') ([.ref (ead E 2000), .int a1, .int a2] : List Value).toArray s 0 0 (eA E)) (F0 m 215 ls [.int s0_215, .ref (ead E 2026)]) := by
        intro μ_215 b1_215 b2_215 b3_215 b4_215 s0_215 hf H locs ls hW hV hl
        unfold f_X7_isTrue_215 at hf
        refine lv_iconst (v := (0 : Int32)) hx hb dX7_isTrue_215 (by decide) ?_
        refine lv_goto (tgt := 244) hx hb dX7_isTrue_216 (by decide) ?_
        exact c_244 μ_215 b1_215 b2_215 b3_215 b4_215 (0 : Int32) s0_215 hf H locs ls hW hV (lv_sub hl [0, 1, 2, 3, 4] rfl)
      have c_239 : ∀ (μ_239 : Mem) (b1_239 : Int32) (b2_239 : Int32) (b3_239 : Int32) (b4_239 : Int32) (s0_239 : Int32) , f_X7_isTrue_239 (fun μ z0 z1 z2 z3 => f_X7_isTrue_10 n_10 μ z0 z1 z2 z3) μ_239 b1_239 b2_239 b3_239 b4_239 s0_239 = some (r, μ') → ∀ (H : Heap) (locs : List Loc) (ls : Array Slot), Wd E μ_239 s H → va_S (eA E) s.heap H locs → lv_has ls 9 [(0, .ref (ead E 2000)), (1, .int b1_239), (2, .int b2_239), (3, .int b3_239), (4, .int b4_239)] → W p l e (headSpec (.code yX7_isTrue cX7_isTrue 9 (some .boolean) :: BIG) ({ frames := 1, cells := 0, slots := 0, locals := 22 })).room s m ([.ref (ead E 2000), .int a1, .int a2] : List Value).toArray below meth c H locs 0 0 (MQ below (QN E .boolean r μ') ([.ref (ead E 2000), .int a1, .int a2] : List Value).toArray s 0 0 (eA E)) (F0 m 239 ls [.int s0_239, .ref (ead E 2026)]) := by
        intro μ_239 b1_239 b2_239 b3_239 b4_239 s0_239 hf H locs ls hW hV hl
        unfold f_X7_isTrue_239 at hf
        refine lv_iconst (v := (1 : Int32)) hx hb dX7_isTrue_239 (by decide) ?_
        refine lv_goto (tgt := 244) hx hb dX7_isTrue_240 (by decide) ?_
        exact c_244 μ_239 b1_239 b2_239 b3_239 b4_239 (1 : Int32) s0_239 hf H locs ls hW hV (lv_sub hl [0, 1, 2, 3, 4] rfl)
      intro μ_10 b1_10 b2_10 b3_10 b4_10 hf H locs ls hW hV hl
      rw [f_X7_isTrue_10] at hf
      refine lv_iload hx hb dX7_isTrue_10 (lv_at hl 4 rfl) ?_
      refine lv_aload_n hx hb dX7_isTrue_12 rfl (lv_at hl 0 rfl) ?_
      refine gf_RX7_48 hx hb hB hown hW dX7_isTrue_13 ?_
      refine lv_iload_n hx hb dX7_isTrue_16 rfl (lv_at hl 2 rfl) ?_
      obtain ⟨v41, e_v41, hf⟩ := op_none hf
      refine w_iald hx hb hW iM22.1 (iM22.2 E _ _) e_v41 dX7_isTrue_17 ?_
      refine lv_aload_n hx hb dX7_isTrue_18 rfl (lv_at hl 0 rfl) ?_
      refine gf_RX7_51 hx hb hB hown hW dX7_isTrue_19 ?_
      refine lv_iload_n hx hb dX7_isTrue_22 rfl (lv_at hl 2 rfl) ?_
      obtain ⟨v42, e_v42, hf⟩ := op_none hf
      refine w_iald hx hb hW iM23.1 (iM23.2 E _ _) e_v42 dX7_isTrue_23 ?_
      refine lv_iadd hx hb dX7_isTrue_24 ?_
      refine lv_icmp_ge (tgt := 251) hx hb dX7_isTrue_25 (by decide) (fun y43 => ?_) (fun y43 => ?_)
      · have hf := op_t y43 hf
        refine lv_aload_n hx hb dX7_isTrue_251 rfl (lv_at hl 0 rfl) ?_
        refine gf_RX7_57 hx hb hB hown hW dX7_isTrue_252 ?_
        refine lv_iconst (v := (0 : Int32)) hx hb dX7_isTrue_255 (by decide) ?_
        obtain ⟨v44, e_v44, hf⟩ := op_none hf
        refine w_zald hx hb hW zM26.1 (zM26.2 E _ _) (ldZ_I e_v44).1 dX7_isTrue_256 ?_
        exact w_retN hx hb hr hlocks hW hV (ldZ_I e_v44).2 (Prod.mk.inj (Option.some.inj hf)).1 (Prod.mk.inj (Option.some.inj hf)).2 dX7_isTrue_257
      · have hf := op_f y43 hf
        refine lv_aload_n hx hb dX7_isTrue_28 rfl (lv_at hl 0 rfl) ?_
        refine gf_RX7_54 hx hb hB hown hW dX7_isTrue_29 ?_
        refine lv_iload hx hb dX7_isTrue_32 (lv_at hl 4 rfl) ?_
        obtain ⟨v45, e_v45, hf⟩ := op_none hf
        refine w_iald hx hb hW iM24.1 (iM24.2 E _ _) e_v45 dX7_isTrue_34 ?_
        refine lv_istore (i := 5) (lv' := [(5, .int v45), (0, .ref (ead E 2000)), (1, .int b1_10), (2, .int b2_10), (3, .int b3_10), (4, .int b4_10)]) hx hb dX7_isTrue_35 hl (by decide) rfl (fun ls hl => ?_)
        refine lv_iload hx hb dX7_isTrue_37 (lv_at hl 0 rfl) ?_
        refine lv_iconst (v := (3 : Int32)) hx hb dX7_isTrue_39 (by decide) ?_
        refine lv_icmp_lt (tgt := 143) hx hb dX7_isTrue_40 (by decide) (fun y46 => ?_) (fun y46 => ?_)
        · have hf := op_t y46 hf
          refine lv_iload hx hb dX7_isTrue_143 (lv_at hl 0 rfl) ?_
          refine lv_if_ne (tgt := 175) hx hb dX7_isTrue_145 (by decide) (fun y47 => ?_) (fun y47 => ?_)
          · have hf := op_f y47 hf
            obtain ⟨v48, e_v48, hf⟩ := op_none hf
            refine lv_iinc (v := v48) (lv' := [(3, .int v48), (5, .int v45), (0, .ref (ead E 2000)), (1, .int b1_10), (2, .int b2_10), (4, .int b4_10)]) hx hb dX7_isTrue_175 hl (k := 4) rfl (by rw [← Option.some.inj e_v48]; rfl) (by decide) rfl (fun ls hl => ?_)
            refine lv_aload_n hx hb dX7_isTrue_178 rfl (lv_at hl 2 rfl) ?_
            refine gf_RX7_57 hx hb hB hown hW dX7_isTrue_179 ?_
            refine lv_iload_n hx hb dX7_isTrue_182 rfl (lv_at hl 0 rfl) ?_
            refine lv_iconst (v := (1 : Int32)) hx hb dX7_isTrue_183 (by decide) ?_
            refine lv_isub hx hb dX7_isTrue_184 ?_
            refine lv_iload hx hb dX7_isTrue_185 (lv_at hl 1 rfl) ?_
            refine lv_iconst (v := (1 : Int32)) hx hb dX7_isTrue_187 (by decide) ?_
            refine lv_icmp_ne (tgt := 219) hx hb dX7_isTrue_188 (by decide) (fun y49 => ?_) (fun y49 => ?_)
            · have hf := op_f y49 hf
              refine lv_aload_n hx hb dX7_isTrue_219 rfl (lv_at hl 2 rfl) ?_
              refine gf_RX7_57 hx hb hB hown hW dX7_isTrue_220 ?_
              refine lv_iload_n hx hb dX7_isTrue_223 rfl (lv_at hl 0 rfl) ?_
              refine lv_iconst (v := (1 : Int32)) hx hb dX7_isTrue_224 (by decide) ?_
              refine lv_isub hx hb dX7_isTrue_225 ?_
              obtain ⟨v50, e_v50, hf⟩ := op_none hf
              refine w_zald hx hb hW zM26.1 (zM26.2 E _ _) (ldZ_I e_v50).1 dX7_isTrue_226 ?_
              refine lv_if_ne (tgt := 239) hx hb dX7_isTrue_227 (by decide) (fun y51 => ?_) (fun y51 => ?_)
              · have hf := op_f y51 hf
                exact c_239 μ_10 b1_10 b2_10 v48 b4_10 (v48 - (1 : Int32)) hf H locs ls hW hV (lv_sub hl [2, 3, 4, 0, 5] rfl)
              · have hf := op_t y51 hf
                refine lv_aload_n hx hb dX7_isTrue_230 rfl (lv_at hl 2 rfl) ?_
                refine gf_RX7_57 hx hb hB hown hW dX7_isTrue_231 ?_
                refine lv_iload_n hx hb dX7_isTrue_234 rfl (lv_at hl 0 rfl) ?_
                obtain ⟨v52, e_v52, hf⟩ := op_none hf
                refine w_zald hx hb hW zM26.1 (zM26.2 E _ _) (ldZ_I e_v52).1 dX7_isTrue_235 ?_
                refine lv_if_eq (tgt := 243) hx hb dX7_isTrue_236 (by decide) (fun y53 => ?_) (fun y53 => ?_)
                · have hf := op_t y53 hf
                  refine lv_iconst (v := (0 : Int32)) hx hb dX7_isTrue_243 (by decide) ?_
                  exact c_244 μ_10 b1_10 b2_10 v48 b4_10 (0 : Int32) (v48 - (1 : Int32)) hf H locs ls hW hV (lv_sub hl [2, 3, 4, 0, 5] rfl)
                · have hf := op_f y53 hf
                  exact c_239 μ_10 b1_10 b2_10 v48 b4_10 (v48 - (1 : Int32)) hf H locs ls hW hV (lv_sub hl [2, 3, 4, 0, 5] rfl)
            · have hf := op_t y49 hf
              refine lv_aload_n hx hb dX7_isTrue_191 rfl (lv_at hl 2 rfl) ?_
              refine gf_RX7_57 hx hb hB hown hW dX7_isTrue_192 ?_
              refine lv_iload_n hx hb dX7_isTrue_195 rfl (lv_at hl 0 rfl) ?_
              refine lv_iconst (v := (1 : Int32)) hx hb dX7_isTrue_196 (by decide) ?_
              refine lv_isub hx hb dX7_isTrue_197 ?_
              obtain ⟨v54, e_v54, hf⟩ := op_none hf
              refine w_zald hx hb hW zM26.1 (zM26.2 E _ _) (ldZ_I e_v54).1 dX7_isTrue_198 ?_
              refine lv_if_eq (tgt := 215) hx hb dX7_isTrue_199 (by decide) (fun y55 => ?_) (fun y55 => ?_)
              · have hf := op_t y55 hf
                exact c_215 μ_10 b1_10 b2_10 v48 b4_10 (v48 - (1 : Int32)) hf H locs ls hW hV (lv_sub hl [2, 3, 4, 0, 5] rfl)
              · have hf := op_f y55 hf
                refine lv_aload_n hx hb dX7_isTrue_202 rfl (lv_at hl 2 rfl) ?_
                refine gf_RX7_57 hx hb hB hown hW dX7_isTrue_203 ?_
                refine lv_iload_n hx hb dX7_isTrue_206 rfl (lv_at hl 0 rfl) ?_
                obtain ⟨v56, e_v56, hf⟩ := op_none hf
                refine w_zald hx hb hW zM26.1 (zM26.2 E _ _) (ldZ_I e_v56).1 dX7_isTrue_207 ?_
                refine lv_if_eq (tgt := 215) hx hb dX7_isTrue_208 (by decide) (fun y57 => ?_) (fun y57 => ?_)
                · have hf := op_t y57 hf
                  exact c_215 μ_10 b1_10 b2_10 v48 b4_10 (v48 - (1 : Int32)) hf H locs ls hW hV (lv_sub hl [2, 3, 4, 0, 5] rfl)
                · have hf := op_f y57 hf
                  refine lv_iconst (v := (1 : Int32)) hx hb dX7_isTrue_211 (by decide) ?_
                  refine lv_goto (tgt := 244) hx hb dX7_isTrue_212 (by decide) ?_
                  exact c_244 μ_10 b1_10 b2_10 v48 b4_10 (1 : Int32) (v48 - (1 : Int32)) hf H locs ls hW hV (lv_sub hl [2, 3, 4, 0, 5] rfl)
          · have hf := op_t y47 hf
            refine lv_aload_n hx hb dX7_isTrue_148 rfl (lv_at hl 1 rfl) ?_
            refine gf_RX7_57 hx hb hB hown hW dX7_isTrue_149 ?_
            refine lv_iload_n hx hb dX7_isTrue_152 rfl (lv_at hl 4 rfl) ?_
            refine lv_iconst (v := (1 : Int32)) hx hb dX7_isTrue_153 (by decide) ?_
            refine lv_isub hx hb dX7_isTrue_154 ?_
            refine lv_aload_n hx hb dX7_isTrue_155 rfl (lv_at hl 1 rfl) ?_
            refine gf_RX7_57 hx hb hB hown hW dX7_isTrue_156 ?_
            refine lv_iload_n hx hb dX7_isTrue_159 rfl (lv_at hl 4 rfl) ?_
            refine lv_iconst (v := (1 : Int32)) hx hb dX7_isTrue_160 (by decide) ?_
            refine lv_isub hx hb dX7_isTrue_161 ?_
            obtain ⟨v58, e_v58, hf⟩ := op_none hf
            refine w_zald hx hb hW zM26.1 (zM26.2 E _ _) (ldZ_I e_v58).1 dX7_isTrue_162 ?_
            refine lv_if_ne (tgt := 170) hx hb dX7_isTrue_163 (by decide) (fun y59 => ?_) (fun y59 => ?_)
            · have hf := op_f y59 hf
              refine lv_iconst (v := (0 : Int32)) hx hb dX7_isTrue_170 (by decide) ?_
              exact c_171 μ_10 b1_10 b2_10 b3_10 b4_10 (0 : Int32) (b3_10 - (1 : Int32)) hf H locs ls hW hV (lv_sub hl [1, 2, 3, 4, 5] rfl)
            · have hf := op_t y59 hf
              refine lv_iconst (v := (1 : Int32)) hx hb dX7_isTrue_166 (by decide) ?_
              refine lv_goto (tgt := 171) hx hb dX7_isTrue_167 (by decide) ?_
              exact c_171 μ_10 b1_10 b2_10 b3_10 b4_10 (1 : Int32) (b3_10 - (1 : Int32)) hf H locs ls hW hV (lv_sub hl [1, 2, 3, 4, 5] rfl)
        · have hf := op_f y46 hf
          refine lv_aload_n hx hb dX7_isTrue_43 rfl (lv_at hl 1 rfl) ?_
          refine lv_iload_n hx hb dX7_isTrue_44 rfl (lv_at hl 2 rfl) ?_
          refine lv_iload hx hb dX7_isTrue_45 (lv_at hl 0 rfl) ?_
          refine lv_iconst (v := (3 : Int32)) hx hb dX7_isTrue_47 (by decide) ?_
          refine lv_isub hx hb dX7_isTrue_48 ?_
          refine lv_sipush (v := (300 : Int32)) hx hb dX7_isTrue_49 (by decide) ?_
          obtain ⟨v60, e_v60, hf⟩ := op_none hf
          refine w_idiv hx hb e_v60 dX7_isTrue_52 ?_
          obtain ⟨v61, e_62, hf⟩ := op_none hf
          refine w_callI (rn_RX7_207 (As := [.int b1_10, .int v60]) hx hb hml hown hB hW hZ hV (k_X7_letterOf l E _ b1_10 v60 v61 e_62) rfl rfl ⟨(Nat.le_of_ble_eq_true rfl), (Nat.le_of_ble_eq_true rfl)⟩ (w_rec hW oM.1 (oM.2 E _ _) rfl) rfl hl.1 rfl (Nat.le_of_ble_eq_true rfl) dX7_isTrue_53 ⟨Nat.le_refl _, Nat.le_refl _⟩) hV (fun H locs hW hV => ?_)
          refine lv_istore (i := 6) (lv' := [(6, .int v61), (5, .int v45), (0, .ref (ead E 2000)), (1, .int b1_10), (2, .int b2_10), (3, .int b3_10), (4, .int b4_10)]) hx hb dX7_isTrue_56 hl (by decide) rfl (fun ls hl => ?_)
          refine lv_iload hx hb dX7_isTrue_58 (lv_at hl 1 rfl) ?_
          refine lv_iconst (v := (3 : Int32)) hx hb dX7_isTrue_60 (by decide) ?_
          refine lv_isub hx hb dX7_isTrue_61 ?_
          refine lv_bipush (v := (100 : Int32)) hx hb dX7_isTrue_62 (by decide) ?_
          obtain ⟨v63, e_v63, hf⟩ := op_none hf
          refine w_irem hx hb e_v63 dX7_isTrue_64 ?_
          refine lv_istore (i := 7) (lv' := [(7, .int v63), (6, .int v61), (5, .int v45), (0, .ref (ead E 2000)), (1, .int b1_10), (2, .int b2_10), (3, .int b3_10), (4, .int b4_10)]) hx hb dX7_isTrue_65 hl (by decide) rfl (fun ls hl => ?_)
          refine lv_iload hx hb dX7_isTrue_67 (lv_at hl 2 rfl) ?_
          refine lv_iconst (v := (3 : Int32)) hx hb dX7_isTrue_69 (by decide) ?_
          refine lv_isub hx hb dX7_isTrue_70 ?_
          refine lv_bipush (v := (100 : Int32)) hx hb dX7_isTrue_71 (by decide) ?_
          obtain ⟨v64, e_v64, hf⟩ := op_none hf
          refine w_idiv hx hb e_v64 dX7_isTrue_73 ?_
          refine lv_iconst (v := (3 : Int32)) hx hb dX7_isTrue_74 (by decide) ?_
          obtain ⟨v65, e_v65, hf⟩ := op_none hf
          refine w_irem hx hb e_v65 dX7_isTrue_75 ?_
          refine lv_istore (i := 8) (lv' := [(8, .int v65), (7, .int v63), (6, .int v61), (5, .int v45), (0, .ref (ead E 2000)), (1, .int b1_10), (2, .int b2_10), (3, .int b3_10), (4, .int b4_10)]) hx hb dX7_isTrue_76 hl (by decide) rfl (fun ls hl => ?_)
          refine lv_aload_n hx hb dX7_isTrue_78 rfl (lv_at hl 4 rfl) ?_
          refine gf_RX7_57 hx hb hB hown hW dX7_isTrue_79 ?_
          refine lv_iload_n hx hb dX7_isTrue_82 rfl (lv_at hl 7 rfl) ?_
          obtain ⟨v66, e_v66, hf⟩ := op_none hf
          refine lv_iinc (v := v66) (lv' := [(3, .int v66), (8, .int v65), (7, .int v63), (6, .int v61), (5, .int v45), (0, .ref (ead E 2000)), (1, .int b1_10), (2, .int b2_10), (4, .int b4_10)]) hx hb dX7_isTrue_83 hl (k := 7) rfl (by rw [← Option.some.inj e_v66]; rfl) (by decide) rfl (fun ls hl => ?_)
          refine lv_iload hx hb dX7_isTrue_86 (lv_at hl 1 rfl) ?_
          refine lv_if_ne (tgt := 106) hx hb dX7_isTrue_88 (by decide) (fun y67 => ?_) (fun y67 => ?_)
          · have hf := op_f y67 hf
            refine lv_iload hx hb dX7_isTrue_106 (lv_at hl 1 rfl) ?_
            refine lv_iconst (v := (1 : Int32)) hx hb dX7_isTrue_108 (by decide) ?_
            refine lv_icmp_ne (tgt := 127) hx hb dX7_isTrue_109 (by decide) (fun y68 => ?_) (fun y68 => ?_)
            · have hf := op_f y68 hf
              refine lv_iload hx hb dX7_isTrue_127 (lv_at hl 3 rfl) ?_
              refine lv_iload hx hb dX7_isTrue_129 (lv_at hl 2 rfl) ?_
              refine lv_icmp_le (tgt := 138) hx hb dX7_isTrue_131 (by decide) (fun y69 => ?_) (fun y69 => ?_)
              · have hf := op_t y69 hf
                refine lv_iconst (v := (0 : Int32)) hx hb dX7_isTrue_138 (by decide) ?_
                exact c_139 μ_10 b1_10 b2_10 v66 b4_10 (0 : Int32) b3_10 hf H locs ls hW hV (lv_sub hl [5, 6, 7, 0, 8] rfl)
              · have hf := op_f y69 hf
                refine lv_iconst (v := (1 : Int32)) hx hb dX7_isTrue_134 (by decide) ?_
                refine lv_goto (tgt := 139) hx hb dX7_isTrue_135 (by decide) ?_
                exact c_139 μ_10 b1_10 b2_10 v66 b4_10 (1 : Int32) b3_10 hf H locs ls hW hV (lv_sub hl [5, 6, 7, 0, 8] rfl)
            · have hf := op_t y68 hf
              refine lv_iload hx hb dX7_isTrue_112 (lv_at hl 3 rfl) ?_
              refine lv_iload hx hb dX7_isTrue_114 (lv_at hl 2 rfl) ?_
              refine lv_icmp_ne (tgt := 123) hx hb dX7_isTrue_116 (by decide) (fun y70 => ?_) (fun y70 => ?_)
              · have hf := op_f y70 hf
                refine lv_iconst (v := (0 : Int32)) hx hb dX7_isTrue_123 (by decide) ?_
                refine lv_goto (tgt := 139) hx hb dX7_isTrue_124 (by decide) ?_
                exact c_139 μ_10 b1_10 b2_10 v66 b4_10 (0 : Int32) b3_10 hf H locs ls hW hV (lv_sub hl [5, 6, 7, 0, 8] rfl)
              · have hf := op_t y70 hf
                refine lv_iconst (v := (1 : Int32)) hx hb dX7_isTrue_119 (by decide) ?_
                refine lv_goto (tgt := 139) hx hb dX7_isTrue_120 (by decide) ?_
                exact c_139 μ_10 b1_10 b2_10 v66 b4_10 (1 : Int32) b3_10 hf H locs ls hW hV (lv_sub hl [5, 6, 7, 0, 8] rfl)
          · have hf := op_t y67 hf
            refine lv_iload hx hb dX7_isTrue_91 (lv_at hl 3 rfl) ?_
            refine lv_iload hx hb dX7_isTrue_93 (lv_at hl 2 rfl) ?_
            refine lv_icmp_ge (tgt := 102) hx hb dX7_isTrue_95 (by decide) (fun y71 => ?_) (fun y71 => ?_)
            · have hf := op_t y71 hf
              refine lv_iconst (v := (0 : Int32)) hx hb dX7_isTrue_102 (by decide) ?_
              refine lv_goto (tgt := 139) hx hb dX7_isTrue_103 (by decide) ?_
              exact c_139 μ_10 b1_10 b2_10 v66 b4_10 (0 : Int32) b3_10 hf H locs ls hW hV (lv_sub hl [5, 6, 7, 0, 8] rfl)
            · have hf := op_f y71 hf
              refine lv_iconst (v := (1 : Int32)) hx hb dX7_isTrue_98 (by decide) ?_
              refine lv_goto (tgt := 139) hx hb dX7_isTrue_99 (by decide) ?_
              exact c_139 μ_10 b1_10 b2_10 v66 b4_10 (1 : Int32) b3_10 hf H locs ls hW hV (lv_sub hl [5, 6, 7, 0, 8] rfl)
  obtain ⟨H, hH⟩ : ∃ H : Heap, H = s.heap := ⟨_, rfl⟩
  obtain ⟨locs, hlocs⟩ : ∃ locs : List Loc, locs = [] := ⟨_, rfl⟩
  rw [show (W p l e (headSpec (.code yX7_isTrue cX7_isTrue 9 (some .boolean) :: BIG) ({ frames := 1, cells := 0, slots := 0, locals := 22 })).room s m ([.ref (ead E 2000), .int a1, .int a2] : List Value).toArray below meth c s.heap [] 0 0) = W p l e (headSpec (.code yX7_isTrue cX7_isTrue 9 (some .boolean) :: BIG) ({ frames := 1, cells := 0, slots := 0, locals := 22 })).room s m ([.ref (ead E 2000), .int a1, .int a2] : List Value).toArray below meth c H locs 0 0 by rw [hH, hlocs]]
  have hV : va_S (eA E) s.heap H locs := by rw [hH, hlocs]; exact hV
  have hW : Wd E μ s H := by rw [hH]; exact hW
  unfold f_X7_isTrue at hf
  refine lv_iconst (v := (0 : Int32)) hx hb dX7_isTrue_0 (by decide) ?_
  refine lv_istore_n (i := 3) (lv' := [(3, .int (0 : Int32)), (0, .ref (ead E 2000)), (1, .int a1), (2, .int a2)]) hx hb dX7_isTrue_1 rfl hl (by decide) rfl (fun ls hl => ?_)
  refine lv_aload_n hx hb dX7_isTrue_2 rfl (lv_at hl 1 rfl) ?_
  refine gf_RX7_48 hx hb hB hown hW dX7_isTrue_3 ?_
  refine lv_iload_n hx hb dX7_isTrue_6 rfl (lv_at hl 3 rfl) ?_
  obtain ⟨v72, e_v72, hf⟩ := op_none hf
  refine w_iald hx hb hW iM22.1 (iM22.2 E _ _) e_v72 dX7_isTrue_7 ?_
  refine lv_istore (i := 4) (lv' := [(4, .int v72), (3, .int (0 : Int32)), (0, .ref (ead E 2000)), (1, .int a1), (2, .int a2)]) hx hb dX7_isTrue_8 hl (by decide) rfl (fun ls hl => ?_)
  exact c_10 FU μ a1 a2 (0 : Int32) v72 hf H locs ls hW hV (lv_sub hl [2, 3, 4, 1, 0] rfl)
set_option maxHeartbeats 8000000 in
set_option maxRecDepth 100000 in
theorem k_X7_sum (l : Launch) (E : WE) (μ : Mem) (a1 : Int32) (r : Int32) (μ' : Mem) (hf : f_X7_sum μ a1 = some (r, μ')) : Met l yX7_sum (.code yX7_sum cX7_sum 5 (some .int) :: BIG) ({ frames := 2, cells := 0, slots := 0, locals := 50 }) (PW E μ [.ref (ead E 2000), .int a1]) (QI E r μ') 0 0 (eA E) := by
  refine Met.ofW (cc := cX7_sum) (maxL := 5) (ret := (some .int)) (by decide) rfl ?_
  intro p e s m args below meth c s₁ B hml hv
  obtain ⟨rfl, hW, hZ⟩ := hv
  have hx := B.exec
  have hb := B.bytes
  have hr := B.returns
  have hB : ∀ w ∈ BIG, w.before _ s = true := fun w h => atoms_spec (ws := (.code yX7_sum cX7_sum 5 (some .int) :: BIG)) B.pre w (List.mem_cons_of_mem _ h)
  have hown : s.vm.findClass RX7 = some m.cls := findClass_of_methodNamed B.named
  have hlocks := B.notSynchronized
  have hV : va_S (eA E) s.heap s.heap [] := va_S.rf
  have hl := lv_entry ([.ref (ead E 2000), .int a1]) (n := 5) (Nat.le_of_ble_eq_true rfl)
  rw [lg_entry_eq]
  generalize (lg_sl ([.ref (ead E 2000), .int a1]) ++ List.replicate (5 - (lg_sl ([.ref (ead E 2000), .int a1])).length) Slot.unset).toArray = ls at hl ⊢
  have hl : lv_has ls 5 [(0, .ref (ead E 2000)), (1, .int a1)] := hl
  have c_14 : ∀ (n_14 : Nat) (μ_14 : Mem) (b1_14 : Int32) (b2_14 : Int32) (b3_14 : Int32) , f_X7_sum_14 n_14 μ_14 b1_14 b2_14 b3_14 = some (r, μ') → ∀ (H : Heap) (locs : List Loc) (ls : Array Slot), Wd E μ_14 s H → va_S (eA E) s.heap H locs → lv_has ls 5 [(0, .ref (ead E 2000)), (1, .int b1_14), (2, .int b2_14), (3, .int b3_14)] → W p l e (headSpec (.code yX7_sum cX7_sum 5 (some .int) :: BIG) ({ frames := 2, cells := 0, slots := 0, locals := 50 })).room s m ([.ref (ead E 2000), .int a1] : List Value).toArray below meth c H locs 0 0 (MQ below (QI E r μ') ([.ref (ead E 2000), .int a1] : List Value).toArray s 0 0 (eA E)) (F0 m 14 ls []) := by
    intro n_14
    induction n_14 with
    | zero =>
      intro μ_14 b1_14 b2_14 b3_14 hf H locs ls hW hV hl
      cases hf
    | succ n_14 ih_14 =>
      have c_98 : ∀ (μ_98 : Mem) (b1_98 : Int32) (b2_98 : Int32) (b3_98 : Int32) , f_X7_sum_98 (fun μ z0 z1 z2 => f_X7_sum_14 n_14 μ z0 z1 z2) μ_98 b1_98 b2_98 b3_98 = some (r, μ') → ∀ (H : Heap) (locs : List Loc) (ls : Array Slot), Wd E μ_98 s H → va_S (eA E) s.heap H locs → lv_has ls 5 [(0, .ref (ead E 2000)), (1, .int b1_98), (2, .int b2_98), (3, .int b3_98)] → W p l e (headSpec (.code yX7_sum cX7_sum 5 (some .int) :: BIG) ({ frames := 2, cells := 0, slots := 0, locals := 50 })).room s m ([.ref (ead E 2000), .int a1] : List Value).toArray below meth c H locs 0 0 (MQ below (QI E r μ') ([.ref (ead E 2000), .int a1] : List Value).toArray s 0 0 (eA E)) (F0 m 98 ls []) := by
        intro μ_98 b1_98 b2_98 b3_98 hf H locs ls hW hV hl
        unfold f_X7_sum_98 at hf
        obtain ⟨v22, e_v22, hf⟩ := op_none hf
        refine lv_iinc (v := v22) (lv' := [(3, .int v22), (0, .ref (ead E 2000)), (1, .int b1_98), (2, .int b2_98)]) hx hb dX7_sum_98 hl (k := 3) rfl (by rw [← Option.some.inj e_v22]; rfl) (by decide) rfl (fun ls hl => ?_)
        refine lv_goto (tgt := 14) hx hb dX7_sum_101 (by decide) ?_
        exact ih_14 μ_98 b1_98 b2_98 v22 hf H locs ls hW hV (lv_sub hl [1, 2, 3, 0] rfl)
      have c_96 : ∀ (μ_96 : Mem) (b1_96 : Int32) (b3_96 : Int32) (s0_96 : Int32) (s1_96 : Int32) , f_X7_sum_96 (fun μ z0 z1 z2 => f_X7_sum_14 n_14 μ z0 z1 z2) μ_96 b1_96 b3_96 s0_96 s1_96 = some (r, μ') → ∀ (H : Heap) (locs : List Loc) (ls : Array Slot), Wd E μ_96 s H → va_S (eA E) s.heap H locs → lv_has ls 5 [(0, .ref (ead E 2000)), (1, .int b1_96), (3, .int b3_96)] → W p l e (headSpec (.code yX7_sum cX7_sum 5 (some .int) :: BIG) ({ frames := 2, cells := 0, slots := 0, locals := 50 })).room s m ([.ref (ead E 2000), .int a1] : List Value).toArray below meth c H locs 0 0 (MQ below (QI E r μ') ([.ref (ead E 2000), .int a1] : List Value).toArray s 0 0 (eA E)) (F0 m 96 ls [.int s0_96, .int s1_96]) := by
        intro μ_96 b1_96 b3_96 s0_96 s1_96 hf H locs ls hW hV hl
        unfold f_X7_sum_96 at hf
        refine lv_iadd hx hb dX7_sum_96 ?_
        obtain ⟨v23, e_v23, hf⟩ := op_none hf
        refine lv_top' (Option.some.inj e_v23) ?_
        refine lv_istore_n (i := 2) (lv' := [(2, .int v23), (0, .ref (ead E 2000)), (1, .int b1_96), (3, .int b3_96)]) hx hb dX7_sum_97 rfl hl (by decide) rfl (fun ls hl => ?_)
        exact c_98 μ_96 b1_96 v23 b3_96 hf H locs ls hW hV (lv_sub hl [1, 2, 0, 3] rfl)
      intro μ_14 b1_14 b2_14 b3_14 hf H locs ls hW hV hl
      rw [f_X7_sum_14] at hf
      refine lv_aload_n hx hb dX7_sum_14 rfl (lv_at hl 0 rfl) ?_
      refine gf_RX7_105 hx hb hB hown hW dX7_sum_15 ?_
      refine lv_iconst (v := (-1 : Int32)) hx hb dX7_sum_18 (by decide) ?_
      refine lv_icmp_eq (tgt := 104) hx hb dX7_sum_19 (by decide) (fun y24 => ?_) (fun y24 => ?_)
      · have hf := op_t y24 hf
        refine lv_iload_n hx hb dX7_sum_104 rfl (lv_at hl 2 rfl) ?_
        exact w_retI hx hb hr hlocks hW hV (Prod.mk.inj (Option.some.inj hf)).1 (Prod.mk.inj (Option.some.inj hf)).2 dX7_sum_105
      · have hf := op_f y24 hf
        refine lv_iload_n hx hb dX7_sum_22 rfl (lv_at hl 3 rfl) ?_
        refine lv_aload_n hx hb dX7_sum_23 rfl (lv_at hl 0 rfl) ?_
        refine gf_RX7_39 hx hb hB hown hW dX7_sum_24 ?_
        refine lv_aload_n hx hb dX7_sum_27 rfl (lv_at hl 0 rfl) ?_
        refine gf_RX7_105 hx hb hB hown hW dX7_sum_28 ?_
        obtain ⟨v25, e_v25, hf⟩ := op_none hf
        refine w_iald hx hb hW iM19.1 (iM19.2 E _ _) e_v25 dX7_sum_31 ?_
        refine lv_icmp_ge (tgt := 104) hx hb dX7_sum_32 (by decide) (fun y26 => ?_) (fun y26 => ?_)
        · have hf := op_t y26 hf
          refine lv_iload_n hx hb dX7_sum_104 rfl (lv_at hl 2 rfl) ?_
          exact w_retI hx hb hr hlocks hW hV (Prod.mk.inj (Option.some.inj hf)).1 (Prod.mk.inj (Option.some.inj hf)).2 dX7_sum_105
        · have hf := op_f y26 hf
          refine lv_bipush (v := (10 : Int32)) hx hb dX7_sum_35 (by decide) ?_
          refine lv_aload_n hx hb dX7_sum_37 rfl (lv_at hl 0 rfl) ?_
          refine gf_RX7_105 hx hb hB hown hW dX7_sum_38 ?_
          refine lv_imul hx hb dX7_sum_41 ?_
          refine lv_iload_n hx hb dX7_sum_42 rfl (lv_at hl 3 rfl) ?_
          refine lv_iadd hx hb dX7_sum_43 ?_
          obtain ⟨v27, e_v27, hf⟩ := op_none hf
          refine lv_top' (Option.some.inj e_v27) ?_
          refine lv_istore (i := 4) (lv' := [(4, .int v27), (0, .ref (ead E 2000)), (1, .int b1_14), (2, .int b2_14), (3, .int b3_14)]) hx hb dX7_sum_44 hl (by decide) rfl (fun ls hl => ?_)
          refine lv_aload_n hx hb dX7_sum_46 rfl (lv_at hl 1 rfl) ?_
          refine gf_RX7_42 hx hb hB hown hW dX7_sum_47 ?_
          refine lv_iload hx hb dX7_sum_50 (lv_at hl 0 rfl) ?_
          obtain ⟨v28, e_v28, hf⟩ := op_none hf
          refine w_iald hx hb hW iM20.1 (iM20.2 E _ _) e_v28 dX7_sum_52 ?_
          refine lv_iconst (v := (2 : Int32)) hx hb dX7_sum_53 (by decide) ?_
          refine lv_icmp_ge (tgt := 98) hx hb dX7_sum_54 (by decide) (fun y29 => ?_) (fun y29 => ?_)
          · have hf := op_t y29 hf
            exact c_98 μ_14 b1_14 b2_14 b3_14 hf H locs ls hW hV (lv_sub hl [1, 2, 3, 4] rfl)
          · have hf := op_f y29 hf
            refine lv_aload_n hx hb dX7_sum_57 rfl (lv_at hl 1 rfl) ?_
            refine lv_iload_n hx hb dX7_sum_58 rfl (lv_at hl 2 rfl) ?_
            refine lv_iload hx hb dX7_sum_59 (lv_at hl 0 rfl) ?_
            obtain ⟨p33, e_32, hf⟩ := op_none hf
            refine w_callN (rn_RX7_214 (As := [.int b1_14, .int v27]) hx hb hml hown hB hW hZ hV (k_X7_isTrue l E _ b1_14 v27 p33.1 p33.2 e_32) rfl rfl ⟨(Nat.le_of_ble_eq_true rfl), (Nat.le_of_ble_eq_true rfl)⟩ (w_rec hW oM.1 (oM.2 E _ _) rfl) rfl hl.1 rfl (Nat.le_of_ble_eq_true rfl) dX7_sum_61 ⟨Nat.le_refl _, Nat.le_refl _⟩) hV (fun H locs hn_p33_1 hW hV => ?_)
            refine lv_if_eq (tgt := 98) hx hb dX7_sum_64 (by decide) (fun y34 => ?_) (fun y34 => ?_)
            · have hf := op_t y34 hf
              exact c_98 p33.2 b1_14 b2_14 b3_14 hf H locs ls hW hV (lv_sub hl [1, 2, 3, 4] rfl)
            · have hf := op_f y34 hf
              refine lv_iload_n hx hb dX7_sum_67 rfl (lv_at hl 3 rfl) ?_
              refine lv_aload_n hx hb dX7_sum_68 rfl (lv_at hl 1 rfl) ?_
              refine gf_RX7_42 hx hb hB hown hW dX7_sum_69 ?_
              refine lv_iload hx hb dX7_sum_72 (lv_at hl 0 rfl) ?_
              obtain ⟨v35, e_v35, hf⟩ := op_none hf
              refine w_iald hx hb hW iM20.1 (iM20.2 E _ _) e_v35 dX7_sum_74 ?_
              refine lv_if_ne (tgt := 88) hx hb dX7_sum_75 (by decide) (fun y36 => ?_) (fun y36 => ?_)
              · have hf := op_f y36 hf
                refine lv_aload_n hx hb dX7_sum_88 rfl (lv_at hl 1 rfl) ?_
                refine gf_RX7_45 hx hb hB hown hW dX7_sum_89 ?_
                refine lv_iload hx hb dX7_sum_92 (lv_at hl 0 rfl) ?_
                obtain ⟨v37, e_v37, hf⟩ := op_none hf
                refine w_iald hx hb hW iM21.1 (iM21.2 E _ _) e_v37 dX7_sum_94 ?_
                refine lv_ineg hx hb dX7_sum_95 ?_
                exact c_96 p33.2 b1_14 b3_14 (-v37) b2_14 hf H locs ls hW hV (lv_sub hl [1, 2, 4] rfl)
              · have hf := op_t y36 hf
                refine lv_aload_n hx hb dX7_sum_78 rfl (lv_at hl 1 rfl) ?_
                refine gf_RX7_45 hx hb hB hown hW dX7_sum_79 ?_
                refine lv_iload hx hb dX7_sum_82 (lv_at hl 0 rfl) ?_
                obtain ⟨v38, e_v38, hf⟩ := op_none hf
                refine w_iald hx hb hW iM21.1 (iM21.2 E _ _) e_v38 dX7_sum_84 ?_
                refine lv_goto (tgt := 96) hx hb dX7_sum_85 (by decide) ?_
                exact c_96 p33.2 b1_14 b3_14 v38 b2_14 hf H locs ls hW hV (lv_sub hl [1, 2, 4] rfl)
  obtain ⟨H, hH⟩ : ∃ H : Heap, H = s.heap := ⟨_, rfl⟩
  obtain ⟨locs, hlocs⟩ : ∃ locs : List Loc, locs = [] := ⟨_, rfl⟩
  rw [show (W p l e (headSpec (.code yX7_sum cX7_sum 5 (some .int) :: BIG) ({ frames := 2, cells := 0, slots := 0, locals := 50 })).room s m ([.ref (ead E 2000), .int a1] : List Value).toArray below meth c s.heap [] 0 0) = W p l e (headSpec (.code yX7_sum cX7_sum 5 (some .int) :: BIG) ({ frames := 2, cells := 0, slots := 0, locals := 50 })).room s m ([.ref (ead E 2000), .int a1] : List Value).toArray below meth c H locs 0 0 by rw [hH, hlocs]]
  have hV : va_S (eA E) s.heap H locs := by rw [hH, hlocs]; exact hV
  have hW : Wd E μ s H := by rw [hH]; exact hW
  unfold f_X7_sum at hf
  refine lv_aload_n hx hb dX7_sum_0 rfl (lv_at hl 0 rfl) ?_
  refine gf_RX7_21 hx hb hB hown hW dX7_sum_1 ?_
  refine lv_iload_n hx hb dX7_sum_4 rfl (lv_at hl 1 rfl) ?_
  obtain ⟨v39, e_v39, hf⟩ := op_none hf
  refine w_iald hx hb hW iM4.1 (iM4.2 E _ _) e_v39 dX7_sum_5 ?_
  refine lv_aload_n hx hb dX7_sum_6 rfl (lv_at hl 0 rfl) ?_
  obtain ⟨v40, e_41, hf⟩ := op_none hf
  refine w_callI (rn_RX7_211 (As := []) hx hb hml hown hB hW hZ hV (k_X7_allBy l E _ v40 e_41) rfl rfl ⟨(Nat.le_of_ble_eq_true rfl), (Nat.le_of_ble_eq_true rfl)⟩ (w_rec hW oM.1 (oM.2 E _ _) rfl) rfl hl.1 rfl (Nat.le_of_ble_eq_true rfl) dX7_sum_7 ⟨Nat.le_refl _, Nat.le_refl _⟩) hV (fun H locs hW hV => ?_)
  refine lv_iadd hx hb dX7_sum_10 ?_
  obtain ⟨v42, e_v42, hf⟩ := op_none hf
  refine lv_top' (Option.some.inj e_v42) ?_
  refine lv_istore_n (i := 2) (lv' := [(2, .int v42), (0, .ref (ead E 2000)), (1, .int a1)]) hx hb dX7_sum_11 rfl hl (by decide) rfl (fun ls hl => ?_)
  refine lv_iconst (v := (0 : Int32)) hx hb dX7_sum_12 (by decide) ?_
  refine lv_istore_n (i := 3) (lv' := [(3, .int (0 : Int32)), (2, .int v42), (0, .ref (ead E 2000)), (1, .int a1)]) hx hb dX7_sum_13 rfl hl (by decide) rfl (fun ls hl => ?_)
  exact c_14 FU μ a1 v42 (0 : Int32) hf H locs ls hW hV (lv_sub hl [2, 3, 1, 0] rfl)
set_option maxHeartbeats 8000000 in
set_option maxRecDepth 100000 in
theorem k_J9_floorMod_7cf53 (l : Launch) (E : WE) (μ : Mem) (a0 : Int32) (a1 : Int32) (r : Int32) (hf : f_J9_floorMod_7cf53 μ a0 a1 = some r) : Met l yJ9_floorMod_7cf53 (.code yJ9_floorMod_7cf53 cJ9_floorMod_7cf53 3 (some .int) :: BIG) ({ frames := 0, cells := 0, slots := 0, locals := 0 }) (PW E μ [.int a0, .int a1]) (QI E r μ) 0 0 (eA E) := by
  refine met_ofWF (cc := cJ9_floorMod_7cf53) (maxL := 3) (ret := (some .int)) (by decide +kernel) rfl ?_
  intro p e s m args below meth c s₁ B hml hv
  obtain ⟨rfl, hW, hZ⟩ := hv
  have hx := B.exec
  have hb := B.bytes
  have hr := B.returns
  have hB : ∀ w ∈ BIG, w.before _ s = true := fun w h => atoms_spec (ws := (.code yJ9_floorMod_7cf53 cJ9_floorMod_7cf53 3 (some .int) :: BIG)) B.pre w (List.mem_cons_of_mem _ h)
  have hown : s.vm.findClass RJ9 = some m.cls := findClass_of_methodNamed B.named
  have hlocks := B.notSynchronized
  have hV : va_S (eA E) s.heap s.heap [] := va_S.rf
  have hl := lv_entry ([.int a0, .int a1]) (n := 3) (Nat.le_of_ble_eq_true rfl)
  rw [lg_entry_eq]
  generalize (lg_sl ([.int a0, .int a1]) ++ List.replicate (3 - (lg_sl ([.int a0, .int a1])).length) Slot.unset).toArray = ls at hl ⊢
  have hl : lv_has ls 3 [(0, .int a0), (1, .int a1)] := hl
  obtain ⟨H, hH⟩ : ∃ H : Heap, H = s.heap := ⟨_, rfl⟩
  obtain ⟨locs, hlocs⟩ : ∃ locs : List Loc, locs = [] := ⟨_, rfl⟩
  rw [show (W p l e (headSpec (.code yJ9_floorMod_7cf53 cJ9_floorMod_7cf53 3 (some .int) :: BIG) ({ frames := 0, cells := 0, slots := 0, locals := 0 })).room s m ([.int a0, .int a1] : List Value).toArray below meth c s.heap [] 0 0) = W p l e (headSpec (.code yJ9_floorMod_7cf53 cJ9_floorMod_7cf53 3 (some .int) :: BIG) ({ frames := 0, cells := 0, slots := 0, locals := 0 })).room s m ([.int a0, .int a1] : List Value).toArray below meth c H locs 0 0 by rw [hH, hlocs]]
  have hV : va_S (eA E) s.heap H locs := by rw [hH, hlocs]; exact hV
  have hW : Wd E μ s H := by rw [hH]; exact hW
  unfold f_J9_floorMod_7cf53 at hf
  refine lv_iload_n hx hb dJ9_floorMod_7cf53_0 rfl (lv_at hl 0 rfl) ?_
  refine lv_iload_n hx hb dJ9_floorMod_7cf53_1 rfl (lv_at hl 1 rfl) ?_
  obtain ⟨v4, e_v4, hf⟩ := op_none hf
  refine w_irem hx hb e_v4 dJ9_floorMod_7cf53_2 ?_
  refine lv_istore_n (i := 2) (lv' := [(2, .int v4), (0, .int a0), (1, .int a1)]) hx hb dJ9_floorMod_7cf53_3 rfl hl (by decide) rfl (fun ls hl => ?_)
  refine lv_iload_n hx hb dJ9_floorMod_7cf53_4 rfl (lv_at hl 1 rfl) ?_
  refine lv_iload_n hx hb dJ9_floorMod_7cf53_5 rfl (lv_at hl 2 rfl) ?_
  refine lv_ixor hx hb dJ9_floorMod_7cf53_6 ?_
  refine lv_if_ge (tgt := 18) hx hb dJ9_floorMod_7cf53_7 (by decide) (fun y5 => ?_) (fun y5 => ?_)
  · have hf := op_t y5 hf
    refine lv_iload_n hx hb dJ9_floorMod_7cf53_18 rfl (lv_at hl 0 rfl) ?_
    exact w_retI hx hb hr hlocks hW hV (Option.some.inj hf) rfl dJ9_floorMod_7cf53_19
  · have hf := op_f y5 hf
    refine lv_iload_n hx hb dJ9_floorMod_7cf53_10 rfl (lv_at hl 0 rfl) ?_
    refine lv_if_eq (tgt := 18) hx hb dJ9_floorMod_7cf53_11 (by decide) (fun y6 => ?_) (fun y6 => ?_)
    · have hf := op_t y6 hf
      refine lv_iload_n hx hb dJ9_floorMod_7cf53_18 rfl (lv_at hl 0 rfl) ?_
      exact w_retI hx hb hr hlocks hW hV (Option.some.inj hf) rfl dJ9_floorMod_7cf53_19
    · have hf := op_f y6 hf
      refine lv_iload_n hx hb dJ9_floorMod_7cf53_14 rfl (lv_at hl 0 rfl) ?_
      refine lv_iload_n hx hb dJ9_floorMod_7cf53_15 rfl (lv_at hl 2 rfl) ?_
      refine lv_iadd hx hb dJ9_floorMod_7cf53_16 ?_
      exact w_retI hx hb hr hlocks hW hV (Option.some.inj hf) rfl dJ9_floorMod_7cf53_17
set_option maxHeartbeats 8000000 in
set_option maxRecDepth 100000 in
theorem k_X7_rest (l : Launch) (E : WE) (μ : Mem) (a1 : Int32) (r : Int32) (μ' : Mem) (hf : f_X7_rest μ a1 = some (r, μ')) : Met l yX7_rest (.code yX7_rest cX7_rest 4 (some .int) :: BIG) ({ frames := 3, cells := 0, slots := 0, locals := 74 }) (PW E μ [.ref (ead E 2000), .int a1]) (QI E r μ') 0 0 (eA E) := by
  refine Met.ofW (cc := cX7_rest) (maxL := 4) (ret := (some .int)) (by decide) rfl ?_
  intro p e s m args below meth c s₁ B hml hv
  obtain ⟨rfl, hW, hZ⟩ := hv
  have hx := B.exec
  have hb := B.bytes
  have hr := B.returns
  have hB : ∀ w ∈ BIG, w.before _ s = true := fun w h => atoms_spec (ws := (.code yX7_rest cX7_rest 4 (some .int) :: BIG)) B.pre w (List.mem_cons_of_mem _ h)
  have hown : s.vm.findClass RX7 = some m.cls := findClass_of_methodNamed B.named
  have hlocks := B.notSynchronized
  have hV : va_S (eA E) s.heap s.heap [] := va_S.rf
  have hl := lv_entry ([.ref (ead E 2000), .int a1]) (n := 4) (Nat.le_of_ble_eq_true rfl)
  rw [lg_entry_eq]
  generalize (lg_sl ([.ref (ead E 2000), .int a1]) ++ List.replicate (4 - (lg_sl ([.ref (ead E 2000), .int a1])).length) Slot.unset).toArray = ls at hl ⊢
  have hl : lv_has ls 4 [(0, .ref (ead E 2000)), (1, .int a1)] := hl
  obtain ⟨H, hH⟩ : ∃ H : Heap, H = s.heap := ⟨_, rfl⟩
  obtain ⟨locs, hlocs⟩ : ∃ locs : List Loc, locs = [] := ⟨_, rfl⟩
  rw [show (W p l e (headSpec (.code yX7_rest cX7_rest 4 (some .int) :: BIG) ({ frames := 3, cells := 0, slots := 0, locals := 74 })).room s m ([.ref (ead E 2000), .int a1] : List Value).toArray below meth c s.heap [] 0 0) = W p l e (headSpec (.code yX7_rest cX7_rest 4 (some .int) :: BIG) ({ frames := 3, cells := 0, slots := 0, locals := 74 })).room s m ([.ref (ead E 2000), .int a1] : List Value).toArray below meth c H locs 0 0 by rw [hH, hlocs]]
  have hV : va_S (eA E) s.heap H locs := by rw [hH, hlocs]; exact hV
  have hW : Wd E μ s H := by rw [hH]; exact hW
  unfold f_X7_rest at hf
  refine lv_aload_n hx hb dX7_rest_0 rfl (lv_at hl 0 rfl) ?_
  refine lv_iload_n hx hb dX7_rest_1 rfl (lv_at hl 1 rfl) ?_
  obtain ⟨v24, e_25, hf⟩ := op_none hf
  refine w_callI (rn_RX7_119 (As := [.int a1]) hx hb hml hown hB hW hZ hV (k_X7_turn l E _ a1 v24 e_25) rfl rfl ⟨(Nat.le_of_ble_eq_true rfl), (Nat.le_of_ble_eq_true rfl)⟩ (w_rec hW oM.1 (oM.2 E _ _) rfl) rfl hl.1 rfl (Nat.le_of_ble_eq_true rfl) dX7_rest_2 ⟨Nat.le_refl _, Nat.le_refl _⟩) hV (fun H locs hW hV => ?_)
  refine lv_istore_n (i := 2) (lv' := [(2, .int v24), (0, .ref (ead E 2000)), (1, .int a1)]) hx hb dX7_rest_5 rfl hl (by decide) rfl (fun ls hl => ?_)
  refine lv_aload_n hx hb dX7_rest_6 rfl (lv_at hl 1 rfl) ?_
  refine lv_iload_n hx hb dX7_rest_7 rfl (lv_at hl 2 rfl) ?_
  obtain ⟨p29, e_28, hf⟩ := op_none hf
  refine w_callI (rn_RX7_218 (As := [.int a1]) hx hb hml hown hB hW hZ hV (k_X7_sum l E _ a1 p29.1 p29.2 e_28) rfl rfl ⟨(Nat.le_of_ble_eq_true rfl), (Nat.le_of_ble_eq_true rfl)⟩ (w_rec hW oM.1 (oM.2 E _ _) rfl) rfl hl.1 rfl (Nat.le_of_ble_eq_true rfl) dX7_rest_8 ⟨Nat.le_refl _, Nat.le_refl _⟩) hV (fun H locs hW hV => ?_)
  refine lv_istore_n (i := 3) (lv' := [(3, .int p29.1), (2, .int v24), (0, .ref (ead E 2000)), (1, .int a1)]) hx hb dX7_rest_11 rfl hl (by decide) rfl (fun ls hl => ?_)
  refine lv_aload_n hx hb dX7_rest_12 rfl (lv_at hl 2 rfl) ?_
  refine gf_RX7_9 hx hb hB hown hW dX7_rest_13 ?_
  refine lv_iload_n hx hb dX7_rest_16 rfl (lv_at hl 3 rfl) ?_
  obtain ⟨v30, e_v30, hf⟩ := op_none hf
  refine w_iald hx hb hW iM1.1 (iM1.2 E _ _) e_v30 dX7_rest_17 ?_
  by_cases y31 : v30 = (1 : Int32)
  · have hf := op_t y31 hf
    refine lv_lookup (tgt := 52) (off := 34) hx hb dX7_rest_18 (by decide) (by rw [y31]; decide) (by decide) ?_
    refine lv_iload_n hx hb dX7_rest_52 rfl (lv_at hl 0 rfl) ?_
    refine lv_aload_n hx hb dX7_rest_53 rfl (lv_at hl 2 rfl) ?_
    refine gf_RX7_15 hx hb hB hown hW dX7_rest_54 ?_
    refine lv_iload_n hx hb dX7_rest_57 rfl (lv_at hl 3 rfl) ?_
    obtain ⟨v32, e_v32, hf⟩ := op_none hf
    refine w_iald hx hb hW iM2.1 (iM2.2 E _ _) e_v32 dX7_rest_58 ?_
    refine lv_iadd hx hb dX7_rest_59 ?_
    refine lv_iload_n hx hb dX7_rest_60 rfl (lv_at hl 1 rfl) ?_
    obtain ⟨v33, e_34, hf⟩ := op_none hf
    refine w_callI (rn_RX7_221 (As := [.int (p29.1 + v32), .int v24]) hx hb hml hown hB hW hZ hV (k_J9_floorMod_7cf53 l E _ (p29.1 + v32) v24 v33 e_34) rfl rfl ⟨(Nat.le_of_ble_eq_true rfl), (Nat.le_of_ble_eq_true rfl)⟩ rfl hl.1 rfl (Nat.le_of_ble_eq_true rfl) dX7_rest_61 ⟨Nat.le_refl _, Nat.le_refl _⟩) hV (fun H locs hW hV => ?_)
    exact w_retI hx hb hr hlocks hW hV (Prod.mk.inj (Option.some.inj hf)).1 (Prod.mk.inj (Option.some.inj hf)).2 dX7_rest_64
  have hf := op_f y31 hf
  by_cases y35 : v30 = (4 : Int32)
  · have hf := op_t y35 hf
    refine lv_lookup (tgt := 65) (off := 47) hx hb dX7_rest_18 (by decide) (by rw [y35]; decide) (by decide) ?_
    refine lv_iload_n hx hb dX7_rest_65 rfl (lv_at hl 1 rfl) ?_
    refine lv_iconst (v := (1 : Int32)) hx hb dX7_rest_66 (by decide) ?_
    refine lv_isub hx hb dX7_rest_67 ?_
    refine lv_iload_n hx hb dX7_rest_68 rfl (lv_at hl 0 rfl) ?_
    refine lv_aload_n hx hb dX7_rest_69 rfl (lv_at hl 2 rfl) ?_
    refine gf_RX7_15 hx hb hB hown hW dX7_rest_70 ?_
    refine lv_iload_n hx hb dX7_rest_73 rfl (lv_at hl 3 rfl) ?_
    obtain ⟨v36, e_v36, hf⟩ := op_none hf
    refine w_iald hx hb hW iM2.1 (iM2.2 E _ _) e_v36 dX7_rest_74 ?_
    refine lv_iadd hx hb dX7_rest_75 ?_
    refine lv_iload_n hx hb dX7_rest_76 rfl (lv_at hl 1 rfl) ?_
    obtain ⟨v37, e_38, hf⟩ := op_none hf
    refine w_callI (rn_RX7_221 (As := [.int (p29.1 + v36), .int v24]) hx hb hml hown hB hW hZ hV (k_J9_floorMod_7cf53 l E _ (p29.1 + v36) v24 v37 e_38) rfl rfl ⟨(Nat.le_of_ble_eq_true rfl), (Nat.le_of_ble_eq_true rfl)⟩ rfl hl.1 rfl (Nat.le_of_ble_eq_true rfl) dX7_rest_77 ⟨Nat.le_refl _, Nat.le_refl _⟩) hV (fun H locs hW hV => ?_)
    refine lv_isub hx hb dX7_rest_80 ?_
    exact w_retI hx hb hr hlocks hW hV (Prod.mk.inj (Option.some.inj hf)).1 (Prod.mk.inj (Option.some.inj hf)).2 dX7_rest_81
  have hf := op_f y35 hf
  by_cases y39 : v30 = (6 : Int32)
  · have hf := op_t y39 hf
    refine lv_lookup (tgt := 82) (off := 64) hx hb dX7_rest_18 (by decide) (by rw [y39]; decide) (by decide) ?_
    refine lv_iload_n hx hb dX7_rest_82 rfl (lv_at hl 0 rfl) ?_
    refine lv_aload_n hx hb dX7_rest_83 rfl (lv_at hl 2 rfl) ?_
    refine gf_RX7_33 hx hb hB hown hW dX7_rest_84 ?_
    refine lv_iconst (v := (4 : Int32)) hx hb dX7_rest_87 (by decide) ?_
    refine lv_iload_n hx hb dX7_rest_88 rfl (lv_at hl 3 rfl) ?_
    refine lv_imul hx hb dX7_rest_89 ?_
    refine lv_aload_n hx hb dX7_rest_90 rfl (lv_at hl 2 rfl) ?_
    refine gf_RX7_18 hx hb hB hown hW dX7_rest_91 ?_
    refine lv_iload_n hx hb dX7_rest_94 rfl (lv_at hl 3 rfl) ?_
    obtain ⟨v40, e_v40, hf⟩ := op_none hf
    refine w_iald hx hb hW iM3.1 (iM3.2 E _ _) e_v40 dX7_rest_95 ?_
    refine lv_iconst (v := (4 : Int32)) hx hb dX7_rest_96 (by decide) ?_
    obtain ⟨v41, e_v41, hf⟩ := op_none hf
    refine w_irem hx hb e_v41 dX7_rest_97 ?_
    refine lv_iadd hx hb dX7_rest_98 ?_
    obtain ⟨v42, e_v42, hf⟩ := op_none hf
    refine w_iald hx hb hW iM8.1 (iM8.2 E _ _) e_v42 dX7_rest_99 ?_
    refine lv_iadd hx hb dX7_rest_100 ?_
    refine lv_iload_n hx hb dX7_rest_101 rfl (lv_at hl 1 rfl) ?_
    obtain ⟨v43, e_44, hf⟩ := op_none hf
    refine w_callI (rn_RX7_221 (As := [.int (p29.1 + v42), .int v24]) hx hb hml hown hB hW hZ hV (k_J9_floorMod_7cf53 l E _ (p29.1 + v42) v24 v43 e_44) rfl rfl ⟨(Nat.le_of_ble_eq_true rfl), (Nat.le_of_ble_eq_true rfl)⟩ rfl hl.1 rfl (Nat.le_of_ble_eq_true rfl) dX7_rest_102 ⟨Nat.le_refl _, Nat.le_refl _⟩) hV (fun H locs hW hV => ?_)
    exact w_retI hx hb hr hlocks hW hV (Prod.mk.inj (Option.some.inj hf)).1 (Prod.mk.inj (Option.some.inj hf)).2 dX7_rest_105
  have hf := op_f y39 hf
  refine lv_lookup (tgt := 106) (off := 88) hx hb dX7_rest_18 (by decide) (by rw [lv_osw y31 (by decide)]; rw [lv_osw y35 (by decide)]; rw [lv_osw y39 (by decide)]; rfl) (by decide) ?_
  refine lv_iload_n hx hb dX7_rest_106 rfl (lv_at hl 0 rfl) ?_
  refine lv_iload_n hx hb dX7_rest_107 rfl (lv_at hl 1 rfl) ?_
  obtain ⟨v45, e_46, hf⟩ := op_none hf
  refine w_callI (rn_RX7_221 (As := [.int p29.1, .int v24]) hx hb hml hown hB hW hZ hV (k_J9_floorMod_7cf53 l E _ p29.1 v24 v45 e_46) rfl rfl ⟨(Nat.le_of_ble_eq_true rfl), (Nat.le_of_ble_eq_true rfl)⟩ rfl hl.1 rfl (Nat.le_of_ble_eq_true rfl) dX7_rest_108 ⟨Nat.le_refl _, Nat.le_refl _⟩) hV (fun H locs hW hV => ?_)
  exact w_retI hx hb hr hlocks hW hV (Prod.mk.inj (Option.some.inj hf)).1 (Prod.mk.inj (Option.some.inj hf)).2 dX7_rest_111
set_option maxHeartbeats 8000000 in
set_option maxRecDepth 100000 in
theorem k_X7_inDays (l : Launch) (E : WE) (μ : Mem) (a1 : Int32) (r : Int32) (μ' : Mem) (hf : f_X7_inDays μ a1 = some (r, μ')) : Met l yX7_inDays (.code yX7_inDays cX7_inDays 2 (some .int) :: BIG) ({ frames := 4, cells := 0, slots := 0, locals := 97 }) (PW E μ [.ref (ead E 2000), .int a1]) (QI E r μ') 0 0 (eA E) := by
  refine Met.ofW (cc := cX7_inDays) (maxL := 2) (ret := (some .int)) (by decide) rfl ?_
  intro p e s m args below meth c s₁ B hml hv
  obtain ⟨rfl, hW, hZ⟩ := hv
  have hx := B.exec
  have hb := B.bytes
  have hr := B.returns
  have hB : ∀ w ∈ BIG, w.before _ s = true := fun w h => atoms_spec (ws := (.code yX7_inDays cX7_inDays 2 (some .int) :: BIG)) B.pre w (List.mem_cons_of_mem _ h)
  have hown : s.vm.findClass RX7 = some m.cls := findClass_of_methodNamed B.named
  have hlocks := B.notSynchronized
  have hV : va_S (eA E) s.heap s.heap [] := va_S.rf
  have hl := lv_entry ([.ref (ead E 2000), .int a1]) (n := 2) (Nat.le_of_ble_eq_true rfl)
  rw [lg_entry_eq]
  generalize (lg_sl ([.ref (ead E 2000), .int a1]) ++ List.replicate (2 - (lg_sl ([.ref (ead E 2000), .int a1])).length) Slot.unset).toArray = ls at hl ⊢
  have hl : lv_has ls 2 [(0, .ref (ead E 2000)), (1, .int a1)] := hl
  obtain ⟨H, hH⟩ : ∃ H : Heap, H = s.heap := ⟨_, rfl⟩
  obtain ⟨locs, hlocs⟩ : ∃ locs : List Loc, locs = [] := ⟨_, rfl⟩
  rw [show (W p l e (headSpec (.code yX7_inDays cX7_inDays 2 (some .int) :: BIG) ({ frames := 4, cells := 0, slots := 0, locals := 97 })).room s m ([.ref (ead E 2000), .int a1] : List Value).toArray below meth c s.heap [] 0 0) = W p l e (headSpec (.code yX7_inDays cX7_inDays 2 (some .int) :: BIG) ({ frames := 4, cells := 0, slots := 0, locals := 97 })).room s m ([.ref (ead E 2000), .int a1] : List Value).toArray below meth c H locs 0 0 by rw [hH, hlocs]]
  have hV : va_S (eA E) s.heap H locs := by rw [hH, hlocs]; exact hV
  have hW : Wd E μ s H := by rw [hH]; exact hW
  unfold f_X7_inDays at hf
  refine lv_aload_n hx hb dX7_inDays_0 rfl (lv_at hl 0 rfl) ?_
  refine lv_iload_n hx hb dX7_inDays_1 rfl (lv_at hl 1 rfl) ?_
  obtain ⟨p12, e_11, hf⟩ := op_none hf
  refine w_callI (rn_RX7_123 (As := [.int a1]) hx hb hml hown hB hW hZ hV (k_X7_rest l E _ a1 p12.1 p12.2 e_11) rfl rfl ⟨(Nat.le_of_ble_eq_true rfl), (Nat.le_of_ble_eq_true rfl)⟩ (w_rec hW oM.1 (oM.2 E _ _) rfl) rfl hl.1 rfl (Nat.le_of_ble_eq_true rfl) dX7_inDays_2 ⟨Nat.le_refl _, Nat.le_refl _⟩) hV (fun H locs hW hV => ?_)
  refine lv_aload_n hx hb dX7_inDays_5 rfl (lv_at hl 0 rfl) ?_
  refine gf_RX7_229 hx hb hB hown hW dX7_inDays_6 ?_
  refine lv_isub hx hb dX7_inDays_9 ?_
  refine lv_aload_n hx hb dX7_inDays_10 rfl (lv_at hl 0 rfl) ?_
  refine lv_iload_n hx hb dX7_inDays_11 rfl (lv_at hl 1 rfl) ?_
  obtain ⟨v13, e_14, hf⟩ := op_none hf
  refine w_callI (rn_RX7_119 (As := [.int a1]) hx hb hml hown hB hW hZ hV (k_X7_turn l E _ a1 v13 e_14) rfl rfl ⟨(Nat.le_of_ble_eq_true rfl), (Nat.le_of_ble_eq_true rfl)⟩ (w_rec hW oM.1 (oM.2 E _ _) rfl) rfl hl.1 rfl (Nat.le_of_ble_eq_true rfl) dX7_inDays_12 ⟨Nat.le_refl _, Nat.le_refl _⟩) hV (fun H locs hW hV => ?_)
  obtain ⟨v15, e_16, hf⟩ := op_none hf
  refine w_callI (rn_RX7_221 (As := [.int (p12.1 - (gI p12.2 2000 10)), .int v13]) hx hb hml hown hB hW hZ hV (k_J9_floorMod_7cf53 l E _ (p12.1 - (gI p12.2 2000 10)) v13 v15 e_16) rfl rfl ⟨(Nat.le_of_ble_eq_true rfl), (Nat.le_of_ble_eq_true rfl)⟩ rfl hl.1 rfl (Nat.le_of_ble_eq_true rfl) dX7_inDays_15 ⟨Nat.le_refl _, Nat.le_refl _⟩) hV (fun H locs hW hV => ?_)
  exact w_retI hx hb hr hlocks hW hV (Prod.mk.inj (Option.some.inj hf)).1 (Prod.mk.inj (Option.some.inj hf)).2 dX7_inDays_18
set_option maxHeartbeats 8000000 in
set_option maxRecDepth 100000 in
theorem k_X7_of (l : Launch) (E : WE) (μ : Mem) (a1 : Int32) (a2 : Int32) (r : Int32) (μ' : Mem) (hf : f_X7_of μ a1 a2 = some (r, μ')) : Met l yX7_of (.code yX7_of cX7_of 3 (some .int) :: BIG) ({ frames := 5, cells := 0, slots := 0, locals := 118 }) (PW E μ [.ref (ead E 2000), .int a1, .int a2]) (QI E r μ') 0 0 (eA E) := by
  refine Met.ofW (cc := cX7_of) (maxL := 3) (ret := (some .int)) (by decide) rfl ?_
  intro p e s m args below meth c s₁ B hml hv
  obtain ⟨rfl, hW, hZ⟩ := hv
  have hx := B.exec
  have hb := B.bytes
  have hr := B.returns
  have hB : ∀ w ∈ BIG, w.before _ s = true := fun w h => atoms_spec (ws := (.code yX7_of cX7_of 3 (some .int) :: BIG)) B.pre w (List.mem_cons_of_mem _ h)
  have hown : s.vm.findClass RX7 = some m.cls := findClass_of_methodNamed B.named
  have hlocks := B.notSynchronized
  have hV : va_S (eA E) s.heap s.heap [] := va_S.rf
  have hl := lv_entry ([.ref (ead E 2000), .int a1, .int a2]) (n := 3) (Nat.le_of_ble_eq_true rfl)
  rw [lg_entry_eq]
  generalize (lg_sl ([.ref (ead E 2000), .int a1, .int a2]) ++ List.replicate (3 - (lg_sl ([.ref (ead E 2000), .int a1, .int a2])).length) Slot.unset).toArray = ls at hl ⊢
  have hl : lv_has ls 3 [(0, .ref (ead E 2000)), (1, .int a1), (2, .int a2)] := hl
  obtain ⟨H, hH⟩ : ∃ H : Heap, H = s.heap := ⟨_, rfl⟩
  obtain ⟨locs, hlocs⟩ : ∃ locs : List Loc, locs = [] := ⟨_, rfl⟩
  rw [show (W p l e (headSpec (.code yX7_of cX7_of 3 (some .int) :: BIG) ({ frames := 5, cells := 0, slots := 0, locals := 118 })).room s m ([.ref (ead E 2000), .int a1, .int a2] : List Value).toArray below meth c s.heap [] 0 0) = W p l e (headSpec (.code yX7_of cX7_of 3 (some .int) :: BIG) ({ frames := 5, cells := 0, slots := 0, locals := 118 })).room s m ([.ref (ead E 2000), .int a1, .int a2] : List Value).toArray below meth c H locs 0 0 by rw [hH, hlocs]]
  have hV : va_S (eA E) s.heap H locs := by rw [hH, hlocs]; exact hV
  have hW : Wd E μ s H := by rw [hH]; exact hW
  unfold f_X7_of at hf
  refine lv_aload_n hx hb dX7_of_0 rfl (lv_at hl 0 rfl) ?_
  refine lv_iload_n hx hb dX7_of_1 rfl (lv_at hl 1 rfl) ?_
  obtain ⟨v33, e_34, hf⟩ := op_none hf
  refine w_callN (rn_RX7_115 (As := [.int a1]) hx hb hml hown hB hW hZ hV (k_X7_isOne l E _ a1 v33 e_34) rfl rfl ⟨(Nat.le_of_ble_eq_true rfl), (Nat.le_of_ble_eq_true rfl)⟩ (w_rec hW oM.1 (oM.2 E _ _) rfl) rfl hl.1 rfl (Nat.le_of_ble_eq_true rfl) dX7_of_2 ⟨Nat.le_refl _, Nat.le_refl _⟩) hV (fun H locs hn_v33 hW hV => ?_)
  refine lv_if_ne (tgt := 10) hx hb dX7_of_5 (by decide) (fun y35 => ?_) (fun y35 => ?_)
  · have hf := op_f y35 hf
    refine lv_iload_n hx hb dX7_of_10 rfl (lv_at hl 2 rfl) ?_
    by_cases y36 : a2 = (0 : Int32)
    · have hf := op_t y36 hf
      refine lv_tableIn (tgt := 64) (off := 53) hx hb dX7_of_11 (by rw [y36]; decide) (by rw [y36]; decide) (by rw [y36]; rfl) (by decide) ?_
      refine lv_aload_n hx hb dX7_of_64 rfl (lv_at hl 0 rfl) ?_
      refine gf_RX7_9 hx hb hB hown hW dX7_of_65 ?_
      refine lv_iload_n hx hb dX7_of_68 rfl (lv_at hl 1 rfl) ?_
      obtain ⟨v37, e_v37, hf⟩ := op_none hf
      refine w_iald hx hb hW iM1.1 (iM1.2 E _ _) e_v37 dX7_of_69 ?_
      exact w_retI hx hb hr hlocks hW hV (Prod.mk.inj (Option.some.inj hf)).1 (Prod.mk.inj (Option.some.inj hf)).2 dX7_of_70
    have hf := op_f y36 hf
    by_cases y38 : a2 = (1 : Int32)
    · have hf := op_t y38 hf
      refine lv_tableIn (tgt := 71) (off := 60) hx hb dX7_of_11 (by rw [y38]; decide) (by rw [y38]; decide) (by rw [y38]; rfl) (by decide) ?_
      refine lv_aload_n hx hb dX7_of_71 rfl (lv_at hl 0 rfl) ?_
      refine gf_RX7_15 hx hb hB hown hW dX7_of_72 ?_
      refine lv_iload_n hx hb dX7_of_75 rfl (lv_at hl 1 rfl) ?_
      obtain ⟨v39, e_v39, hf⟩ := op_none hf
      refine w_iald hx hb hW iM2.1 (iM2.2 E _ _) e_v39 dX7_of_76 ?_
      exact w_retI hx hb hr hlocks hW hV (Prod.mk.inj (Option.some.inj hf)).1 (Prod.mk.inj (Option.some.inj hf)).2 dX7_of_77
    have hf := op_f y38 hf
    by_cases y40 : a2 = (2 : Int32)
    · have hf := op_t y40 hf
      refine lv_tableIn (tgt := 78) (off := 67) hx hb dX7_of_11 (by rw [y40]; decide) (by rw [y40]; decide) (by rw [y40]; rfl) (by decide) ?_
      refine lv_aload_n hx hb dX7_of_78 rfl (lv_at hl 0 rfl) ?_
      refine gf_RX7_18 hx hb hB hown hW dX7_of_79 ?_
      refine lv_iload_n hx hb dX7_of_82 rfl (lv_at hl 1 rfl) ?_
      obtain ⟨v41, e_v41, hf⟩ := op_none hf
      refine w_iald hx hb hW iM3.1 (iM3.2 E _ _) e_v41 dX7_of_83 ?_
      exact w_retI hx hb hr hlocks hW hV (Prod.mk.inj (Option.some.inj hf)).1 (Prod.mk.inj (Option.some.inj hf)).2 dX7_of_84
    have hf := op_f y40 hf
    by_cases y42 : a2 = (3 : Int32)
    · have hf := op_t y42 hf
      refine lv_tableIn (tgt := 85) (off := 74) hx hb dX7_of_11 (by rw [y42]; decide) (by rw [y42]; decide) (by rw [y42]; rfl) (by decide) ?_
      refine lv_aload_n hx hb dX7_of_85 rfl (lv_at hl 0 rfl) ?_
      refine gf_RX7_21 hx hb hB hown hW dX7_of_86 ?_
      refine lv_iload_n hx hb dX7_of_89 rfl (lv_at hl 1 rfl) ?_
      obtain ⟨v43, e_v43, hf⟩ := op_none hf
      refine w_iald hx hb hW iM4.1 (iM4.2 E _ _) e_v43 dX7_of_90 ?_
      exact w_retI hx hb hr hlocks hW hV (Prod.mk.inj (Option.some.inj hf)).1 (Prod.mk.inj (Option.some.inj hf)).2 dX7_of_91
    have hf := op_f y42 hf
    by_cases y44 : a2 = (4 : Int32)
    · have hf := op_t y44 hf
      refine lv_tableIn (tgt := 92) (off := 81) hx hb dX7_of_11 (by rw [y44]; decide) (by rw [y44]; decide) (by rw [y44]; rfl) (by decide) ?_
      refine lv_aload_n hx hb dX7_of_92 rfl (lv_at hl 0 rfl) ?_
      refine gf_RX7_24 hx hb hB hown hW dX7_of_93 ?_
      refine lv_iload_n hx hb dX7_of_96 rfl (lv_at hl 1 rfl) ?_
      obtain ⟨v45, e_v45, hf⟩ := op_none hf
      refine w_iald hx hb hW iM5.1 (iM5.2 E _ _) e_v45 dX7_of_97 ?_
      exact w_retI hx hb hr hlocks hW hV (Prod.mk.inj (Option.some.inj hf)).1 (Prod.mk.inj (Option.some.inj hf)).2 dX7_of_98
    have hf := op_f y44 hf
    by_cases y46 : a2 = (5 : Int32)
    · have hf := op_t y46 hf
      refine lv_tableIn (tgt := 99) (off := 88) hx hb dX7_of_11 (by rw [y46]; decide) (by rw [y46]; decide) (by rw [y46]; rfl) (by decide) ?_
      refine lv_aload_n hx hb dX7_of_99 rfl (lv_at hl 0 rfl) ?_
      refine gf_RX7_27 hx hb hB hown hW dX7_of_100 ?_
      refine lv_iload_n hx hb dX7_of_103 rfl (lv_at hl 1 rfl) ?_
      obtain ⟨v47, e_v47, hf⟩ := op_none hf
      refine w_iald hx hb hW iM6.1 (iM6.2 E _ _) e_v47 dX7_of_104 ?_
      exact w_retI hx hb hr hlocks hW hV (Prod.mk.inj (Option.some.inj hf)).1 (Prod.mk.inj (Option.some.inj hf)).2 dX7_of_105
    have hf := op_f y46 hf
    by_cases y48 : a2 = (6 : Int32)
    · have hf := op_t y48 hf
      refine lv_tableIn (tgt := 106) (off := 95) hx hb dX7_of_11 (by rw [y48]; decide) (by rw [y48]; decide) (by rw [y48]; rfl) (by decide) ?_
      refine lv_aload_n hx hb dX7_of_106 rfl (lv_at hl 0 rfl) ?_
      refine gf_RX7_30 hx hb hB hown hW dX7_of_107 ?_
      refine lv_iload_n hx hb dX7_of_110 rfl (lv_at hl 1 rfl) ?_
      obtain ⟨v49, e_v49, hf⟩ := op_none hf
      refine w_iald hx hb hW iM7.1 (iM7.2 E _ _) e_v49 dX7_of_111 ?_
      exact w_retI hx hb hr hlocks hW hV (Prod.mk.inj (Option.some.inj hf)).1 (Prod.mk.inj (Option.some.inj hf)).2 dX7_of_112
    have hf := op_f y48 hf
    by_cases y50 : a2 = (7 : Int32)
    · have hf := op_t y50 hf
      refine lv_tableIn (tgt := 113) (off := 102) hx hb dX7_of_11 (by rw [y50]; decide) (by rw [y50]; decide) (by rw [y50]; rfl) (by decide) ?_
      refine lv_aload_n hx hb dX7_of_113 rfl (lv_at hl 0 rfl) ?_
      refine lv_iload_n hx hb dX7_of_114 rfl (lv_at hl 1 rfl) ?_
      obtain ⟨v51, e_52, hf⟩ := op_none hf
      refine w_callI (rn_RX7_119 (As := [.int a1]) hx hb hml hown hB hW hZ hV (k_X7_turn l E _ a1 v51 e_52) rfl rfl ⟨(Nat.le_of_ble_eq_true rfl), (Nat.le_of_ble_eq_true rfl)⟩ (w_rec hW oM.1 (oM.2 E _ _) rfl) rfl hl.1 rfl (Nat.le_of_ble_eq_true rfl) dX7_of_115 ⟨Nat.le_refl _, Nat.le_refl _⟩) hV (fun H locs hW hV => ?_)
      exact w_retI hx hb hr hlocks hW hV (Prod.mk.inj (Option.some.inj hf)).1 (Prod.mk.inj (Option.some.inj hf)).2 dX7_of_118
    have hf := op_f y50 hf
    by_cases y53 : a2 = (8 : Int32)
    · have hf := op_t y53 hf
      refine lv_tableIn (tgt := 119) (off := 108) hx hb dX7_of_11 (by rw [y53]; decide) (by rw [y53]; decide) (by rw [y53]; rfl) (by decide) ?_
      refine lv_aload_n hx hb dX7_of_119 rfl (lv_at hl 0 rfl) ?_
      refine lv_iload_n hx hb dX7_of_120 rfl (lv_at hl 1 rfl) ?_
      obtain ⟨p57, e_56, hf⟩ := op_none hf
      refine w_callI (rn_RX7_123 (As := [.int a1]) hx hb hml hown hB hW hZ hV (k_X7_rest l E _ a1 p57.1 p57.2 e_56) rfl rfl ⟨(Nat.le_of_ble_eq_true rfl), (Nat.le_of_ble_eq_true rfl)⟩ (w_rec hW oM.1 (oM.2 E _ _) rfl) rfl hl.1 rfl (Nat.le_of_ble_eq_true rfl) dX7_of_121 ⟨Nat.le_refl _, Nat.le_refl _⟩) hV (fun H locs hW hV => ?_)
      exact w_retI hx hb hr hlocks hW hV (Prod.mk.inj (Option.some.inj hf)).1 (Prod.mk.inj (Option.some.inj hf)).2 dX7_of_124
    have hf := op_f y53 hf
    by_cases y58 : a2 = (9 : Int32)
    · have hf := op_t y58 hf
      refine lv_tableIn (tgt := 125) (off := 114) hx hb dX7_of_11 (by rw [y58]; decide) (by rw [y58]; decide) (by rw [y58]; rfl) (by decide) ?_
      refine lv_aload_n hx hb dX7_of_125 rfl (lv_at hl 0 rfl) ?_
      refine gf_RX7_24 hx hb hB hown hW dX7_of_126 ?_
      refine lv_iload_n hx hb dX7_of_129 rfl (lv_at hl 1 rfl) ?_
      obtain ⟨v59, e_v59, hf⟩ := op_none hf
      refine w_iald hx hb hW iM5.1 (iM5.2 E _ _) e_v59 dX7_of_130 ?_
      refine lv_iconst (v := (1 : Int32)) hx hb dX7_of_131 (by decide) ?_
      refine lv_icmp_ne (tgt := 140) hx hb dX7_of_132 (by decide) (fun y60 => ?_) (fun y60 => ?_)
      · have hf := op_f y60 hf
        refine lv_aload_n hx hb dX7_of_140 rfl (lv_at hl 0 rfl) ?_
        refine lv_iload_n hx hb dX7_of_141 rfl (lv_at hl 1 rfl) ?_
        obtain ⟨p64, e_63, hf⟩ := op_none hf
        refine w_callI (rn_RX7_126 (As := [.int a1]) hx hb hml hown hB hW hZ hV (k_X7_inDays l E _ a1 p64.1 p64.2 e_63) rfl rfl ⟨(Nat.le_of_ble_eq_true rfl), (Nat.le_of_ble_eq_true rfl)⟩ (w_rec hW oM.1 (oM.2 E _ _) rfl) rfl hl.1 rfl (Nat.le_of_ble_eq_true rfl) dX7_of_142 ⟨Nat.le_refl _, Nat.le_refl _⟩) hV (fun H locs hW hV => ?_)
        exact w_retI hx hb hr hlocks hW hV (Prod.mk.inj (Option.some.inj hf)).1 (Prod.mk.inj (Option.some.inj hf)).2 dX7_of_145
      · have hf := op_t y60 hf
        refine lv_bipush (v := (-5 : Int32)) hx hb dX7_of_135 (by decide) ?_
        refine lv_goto (tgt := 145) hx hb dX7_of_137 (by decide) ?_
        exact w_retI hx hb hr hlocks hW hV (Prod.mk.inj (Option.some.inj hf)).1 (Prod.mk.inj (Option.some.inj hf)).2 dX7_of_145
    have hf := op_f y58 hf
    refine lv_tableOut (tgt := 146) hx hb dX7_of_11 (by have a_y36 := lv_neT (a := 0) y36 (by decide); have a_y38 := lv_neT (a := 1) y38 (by decide); have a_y40 := lv_neT (a := 2) y40 (by decide); have a_y42 := lv_neT (a := 3) y42 (by decide); have a_y44 := lv_neT (a := 4) y44 (by decide); have a_y46 := lv_neT (a := 5) y46 (by decide); have a_y48 := lv_neT (a := 6) y48 (by decide); have a_y50 := lv_neT (a := 7) y50 (by decide); have a_y53 := lv_neT (a := 8) y53 (by decide); have a_y58 := lv_neT (a := 9) y58 (by decide); omega) (by decide) ?_
    refine lv_iconst (v := (-1 : Int32)) hx hb dX7_of_146 (by decide) ?_
    exact w_retI hx hb hr hlocks hW hV (Prod.mk.inj (Option.some.inj hf)).1 (Prod.mk.inj (Option.some.inj hf)).2 dX7_of_147
  · have hf := op_t y35 hf
    refine lv_iconst (v := (-1 : Int32)) hx hb dX7_of_8 (by decide) ?_
    exact w_retI hx hb hr hlocks hW hV (Prod.mk.inj (Option.some.inj hf)).1 (Prod.mk.inj (Option.some.inj hf)).2 dX7_of_9
