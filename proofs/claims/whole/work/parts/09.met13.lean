set_option maxHeartbeats 8000000 in
set_option maxRecDepth 100000 in
theorem k_X7_above (l : Launch) (E : WE) (μ : Mem) (a0 : Int32) (r : Int32) (hf : f_X7_above μ a0 = some r) : Met l yX7_above (.code yX7_above cX7_above 1 (some .int) :: BIG) ({ frames := 0, cells := 0, slots := 0, locals := 0 }) (PW E μ [.int a0]) (QI E r μ) 0 0 (eA E) := by
  refine Met.ofW (cc := cX7_above) (maxL := 1) (ret := (some .int)) (by decide) rfl ?_
  intro p e s m args below meth c s₁ B hml hv
  obtain ⟨rfl, hW, hZ⟩ := hv
  have hx := B.exec
  have hb := B.bytes
  have hr := B.returns
  have hB : ∀ w ∈ BIG, w.before _ s = true := fun w h => atoms_spec (ws := (.code yX7_above cX7_above 1 (some .int) :: BIG)) B.pre w (List.mem_cons_of_mem _ h)
  have hown : s.vm.findClass RX7 = some m.cls := findClass_of_methodNamed B.named
  have hlocks := B.notSynchronized
  have hV : va_S (eA E) s.heap s.heap [] := va_S.rf
  have hl := lv_entry ([.int a0]) (n := 1) (Nat.le_of_ble_eq_true rfl)
  rw [lg_entry_eq]
  generalize (lg_sl ([.int a0]) ++ List.replicate (1 - (lg_sl ([.int a0])).length) Slot.unset).toArray = ls at hl ⊢
  have hl : lv_has ls 1 [(0, .int a0)] := hl
  obtain ⟨H, hH⟩ : ∃ H : Heap, H = s.heap := ⟨_, rfl⟩
  obtain ⟨locs, hlocs⟩ : ∃ locs : List Loc, locs = [] := ⟨_, rfl⟩
  rw [show (W p l e (headSpec (.code yX7_above cX7_above 1 (some .int) :: BIG) ({ frames := 0, cells := 0, slots := 0, locals := 0 })).room s m ([.int a0] : List Value).toArray below meth c s.heap [] 0 0) = W p l e (headSpec (.code yX7_above cX7_above 1 (some .int) :: BIG) ({ frames := 0, cells := 0, slots := 0, locals := 0 })).room s m ([.int a0] : List Value).toArray below meth c H locs 0 0 by rw [hH, hlocs]]
  have hV : va_S (eA E) s.heap H locs := by rw [hH, hlocs]; exact hV
  have hW : Wd E μ s H := by rw [hH]; exact hW
  unfold f_X7_above at hf
  refine lv_iload_n hx hb dX7_above_0 rfl (lv_at hl 0 rfl) ?_
  refine lv_iconst (v := (4 : Int32)) hx hb dX7_above_1 (by decide) ?_
  refine lv_icmp_ne (tgt := 9) hx hb dX7_above_2 (by decide) (fun y4 => ?_) (fun y4 => ?_)
  · have hf := op_f y4 hf
    refine lv_iload_n hx hb dX7_above_9 rfl (lv_at hl 0 rfl) ?_
    refine lv_iconst (v := (5 : Int32)) hx hb dX7_above_10 (by decide) ?_
    refine lv_icmp_ne (tgt := 18) hx hb dX7_above_11 (by decide) (fun y5 => ?_) (fun y5 => ?_)
    · have hf := op_f y5 hf
      refine lv_iload_n hx hb dX7_above_18 rfl (lv_at hl 0 rfl) ?_
      refine lv_bipush (v := (6 : Int32)) hx hb dX7_above_19 (by decide) ?_
      refine lv_icmp_ne (tgt := 28) hx hb dX7_above_21 (by decide) (fun y6 => ?_) (fun y6 => ?_)
      · have hf := op_f y6 hf
        refine lv_iconst (v := (0 : Int32)) hx hb dX7_above_28 (by decide) ?_
        exact w_retI hx hb hr hlocks hW hV (Option.some.inj hf) rfl dX7_above_29
      · have hf := op_t y6 hf
        refine lv_iconst (v := (3 : Int32)) hx hb dX7_above_24 (by decide) ?_
        refine lv_goto (tgt := 29) hx hb dX7_above_25 (by decide) ?_
        exact w_retI hx hb hr hlocks hW hV (Option.some.inj hf) rfl dX7_above_29
    · have hf := op_t y5 hf
      refine lv_iconst (v := (2 : Int32)) hx hb dX7_above_14 (by decide) ?_
      refine lv_goto (tgt := 29) hx hb dX7_above_15 (by decide) ?_
      exact w_retI hx hb hr hlocks hW hV (Option.some.inj hf) rfl dX7_above_29
  · have hf := op_t y4 hf
    refine lv_iconst (v := (1 : Int32)) hx hb dX7_above_5 (by decide) ?_
    refine lv_goto (tgt := 29) hx hb dX7_above_6 (by decide) ?_
    exact w_retI hx hb hr hlocks hW hV (Option.some.inj hf) rfl dX7_above_29
set_option maxHeartbeats 8000000 in
set_option maxRecDepth 100000 in
theorem kg_ticks (l : Launch) (E : WE) : ∀ d : Nat, (∀ (μ : Mem) (a1 : Int32) (a2 : Int32) (a3 : Int32) (r : Int32) (μ' : Mem) , (G_ticks d) μ a1 a2 a3 = some (r, μ') → Met l yX7_ticks (.code yX7_ticks cX7_ticks 4 (some .int) :: BIG) ({ frames := 1 + d, cells := 0, slots := 0, locals := 21 + d * 23 }) (PW E μ [.ref (ead E 2000), .int a1, .int a2, .int a3]) (QI E r μ') 0 0 (eA E)) := by
  intro d
  induction d with
  | zero =>
    intro μ a1 a2 a3 r μ' hf
    cases hf
  | succ d ih =>
    obtain ⟨G, hG⟩ : ∃ G : (Mem → Int32 → Int32 → Int32 → Option (Int32 × Mem)), G = G_ticks d := ⟨_, rfl⟩
    rw [← hG] at ih
    intro μ a1 a2 a3 r μ' hf
    have hf : b_X7_ticks G μ a1 a2 a3 = some (r, μ') := by rw [hG]; exact hf
    unfold b_X7_ticks at hf
    refine Met.ofW (cc := cX7_ticks) (maxL := 4) (ret := (some .int)) (by decide) rfl ?_
    intro p e s m args below meth c s₁ B hml hv
    obtain ⟨rfl, hW, hZ⟩ := hv
    have hx := B.exec
    have hb := B.bytes
    have hr := B.returns
    have hB : ∀ w ∈ BIG, w.before _ s = true := fun w h => atoms_spec (ws := (.code yX7_ticks cX7_ticks 4 (some .int) :: BIG)) B.pre w (List.mem_cons_of_mem _ h)
    have hown : s.vm.findClass RX7 = some m.cls := findClass_of_methodNamed B.named
    have hlocks := B.notSynchronized
    have hV : va_S (eA E) s.heap s.heap [] := va_S.rf
    have hl := lv_entry ([.ref (ead E 2000), .int a1, .int a2, .int a3]) (n := 4) (Nat.le_of_ble_eq_true rfl)
    rw [lg_entry_eq]
    generalize (lg_sl ([.ref (ead E 2000), .int a1, .int a2, .int a3]) ++ List.replicate (4 - (lg_sl ([.ref (ead E 2000), .int a1, .int a2, .int a3])).length) Slot.unset).toArray = ls at hl ⊢
    have hl : lv_has ls 4 [(0, .ref (ead E 2000)), (1, .int a1), (2, .int a2), (3, .int a3)] := hl
    have c_106 : ∀ (μ_106 : Mem) (b1_106 : Int32) (b2_106 : Int32) (b3_106 : Int32) , f_X7_ticks_106 G μ_106 b1_106 b2_106 b3_106 = some (r, μ') → ∀ (H : Heap) (locs : List Loc) (ls : Array Slot), Wd E μ_106 s H → va_S (eA E) s.heap H locs → lv_has ls 4 [(0, .ref (ead E 2000)), (1, .int b1_106), (2, .int b2_106), (3, .int b3_106)] → W p l e (headSpec (.code yX7_ticks cX7_ticks 4 (some .int) :: BIG) ({ frames := 1 + (d + 1), cells := 0, slots := 0, locals := 21 + (d + 1) * 23 })).room s m ([.ref (ead E 2000), .int a1, .int a2, .int a3] : List Value).toArray below meth c H locs 0 0 (MQ below (QI E r μ') ([.ref (ead E 2000), .int a1, .int a2, .int a3] : List Value).toArray s 0 0 (eA E)) (F0 m 106 ls []) := by
      intro μ_106 b1_106 b2_106 b3_106 hf H locs ls hW hV hl
      unfold f_X7_ticks_106 at hf
      refine lv_aload_n hx hb dX7_ticks_106 rfl (lv_at hl 0 rfl) ?_
      refine lv_iload_n hx hb dX7_ticks_107 rfl (lv_at hl 1 rfl) ?_
      refine lv_iload_n hx hb dX7_ticks_108 rfl (lv_at hl 2 rfl) ?_
      obtain ⟨v38, e_39, hf⟩ := op_none hf
      refine w_callI (rn_RX7_320 (As := [.int b2_106]) hx hb hml hown hB hW hZ hV (k_X7_above l E _ b2_106 v38 e_39) rfl rfl ⟨(by dsimp only [headSpec]; omega), (by dsimp only [headSpec]; omega)⟩ rfl hl.1 rfl (Nat.le_of_ble_eq_true rfl) dX7_ticks_109 ⟨Nat.le_refl _, Nat.le_refl _⟩) hV (fun H locs hW hV => ?_)
      refine lv_iload_n hx hb dX7_ticks_112 rfl (lv_at hl 3 rfl) ?_
      obtain ⟨p43, e_42, hf⟩ := op_none hf
      refine w_callI (rn_RX7_316 (As := [.int b1_106, .int v38, .int b3_106]) hx hb hml hown hB hW hZ hV (ih _ b1_106 v38 b3_106 p43.1 p43.2 e_42) rfl rfl ⟨(by dsimp only [headSpec]; omega), (by dsimp only [headSpec]; omega)⟩ (w_rec hW oM.1 (oM.2 E _ _) rfl) rfl hl.1 rfl (Nat.le_of_ble_eq_true rfl) dX7_ticks_113 ⟨Nat.le_refl _, Nat.le_refl _⟩) hV (fun H locs hW hV => ?_)
      exact w_retI hx hb hr hlocks hW hV (Prod.mk.inj (Option.some.inj hf)).1 (Prod.mk.inj (Option.some.inj hf)).2 dX7_ticks_116
    obtain ⟨H, hH⟩ : ∃ H : Heap, H = s.heap := ⟨_, rfl⟩
    obtain ⟨locs, hlocs⟩ : ∃ locs : List Loc, locs = [] := ⟨_, rfl⟩
    rw [show (W p l e (headSpec (.code yX7_ticks cX7_ticks 4 (some .int) :: BIG) ({ frames := 1 + (d + 1), cells := 0, slots := 0, locals := 21 + (d + 1) * 23 })).room s m ([.ref (ead E 2000), .int a1, .int a2, .int a3] : List Value).toArray below meth c s.heap [] 0 0) = W p l e (headSpec (.code yX7_ticks cX7_ticks 4 (some .int) :: BIG) ({ frames := 1 + (d + 1), cells := 0, slots := 0, locals := 21 + (d + 1) * 23 })).room s m ([.ref (ead E 2000), .int a1, .int a2, .int a3] : List Value).toArray below meth c H locs 0 0 by rw [hH, hlocs]]
    have hV : va_S (eA E) s.heap H locs := by rw [hH, hlocs]; exact hV
    have hW : Wd E μ s H := by rw [hH]; exact hW
    refine lv_iload_n hx hb dX7_ticks_0 rfl (lv_at hl 2 rfl) ?_
    by_cases y44 : a2 = (0 : Int32)
    · have hf := op_t y44 hf
      refine lv_tableIn (tgt := 96) (off := 95) hx hb dX7_ticks_1 (by rw [y44]; decide) (by rw [y44]; decide) (by rw [y44]; rfl) (by decide) ?_
      refine lv_aload_n hx hb dX7_ticks_96 rfl (lv_at hl 0 rfl) ?_
      refine lv_bipush (v := (10 : Int32)) hx hb dX7_ticks_97 (by decide) ?_
      obtain ⟨μ45, e_46, hf⟩ := op_none hf
      refine w_callV (rn_RX7_312 (As := [.int (10 : Int32)]) hx hb hml hown hB hW hZ hV (k_X7_ran l E _ (10 : Int32) μ45 e_46) rfl rfl ⟨(by dsimp only [headSpec]; omega), (by dsimp only [headSpec]; omega)⟩ (w_rec hW oM.1 (oM.2 E _ _) rfl) rfl hl.1 rfl (Nat.le_of_ble_eq_true rfl) dX7_ticks_99 ⟨Nat.le_refl _, Nat.le_refl _⟩) hV (fun H locs hW hV => ?_)
      refine lv_iload_n hx hb dX7_ticks_102 rfl (lv_at hl 3 rfl) ?_
      refine lv_iload_n hx hb dX7_ticks_103 rfl (lv_at hl 1 rfl) ?_
      refine lv_iadd hx hb dX7_ticks_104 ?_
      exact w_retI hx hb hr hlocks hW hV (Prod.mk.inj (Option.some.inj hf)).1 (Prod.mk.inj (Option.some.inj hf)).2 dX7_ticks_105
    have hf := op_f y44 hf
    by_cases y48 : a2 = (2 : Int32)
    · have hf := op_t y48 hf
      refine lv_tableIn (tgt := 44) (off := 43) hx hb dX7_ticks_1 (by rw [y48]; decide) (by rw [y48]; decide) (by rw [y48]; rfl) (by decide) ?_
      refine lv_aload_n hx hb dX7_ticks_44 rfl (lv_at hl 0 rfl) ?_
      refine lv_bipush (v := (30 : Int32)) hx hb dX7_ticks_45 (by decide) ?_
      obtain ⟨μ49, e_50, hf⟩ := op_none hf
      refine w_callV (rn_RX7_312 (As := [.int (30 : Int32)]) hx hb hml hown hB hW hZ hV (k_X7_ran l E _ (30 : Int32) μ49 e_50) rfl rfl ⟨(by dsimp only [headSpec]; omega), (by dsimp only [headSpec]; omega)⟩ (w_rec hW oM.1 (oM.2 E _ _) rfl) rfl hl.1 rfl (Nat.le_of_ble_eq_true rfl) dX7_ticks_47 ⟨Nat.le_refl _, Nat.le_refl _⟩) hV (fun H locs hW hV => ?_)
      refine lv_aload_n hx hb dX7_ticks_50 rfl (lv_at hl 0 rfl) ?_
      refine lv_iload_n hx hb dX7_ticks_51 rfl (lv_at hl 1 rfl) ?_
      refine lv_iconst (v := (0 : Int32)) hx hb dX7_ticks_52 (by decide) ?_
      refine lv_iload_n hx hb dX7_ticks_53 rfl (lv_at hl 3 rfl) ?_
      refine lv_iconst (v := (3 : Int32)) hx hb dX7_ticks_54 (by decide) ?_
      refine lv_imul hx hb dX7_ticks_55 ?_
      obtain ⟨p54, e_53, hf⟩ := op_none hf
      refine w_callI (rn_RX7_316 (As := [.int a1, .int (0 : Int32), .int (a3 * (3 : Int32))]) hx hb hml hown hB hW hZ hV (ih _ a1 (0 : Int32) (a3 * (3 : Int32)) p54.1 p54.2 e_53) rfl rfl ⟨(by dsimp only [headSpec]; omega), (by dsimp only [headSpec]; omega)⟩ (w_rec hW oM.1 (oM.2 E _ _) rfl) rfl hl.1 rfl (Nat.le_of_ble_eq_true rfl) dX7_ticks_56 ⟨Nat.le_refl _, Nat.le_refl _⟩) hV (fun H locs hW hV => ?_)
      exact w_retI hx hb hr hlocks hW hV (Prod.mk.inj (Option.some.inj hf)).1 (Prod.mk.inj (Option.some.inj hf)).2 dX7_ticks_59
    have hf := op_f y48 hf
    by_cases y56 : a2 = (4 : Int32)
    · have hf := op_t y56 hf
      refine lv_tableIn (tgt := 60) (off := 59) hx hb dX7_ticks_1 (by rw [y56]; decide) (by rw [y56]; decide) (by rw [y56]; rfl) (by decide) ?_
      refine lv_aload_n hx hb dX7_ticks_60 rfl (lv_at hl 0 rfl) ?_
      refine lv_bipush (v := (50 : Int32)) hx hb dX7_ticks_61 (by decide) ?_
      obtain ⟨μ57, e_58, hf⟩ := op_none hf
      refine w_callV (rn_RX7_312 (As := [.int (50 : Int32)]) hx hb hml hown hB hW hZ hV (k_X7_ran l E _ (50 : Int32) μ57 e_58) rfl rfl ⟨(by dsimp only [headSpec]; omega), (by dsimp only [headSpec]; omega)⟩ (w_rec hW oM.1 (oM.2 E _ _) rfl) rfl hl.1 rfl (Nat.le_of_ble_eq_true rfl) dX7_ticks_63 ⟨Nat.le_refl _, Nat.le_refl _⟩) hV (fun H locs hW hV => ?_)
      refine lv_aload_n hx hb dX7_ticks_66 rfl (lv_at hl 0 rfl) ?_
      refine lv_iload_n hx hb dX7_ticks_67 rfl (lv_at hl 1 rfl) ?_
      refine lv_iconst (v := (1 : Int32)) hx hb dX7_ticks_68 (by decide) ?_
      refine lv_iload_n hx hb dX7_ticks_69 rfl (lv_at hl 3 rfl) ?_
      obtain ⟨p62, e_61, hf⟩ := op_none hf
      refine w_callI (rn_RX7_316 (As := [.int a1, .int (1 : Int32), .int a3]) hx hb hml hown hB hW hZ hV (ih _ a1 (1 : Int32) a3 p62.1 p62.2 e_61) rfl rfl ⟨(by dsimp only [headSpec]; omega), (by dsimp only [headSpec]; omega)⟩ (w_rec hW oM.1 (oM.2 E _ _) rfl) rfl hl.1 rfl (Nat.le_of_ble_eq_true rfl) dX7_ticks_70 ⟨Nat.le_refl _, Nat.le_refl _⟩) hV (fun H locs hW hV => ?_)
      refine lv_ineg hx hb dX7_ticks_73 ?_
      exact w_retI hx hb hr hlocks hW hV (Prod.mk.inj (Option.some.inj hf)).1 (Prod.mk.inj (Option.some.inj hf)).2 dX7_ticks_74
    have hf := op_f y56 hf
    by_cases y64 : a2 = (6 : Int32)
    · have hf := op_t y64 hf
      refine lv_tableIn (tgt := 75) (off := 74) hx hb dX7_ticks_1 (by rw [y64]; decide) (by rw [y64]; decide) (by rw [y64]; rfl) (by decide) ?_
      refine lv_aload_n hx hb dX7_ticks_75 rfl (lv_at hl 0 rfl) ?_
      refine lv_bipush (v := (71 : Int32)) hx hb dX7_ticks_76 (by decide) ?_
      obtain ⟨μ65, e_66, hf⟩ := op_none hf
      refine w_callV (rn_RX7_312 (As := [.int (71 : Int32)]) hx hb hml hown hB hW hZ hV (k_X7_ran l E _ (71 : Int32) μ65 e_66) rfl rfl ⟨(by dsimp only [headSpec]; omega), (by dsimp only [headSpec]; omega)⟩ (w_rec hW oM.1 (oM.2 E _ _) rfl) rfl hl.1 rfl (Nat.le_of_ble_eq_true rfl) dX7_ticks_78 ⟨Nat.le_refl _, Nat.le_refl _⟩) hV (fun H locs hW hV => ?_)
      refine lv_aload_n hx hb dX7_ticks_81 rfl (lv_at hl 0 rfl) ?_
      refine lv_iload_n hx hb dX7_ticks_82 rfl (lv_at hl 1 rfl) ?_
      refine lv_iconst (v := (3 : Int32)) hx hb dX7_ticks_83 (by decide) ?_
      refine lv_iload_n hx hb dX7_ticks_84 rfl (lv_at hl 3 rfl) ?_
      obtain ⟨p70, e_69, hf⟩ := op_none hf
      refine w_callI (rn_RX7_316 (As := [.int a1, .int (3 : Int32), .int a3]) hx hb hml hown hB hW hZ hV (ih _ a1 (3 : Int32) a3 p70.1 p70.2 e_69) rfl rfl ⟨(by dsimp only [headSpec]; omega), (by dsimp only [headSpec]; omega)⟩ (w_rec hW oM.1 (oM.2 E _ _) rfl) rfl hl.1 rfl (Nat.le_of_ble_eq_true rfl) dX7_ticks_85 ⟨Nat.le_refl _, Nat.le_refl _⟩) hV (fun H locs hW hV => ?_)
      refine lv_aload_n hx hb dX7_ticks_88 rfl (lv_at hl 0 rfl) ?_
      refine gf_RX7_15 hx hb hB hown hW dX7_ticks_89 ?_
      refine lv_iload_n hx hb dX7_ticks_92 rfl (lv_at hl 1 rfl) ?_
      obtain ⟨v71, e_v71, hf⟩ := op_none hf
      refine w_iald hx hb hW iM2.1 (iM2.2 E _ _) e_v71 dX7_ticks_93 ?_
      refine lv_ixor hx hb dX7_ticks_94 ?_
      exact w_retI hx hb hr hlocks hW hV (Prod.mk.inj (Option.some.inj hf)).1 (Prod.mk.inj (Option.some.inj hf)).2 dX7_ticks_95
    have hf := op_f y64 hf
    by_cases y72 : a2 = (1 : Int32)
    · refine lv_tableIn (tgt := 106) (off := 105) hx hb dX7_ticks_1 (by rw [y72]; decide) (by rw [y72]; decide) (by rw [y72]; rfl) (by decide) ?_
      exact c_106 μ a1 a2 a3 hf H locs ls hW hV (lv_sub hl [0, 1, 2, 3] rfl)
    by_cases y73 : a2 = (3 : Int32)
    · refine lv_tableIn (tgt := 106) (off := 105) hx hb dX7_ticks_1 (by rw [y73]; decide) (by rw [y73]; decide) (by rw [y73]; rfl) (by decide) ?_
      exact c_106 μ a1 a2 a3 hf H locs ls hW hV (lv_sub hl [0, 1, 2, 3] rfl)
    by_cases y74 : a2 = (5 : Int32)
    · refine lv_tableIn (tgt := 106) (off := 105) hx hb dX7_ticks_1 (by rw [y74]; decide) (by rw [y74]; decide) (by rw [y74]; rfl) (by decide) ?_
      exact c_106 μ a1 a2 a3 hf H locs ls hW hV (lv_sub hl [0, 1, 2, 3] rfl)
    refine lv_tableOut (tgt := 106) hx hb dX7_ticks_1 (by have a_y44 := lv_neT (a := 0) y44 (by decide); have a_y48 := lv_neT (a := 2) y48 (by decide); have a_y56 := lv_neT (a := 4) y56 (by decide); have a_y64 := lv_neT (a := 6) y64 (by decide); have a_y72 := lv_neT (a := 1) y72 (by decide); have a_y73 := lv_neT (a := 3) y73 (by decide); have a_y74 := lv_neT (a := 5) y74 (by decide); omega) (by decide) ?_
    exact c_106 μ a1 a2 a3 hf H locs ls hW hV (lv_sub hl [0, 1, 2, 3] rfl)
theorem k_X7_ticks (l : Launch) (E : WE) (μ : Mem) (a1 : Int32) (a2 : Int32) (a3 : Int32) (r : Int32) (μ' : Mem) (hf : f_X7_ticks μ a1 a2 a3 = some (r, μ')) : Met l yX7_ticks (.code yX7_ticks cX7_ticks 4 (some .int) :: BIG) ({ frames := 9, cells := 0, slots := 0, locals := 205 }) (PW E μ [.ref (ead E 2000), .int a1, .int a2, .int a3]) (QI E r μ') 0 0 (eA E) := (kg_ticks l E 8) μ a1 a2 a3 r μ' hf
set_option maxHeartbeats 8000000 in
set_option maxRecDepth 100000 in
theorem kg_stirs (l : Launch) (E : WE) : ∀ d : Nat, (∀ (μ : Mem) (a1 : Int32) (a2 : Int32) (a3 : Int32) (r : Int32) (μ' : Mem) , (G_stirs d) μ a1 a2 a3 = some (r, μ') → Met l yX7_stirs (.code yX7_stirs cX7_stirs 5 (some .int) :: BIG) ({ frames := 10 + d, cells := 0, slots := 0, locals := 228 + d * 24 }) (PW E μ [.ref (ead E 2000), .int a1, .int a2, .int a3]) (QI E r μ') 0 0 (eA E)) := by
  intro d
  induction d with
  | zero =>
    intro μ a1 a2 a3 r μ' hf
    cases hf
  | succ d ih =>
    obtain ⟨G, hG⟩ : ∃ G : (Mem → Int32 → Int32 → Int32 → Option (Int32 × Mem)), G = G_stirs d := ⟨_, rfl⟩
    rw [← hG] at ih
    intro μ a1 a2 a3 r μ' hf
    have hf : b_X7_stirs G μ a1 a2 a3 = some (r, μ') := by rw [hG]; exact hf
    unfold b_X7_stirs at hf
    refine Met.ofW (cc := cX7_stirs) (maxL := 5) (ret := (some .int)) (by decide) rfl ?_
    intro p e s m args below meth c s₁ B hml hv
    obtain ⟨rfl, hW, hZ⟩ := hv
    have hx := B.exec
    have hb := B.bytes
    have hr := B.returns
    have hB : ∀ w ∈ BIG, w.before _ s = true := fun w h => atoms_spec (ws := (.code yX7_stirs cX7_stirs 5 (some .int) :: BIG)) B.pre w (List.mem_cons_of_mem _ h)
    have hown : s.vm.findClass RX7 = some m.cls := findClass_of_methodNamed B.named
    have hlocks := B.notSynchronized
    have hV : va_S (eA E) s.heap s.heap [] := va_S.rf
    have hl := lv_entry ([.ref (ead E 2000), .int a1, .int a2, .int a3]) (n := 5) (Nat.le_of_ble_eq_true rfl)
    rw [lg_entry_eq]
    generalize (lg_sl ([.ref (ead E 2000), .int a1, .int a2, .int a3]) ++ List.replicate (5 - (lg_sl ([.ref (ead E 2000), .int a1, .int a2, .int a3])).length) Slot.unset).toArray = ls at hl ⊢
    have hl : lv_has ls 5 [(0, .ref (ead E 2000)), (1, .int a1), (2, .int a2), (3, .int a3)] := hl
    have c_129 : ∀ (μ_129 : Mem) (b1_129 : Int32) (b2_129 : Int32) (b3_129 : Int32) , f_X7_stirs_129 G μ_129 b1_129 b2_129 b3_129 = some (r, μ') → ∀ (H : Heap) (locs : List Loc) (ls : Array Slot), Wd E μ_129 s H → va_S (eA E) s.heap H locs → lv_has ls 5 [(0, .ref (ead E 2000)), (1, .int b1_129), (2, .int b2_129), (3, .int b3_129)] → W p l e (headSpec (.code yX7_stirs cX7_stirs 5 (some .int) :: BIG) ({ frames := 10 + (d + 1), cells := 0, slots := 0, locals := 228 + (d + 1) * 24 })).room s m ([.ref (ead E 2000), .int a1, .int a2, .int a3] : List Value).toArray below meth c H locs 0 0 (MQ below (QI E r μ') ([.ref (ead E 2000), .int a1, .int a2, .int a3] : List Value).toArray s 0 0 (eA E)) (F0 m 129 ls []) := by
      intro μ_129 b1_129 b2_129 b3_129 hf H locs ls hW hV hl
      unfold f_X7_stirs_129 at hf
      refine lv_aload_n hx hb dX7_stirs_129 rfl (lv_at hl 0 rfl) ?_
      refine lv_iload_n hx hb dX7_stirs_130 rfl (lv_at hl 1 rfl) ?_
      refine lv_iload_n hx hb dX7_stirs_131 rfl (lv_at hl 2 rfl) ?_
      obtain ⟨v47, e_48, hf⟩ := op_none hf
      refine w_callI (rn_RX7_320 (As := [.int b2_129]) hx hb hml hown hB hW hZ hV (k_X7_above l E _ b2_129 v47 e_48) rfl rfl ⟨(by dsimp only [headSpec]; omega), (by dsimp only [headSpec]; omega)⟩ rfl hl.1 rfl (Nat.le_of_ble_eq_true rfl) dX7_stirs_132 ⟨Nat.le_refl _, Nat.le_refl _⟩) hV (fun H locs hW hV => ?_)
      refine lv_iload_n hx hb dX7_stirs_135 rfl (lv_at hl 3 rfl) ?_
      obtain ⟨p52, e_51, hf⟩ := op_none hf
      refine w_callI (rn_RX7_323 (As := [.int b1_129, .int v47, .int b3_129]) hx hb hml hown hB hW hZ hV (ih _ b1_129 v47 b3_129 p52.1 p52.2 e_51) rfl rfl ⟨(by dsimp only [headSpec]; omega), (by dsimp only [headSpec]; omega)⟩ (w_rec hW oM.1 (oM.2 E _ _) rfl) rfl hl.1 rfl (Nat.le_of_ble_eq_true rfl) dX7_stirs_136 ⟨Nat.le_refl _, Nat.le_refl _⟩) hV (fun H locs hW hV => ?_)
      exact w_retI hx hb hr hlocks hW hV (Prod.mk.inj (Option.some.inj hf)).1 (Prod.mk.inj (Option.some.inj hf)).2 dX7_stirs_139
    obtain ⟨H, hH⟩ : ∃ H : Heap, H = s.heap := ⟨_, rfl⟩
    obtain ⟨locs, hlocs⟩ : ∃ locs : List Loc, locs = [] := ⟨_, rfl⟩
    rw [show (W p l e (headSpec (.code yX7_stirs cX7_stirs 5 (some .int) :: BIG) ({ frames := 10 + (d + 1), cells := 0, slots := 0, locals := 228 + (d + 1) * 24 })).room s m ([.ref (ead E 2000), .int a1, .int a2, .int a3] : List Value).toArray below meth c s.heap [] 0 0) = W p l e (headSpec (.code yX7_stirs cX7_stirs 5 (some .int) :: BIG) ({ frames := 10 + (d + 1), cells := 0, slots := 0, locals := 228 + (d + 1) * 24 })).room s m ([.ref (ead E 2000), .int a1, .int a2, .int a3] : List Value).toArray below meth c H locs 0 0 by rw [hH, hlocs]]
    have hV : va_S (eA E) s.heap H locs := by rw [hH, hlocs]; exact hV
    have hW : Wd E μ s H := by rw [hH]; exact hW
    refine lv_iload_n hx hb dX7_stirs_0 rfl (lv_at hl 2 rfl) ?_
    by_cases y53 : a2 = (0 : Int32)
    · have hf := op_t y53 hf
      refine lv_tableIn (tgt := 103) (off := 102) hx hb dX7_stirs_1 (by rw [y53]; decide) (by rw [y53]; decide) (by rw [y53]; rfl) (by decide) ?_
      refine lv_aload_n hx hb dX7_stirs_103 rfl (lv_at hl 0 rfl) ?_
      refine lv_bipush (v := (11 : Int32)) hx hb dX7_stirs_104 (by decide) ?_
      obtain ⟨μ54, e_55, hf⟩ := op_none hf
      refine w_callV (rn_RX7_312 (As := [.int (11 : Int32)]) hx hb hml hown hB hW hZ hV (k_X7_ran l E _ (11 : Int32) μ54 e_55) rfl rfl ⟨(by dsimp only [headSpec]; omega), (by dsimp only [headSpec]; omega)⟩ (w_rec hW oM.1 (oM.2 E _ _) rfl) rfl hl.1 rfl (Nat.le_of_ble_eq_true rfl) dX7_stirs_106 ⟨Nat.le_refl _, Nat.le_refl _⟩) hV (fun H locs hW hV => ?_)
      refine lv_aload_n hx hb dX7_stirs_109 rfl (lv_at hl 0 rfl) ?_
      refine lv_iload_n hx hb dX7_stirs_110 rfl (lv_at hl 1 rfl) ?_
      refine lv_aload_n hx hb dX7_stirs_111 rfl (lv_at hl 0 rfl) ?_
      refine gf_RX7_9 hx hb hB hown hW dX7_stirs_112 ?_
      refine lv_iload_n hx hb dX7_stirs_115 rfl (lv_at hl 1 rfl) ?_
      obtain ⟨v56, e_v56, hf⟩ := op_none hf
      refine w_iald hx hb hW iM1.1 (iM1.2 E _ _) e_v56 dX7_stirs_116 ?_
      refine lv_iload_n hx hb dX7_stirs_117 rfl (lv_at hl 3 rfl) ?_
      obtain ⟨p60, e_59, hf⟩ := op_none hf
      refine w_callI (rn_RX7_316 (As := [.int a1, .int v56, .int a3]) hx hb hml hown hB hW hZ hV (k_X7_ticks l E _ a1 v56 a3 p60.1 p60.2 e_59) rfl rfl ⟨(by dsimp only [headSpec]; omega), (by dsimp only [headSpec]; omega)⟩ (w_rec hW oM.1 (oM.2 E _ _) rfl) rfl hl.1 rfl (Nat.le_of_ble_eq_true rfl) dX7_stirs_118 ⟨Nat.le_refl _, Nat.le_refl _⟩) hV (fun H locs hW hV => ?_)
      refine lv_aload_n hx hb dX7_stirs_121 rfl (lv_at hl 0 rfl) ?_
      refine gf_RX7_15 hx hb hB hown hW dX7_stirs_122 ?_
      refine lv_iload_n hx hb dX7_stirs_125 rfl (lv_at hl 1 rfl) ?_
      obtain ⟨v61, e_v61, hf⟩ := op_none hf
      refine w_iald hx hb hW iM2.1 (iM2.2 E _ _) e_v61 dX7_stirs_126 ?_
      refine lv_isub hx hb dX7_stirs_127 ?_
      exact w_retI hx hb hr hlocks hW hV (Prod.mk.inj (Option.some.inj hf)).1 (Prod.mk.inj (Option.some.inj hf)).2 dX7_stirs_128
    have hf := op_f y53 hf
    by_cases y62 : a2 = (1 : Int32)
    · have hf := op_t y62 hf
      refine lv_tableIn (tgt := 44) (off := 43) hx hb dX7_stirs_1 (by rw [y62]; decide) (by rw [y62]; decide) (by rw [y62]; rfl) (by decide) ?_
      refine lv_aload_n hx hb dX7_stirs_44 rfl (lv_at hl 0 rfl) ?_
      refine lv_bipush (v := (20 : Int32)) hx hb dX7_stirs_45 (by decide) ?_
      obtain ⟨μ63, e_64, hf⟩ := op_none hf
      refine w_callV (rn_RX7_312 (As := [.int (20 : Int32)]) hx hb hml hown hB hW hZ hV (k_X7_ran l E _ (20 : Int32) μ63 e_64) rfl rfl ⟨(by dsimp only [headSpec]; omega), (by dsimp only [headSpec]; omega)⟩ (w_rec hW oM.1 (oM.2 E _ _) rfl) rfl hl.1 rfl (Nat.le_of_ble_eq_true rfl) dX7_stirs_47 ⟨Nat.le_refl _, Nat.le_refl _⟩) hV (fun H locs hW hV => ?_)
      refine lv_aload_n hx hb dX7_stirs_50 rfl (lv_at hl 0 rfl) ?_
      refine lv_iload_n hx hb dX7_stirs_51 rfl (lv_at hl 1 rfl) ?_
      refine lv_iconst (v := (0 : Int32)) hx hb dX7_stirs_52 (by decide) ?_
      refine lv_iload_n hx hb dX7_stirs_53 rfl (lv_at hl 3 rfl) ?_
      obtain ⟨p68, e_67, hf⟩ := op_none hf
      refine w_callI (rn_RX7_323 (As := [.int a1, .int (0 : Int32), .int a3]) hx hb hml hown hB hW hZ hV (ih _ a1 (0 : Int32) a3 p68.1 p68.2 e_67) rfl rfl ⟨(by dsimp only [headSpec]; omega), (by dsimp only [headSpec]; omega)⟩ (w_rec hW oM.1 (oM.2 E _ _) rfl) rfl hl.1 rfl (Nat.le_of_ble_eq_true rfl) dX7_stirs_54 ⟨Nat.le_refl _, Nat.le_refl _⟩) hV (fun H locs hW hV => ?_)
      refine lv_bipush (v := (6 : Int32)) hx hb dX7_stirs_57 (by decide) ?_
      refine lv_ixor hx hb dX7_stirs_59 ?_
      exact w_retI hx hb hr hlocks hW hV (Prod.mk.inj (Option.some.inj hf)).1 (Prod.mk.inj (Option.some.inj hf)).2 dX7_stirs_60
    have hf := op_f y62 hf
    by_cases y71 : a2 = (4 : Int32)
    · have hf := op_t y71 hf
      refine lv_tableIn (tgt := 61) (off := 60) hx hb dX7_stirs_1 (by rw [y71]; decide) (by rw [y71]; decide) (by rw [y71]; rfl) (by decide) ?_
      refine lv_aload_n hx hb dX7_stirs_61 rfl (lv_at hl 0 rfl) ?_
      refine lv_bipush (v := (51 : Int32)) hx hb dX7_stirs_62 (by decide) ?_
      obtain ⟨μ72, e_73, hf⟩ := op_none hf
      refine w_callV (rn_RX7_312 (As := [.int (51 : Int32)]) hx hb hml hown hB hW hZ hV (k_X7_ran l E _ (51 : Int32) μ72 e_73) rfl rfl ⟨(by dsimp only [headSpec]; omega), (by dsimp only [headSpec]; omega)⟩ (w_rec hW oM.1 (oM.2 E _ _) rfl) rfl hl.1 rfl (Nat.le_of_ble_eq_true rfl) dX7_stirs_64 ⟨Nat.le_refl _, Nat.le_refl _⟩) hV (fun H locs hW hV => ?_)
      refine lv_aload_n hx hb dX7_stirs_67 rfl (lv_at hl 0 rfl) ?_
      refine lv_iload_n hx hb dX7_stirs_68 rfl (lv_at hl 1 rfl) ?_
      refine lv_iconst (v := (1 : Int32)) hx hb dX7_stirs_69 (by decide) ?_
      refine lv_iload_n hx hb dX7_stirs_70 rfl (lv_at hl 3 rfl) ?_
      refine lv_iconst (v := (1 : Int32)) hx hb dX7_stirs_71 (by decide) ?_
      refine lv_iadd hx hb dX7_stirs_72 ?_
      obtain ⟨p77, e_76, hf⟩ := op_none hf
      refine w_callI (rn_RX7_323 (As := [.int a1, .int (1 : Int32), .int (a3 + (1 : Int32))]) hx hb hml hown hB hW hZ hV (ih _ a1 (1 : Int32) (a3 + (1 : Int32)) p77.1 p77.2 e_76) rfl rfl ⟨(by dsimp only [headSpec]; omega), (by dsimp only [headSpec]; omega)⟩ (w_rec hW oM.1 (oM.2 E _ _) rfl) rfl hl.1 rfl (Nat.le_of_ble_eq_true rfl) dX7_stirs_73 ⟨Nat.le_refl _, Nat.le_refl _⟩) hV (fun H locs hW hV => ?_)
      exact w_retI hx hb hr hlocks hW hV (Prod.mk.inj (Option.some.inj hf)).1 (Prod.mk.inj (Option.some.inj hf)).2 dX7_stirs_76
    have hf := op_f y71 hf
    by_cases y79 : a2 = (6 : Int32)
    · have hf := op_t y79 hf
      refine lv_tableIn (tgt := 77) (off := 76) hx hb dX7_stirs_1 (by rw [y79]; decide) (by rw [y79]; decide) (by rw [y79]; rfl) (by decide) ?_
      refine lv_aload_n hx hb dX7_stirs_77 rfl (lv_at hl 0 rfl) ?_
      refine lv_bipush (v := (70 : Int32)) hx hb dX7_stirs_78 (by decide) ?_
      obtain ⟨μ80, e_81, hf⟩ := op_none hf
      refine w_callV (rn_RX7_312 (As := [.int (70 : Int32)]) hx hb hml hown hB hW hZ hV (k_X7_ran l E _ (70 : Int32) μ80 e_81) rfl rfl ⟨(by dsimp only [headSpec]; omega), (by dsimp only [headSpec]; omega)⟩ (w_rec hW oM.1 (oM.2 E _ _) rfl) rfl hl.1 rfl (Nat.le_of_ble_eq_true rfl) dX7_stirs_80 ⟨Nat.le_refl _, Nat.le_refl _⟩) hV (fun H locs hW hV => ?_)
      refine lv_aload_n hx hb dX7_stirs_83 rfl (lv_at hl 0 rfl) ?_
      refine lv_iload_n hx hb dX7_stirs_84 rfl (lv_at hl 1 rfl) ?_
      refine lv_iconst (v := (3 : Int32)) hx hb dX7_stirs_85 (by decide) ?_
      refine lv_iload_n hx hb dX7_stirs_86 rfl (lv_at hl 3 rfl) ?_
      obtain ⟨p85, e_84, hf⟩ := op_none hf
      refine w_callI (rn_RX7_323 (As := [.int a1, .int (3 : Int32), .int a3]) hx hb hml hown hB hW hZ hV (ih _ a1 (3 : Int32) a3 p85.1 p85.2 e_84) rfl rfl ⟨(by dsimp only [headSpec]; omega), (by dsimp only [headSpec]; omega)⟩ (w_rec hW oM.1 (oM.2 E _ _) rfl) rfl hl.1 rfl (Nat.le_of_ble_eq_true rfl) dX7_stirs_87 ⟨Nat.le_refl _, Nat.le_refl _⟩) hV (fun H locs hW hV => ?_)
      refine lv_istore (i := 4) (lv' := [(4, .int p85.1), (0, .ref (ead E 2000)), (1, .int a1), (2, .int a2), (3, .int a3)]) hx hb dX7_stirs_90 hl (by decide) rfl (fun ls hl => ?_)
      refine lv_iload hx hb dX7_stirs_92 (lv_at hl 0 rfl) ?_
      refine lv_aload_n hx hb dX7_stirs_94 rfl (lv_at hl 1 rfl) ?_
      refine lv_iload_n hx hb dX7_stirs_95 rfl (lv_at hl 2 rfl) ?_
      refine lv_iconst (v := (3 : Int32)) hx hb dX7_stirs_96 (by decide) ?_
      refine lv_iconst (v := (2 : Int32)) hx hb dX7_stirs_97 (by decide) ?_
      obtain ⟨p89, e_88, hf⟩ := op_none hf
      refine w_callI (rn_RX7_316 (As := [.int a1, .int (3 : Int32), .int (2 : Int32)]) hx hb hml hown hB hW hZ hV (k_X7_ticks l E _ a1 (3 : Int32) (2 : Int32) p89.1 p89.2 e_88) rfl rfl ⟨(by dsimp only [headSpec]; omega), (by dsimp only [headSpec]; omega)⟩ (w_rec hW oM.1 (oM.2 E _ _) rfl) rfl hl.1 rfl (Nat.le_of_ble_eq_true rfl) dX7_stirs_98 ⟨Nat.le_refl _, Nat.le_refl _⟩) hV (fun H locs hW hV => ?_)
      refine lv_iadd hx hb dX7_stirs_101 ?_
      exact w_retI hx hb hr hlocks hW hV (Prod.mk.inj (Option.some.inj hf)).1 (Prod.mk.inj (Option.some.inj hf)).2 dX7_stirs_102
    have hf := op_f y79 hf
    by_cases y90 : a2 = (2 : Int32)
    · refine lv_tableIn (tgt := 129) (off := 128) hx hb dX7_stirs_1 (by rw [y90]; decide) (by rw [y90]; decide) (by rw [y90]; rfl) (by decide) ?_
      exact c_129 μ a1 a2 a3 hf H locs ls hW hV (lv_sub hl [0, 1, 2, 3] rfl)
    by_cases y91 : a2 = (3 : Int32)
    · refine lv_tableIn (tgt := 129) (off := 128) hx hb dX7_stirs_1 (by rw [y91]; decide) (by rw [y91]; decide) (by rw [y91]; rfl) (by decide) ?_
      exact c_129 μ a1 a2 a3 hf H locs ls hW hV (lv_sub hl [0, 1, 2, 3] rfl)
    by_cases y92 : a2 = (5 : Int32)
    · refine lv_tableIn (tgt := 129) (off := 128) hx hb dX7_stirs_1 (by rw [y92]; decide) (by rw [y92]; decide) (by rw [y92]; rfl) (by decide) ?_
      exact c_129 μ a1 a2 a3 hf H locs ls hW hV (lv_sub hl [0, 1, 2, 3] rfl)
    refine lv_tableOut (tgt := 129) hx hb dX7_stirs_1 (by have a_y53 := lv_neT (a := 0) y53 (by decide); have a_y62 := lv_neT (a := 1) y62 (by decide); have a_y71 := lv_neT (a := 4) y71 (by decide); have a_y79 := lv_neT (a := 6) y79 (by decide); have a_y90 := lv_neT (a := 2) y90 (by decide); have a_y91 := lv_neT (a := 3) y91 (by decide); have a_y92 := lv_neT (a := 5) y92 (by decide); omega) (by decide) ?_
    exact c_129 μ a1 a2 a3 hf H locs ls hW hV (lv_sub hl [0, 1, 2, 3] rfl)
theorem k_X7_stirs (l : Launch) (E : WE) (μ : Mem) (a1 : Int32) (a2 : Int32) (a3 : Int32) (r : Int32) (μ' : Mem) (hf : f_X7_stirs μ a1 a2 a3 = some (r, μ')) : Met l yX7_stirs (.code yX7_stirs cX7_stirs 5 (some .int) :: BIG) ({ frames := 18, cells := 0, slots := 0, locals := 420 }) (PW E μ [.ref (ead E 2000), .int a1, .int a2, .int a3]) (QI E r μ') 0 0 (eA E) := (kg_stirs l E 8) μ a1 a2 a3 r μ' hf
set_option maxHeartbeats 8000000 in
set_option maxRecDepth 100000 in
theorem kg_tells (l : Launch) (E : WE) : ∀ d : Nat, (∀ (μ : Mem) (a1 : Int32) (a2 : Int32) (a3 : Int32) (r : Int32) (μ' : Mem) , (G_tells d) μ a1 a2 a3 = some (r, μ') → Met l yX7_tells (.code yX7_tells cX7_tells 5 (some .int) :: BIG) ({ frames := 19 + d, cells := 0, slots := 0, locals := 444 + d * 24 }) (PW E μ [.ref (ead E 2000), .int a1, .int a2, .int a3]) (QI E r μ') 0 0 (eA E)) := by
  intro d
  induction d with
  | zero =>
    intro μ a1 a2 a3 r μ' hf
    cases hf
  | succ d ih =>
    obtain ⟨G, hG⟩ : ∃ G : (Mem → Int32 → Int32 → Int32 → Option (Int32 × Mem)), G = G_tells d := ⟨_, rfl⟩
    rw [← hG] at ih
    intro μ a1 a2 a3 r μ' hf
    have hf : b_X7_tells G μ a1 a2 a3 = some (r, μ') := by rw [hG]; exact hf
    unfold b_X7_tells at hf
    refine Met.ofW (cc := cX7_tells) (maxL := 5) (ret := (some .int)) (by decide) rfl ?_
    intro p e s m args below meth c s₁ B hml hv
    obtain ⟨rfl, hW, hZ⟩ := hv
    have hx := B.exec
    have hb := B.bytes
    have hr := B.returns
    have hB : ∀ w ∈ BIG, w.before _ s = true := fun w h => atoms_spec (ws := (.code yX7_tells cX7_tells 5 (some .int) :: BIG)) B.pre w (List.mem_cons_of_mem _ h)
    have hown : s.vm.findClass RX7 = some m.cls := findClass_of_methodNamed B.named
    have hlocks := B.notSynchronized
    have hV : va_S (eA E) s.heap s.heap [] := va_S.rf
    have hl := lv_entry ([.ref (ead E 2000), .int a1, .int a2, .int a3]) (n := 5) (Nat.le_of_ble_eq_true rfl)
    rw [lg_entry_eq]
    generalize (lg_sl ([.ref (ead E 2000), .int a1, .int a2, .int a3]) ++ List.replicate (5 - (lg_sl ([.ref (ead E 2000), .int a1, .int a2, .int a3])).length) Slot.unset).toArray = ls at hl ⊢
    have hl : lv_has ls 5 [(0, .ref (ead E 2000)), (1, .int a1), (2, .int a2), (3, .int a3)] := hl
    obtain ⟨H, hH⟩ : ∃ H : Heap, H = s.heap := ⟨_, rfl⟩
    obtain ⟨locs, hlocs⟩ : ∃ locs : List Loc, locs = [] := ⟨_, rfl⟩
    rw [show (W p l e (headSpec (.code yX7_tells cX7_tells 5 (some .int) :: BIG) ({ frames := 19 + (d + 1), cells := 0, slots := 0, locals := 444 + (d + 1) * 24 })).room s m ([.ref (ead E 2000), .int a1, .int a2, .int a3] : List Value).toArray below meth c s.heap [] 0 0) = W p l e (headSpec (.code yX7_tells cX7_tells 5 (some .int) :: BIG) ({ frames := 19 + (d + 1), cells := 0, slots := 0, locals := 444 + (d + 1) * 24 })).room s m ([.ref (ead E 2000), .int a1, .int a2, .int a3] : List Value).toArray below meth c H locs 0 0 by rw [hH, hlocs]]
    have hV : va_S (eA E) s.heap H locs := by rw [hH, hlocs]; exact hV
    have hW : Wd E μ s H := by rw [hH]; exact hW
    refine lv_iload_n hx hb dX7_tells_0 rfl (lv_at hl 2 rfl) ?_
    by_cases y34 : a2 = (0 : Int32)
    · have hf := op_t y34 hf
      refine lv_lookup (tgt := 83) (off := 82) hx hb dX7_tells_1 (by decide) (by rw [y34]; decide) (by decide) ?_
      refine lv_aload_n hx hb dX7_tells_83 rfl (lv_at hl 0 rfl) ?_
      refine lv_bipush (v := (12 : Int32)) hx hb dX7_tells_84 (by decide) ?_
      obtain ⟨μ35, e_36, hf⟩ := op_none hf
      refine w_callV (rn_RX7_312 (As := [.int (12 : Int32)]) hx hb hml hown hB hW hZ hV (k_X7_ran l E _ (12 : Int32) μ35 e_36) rfl rfl ⟨(by dsimp only [headSpec]; omega), (by dsimp only [headSpec]; omega)⟩ (w_rec hW oM.1 (oM.2 E _ _) rfl) rfl hl.1 rfl (Nat.le_of_ble_eq_true rfl) dX7_tells_86 ⟨Nat.le_refl _, Nat.le_refl _⟩) hV (fun H locs hW hV => ?_)
      refine lv_aload_n hx hb dX7_tells_89 rfl (lv_at hl 0 rfl) ?_
      refine lv_iload_n hx hb dX7_tells_90 rfl (lv_at hl 1 rfl) ?_
      refine lv_aload_n hx hb dX7_tells_91 rfl (lv_at hl 0 rfl) ?_
      refine gf_RX7_9 hx hb hB hown hW dX7_tells_92 ?_
      refine lv_iload_n hx hb dX7_tells_95 rfl (lv_at hl 1 rfl) ?_
      obtain ⟨v37, e_v37, hf⟩ := op_none hf
      refine w_iald hx hb hW iM1.1 (iM1.2 E _ _) e_v37 dX7_tells_96 ?_
      refine lv_iload_n hx hb dX7_tells_97 rfl (lv_at hl 3 rfl) ?_
      obtain ⟨p41, e_40, hf⟩ := op_none hf
      refine w_callI (rn_RX7_323 (As := [.int a1, .int v37, .int a3]) hx hb hml hown hB hW hZ hV (k_X7_stirs l E _ a1 v37 a3 p41.1 p41.2 e_40) rfl rfl ⟨(by dsimp only [headSpec]; omega), (by dsimp only [headSpec]; omega)⟩ (w_rec hW oM.1 (oM.2 E _ _) rfl) rfl hl.1 rfl (Nat.le_of_ble_eq_true rfl) dX7_tells_98 ⟨Nat.le_refl _, Nat.le_refl _⟩) hV (fun H locs hW hV => ?_)
      refine lv_iconst (v := (2 : Int32)) hx hb dX7_tells_101 (by decide) ?_
      refine lv_imul hx hb dX7_tells_102 ?_
      exact w_retI hx hb hr hlocks hW hV (Prod.mk.inj (Option.some.inj hf)).1 (Prod.mk.inj (Option.some.inj hf)).2 dX7_tells_103
    have hf := op_f y34 hf
    by_cases y42 : a2 = (3 : Int32)
    · have hf := op_t y42 hf
      refine lv_lookup (tgt := 36) (off := 35) hx hb dX7_tells_1 (by decide) (by rw [y42]; decide) (by decide) ?_
      refine lv_aload_n hx hb dX7_tells_36 rfl (lv_at hl 0 rfl) ?_
      refine lv_bipush (v := (40 : Int32)) hx hb dX7_tells_37 (by decide) ?_
      obtain ⟨μ43, e_44, hf⟩ := op_none hf
      refine w_callV (rn_RX7_312 (As := [.int (40 : Int32)]) hx hb hml hown hB hW hZ hV (k_X7_ran l E _ (40 : Int32) μ43 e_44) rfl rfl ⟨(by dsimp only [headSpec]; omega), (by dsimp only [headSpec]; omega)⟩ (w_rec hW oM.1 (oM.2 E _ _) rfl) rfl hl.1 rfl (Nat.le_of_ble_eq_true rfl) dX7_tells_39 ⟨Nat.le_refl _, Nat.le_refl _⟩) hV (fun H locs hW hV => ?_)
      refine lv_aload_n hx hb dX7_tells_42 rfl (lv_at hl 0 rfl) ?_
      refine lv_iload_n hx hb dX7_tells_43 rfl (lv_at hl 1 rfl) ?_
      refine lv_iconst (v := (0 : Int32)) hx hb dX7_tells_44 (by decide) ?_
      refine lv_iload_n hx hb dX7_tells_45 rfl (lv_at hl 3 rfl) ?_
      obtain ⟨p48, e_47, hf⟩ := op_none hf
      refine w_callI (rn_RX7_326 (As := [.int a1, .int (0 : Int32), .int a3]) hx hb hml hown hB hW hZ hV (ih _ a1 (0 : Int32) a3 p48.1 p48.2 e_47) rfl rfl ⟨(by dsimp only [headSpec]; omega), (by dsimp only [headSpec]; omega)⟩ (w_rec hW oM.1 (oM.2 E _ _) rfl) rfl hl.1 rfl (Nat.le_of_ble_eq_true rfl) dX7_tells_46 ⟨Nat.le_refl _, Nat.le_refl _⟩) hV (fun H locs hW hV => ?_)
      refine lv_istore (i := 4) (lv' := [(4, .int p48.1), (0, .ref (ead E 2000)), (1, .int a1), (2, .int a2), (3, .int a3)]) hx hb dX7_tells_49 hl (by decide) rfl (fun ls hl => ?_)
      refine lv_iload hx hb dX7_tells_51 (lv_at hl 0 rfl) ?_
      refine lv_aload_n hx hb dX7_tells_53 rfl (lv_at hl 1 rfl) ?_
      refine lv_iload_n hx hb dX7_tells_54 rfl (lv_at hl 2 rfl) ?_
      refine lv_aload_n hx hb dX7_tells_55 rfl (lv_at hl 1 rfl) ?_
      refine gf_RX7_9 hx hb hB hown hW dX7_tells_56 ?_
      refine lv_iload_n hx hb dX7_tells_59 rfl (lv_at hl 2 rfl) ?_
      obtain ⟨v49, e_v49, hf⟩ := op_none hf
      refine w_iald hx hb hW iM1.1 (iM1.2 E _ _) e_v49 dX7_tells_60 ?_
      refine lv_iconst (v := (1 : Int32)) hx hb dX7_tells_61 (by decide) ?_
      obtain ⟨p53, e_52, hf⟩ := op_none hf
      refine w_callI (rn_RX7_323 (As := [.int a1, .int v49, .int (1 : Int32)]) hx hb hml hown hB hW hZ hV (k_X7_stirs l E _ a1 v49 (1 : Int32) p53.1 p53.2 e_52) rfl rfl ⟨(by dsimp only [headSpec]; omega), (by dsimp only [headSpec]; omega)⟩ (w_rec hW oM.1 (oM.2 E _ _) rfl) rfl hl.1 rfl (Nat.le_of_ble_eq_true rfl) dX7_tells_62 ⟨Nat.le_refl _, Nat.le_refl _⟩) hV (fun H locs hW hV => ?_)
      refine lv_iadd hx hb dX7_tells_65 ?_
      exact w_retI hx hb hr hlocks hW hV (Prod.mk.inj (Option.some.inj hf)).1 (Prod.mk.inj (Option.some.inj hf)).2 dX7_tells_66
    have hf := op_f y42 hf
    by_cases y54 : a2 = (5 : Int32)
    · have hf := op_t y54 hf
      refine lv_lookup (tgt := 67) (off := 66) hx hb dX7_tells_1 (by decide) (by rw [y54]; decide) (by decide) ?_
      refine lv_aload_n hx hb dX7_tells_67 rfl (lv_at hl 0 rfl) ?_
      refine lv_bipush (v := (60 : Int32)) hx hb dX7_tells_68 (by decide) ?_
      obtain ⟨μ55, e_56, hf⟩ := op_none hf
      refine w_callV (rn_RX7_312 (As := [.int (60 : Int32)]) hx hb hml hown hB hW hZ hV (k_X7_ran l E _ (60 : Int32) μ55 e_56) rfl rfl ⟨(by dsimp only [headSpec]; omega), (by dsimp only [headSpec]; omega)⟩ (w_rec hW oM.1 (oM.2 E _ _) rfl) rfl hl.1 rfl (Nat.le_of_ble_eq_true rfl) dX7_tells_70 ⟨Nat.le_refl _, Nat.le_refl _⟩) hV (fun H locs hW hV => ?_)
      refine lv_aload_n hx hb dX7_tells_73 rfl (lv_at hl 0 rfl) ?_
      refine lv_iload_n hx hb dX7_tells_74 rfl (lv_at hl 1 rfl) ?_
      refine lv_iconst (v := (2 : Int32)) hx hb dX7_tells_75 (by decide) ?_
      refine lv_iload_n hx hb dX7_tells_76 rfl (lv_at hl 3 rfl) ?_
      refine lv_iload_n hx hb dX7_tells_77 rfl (lv_at hl 1 rfl) ?_
      refine lv_isub hx hb dX7_tells_78 ?_
      obtain ⟨p60, e_59, hf⟩ := op_none hf
      refine w_callI (rn_RX7_326 (As := [.int a1, .int (2 : Int32), .int (a3 - a1)]) hx hb hml hown hB hW hZ hV (ih _ a1 (2 : Int32) (a3 - a1) p60.1 p60.2 e_59) rfl rfl ⟨(by dsimp only [headSpec]; omega), (by dsimp only [headSpec]; omega)⟩ (w_rec hW oM.1 (oM.2 E _ _) rfl) rfl hl.1 rfl (Nat.le_of_ble_eq_true rfl) dX7_tells_79 ⟨Nat.le_refl _, Nat.le_refl _⟩) hV (fun H locs hW hV => ?_)
      exact w_retI hx hb hr hlocks hW hV (Prod.mk.inj (Option.some.inj hf)).1 (Prod.mk.inj (Option.some.inj hf)).2 dX7_tells_82
    have hf := op_f y54 hf
    refine lv_lookup (tgt := 104) (off := 103) hx hb dX7_tells_1 (by decide) (by rw [lv_osw y34 (by decide)]; rw [lv_osw y42 (by decide)]; rw [lv_osw y54 (by decide)]; rfl) (by decide) ?_
    refine lv_aload_n hx hb dX7_tells_104 rfl (lv_at hl 0 rfl) ?_
    refine lv_iload_n hx hb dX7_tells_105 rfl (lv_at hl 1 rfl) ?_
    refine lv_iload_n hx hb dX7_tells_106 rfl (lv_at hl 2 rfl) ?_
    obtain ⟨v61, e_62, hf⟩ := op_none hf
    refine w_callI (rn_RX7_320 (As := [.int a2]) hx hb hml hown hB hW hZ hV (k_X7_above l E _ a2 v61 e_62) rfl rfl ⟨(by dsimp only [headSpec]; omega), (by dsimp only [headSpec]; omega)⟩ rfl hl.1 rfl (Nat.le_of_ble_eq_true rfl) dX7_tells_107 ⟨Nat.le_refl _, Nat.le_refl _⟩) hV (fun H locs hW hV => ?_)
    refine lv_iload_n hx hb dX7_tells_110 rfl (lv_at hl 3 rfl) ?_
    obtain ⟨p66, e_65, hf⟩ := op_none hf
    refine w_callI (rn_RX7_326 (As := [.int a1, .int v61, .int a3]) hx hb hml hown hB hW hZ hV (ih _ a1 v61 a3 p66.1 p66.2 e_65) rfl rfl ⟨(by dsimp only [headSpec]; omega), (by dsimp only [headSpec]; omega)⟩ (w_rec hW oM.1 (oM.2 E _ _) rfl) rfl hl.1 rfl (Nat.le_of_ble_eq_true rfl) dX7_tells_111 ⟨Nat.le_refl _, Nat.le_refl _⟩) hV (fun H locs hW hV => ?_)
    exact w_retI hx hb hr hlocks hW hV (Prod.mk.inj (Option.some.inj hf)).1 (Prod.mk.inj (Option.some.inj hf)).2 dX7_tells_114
theorem k_X7_tells (l : Launch) (E : WE) (μ : Mem) (a1 : Int32) (a2 : Int32) (a3 : Int32) (r : Int32) (μ' : Mem) (hf : f_X7_tells μ a1 a2 a3 = some (r, μ')) : Met l yX7_tells (.code yX7_tells cX7_tells 5 (some .int) :: BIG) ({ frames := 27, cells := 0, slots := 0, locals := 636 }) (PW E μ [.ref (ead E 2000), .int a1, .int a2, .int a3]) (QI E r μ') 0 0 (eA E) := (kg_tells l E 8) μ a1 a2 a3 r μ' hf
set_option maxHeartbeats 8000000 in
set_option maxRecDepth 100000 in
theorem k_X7_act (l : Launch) (E : WE) (μ : Mem) (a1 : Int32) (a2 : Int32) (a3 : Int32) (r : Int32) (μ' : Mem) (hf : f_X7_act μ a1 a2 a3 = some (r, μ')) : Met l yX7_act (.code yX7_act cX7_act 5 (some .int) :: BIG) ({ frames := 28, cells := 0, slots := 0, locals := 660 }) (PW E μ [.ref (ead E 2000), .int a1, .int a2, .int a3]) (QI E r μ') 0 0 (eA E) := by
  refine Met.ofW (cc := cX7_act) (maxL := 5) (ret := (some .int)) (by decide) rfl ?_
  intro p e s m args below meth c s₁ B hml hv
  obtain ⟨rfl, hW, hZ⟩ := hv
  have hx := B.exec
  have hb := B.bytes
  have hr := B.returns
  have hB : ∀ w ∈ BIG, w.before _ s = true := fun w h => atoms_spec (ws := (.code yX7_act cX7_act 5 (some .int) :: BIG)) B.pre w (List.mem_cons_of_mem _ h)
  have hown : s.vm.findClass RX7 = some m.cls := findClass_of_methodNamed B.named
  have hlocks := B.notSynchronized
  have hV : va_S (eA E) s.heap s.heap [] := va_S.rf
  have hl := lv_entry ([.ref (ead E 2000), .int a1, .int a2, .int a3]) (n := 5) (Nat.le_of_ble_eq_true rfl)
  rw [lg_entry_eq]
  generalize (lg_sl ([.ref (ead E 2000), .int a1, .int a2, .int a3]) ++ List.replicate (5 - (lg_sl ([.ref (ead E 2000), .int a1, .int a2, .int a3])).length) Slot.unset).toArray = ls at hl ⊢
  have hl : lv_has ls 5 [(0, .ref (ead E 2000)), (1, .int a1), (2, .int a2), (3, .int a3)] := hl
  obtain ⟨H, hH⟩ : ∃ H : Heap, H = s.heap := ⟨_, rfl⟩
  obtain ⟨locs, hlocs⟩ : ∃ locs : List Loc, locs = [] := ⟨_, rfl⟩
  rw [show (W p l e (headSpec (.code yX7_act cX7_act 5 (some .int) :: BIG) ({ frames := 28, cells := 0, slots := 0, locals := 660 })).room s m ([.ref (ead E 2000), .int a1, .int a2, .int a3] : List Value).toArray below meth c s.heap [] 0 0) = W p l e (headSpec (.code yX7_act cX7_act 5 (some .int) :: BIG) ({ frames := 28, cells := 0, slots := 0, locals := 660 })).room s m ([.ref (ead E 2000), .int a1, .int a2, .int a3] : List Value).toArray below meth c H locs 0 0 by rw [hH, hlocs]]
  have hV : va_S (eA E) s.heap H locs := by rw [hH, hlocs]; exact hV
  have hW : Wd E μ s H := by rw [hH]; exact hW
  unfold f_X7_act at hf
  refine lv_aload_n hx hb dX7_act_0 rfl (lv_at hl 0 rfl) ?_
  refine lv_iconst (v := (0 : Int32)) hx hb dX7_act_1 (by decide) ?_
  obtain ⟨μ23, e_μ23, hf⟩ := op_none hf
  refine pf_RX7_309 hx hb hB hown hW hV dX7_act_2 (fun H locs hW hV => ?_)
  rw [Option.some.inj e_μ23] at hW
  refine lv_aload_n hx hb dX7_act_5 rfl (lv_at hl 0 rfl) ?_
  refine lv_iload_n hx hb dX7_act_6 rfl (lv_at hl 1 rfl) ?_
  obtain ⟨v24, e_25, hf⟩ := op_none hf
  refine w_callN (rn_RX7_115 (As := [.int a1]) hx hb hml hown hB hW hZ hV (k_X7_isOne l E _ a1 v24 e_25) rfl rfl ⟨(Nat.le_of_ble_eq_true rfl), (Nat.le_of_ble_eq_true rfl)⟩ (w_rec hW oM.1 (oM.2 E _ _) rfl) rfl hl.1 rfl (Nat.le_of_ble_eq_true rfl) dX7_act_7 ⟨Nat.le_refl _, Nat.le_refl _⟩) hV (fun H locs hn_v24 hW hV => ?_)
  refine lv_if_eq (tgt := 22) hx hb dX7_act_10 (by decide) (fun y26 => ?_) (fun y26 => ?_)
  · have hf := op_t y26 hf
    refine lv_iconst (v := (0 : Int32)) hx hb dX7_act_22 (by decide) ?_
    exact w_retI hx hb hr hlocks hW hV (Prod.mk.inj (Option.some.inj hf)).1 (Prod.mk.inj (Option.some.inj hf)).2 dX7_act_23
  · have hf := op_f y26 hf
    refine lv_iload_n hx hb dX7_act_13 rfl (lv_at hl 2 rfl) ?_
    refine lv_iconst (v := (0 : Int32)) hx hb dX7_act_14 (by decide) ?_
    refine lv_iconst (v := (2 : Int32)) hx hb dX7_act_15 (by decide) ?_
    obtain ⟨v27, e_28, hf⟩ := op_none hf
    refine w_callN (rn_RX7_111 (As := [.int a2, .int (0 : Int32), .int (2 : Int32)]) hx hb hml hown hB hW hZ hV (k_X7_within l E _ a2 (0 : Int32) (2 : Int32) v27 e_28) rfl rfl ⟨(Nat.le_of_ble_eq_true rfl), (Nat.le_of_ble_eq_true rfl)⟩ rfl hl.1 rfl (Nat.le_of_ble_eq_true rfl) dX7_act_16 ⟨Nat.le_refl _, Nat.le_refl _⟩) hV (fun H locs hn_v27 hW hV => ?_)
    refine lv_if_ne (tgt := 24) hx hb dX7_act_19 (by decide) (fun y29 => ?_) (fun y29 => ?_)
    · have hf := op_f y29 hf
      refine lv_aload_n hx hb dX7_act_24 rfl (lv_at hl 0 rfl) ?_
      refine gf_RX7_9 hx hb hB hown hW dX7_act_25 ?_
      refine lv_iload_n hx hb dX7_act_28 rfl (lv_at hl 1 rfl) ?_
      obtain ⟨v30, e_v30, hf⟩ := op_none hf
      refine w_iald hx hb hW iM1.1 (iM1.2 E _ _) e_v30 dX7_act_29 ?_
      refine lv_istore (i := 4) (lv' := [(4, .int v30), (0, .ref (ead E 2000)), (1, .int a1), (2, .int a2), (3, .int a3)]) hx hb dX7_act_30 hl (by decide) rfl (fun ls hl => ?_)
      refine lv_iload_n hx hb dX7_act_32 rfl (lv_at hl 3 rfl) ?_
      refine lv_if_ne (tgt := 47) hx hb dX7_act_33 (by decide) (fun y31 => ?_) (fun y31 => ?_)
      · have hf := op_f y31 hf
        refine lv_iload_n hx hb dX7_act_47 rfl (lv_at hl 3 rfl) ?_
        refine lv_iconst (v := (1 : Int32)) hx hb dX7_act_48 (by decide) ?_
        refine lv_icmp_ne (tgt := 63) hx hb dX7_act_49 (by decide) (fun y32 => ?_) (fun y32 => ?_)
        · have hf := op_f y32 hf
          refine lv_aload_n hx hb dX7_act_63 rfl (lv_at hl 1 rfl) ?_
          refine lv_iload_n hx hb dX7_act_64 rfl (lv_at hl 2 rfl) ?_
          refine lv_iload hx hb dX7_act_65 (lv_at hl 0 rfl) ?_
          refine lv_iload_n hx hb dX7_act_67 rfl (lv_at hl 4 rfl) ?_
          obtain ⟨p36, e_35, hf⟩ := op_none hf
          refine w_callI (rn_RX7_326 (As := [.int a1, .int v30, .int a3]) hx hb hml hown hB hW hZ hV (k_X7_tells l E _ a1 v30 a3 p36.1 p36.2 e_35) rfl rfl ⟨(Nat.le_of_ble_eq_true rfl), (Nat.le_of_ble_eq_true rfl)⟩ (w_rec hW oM.1 (oM.2 E _ _) rfl) rfl hl.1 rfl (Nat.le_of_ble_eq_true rfl) dX7_act_68 ⟨Nat.le_refl _, Nat.le_refl _⟩) hV (fun H locs hW hV => ?_)
          exact w_retI hx hb hr hlocks hW hV (Prod.mk.inj (Option.some.inj hf)).1 (Prod.mk.inj (Option.some.inj hf)).2 dX7_act_71
        · have hf := op_t y32 hf
          refine lv_aload_n hx hb dX7_act_52 rfl (lv_at hl 1 rfl) ?_
          refine lv_iload_n hx hb dX7_act_53 rfl (lv_at hl 2 rfl) ?_
          refine lv_iload hx hb dX7_act_54 (lv_at hl 0 rfl) ?_
          refine lv_iload_n hx hb dX7_act_56 rfl (lv_at hl 4 rfl) ?_
          obtain ⟨p40, e_39, hf⟩ := op_none hf
          refine w_callI (rn_RX7_323 (As := [.int a1, .int v30, .int a3]) hx hb hml hown hB hW hZ hV (k_X7_stirs l E _ a1 v30 a3 p40.1 p40.2 e_39) rfl rfl ⟨(Nat.le_of_ble_eq_true rfl), (Nat.le_of_ble_eq_true rfl)⟩ (w_rec hW oM.1 (oM.2 E _ _) rfl) rfl hl.1 rfl (Nat.le_of_ble_eq_true rfl) dX7_act_57 ⟨Nat.le_refl _, Nat.le_refl _⟩) hV (fun H locs hW hV => ?_)
          refine lv_goto (tgt := 71) hx hb dX7_act_60 (by decide) ?_
          exact w_retI hx hb hr hlocks hW hV (Prod.mk.inj (Option.some.inj hf)).1 (Prod.mk.inj (Option.some.inj hf)).2 dX7_act_71
      · have hf := op_t y31 hf
        refine lv_aload_n hx hb dX7_act_36 rfl (lv_at hl 1 rfl) ?_
        refine lv_iload_n hx hb dX7_act_37 rfl (lv_at hl 2 rfl) ?_
        refine lv_iload hx hb dX7_act_38 (lv_at hl 0 rfl) ?_
        refine lv_iload_n hx hb dX7_act_40 rfl (lv_at hl 4 rfl) ?_
        obtain ⟨p44, e_43, hf⟩ := op_none hf
        refine w_callI (rn_RX7_316 (As := [.int a1, .int v30, .int a3]) hx hb hml hown hB hW hZ hV (k_X7_ticks l E _ a1 v30 a3 p44.1 p44.2 e_43) rfl rfl ⟨(Nat.le_of_ble_eq_true rfl), (Nat.le_of_ble_eq_true rfl)⟩ (w_rec hW oM.1 (oM.2 E _ _) rfl) rfl hl.1 rfl (Nat.le_of_ble_eq_true rfl) dX7_act_41 ⟨Nat.le_refl _, Nat.le_refl _⟩) hV (fun H locs hW hV => ?_)
        refine lv_goto (tgt := 71) hx hb dX7_act_44 (by decide) ?_
        exact w_retI hx hb hr hlocks hW hV (Prod.mk.inj (Option.some.inj hf)).1 (Prod.mk.inj (Option.some.inj hf)).2 dX7_act_71
    · have hf := op_t y29 hf
      refine lv_iconst (v := (0 : Int32)) hx hb dX7_act_22 (by decide) ?_
      exact w_retI hx hb hr hlocks hW hV (Prod.mk.inj (Option.some.inj hf)).1 (Prod.mk.inj (Option.some.inj hf)).2 dX7_act_23
set_option maxHeartbeats 8000000 in
set_option maxRecDepth 100000 in
theorem k_X7_trace (l : Launch) (E : WE) (μ : Mem) (a1 : Int32) (r : Int32) (hf : f_X7_trace μ a1 = some r) : Met l yX7_trace (.code yX7_trace cX7_trace 2 (some .int) :: BIG) ({ frames := 1, cells := 0, slots := 0, locals := 40 }) (PW E μ [.ref (ead E 2000), .int a1]) (QI E r μ) 0 0 (eA E) := by
  refine Met.ofW (cc := cX7_trace) (maxL := 2) (ret := (some .int)) (by decide) rfl ?_
  intro p e s m args below meth c s₁ B hml hv
  obtain ⟨rfl, hW, hZ⟩ := hv
  have hx := B.exec
  have hb := B.bytes
  have hr := B.returns
  have hB : ∀ w ∈ BIG, w.before _ s = true := fun w h => atoms_spec (ws := (.code yX7_trace cX7_trace 2 (some .int) :: BIG)) B.pre w (List.mem_cons_of_mem _ h)
  have hown : s.vm.findClass RX7 = some m.cls := findClass_of_methodNamed B.named
  have hlocks := B.notSynchronized
  have hV : va_S (eA E) s.heap s.heap [] := va_S.rf
  have hl := lv_entry ([.ref (ead E 2000), .int a1]) (n := 2) (Nat.le_of_ble_eq_true rfl)
  rw [lg_entry_eq]
  generalize (lg_sl ([.ref (ead E 2000), .int a1]) ++ List.replicate (2 - (lg_sl ([.ref (ead E 2000), .int a1])).length) Slot.unset).toArray = ls at hl ⊢
  have hl : lv_has ls 2 [(0, .ref (ead E 2000)), (1, .int a1)] := hl
  obtain ⟨H, hH⟩ : ∃ H : Heap, H = s.heap := ⟨_, rfl⟩
  obtain ⟨locs, hlocs⟩ : ∃ locs : List Loc, locs = [] := ⟨_, rfl⟩
  rw [show (W p l e (headSpec (.code yX7_trace cX7_trace 2 (some .int) :: BIG) ({ frames := 1, cells := 0, slots := 0, locals := 40 })).room s m ([.ref (ead E 2000), .int a1] : List Value).toArray below meth c s.heap [] 0 0) = W p l e (headSpec (.code yX7_trace cX7_trace 2 (some .int) :: BIG) ({ frames := 1, cells := 0, slots := 0, locals := 40 })).room s m ([.ref (ead E 2000), .int a1] : List Value).toArray below meth c H locs 0 0 by rw [hH, hlocs]]
  have hV : va_S (eA E) s.heap H locs := by rw [hH, hlocs]; exact hV
  have hW : Wd E μ s H := by rw [hH]; exact hW
  unfold f_X7_trace at hf
  refine lv_iload_n hx hb dX7_trace_0 rfl (lv_at hl 1 rfl) ?_
  refine lv_iconst (v := (0 : Int32)) hx hb dX7_trace_1 (by decide) ?_
  refine lv_bipush (v := (20 : Int32)) hx hb dX7_trace_2 (by decide) ?_
  refine lv_aload_n hx hb dX7_trace_4 rfl (lv_at hl 0 rfl) ?_
  refine gf_RX7_309 hx hb hB hown hW dX7_trace_5 ?_
  refine va_mmin hx hb (hml.trans hl.1.symm) hown (hB _ q_39dd62f4) (hB _ q_6443835c) (hB _ q_544deca7) (hB _ q_4cca8523) (Nat.le_of_ble_eq_true rfl) (Nat.le_of_ble_eq_true rfl) (Nat.le_of_ble_eq_true rfl) (Nat.le_of_ble_eq_true rfl) dX7_trace_8 ?_
  refine lv_iconst (v := (1 : Int32)) hx hb dX7_trace_11 (by decide) ?_
  refine lv_isub hx hb dX7_trace_12 ?_
  obtain ⟨v5, e_6, hf⟩ := op_none hf
  refine w_callN (rn_RX7_111 (As := [.int a1, .int (0 : Int32), .int ((if (gI μ 2000 37) < (20 : Int32) then (gI μ 2000 37) else (20 : Int32)) - (1 : Int32))]) hx hb hml hown hB hW hZ hV (k_X7_within l E _ a1 (0 : Int32) ((if (gI μ 2000 37) < (20 : Int32) then (gI μ 2000 37) else (20 : Int32)) - (1 : Int32)) v5 e_6) rfl rfl ⟨(Nat.le_of_ble_eq_true rfl), (Nat.le_of_ble_eq_true rfl)⟩ rfl hl.1 rfl (Nat.le_of_ble_eq_true rfl) dX7_trace_13 ⟨Nat.le_refl _, Nat.le_refl _⟩) hV (fun H locs hn_v5 hW hV => ?_)
  refine lv_if_eq (tgt := 28) hx hb dX7_trace_16 (by decide) (fun y7 => ?_) (fun y7 => ?_)
  · have hf := op_t y7 hf
    refine lv_iconst (v := (-1 : Int32)) hx hb dX7_trace_28 (by decide) ?_
    exact w_retI hx hb hr hlocks hW hV (Option.some.inj hf) rfl dX7_trace_29
  · have hf := op_f y7 hf
    refine lv_aload_n hx hb dX7_trace_19 rfl (lv_at hl 0 rfl) ?_
    refine gf_RX7_82 hx hb hB hown hW dX7_trace_20 ?_
    refine lv_iload_n hx hb dX7_trace_23 rfl (lv_at hl 1 rfl) ?_
    obtain ⟨v8, e_v8, hf⟩ := op_none hf
    refine w_iald hx hb hW iM38.1 (iM38.2 E _ _) e_v8 dX7_trace_24 ?_
    refine lv_goto (tgt := 29) hx hb dX7_trace_25 (by decide) ?_
    exact w_retI hx hb hr hlocks hW hV (Option.some.inj hf) rfl dX7_trace_29
set_option maxHeartbeats 8000000 in
set_option maxRecDepth 100000 in
theorem k_X7_taken (l : Launch) (E : WE) (μ : Mem) (a1 : Int32) (a2 : Int32) (r : Int32) (hf : f_X7_taken μ a1 a2 = some r) : Met l yX7_taken (.code yX7_taken cX7_taken 4 (some .int) :: BIG) ({ frames := 2, cells := 0, slots := 0, locals := 43 }) (PW E μ [.ref (ead E 2000), .int a1, .int a2]) (QI E r μ) 0 0 (eA E) := by
  refine Met.ofW (cc := cX7_taken) (maxL := 4) (ret := (some .int)) (by decide) rfl ?_
  intro p e s m args below meth c s₁ B hml hv
  obtain ⟨rfl, hW, hZ⟩ := hv
  have hx := B.exec
  have hb := B.bytes
  have hr := B.returns
  have hB : ∀ w ∈ BIG, w.before _ s = true := fun w h => atoms_spec (ws := (.code yX7_taken cX7_taken 4 (some .int) :: BIG)) B.pre w (List.mem_cons_of_mem _ h)
  have hown : s.vm.findClass RX7 = some m.cls := findClass_of_methodNamed B.named
  have hlocks := B.notSynchronized
  have hV : va_S (eA E) s.heap s.heap [] := va_S.rf
  have hl := lv_entry ([.ref (ead E 2000), .int a1, .int a2]) (n := 4) (Nat.le_of_ble_eq_true rfl)
  rw [lg_entry_eq]
  generalize (lg_sl ([.ref (ead E 2000), .int a1, .int a2]) ++ List.replicate (4 - (lg_sl ([.ref (ead E 2000), .int a1, .int a2])).length) Slot.unset).toArray = ls at hl ⊢
  have hl : lv_has ls 4 [(0, .ref (ead E 2000)), (1, .int a1), (2, .int a2)] := hl
  have c_48 : ∀ (b1_48 : Int32) (b2_48 : Int32) (b3_48 : Int32) , f_X7_taken_48 μ b1_48 b2_48 b3_48 = some r → ∀ (H : Heap) (locs : List Loc) (ls : Array Slot), Wd E μ s H → va_S (eA E) s.heap H locs → lv_has ls 4 [(0, .ref (ead E 2000)), (1, .int b1_48), (2, .int b2_48), (3, .int b3_48)] → W p l e (headSpec (.code yX7_taken cX7_taken 4 (some .int) :: BIG) ({ frames := 2, cells := 0, slots := 0, locals := 43 })).room s m ([.ref (ead E 2000), .int a1, .int a2] : List Value).toArray below meth c H locs 0 0 (MQ below (QI E r μ) ([.ref (ead E 2000), .int a1, .int a2] : List Value).toArray s 0 0 (eA E)) (F0 m 48 ls []) := by
    intro b1_48 b2_48 b3_48 hf H locs ls hW hV hl
    unfold f_X7_taken_48 at hf
    refine lv_iload_n hx hb dX7_taken_48 rfl (lv_at hl 3 rfl) ?_
    refine lv_iload_n hx hb dX7_taken_49 rfl (lv_at hl 2 rfl) ?_
    refine lv_icmp_ne (tgt := 62) hx hb dX7_taken_50 (by decide) (fun y14 => ?_) (fun y14 => ?_)
    · have hf := op_f y14 hf
      refine lv_bipush (v := (-12 : Int32)) hx hb dX7_taken_62 (by decide) ?_
      exact w_retI hx hb hr hlocks hW hV (Option.some.inj hf) rfl dX7_taken_64
    · have hf := op_t y14 hf
      refine lv_aload_n hx hb dX7_taken_53 rfl (lv_at hl 0 rfl) ?_
      refine gf_RX7_9 hx hb hB hown hW dX7_taken_54 ?_
      refine lv_iload_n hx hb dX7_taken_57 rfl (lv_at hl 1 rfl) ?_
      obtain ⟨v15, e_v15, hf⟩ := op_none hf
      refine w_iald hx hb hW iM1.1 (iM1.2 E _ _) e_v15 dX7_taken_58 ?_
      refine lv_goto (tgt := 64) hx hb dX7_taken_59 (by decide) ?_
      exact w_retI hx hb hr hlocks hW hV (Option.some.inj hf) rfl dX7_taken_64
  have c_31 : ∀ (n_31 : Nat) (b1_31 : Int32) (b2_31 : Int32) (b3_31 : Int32) , f_X7_taken_31 μ n_31 b1_31 b2_31 b3_31 = some r → ∀ (H : Heap) (locs : List Loc) (ls : Array Slot), Wd E μ s H → va_S (eA E) s.heap H locs → lv_has ls 4 [(0, .ref (ead E 2000)), (1, .int b1_31), (2, .int b2_31), (3, .int b3_31)] → W p l e (headSpec (.code yX7_taken cX7_taken 4 (some .int) :: BIG) ({ frames := 2, cells := 0, slots := 0, locals := 43 })).room s m ([.ref (ead E 2000), .int a1, .int a2] : List Value).toArray below meth c H locs 0 0 (MQ below (QI E r μ) ([.ref (ead E 2000), .int a1, .int a2] : List Value).toArray s 0 0 (eA E)) (F0 m 31 ls []) := by
    intro n_31
    induction n_31 with
    | zero =>
      intro b1_31 b2_31 b3_31 hf H locs ls hW hV hl
      cases hf
    | succ n_31 ih_31 =>
      intro b1_31 b2_31 b3_31 hf H locs ls hW hV hl
      rw [f_X7_taken_31] at hf
      refine lv_iload_n hx hb dX7_taken_31 rfl (lv_at hl 3 rfl) ?_
      refine lv_iload_n hx hb dX7_taken_32 rfl (lv_at hl 2 rfl) ?_
      refine lv_icmp_eq (tgt := 48) hx hb dX7_taken_33 (by decide) (fun y16 => ?_) (fun y16 => ?_)
      · have hf := op_t y16 hf
        exact c_48 b1_31 b2_31 b3_31 hf H locs ls hW hV (lv_sub hl [0, 1, 2, 3] rfl)
      · have hf := op_f y16 hf
        refine lv_iload_n hx hb dX7_taken_36 rfl (lv_at hl 3 rfl) ?_
        refine lv_if_le (tgt := 48) hx hb dX7_taken_37 (by decide) (fun y17 => ?_) (fun y17 => ?_)
        · have hf := op_t y17 hf
          exact c_48 b1_31 b2_31 b3_31 hf H locs ls hW hV (lv_sub hl [0, 1, 2, 3] rfl)
        · have hf := op_f y17 hf
          refine lv_iload_n hx hb dX7_taken_40 rfl (lv_at hl 3 rfl) ?_
          obtain ⟨v18, e_19, hf⟩ := op_none hf
          refine w_callI (rn_RX7_320 (As := [.int b3_31]) hx hb hml hown hB hW hZ hV (k_X7_above l E _ b3_31 v18 e_19) rfl rfl ⟨(Nat.le_of_ble_eq_true rfl), (Nat.le_of_ble_eq_true rfl)⟩ rfl hl.1 rfl (Nat.le_of_ble_eq_true rfl) dX7_taken_41 ⟨Nat.le_refl _, Nat.le_refl _⟩) hV (fun H locs hW hV => ?_)
          refine lv_istore_n (i := 3) (lv' := [(3, .int v18), (0, .ref (ead E 2000)), (1, .int b1_31), (2, .int b2_31)]) hx hb dX7_taken_44 rfl hl (by decide) rfl (fun ls hl => ?_)
          refine lv_goto (tgt := 31) hx hb dX7_taken_45 (by decide) ?_
          exact ih_31 b1_31 b2_31 v18 hf H locs ls hW hV (lv_sub hl [1, 2, 3, 0] rfl)
  obtain ⟨H, hH⟩ : ∃ H : Heap, H = s.heap := ⟨_, rfl⟩
  obtain ⟨locs, hlocs⟩ : ∃ locs : List Loc, locs = [] := ⟨_, rfl⟩
  rw [show (W p l e (headSpec (.code yX7_taken cX7_taken 4 (some .int) :: BIG) ({ frames := 2, cells := 0, slots := 0, locals := 43 })).room s m ([.ref (ead E 2000), .int a1, .int a2] : List Value).toArray below meth c s.heap [] 0 0) = W p l e (headSpec (.code yX7_taken cX7_taken 4 (some .int) :: BIG) ({ frames := 2, cells := 0, slots := 0, locals := 43 })).room s m ([.ref (ead E 2000), .int a1, .int a2] : List Value).toArray below meth c H locs 0 0 by rw [hH, hlocs]]
  have hV : va_S (eA E) s.heap H locs := by rw [hH, hlocs]; exact hV
  have hW : Wd E μ s H := by rw [hH]; exact hW
  unfold f_X7_taken at hf
  refine lv_iload_n hx hb dX7_taken_0 rfl (lv_at hl 2 rfl) ?_
  refine lv_iconst (v := (0 : Int32)) hx hb dX7_taken_1 (by decide) ?_
  refine lv_bipush (v := (6 : Int32)) hx hb dX7_taken_2 (by decide) ?_
  obtain ⟨v20, e_21, hf⟩ := op_none hf
  refine w_callN (rn_RX7_111 (As := [.int a2, .int (0 : Int32), .int (6 : Int32)]) hx hb hml hown hB hW hZ hV (k_X7_within l E _ a2 (0 : Int32) (6 : Int32) v20 e_21) rfl rfl ⟨(Nat.le_of_ble_eq_true rfl), (Nat.le_of_ble_eq_true rfl)⟩ rfl hl.1 rfl (Nat.le_of_ble_eq_true rfl) dX7_taken_4 ⟨Nat.le_refl _, Nat.le_refl _⟩) hV (fun H locs hn_v20 hW hV => ?_)
  refine lv_if_ne (tgt := 13) hx hb dX7_taken_7 (by decide) (fun y22 => ?_) (fun y22 => ?_)
  · have hf := op_f y22 hf
    refine lv_aload_n hx hb dX7_taken_13 rfl (lv_at hl 0 rfl) ?_
    refine lv_iload_n hx hb dX7_taken_14 rfl (lv_at hl 1 rfl) ?_
    obtain ⟨v23, e_24, hf⟩ := op_none hf
    refine w_callN (rn_RX7_115 (As := [.int a1]) hx hb hml hown hB hW hZ hV (k_X7_isOne l E _ a1 v23 e_24) rfl rfl ⟨(Nat.le_of_ble_eq_true rfl), (Nat.le_of_ble_eq_true rfl)⟩ (w_rec hW oM.1 (oM.2 E _ _) rfl) rfl hl.1 rfl (Nat.le_of_ble_eq_true rfl) dX7_taken_15 ⟨Nat.le_refl _, Nat.le_refl _⟩) hV (fun H locs hn_v23 hW hV => ?_)
    refine lv_if_ne (tgt := 24) hx hb dX7_taken_18 (by decide) (fun y25 => ?_) (fun y25 => ?_)
    · have hf := op_f y25 hf
      refine lv_aload_n hx hb dX7_taken_24 rfl (lv_at hl 0 rfl) ?_
      refine gf_RX7_9 hx hb hB hown hW dX7_taken_25 ?_
      refine lv_iload_n hx hb dX7_taken_28 rfl (lv_at hl 1 rfl) ?_
      obtain ⟨v26, e_v26, hf⟩ := op_none hf
      refine w_iald hx hb hW iM1.1 (iM1.2 E _ _) e_v26 dX7_taken_29 ?_
      refine lv_istore_n (i := 3) (lv' := [(3, .int v26), (0, .ref (ead E 2000)), (1, .int a1), (2, .int a2)]) hx hb dX7_taken_30 rfl hl (by decide) rfl (fun ls hl => ?_)
      exact c_31 FU a1 a2 v26 hf H locs ls hW hV (lv_sub hl [1, 2, 3, 0] rfl)
    · have hf := op_t y25 hf
      refine lv_bipush (v := (-11 : Int32)) hx hb dX7_taken_21 (by decide) ?_
      exact w_retI hx hb hr hlocks hW hV (Option.some.inj hf) rfl dX7_taken_23
  · have hf := op_t y22 hf
    refine lv_bipush (v := (-2 : Int32)) hx hb dX7_taken_10 (by decide) ?_
    exact w_retI hx hb hr hlocks hW hV (Option.some.inj hf) rfl dX7_taken_12
set_option maxHeartbeats 8000000 in
set_option maxRecDepth 100000 in
theorem k_X7_count (l : Launch) (E : WE) (μ : Mem) (a1 : Int32) (r : Int32) (hf : f_X7_count μ a1 = some r) : Met l yX7_count (.code yX7_count cX7_count 2 (some .int) :: BIG) ({ frames := 0, cells := 0, slots := 0, locals := 0 }) (PW E μ [.ref (ead E 2000), .int a1]) (QI E r μ) 0 0 (eA E) := by
  refine Met.ofW (cc := cX7_count) (maxL := 2) (ret := (some .int)) (by decide) rfl ?_
  intro p e s m args below meth c s₁ B hml hv
  obtain ⟨rfl, hW, hZ⟩ := hv
  have hx := B.exec
  have hb := B.bytes
  have hr := B.returns
  have hB : ∀ w ∈ BIG, w.before _ s = true := fun w h => atoms_spec (ws := (.code yX7_count cX7_count 2 (some .int) :: BIG)) B.pre w (List.mem_cons_of_mem _ h)
  have hown : s.vm.findClass RX7 = some m.cls := findClass_of_methodNamed B.named
  have hlocks := B.notSynchronized
  have hV : va_S (eA E) s.heap s.heap [] := va_S.rf
  have hl := lv_entry ([.ref (ead E 2000), .int a1]) (n := 2) (Nat.le_of_ble_eq_true rfl)
  rw [lg_entry_eq]
  generalize (lg_sl ([.ref (ead E 2000), .int a1]) ++ List.replicate (2 - (lg_sl ([.ref (ead E 2000), .int a1])).length) Slot.unset).toArray = ls at hl ⊢
  have hl : lv_has ls 2 [(0, .ref (ead E 2000)), (1, .int a1)] := hl
  obtain ⟨H, hH⟩ : ∃ H : Heap, H = s.heap := ⟨_, rfl⟩
  obtain ⟨locs, hlocs⟩ : ∃ locs : List Loc, locs = [] := ⟨_, rfl⟩
  rw [show (W p l e (headSpec (.code yX7_count cX7_count 2 (some .int) :: BIG) ({ frames := 0, cells := 0, slots := 0, locals := 0 })).room s m ([.ref (ead E 2000), .int a1] : List Value).toArray below meth c s.heap [] 0 0) = W p l e (headSpec (.code yX7_count cX7_count 2 (some .int) :: BIG) ({ frames := 0, cells := 0, slots := 0, locals := 0 })).room s m ([.ref (ead E 2000), .int a1] : List Value).toArray below meth c H locs 0 0 by rw [hH, hlocs]]
  have hV : va_S (eA E) s.heap H locs := by rw [hH, hlocs]; exact hV
  have hW : Wd E μ s H := by rw [hH]; exact hW
  unfold f_X7_count at hf
  refine lv_iload_n hx hb dX7_count_0 rfl (lv_at hl 1 rfl) ?_
  by_cases y8 : a1 = (0 : Int32)
  · have hf := op_t y8 hf
    refine lv_tableIn (tgt := 44) (off := 43) hx hb dX7_count_1 (by rw [y8]; decide) (by rw [y8]; decide) (by rw [y8]; rfl) (by decide) ?_
    refine lv_aload_n hx hb dX7_count_44 rfl (lv_at hl 0 rfl) ?_
    refine gf_RX7_108 hx hb hB hown hW dX7_count_45 ?_
    exact w_retI hx hb hr hlocks hW hV (Option.some.inj hf) rfl dX7_count_48
  have hf := op_f y8 hf
  by_cases y9 : a1 = (1 : Int32)
  · have hf := op_t y9 hf
    refine lv_tableIn (tgt := 49) (off := 48) hx hb dX7_count_1 (by rw [y9]; decide) (by rw [y9]; decide) (by rw [y9]; rfl) (by decide) ?_
    refine lv_aload_n hx hb dX7_count_49 rfl (lv_at hl 0 rfl) ?_
    refine gf_RX7_201 hx hb hB hown hW dX7_count_50 ?_
    exact w_retI hx hb hr hlocks hW hV (Option.some.inj hf) rfl dX7_count_53
  have hf := op_f y9 hf
  by_cases y10 : a1 = (2 : Int32)
  · have hf := op_t y10 hf
    refine lv_tableIn (tgt := 54) (off := 53) hx hb dX7_count_1 (by rw [y10]; decide) (by rw [y10]; decide) (by rw [y10]; rfl) (by decide) ?_
    refine lv_aload_n hx hb dX7_count_54 rfl (lv_at hl 0 rfl) ?_
    refine gf_RX7_289 hx hb hB hown hW dX7_count_55 ?_
    exact w_retI hx hb hr hlocks hW hV (Option.some.inj hf) rfl dX7_count_58
  have hf := op_f y10 hf
  by_cases y11 : a1 = (3 : Int32)
  · have hf := op_t y11 hf
    refine lv_tableIn (tgt := 59) (off := 58) hx hb dX7_count_1 (by rw [y11]; decide) (by rw [y11]; decide) (by rw [y11]; rfl) (by decide) ?_
    refine lv_aload_n hx hb dX7_count_59 rfl (lv_at hl 0 rfl) ?_
    refine gf_RX7_299 hx hb hB hown hW dX7_count_60 ?_
    exact w_retI hx hb hr hlocks hW hV (Option.some.inj hf) rfl dX7_count_63
  have hf := op_f y11 hf
  by_cases y12 : a1 = (4 : Int32)
  · have hf := op_t y12 hf
    refine lv_tableIn (tgt := 64) (off := 63) hx hb dX7_count_1 (by rw [y12]; decide) (by rw [y12]; decide) (by rw [y12]; rfl) (by decide) ?_
    refine lv_aload_n hx hb dX7_count_64 rfl (lv_at hl 0 rfl) ?_
    refine gf_RX7_302 hx hb hB hown hW dX7_count_65 ?_
    exact w_retI hx hb hr hlocks hW hV (Option.some.inj hf) rfl dX7_count_68
  have hf := op_f y12 hf
  by_cases y13 : a1 = (5 : Int32)
  · have hf := op_t y13 hf
    refine lv_tableIn (tgt := 69) (off := 68) hx hb dX7_count_1 (by rw [y13]; decide) (by rw [y13]; decide) (by rw [y13]; rfl) (by decide) ?_
    refine lv_aload_n hx hb dX7_count_69 rfl (lv_at hl 0 rfl) ?_
    refine gf_RX7_129 hx hb hB hown hW dX7_count_70 ?_
    exact w_retI hx hb hr hlocks hW hV (Option.some.inj hf) rfl dX7_count_73
  have hf := op_f y13 hf
  by_cases y14 : a1 = (6 : Int32)
  · have hf := op_t y14 hf
    refine lv_tableIn (tgt := 74) (off := 73) hx hb dX7_count_1 (by rw [y14]; decide) (by rw [y14]; decide) (by rw [y14]; rfl) (by decide) ?_
    refine lv_aload_n hx hb dX7_count_74 rfl (lv_at hl 0 rfl) ?_
    refine gf_RX7_309 hx hb hB hown hW dX7_count_75 ?_
    exact w_retI hx hb hr hlocks hW hV (Option.some.inj hf) rfl dX7_count_78
  have hf := op_f y14 hf
  refine lv_tableOut (tgt := 79) hx hb dX7_count_1 (by have a_y8 := lv_neT (a := 0) y8 (by decide); have a_y9 := lv_neT (a := 1) y9 (by decide); have a_y10 := lv_neT (a := 2) y10 (by decide); have a_y11 := lv_neT (a := 3) y11 (by decide); have a_y12 := lv_neT (a := 4) y12 (by decide); have a_y13 := lv_neT (a := 5) y13 (by decide); have a_y14 := lv_neT (a := 6) y14 (by decide); omega) (by decide) ?_
  refine lv_bipush (v := (-2 : Int32)) hx hb dX7_count_79 (by decide) ?_
  exact w_retI hx hb hr hlocks hW hV (Option.some.inj hf) rfl dX7_count_81
set_option maxHeartbeats 8000000 in
set_option maxRecDepth 100000 in
theorem k_X7_isTape (l : Launch) (E : WE) (μ : Mem) (a0 : Int32) (r : Int32) (hf : f_X7_isTape μ a0 = some r) : Met l yX7_isTape (.code yX7_isTape cX7_isTape 1 (some .boolean) :: BIG) ({ frames := 1, cells := 0, slots := 0, locals := 22 }) (PW E μ [.int a0]) (QN E .boolean r μ) 0 0 (eA E) := by
  refine Met.ofW (cc := cX7_isTape) (maxL := 1) (ret := (some .boolean)) (by decide) rfl ?_
  intro p e s m args below meth c s₁ B hml hv
  obtain ⟨rfl, hW, hZ⟩ := hv
  have hx := B.exec
  have hb := B.bytes
  have hr := B.returns
  have hB : ∀ w ∈ BIG, w.before _ s = true := fun w h => atoms_spec (ws := (.code yX7_isTape cX7_isTape 1 (some .boolean) :: BIG)) B.pre w (List.mem_cons_of_mem _ h)
  have hown : s.vm.findClass RX7 = some m.cls := findClass_of_methodNamed B.named
  have hlocks := B.notSynchronized
  have hV : va_S (eA E) s.heap s.heap [] := va_S.rf
  have hl := lv_entry ([.int a0]) (n := 1) (Nat.le_of_ble_eq_true rfl)
  rw [lg_entry_eq]
  generalize (lg_sl ([.int a0]) ++ List.replicate (1 - (lg_sl ([.int a0])).length) Slot.unset).toArray = ls at hl ⊢
  have hl : lv_has ls 1 [(0, .int a0)] := hl
  obtain ⟨H, hH⟩ : ∃ H : Heap, H = s.heap := ⟨_, rfl⟩
  obtain ⟨locs, hlocs⟩ : ∃ locs : List Loc, locs = [] := ⟨_, rfl⟩
  rw [show (W p l e (headSpec (.code yX7_isTape cX7_isTape 1 (some .boolean) :: BIG) ({ frames := 1, cells := 0, slots := 0, locals := 22 })).room s m ([.int a0] : List Value).toArray below meth c s.heap [] 0 0) = W p l e (headSpec (.code yX7_isTape cX7_isTape 1 (some .boolean) :: BIG) ({ frames := 1, cells := 0, slots := 0, locals := 22 })).room s m ([.int a0] : List Value).toArray below meth c H locs 0 0 by rw [hH, hlocs]]
  have hV : va_S (eA E) s.heap H locs := by rw [hH, hlocs]; exact hV
  have hW : Wd E μ s H := by rw [hH]; exact hW
  unfold f_X7_isTape at hf
  refine lv_iload_n hx hb dX7_isTape_0 rfl (lv_at hl 0 rfl) ?_
  refine lv_iconst (v := (0 : Int32)) hx hb dX7_isTape_1 (by decide) ?_
  refine lv_iconst (v := (5 : Int32)) hx hb dX7_isTape_2 (by decide) ?_
  obtain ⟨v3, e_4, hf⟩ := op_none hf
  refine w_callN (rn_RX7_111 (As := [.int a0, .int (0 : Int32), .int (5 : Int32)]) hx hb hml hown hB hW hZ hV (k_X7_within l E _ a0 (0 : Int32) (5 : Int32) v3 e_4) rfl rfl ⟨(Nat.le_of_ble_eq_true rfl), (Nat.le_of_ble_eq_true rfl)⟩ rfl hl.1 rfl (Nat.le_of_ble_eq_true rfl) dX7_isTape_3 ⟨Nat.le_refl _, Nat.le_refl _⟩) hV (fun H locs hn_v3 hW hV => ?_)
  exact w_retN hx hb hr hlocks hW hV hn_v3 (Option.some.inj hf) rfl dX7_isTape_6
set_option maxHeartbeats 8000000 in
set_option maxRecDepth 100000 in
theorem k_X7_tape (l : Launch) (E : WE) (μ : Mem) (a1 : Int32) (a2 : Int32) (a3 : Int32) (r : Int32) (μ' : Mem) (hf : f_X7_tape μ a1 a2 a3 = some (r, μ')) : Met l yX7_tape (.code yX7_tape cX7_tape 5 (some .int) :: BIG) ({ frames := 2, cells := 0, slots := 0, locals := 42 }) (PW E μ [.ref (ead E 2000), .int a1, .int a2, .int a3]) (QI E r μ') 0 0 (eA E) := by
  refine Met.ofW (cc := cX7_tape) (maxL := 5) (ret := (some .int)) (by decide) rfl ?_
  intro p e s m args below meth c s₁ B hml hv
  obtain ⟨rfl, hW, hZ⟩ := hv
  have hx := B.exec
  have hb := B.bytes
  have hr := B.returns
  have hB : ∀ w ∈ BIG, w.before _ s = true := fun w h => atoms_spec (ws := (.code yX7_tape cX7_tape 5 (some .int) :: BIG)) B.pre w (List.mem_cons_of_mem _ h)
  have hown : s.vm.findClass RX7 = some m.cls := findClass_of_methodNamed B.named
  have hlocks := B.notSynchronized
  have hV : va_S (eA E) s.heap s.heap [] := va_S.rf
  have hl := lv_entry ([.ref (ead E 2000), .int a1, .int a2, .int a3]) (n := 5) (Nat.le_of_ble_eq_true rfl)
  rw [lg_entry_eq]
  generalize (lg_sl ([.ref (ead E 2000), .int a1, .int a2, .int a3]) ++ List.replicate (5 - (lg_sl ([.ref (ead E 2000), .int a1, .int a2, .int a3])).length) Slot.unset).toArray = ls at hl ⊢
  have hl : lv_has ls 5 [(0, .ref (ead E 2000)), (1, .int a1), (2, .int a2), (3, .int a3)] := hl
  have c_67 : ∀ (n_67 : Nat) (μ_67 : Mem) (b1_67 : Int32) (b4_67 : Int32) , f_X7_tape_67 n_67 μ_67 b1_67 b4_67 = some (r, μ') → ∀ (H : Heap) (locs : List Loc) (ls : Array Slot), Wd E μ_67 s H → va_S (eA E) s.heap H locs → lv_has ls 5 [(0, .ref (ead E 2000)), (1, .int b1_67), (4, .int b4_67)] → W p l e (headSpec (.code yX7_tape cX7_tape 5 (some .int) :: BIG) ({ frames := 2, cells := 0, slots := 0, locals := 42 })).room s m ([.ref (ead E 2000), .int a1, .int a2, .int a3] : List Value).toArray below meth c H locs 0 0 (MQ below (QI E r μ') ([.ref (ead E 2000), .int a1, .int a2, .int a3] : List Value).toArray s 0 0 (eA E)) (F0 m 67 ls []) := by
    intro n_67
    induction n_67 with
    | zero =>
      intro μ_67 b1_67 b4_67 hf H locs ls hW hV hl
      cases hf
    | succ n_67 ih_67 =>
      intro μ_67 b1_67 b4_67 hf H locs ls hW hV hl
      rw [f_X7_tape_67] at hf
      refine lv_iload hx hb dX7_tape_67 (lv_at hl 2 rfl) ?_
      refine lv_bipush (v := (60 : Int32)) hx hb dX7_tape_69 (by decide) ?_
      refine lv_icmp_ge (tgt := 93) hx hb dX7_tape_71 (by decide) (fun y17 => ?_) (fun y17 => ?_)
      · have hf := op_t y17 hf
        refine lv_iconst (v := (1 : Int32)) hx hb dX7_tape_93 (by decide) ?_
        exact w_retI hx hb hr hlocks hW hV (Prod.mk.inj (Option.some.inj hf)).1 (Prod.mk.inj (Option.some.inj hf)).2 dX7_tape_94
      · have hf := op_f y17 hf
        refine lv_aload_n hx hb dX7_tape_74 rfl (lv_at hl 0 rfl) ?_
        refine gf_RX7_97 hx hb hB hown hW dX7_tape_75 ?_
        refine lv_bipush (v := (60 : Int32)) hx hb dX7_tape_78 (by decide) ?_
        refine lv_iload_n hx hb dX7_tape_80 rfl (lv_at hl 1 rfl) ?_
        refine lv_imul hx hb dX7_tape_81 ?_
        refine lv_iload hx hb dX7_tape_82 (lv_at hl 2 rfl) ?_
        refine lv_iadd hx hb dX7_tape_84 ?_
        refine lv_lconst (v := (0 : Int64)) hx hb dX7_tape_85 (by decide) ?_
        obtain ⟨μ18, e_μ18, hf⟩ := op_none hf
        refine w_last hx hb hW hV jM44.1 (fun g => jM44.2 E _ g) e_μ18 dX7_tape_86 (fun H locs hW hV => ?_)
        obtain ⟨v19, e_v19, hf⟩ := op_none hf
        refine lv_iinc (v := v19) (lv' := [(4, .int v19), (0, .ref (ead E 2000)), (1, .int b1_67)]) hx hb dX7_tape_87 hl (k := 2) rfl (by rw [← Option.some.inj e_v19]; rfl) (by decide) rfl (fun ls hl => ?_)
        refine lv_goto (tgt := 67) hx hb dX7_tape_90 (by decide) ?_
        exact ih_67 μ18 b1_67 v19 hf H locs ls hW hV (lv_sub hl [1, 2, 0] rfl)
  have c_63 : ∀ (μ_63 : Mem) (b1_63 : Int32) (s0_63 : Int32) (s1_63 : Int32) , f_X7_tape_63 μ_63 b1_63 s0_63 s1_63 = some (r, μ') → ∀ (H : Heap) (locs : List Loc) (ls : Array Slot), Wd E μ_63 s H → va_S (eA E) s.heap H locs → lv_has ls 5 [(0, .ref (ead E 2000)), (1, .int b1_63)] → W p l e (headSpec (.code yX7_tape cX7_tape 5 (some .int) :: BIG) ({ frames := 2, cells := 0, slots := 0, locals := 42 })).room s m ([.ref (ead E 2000), .int a1, .int a2, .int a3] : List Value).toArray below meth c H locs 0 0 (MQ below (QI E r μ') ([.ref (ead E 2000), .int a1, .int a2, .int a3] : List Value).toArray s 0 0 (eA E)) (F0 m 63 ls [.int s0_63, .int s1_63, .ref (ead E 2043)]) := by
    intro μ_63 b1_63 s0_63 s1_63 hf H locs ls hW hV hl
    unfold f_X7_tape_63 at hf
    obtain ⟨μ20, e_μ20, hf⟩ := op_none hf
    refine w_iast hx hb hW hV iM43.1 (fun f => iM43.2 E f _) e_μ20 dX7_tape_63 (fun H locs hW hV => ?_)
    refine lv_iconst (v := (0 : Int32)) hx hb dX7_tape_64 (by decide) ?_
    refine lv_istore (i := 4) (lv' := [(4, .int (0 : Int32)), (0, .ref (ead E 2000)), (1, .int b1_63)]) hx hb dX7_tape_65 hl (by decide) rfl (fun ls hl => ?_)
    exact c_67 FU μ20 b1_63 (0 : Int32) hf H locs ls hW hV (lv_sub hl [1, 2, 0] rfl)
  have c_42 : ∀ (μ_42 : Mem) (b1_42 : Int32) (b2_42 : Int32) (b3_42 : Int32) , f_X7_tape_42 μ_42 b1_42 b2_42 b3_42 = some (r, μ') → ∀ (H : Heap) (locs : List Loc) (ls : Array Slot), Wd E μ_42 s H → va_S (eA E) s.heap H locs → lv_has ls 5 [(0, .ref (ead E 2000)), (1, .int b1_42), (2, .int b2_42), (3, .int b3_42)] → W p l e (headSpec (.code yX7_tape cX7_tape 5 (some .int) :: BIG) ({ frames := 2, cells := 0, slots := 0, locals := 42 })).room s m ([.ref (ead E 2000), .int a1, .int a2, .int a3] : List Value).toArray below meth c H locs 0 0 (MQ below (QI E r μ') ([.ref (ead E 2000), .int a1, .int a2, .int a3] : List Value).toArray s 0 0 (eA E)) (F0 m 42 ls []) := by
    intro μ_42 b1_42 b2_42 b3_42 hf H locs ls hW hV hl
    unfold f_X7_tape_42 at hf
    refine lv_aload_n hx hb dX7_tape_42 rfl (lv_at hl 0 rfl) ?_
    refine gf_RX7_91 hx hb hB hown hW dX7_tape_43 ?_
    refine lv_iload_n hx hb dX7_tape_46 rfl (lv_at hl 1 rfl) ?_
    refine lv_iload_n hx hb dX7_tape_47 rfl (lv_at hl 2 rfl) ?_
    obtain ⟨μ21, e_μ21, hf⟩ := op_none hf
    refine w_iast hx hb hW hV iM42.1 (fun f => iM42.2 E f _) e_μ21 dX7_tape_48 (fun H locs hW hV => ?_)
    refine lv_aload_n hx hb dX7_tape_49 rfl (lv_at hl 0 rfl) ?_
    refine gf_RX7_94 hx hb hB hown hW dX7_tape_50 ?_
    refine lv_iload_n hx hb dX7_tape_53 rfl (lv_at hl 1 rfl) ?_
    refine lv_iload_n hx hb dX7_tape_54 rfl (lv_at hl 2 rfl) ?_
    refine lv_if_ge (tgt := 62) hx hb dX7_tape_55 (by decide) (fun y22 => ?_) (fun y22 => ?_)
    · have hf := op_t y22 hf
      refine lv_iload_n hx hb dX7_tape_62 rfl (lv_at hl 3 rfl) ?_
      exact c_63 μ21 b1_42 b3_42 b1_42 hf H locs ls hW hV (lv_sub hl [0, 1] rfl)
    · have hf := op_f y22 hf
      refine lv_iconst (v := (0 : Int32)) hx hb dX7_tape_58 (by decide) ?_
      refine lv_goto (tgt := 63) hx hb dX7_tape_59 (by decide) ?_
      exact c_63 μ21 b1_42 (0 : Int32) b1_42 hf H locs ls hW hV (lv_sub hl [0, 1] rfl)
  have c_31 : ∀ (μ_31 : Mem) (b1_31 : Int32) (b2_31 : Int32) (b3_31 : Int32) , f_X7_tape_31 μ_31 b1_31 b2_31 b3_31 = some (r, μ') → ∀ (H : Heap) (locs : List Loc) (ls : Array Slot), Wd E μ_31 s H → va_S (eA E) s.heap H locs → lv_has ls 5 [(0, .ref (ead E 2000)), (1, .int b1_31), (2, .int b2_31), (3, .int b3_31)] → W p l e (headSpec (.code yX7_tape cX7_tape 5 (some .int) :: BIG) ({ frames := 2, cells := 0, slots := 0, locals := 42 })).room s m ([.ref (ead E 2000), .int a1, .int a2, .int a3] : List Value).toArray below meth c H locs 0 0 (MQ below (QI E r μ') ([.ref (ead E 2000), .int a1, .int a2, .int a3] : List Value).toArray s 0 0 (eA E)) (F0 m 31 ls []) := by
    intro μ_31 b1_31 b2_31 b3_31 hf H locs ls hW hV hl
    unfold f_X7_tape_31 at hf
    refine lv_iload_n hx hb dX7_tape_31 rfl (lv_at hl 2 rfl) ?_
    refine lv_if_lt (tgt := 42) hx hb dX7_tape_32 (by decide) (fun y23 => ?_) (fun y23 => ?_)
    · have hf := op_t y23 hf
      exact c_42 μ_31 b1_31 b2_31 b3_31 hf H locs ls hW hV (lv_sub hl [0, 1, 2, 3] rfl)
    · have hf := op_f y23 hf
      refine lv_iload_n hx hb dX7_tape_35 rfl (lv_at hl 3 rfl) ?_
      refine lv_if_ge (tgt := 42) hx hb dX7_tape_36 (by decide) (fun y24 => ?_) (fun y24 => ?_)
      · have hf := op_t y24 hf
        exact c_42 μ_31 b1_31 b2_31 b3_31 hf H locs ls hW hV (lv_sub hl [0, 1, 2, 3] rfl)
      · have hf := op_f y24 hf
        refine lv_bipush (v := (-14 : Int32)) hx hb dX7_tape_39 (by decide) ?_
        exact w_retI hx hb hr hlocks hW hV (Prod.mk.inj (Option.some.inj hf)).1 (Prod.mk.inj (Option.some.inj hf)).2 dX7_tape_41
  obtain ⟨H, hH⟩ : ∃ H : Heap, H = s.heap := ⟨_, rfl⟩
  obtain ⟨locs, hlocs⟩ : ∃ locs : List Loc, locs = [] := ⟨_, rfl⟩
  rw [show (W p l e (headSpec (.code yX7_tape cX7_tape 5 (some .int) :: BIG) ({ frames := 2, cells := 0, slots := 0, locals := 42 })).room s m ([.ref (ead E 2000), .int a1, .int a2, .int a3] : List Value).toArray below meth c s.heap [] 0 0) = W p l e (headSpec (.code yX7_tape cX7_tape 5 (some .int) :: BIG) ({ frames := 2, cells := 0, slots := 0, locals := 42 })).room s m ([.ref (ead E 2000), .int a1, .int a2, .int a3] : List Value).toArray below meth c H locs 0 0 by rw [hH, hlocs]]
  have hV : va_S (eA E) s.heap H locs := by rw [hH, hlocs]; exact hV
  have hW : Wd E μ s H := by rw [hH]; exact hW
  unfold f_X7_tape at hf
  refine lv_iload_n hx hb dX7_tape_0 rfl (lv_at hl 1 rfl) ?_
  obtain ⟨v25, e_26, hf⟩ := op_none hf
  refine w_callN (rn_RX7_329 (As := [.int a1]) hx hb hml hown hB hW hZ hV (k_X7_isTape l E _ a1 v25 e_26) rfl rfl ⟨(Nat.le_of_ble_eq_true rfl), (Nat.le_of_ble_eq_true rfl)⟩ rfl hl.1 rfl (Nat.le_of_ble_eq_true rfl) dX7_tape_1 ⟨Nat.le_refl _, Nat.le_refl _⟩) hV (fun H locs hn_v25 hW hV => ?_)
  refine lv_if_ne (tgt := 9) hx hb dX7_tape_4 (by decide) (fun y27 => ?_) (fun y27 => ?_)
  · have hf := op_f y27 hf
    refine lv_iload_n hx hb dX7_tape_9 rfl (lv_at hl 2 rfl) ?_
    refine lv_iconst (v := (-1 : Int32)) hx hb dX7_tape_10 (by decide) ?_
    refine lv_iconst (v := (4 : Int32)) hx hb dX7_tape_11 (by decide) ?_
    obtain ⟨v28, e_29, hf⟩ := op_none hf
    refine w_callN (rn_RX7_111 (As := [.int a2, .int (-1 : Int32), .int (4 : Int32)]) hx hb hml hown hB hW hZ hV (k_X7_within l E _ a2 (-1 : Int32) (4 : Int32) v28 e_29) rfl rfl ⟨(Nat.le_of_ble_eq_true rfl), (Nat.le_of_ble_eq_true rfl)⟩ rfl hl.1 rfl (Nat.le_of_ble_eq_true rfl) dX7_tape_12 ⟨Nat.le_refl _, Nat.le_refl _⟩) hV (fun H locs hn_v28 hW hV => ?_)
    refine lv_if_eq (tgt := 28) hx hb dX7_tape_15 (by decide) (fun y30 => ?_) (fun y30 => ?_)
    · have hf := op_t y30 hf
      refine lv_bipush (v := (-2 : Int32)) hx hb dX7_tape_28 (by decide) ?_
      exact w_retI hx hb hr hlocks hW hV (Prod.mk.inj (Option.some.inj hf)).1 (Prod.mk.inj (Option.some.inj hf)).2 dX7_tape_30
    · have hf := op_f y30 hf
      refine lv_iload_n hx hb dX7_tape_18 rfl (lv_at hl 2 rfl) ?_
      refine lv_if_lt (tgt := 31) hx hb dX7_tape_19 (by decide) (fun y31 => ?_) (fun y31 => ?_)
      · have hf := op_t y31 hf
        exact c_31 μ a1 a2 a3 hf H locs ls hW hV (lv_sub hl [0, 1, 2, 3] rfl)
      · have hf := op_f y31 hf
        refine lv_iload_n hx hb dX7_tape_22 rfl (lv_at hl 3 rfl) ?_
        refine lv_bipush (v := (60 : Int32)) hx hb dX7_tape_23 (by decide) ?_
        refine lv_icmp_le (tgt := 31) hx hb dX7_tape_25 (by decide) (fun y32 => ?_) (fun y32 => ?_)
        · have hf := op_t y32 hf
          exact c_31 μ a1 a2 a3 hf H locs ls hW hV (lv_sub hl [0, 1, 2, 3] rfl)
        · have hf := op_f y32 hf
          refine lv_bipush (v := (-2 : Int32)) hx hb dX7_tape_28 (by decide) ?_
          exact w_retI hx hb hr hlocks hW hV (Prod.mk.inj (Option.some.inj hf)).1 (Prod.mk.inj (Option.some.inj hf)).2 dX7_tape_30
  · have hf := op_t y27 hf
    refine lv_iconst (v := (-1 : Int32)) hx hb dX7_tape_7 (by decide) ?_
    exact w_retI hx hb hr hlocks hW hV (Prod.mk.inj (Option.some.inj hf)).1 (Prod.mk.inj (Option.some.inj hf)).2 dX7_tape_8
set_option maxHeartbeats 8000000 in
set_option maxRecDepth 100000 in
theorem k_X7_kept (l : Launch) (E : WE) (μ : Mem) (a0 : Int32) (a1 : Int64) (r : Int64) (hf : f_X7_kept μ a0 a1 = some r) : Met l yX7_kept (.code yX7_kept cX7_kept 3 (some .long) :: BIG) ({ frames := 0, cells := 0, slots := 0, locals := 0 }) (PW E μ [.int a0, .long a1]) (QL E r μ) 0 0 (eA E) := by
  refine Met.ofW (cc := cX7_kept) (maxL := 3) (ret := (some .long)) (by decide) rfl ?_
  intro p e s m args below meth c s₁ B hml hv
  obtain ⟨rfl, hW, hZ⟩ := hv
  have hx := B.exec
  have hb := B.bytes
  have hr := B.returns
  have hB : ∀ w ∈ BIG, w.before _ s = true := fun w h => atoms_spec (ws := (.code yX7_kept cX7_kept 3 (some .long) :: BIG)) B.pre w (List.mem_cons_of_mem _ h)
  have hown : s.vm.findClass RX7 = some m.cls := findClass_of_methodNamed B.named
  have hlocks := B.notSynchronized
  have hV : va_S (eA E) s.heap s.heap [] := va_S.rf
  have hl := lv_entry ([.int a0, .long a1]) (n := 3) (Nat.le_of_ble_eq_true rfl)
  rw [lg_entry_eq]
  generalize (lg_sl ([.int a0, .long a1]) ++ List.replicate (3 - (lg_sl ([.int a0, .long a1])).length) Slot.unset).toArray = ls at hl ⊢
  have hl : lv_has ls 3 [(0, .int a0), (1, .long a1)] := hl
  obtain ⟨H, hH⟩ : ∃ H : Heap, H = s.heap := ⟨_, rfl⟩
  obtain ⟨locs, hlocs⟩ : ∃ locs : List Loc, locs = [] := ⟨_, rfl⟩
  rw [show (W p l e (headSpec (.code yX7_kept cX7_kept 3 (some .long) :: BIG) ({ frames := 0, cells := 0, slots := 0, locals := 0 })).room s m ([.int a0, .long a1] : List Value).toArray below meth c s.heap [] 0 0) = W p l e (headSpec (.code yX7_kept cX7_kept 3 (some .long) :: BIG) ({ frames := 0, cells := 0, slots := 0, locals := 0 })).room s m ([.int a0, .long a1] : List Value).toArray below meth c H locs 0 0 by rw [hH, hlocs]]
  have hV : va_S (eA E) s.heap H locs := by rw [hH, hlocs]; exact hV
  have hW : Wd E μ s H := by rw [hH]; exact hW
  unfold f_X7_kept at hf
  refine lv_iload_n hx hb dX7_kept_0 rfl (lv_at hl 0 rfl) ?_
  by_cases y6 : a0 = (0 : Int32)
  · have hf := op_t y6 hf
    refine lv_tableIn (tgt := 32) (off := 31) hx hb dX7_kept_1 (by rw [y6]; decide) (by rw [y6]; decide) (by rw [y6]; rfl) (by decide) ?_
    refine lv_lload_n hx hb dX7_kept_32 rfl (lv_at hl 1 rfl) ?_
    refine lv_l2i hx hb dX7_kept_33 rfl ?_
    refine lv_i2b hx hb dX7_kept_34 rfl ?_
    refine lv_i2l hx hb dX7_kept_35 rfl ?_
    exact w_retL hx hb hr hlocks hW hV (Option.some.inj hf) rfl dX7_kept_36
  have hf := op_f y6 hf
  by_cases y7 : a0 = (1 : Int32)
  · have hf := op_t y7 hf
    refine lv_tableIn (tgt := 37) (off := 36) hx hb dX7_kept_1 (by rw [y7]; decide) (by rw [y7]; decide) (by rw [y7]; rfl) (by decide) ?_
    refine lv_lload_n hx hb dX7_kept_37 rfl (lv_at hl 1 rfl) ?_
    refine lv_l2i hx hb dX7_kept_38 rfl ?_
    refine lv_i2s hx hb dX7_kept_39 rfl ?_
    refine lv_i2l hx hb dX7_kept_40 rfl ?_
    exact w_retL hx hb hr hlocks hW hV (Option.some.inj hf) rfl dX7_kept_41
  have hf := op_f y7 hf
  by_cases y8 : a0 = (2 : Int32)
  · have hf := op_t y8 hf
    refine lv_tableIn (tgt := 42) (off := 41) hx hb dX7_kept_1 (by rw [y8]; decide) (by rw [y8]; decide) (by rw [y8]; rfl) (by decide) ?_
    refine lv_lload_n hx hb dX7_kept_42 rfl (lv_at hl 1 rfl) ?_
    refine lv_l2i hx hb dX7_kept_43 rfl ?_
    refine lv_i2l hx hb dX7_kept_44 rfl ?_
    exact w_retL hx hb hr hlocks hW hV (Option.some.inj hf) rfl dX7_kept_45
  have hf := op_f y8 hf
  by_cases y9 : a0 = (3 : Int32)
  · have hf := op_t y9 hf
    refine lv_tableIn (tgt := 46) (off := 45) hx hb dX7_kept_1 (by rw [y9]; decide) (by rw [y9]; decide) (by rw [y9]; rfl) (by decide) ?_
    refine lv_lload_n hx hb dX7_kept_46 rfl (lv_at hl 1 rfl) ?_
    exact w_retL hx hb hr hlocks hW hV (Option.some.inj hf) rfl dX7_kept_47
  have hf := op_f y9 hf
  refine lv_tableOut (tgt := 48) hx hb dX7_kept_1 (by have a_y6 := lv_neT (a := 0) y6 (by decide); have a_y7 := lv_neT (a := 1) y7 (by decide); have a_y8 := lv_neT (a := 2) y8 (by decide); have a_y9 := lv_neT (a := 3) y9 (by decide); omega) (by decide) ?_
  refine lv_lload_n hx hb dX7_kept_48 rfl (lv_at hl 1 rfl) ?_
  refine lv_lconst (v := (0 : Int64)) hx hb dX7_kept_49 (by decide) ?_
  refine W.lcmp hx hb dX7_kept_50 ?_
  refine lv_if_eq (tgt := 58) hx hb dX7_kept_51 (by decide) (fun y10 => ?_) (fun y10 => ?_)
  · have hf := op_t y10 hf
    refine lv_lconst (v := (0 : Int64)) hx hb dX7_kept_58 (by decide) ?_
    exact w_retL hx hb hr hlocks hW hV (Option.some.inj hf) rfl dX7_kept_59
  · have hf := op_f y10 hf
    refine lv_lconst (v := (1 : Int64)) hx hb dX7_kept_54 (by decide) ?_
    refine lv_goto (tgt := 59) hx hb dX7_kept_55 (by decide) ?_
    exact w_retL hx hb hr hlocks hW hV (Option.some.inj hf) rfl dX7_kept_59
set_option maxHeartbeats 8000000 in
set_option maxRecDepth 100000 in
theorem k_X7_item (l : Launch) (E : WE) (μ : Mem) (a1 : Int32) (a2 : Int32) (a3 : Int64) (r : Int32) (μ' : Mem) (hf : f_X7_item μ a1 a2 a3 = some (r, μ')) : Met l yX7_item (.code yX7_item cX7_item 5 (some .int) :: BIG) ({ frames := 2, cells := 0, slots := 0, locals := 42 }) (PW E μ [.ref (ead E 2000), .int a1, .int a2, .long a3]) (QI E r μ') 0 0 (eA E) := by
  refine Met.ofW (cc := cX7_item) (maxL := 5) (ret := (some .int)) (by decide) rfl ?_
  intro p e s m args below meth c s₁ B hml hv
  obtain ⟨rfl, hW, hZ⟩ := hv
  have hx := B.exec
  have hb := B.bytes
  have hr := B.returns
  have hB : ∀ w ∈ BIG, w.before _ s = true := fun w h => atoms_spec (ws := (.code yX7_item cX7_item 5 (some .int) :: BIG)) B.pre w (List.mem_cons_of_mem _ h)
  have hown : s.vm.findClass RX7 = some m.cls := findClass_of_methodNamed B.named
  have hlocks := B.notSynchronized
  have hV : va_S (eA E) s.heap s.heap [] := va_S.rf
  have hl := lv_entry ([.ref (ead E 2000), .int a1, .int a2, .long a3]) (n := 5) (Nat.le_of_ble_eq_true rfl)
  rw [lg_entry_eq]
  generalize (lg_sl ([.ref (ead E 2000), .int a1, .int a2, .long a3]) ++ List.replicate (5 - (lg_sl ([.ref (ead E 2000), .int a1, .int a2, .long a3])).length) Slot.unset).toArray = ls at hl ⊢
  have hl : lv_has ls 5 [(0, .ref (ead E 2000)), (1, .int a1), (2, .int a2), (3, .long a3)] := hl
  obtain ⟨H, hH⟩ : ∃ H : Heap, H = s.heap := ⟨_, rfl⟩
  obtain ⟨locs, hlocs⟩ : ∃ locs : List Loc, locs = [] := ⟨_, rfl⟩
  rw [show (W p l e (headSpec (.code yX7_item cX7_item 5 (some .int) :: BIG) ({ frames := 2, cells := 0, slots := 0, locals := 42 })).room s m ([.ref (ead E 2000), .int a1, .int a2, .long a3] : List Value).toArray below meth c s.heap [] 0 0) = W p l e (headSpec (.code yX7_item cX7_item 5 (some .int) :: BIG) ({ frames := 2, cells := 0, slots := 0, locals := 42 })).room s m ([.ref (ead E 2000), .int a1, .int a2, .long a3] : List Value).toArray below meth c H locs 0 0 by rw [hH, hlocs]]
  have hV : va_S (eA E) s.heap H locs := by rw [hH, hlocs]; exact hV
  have hW : Wd E μ s H := by rw [hH]; exact hW
  unfold f_X7_item at hf
  refine lv_iload_n hx hb dX7_item_0 rfl (lv_at hl 1 rfl) ?_
  obtain ⟨v14, e_15, hf⟩ := op_none hf
  refine w_callN (rn_RX7_329 (As := [.int a1]) hx hb hml hown hB hW hZ hV (k_X7_isTape l E _ a1 v14 e_15) rfl rfl ⟨(Nat.le_of_ble_eq_true rfl), (Nat.le_of_ble_eq_true rfl)⟩ rfl hl.1 rfl (Nat.le_of_ble_eq_true rfl) dX7_item_1 ⟨Nat.le_refl _, Nat.le_refl _⟩) hV (fun H locs hn_v14 hW hV => ?_)
  refine lv_if_ne (tgt := 9) hx hb dX7_item_4 (by decide) (fun y16 => ?_) (fun y16 => ?_)
  · have hf := op_f y16 hf
    refine lv_aload_n hx hb dX7_item_9 rfl (lv_at hl 0 rfl) ?_
    refine gf_RX7_91 hx hb hB hown hW dX7_item_10 ?_
    refine lv_iload_n hx hb dX7_item_13 rfl (lv_at hl 1 rfl) ?_
    obtain ⟨v17, e_v17, hf⟩ := op_none hf
    refine w_iald hx hb hW iM42.1 (iM42.2 E _ _) e_v17 dX7_item_14 ?_
    refine lv_if_ge (tgt := 21) hx hb dX7_item_15 (by decide) (fun y18 => ?_) (fun y18 => ?_)
    · have hf := op_t y18 hf
      refine lv_iload_n hx hb dX7_item_21 rfl (lv_at hl 2 rfl) ?_
      refine lv_iconst (v := (0 : Int32)) hx hb dX7_item_22 (by decide) ?_
      refine lv_aload_n hx hb dX7_item_23 rfl (lv_at hl 0 rfl) ?_
      refine gf_RX7_94 hx hb hB hown hW dX7_item_24 ?_
      refine lv_iload_n hx hb dX7_item_27 rfl (lv_at hl 1 rfl) ?_
      obtain ⟨v19, e_v19, hf⟩ := op_none hf
      refine w_iald hx hb hW iM43.1 (iM43.2 E _ _) e_v19 dX7_item_28 ?_
      refine lv_iconst (v := (1 : Int32)) hx hb dX7_item_29 (by decide) ?_
      refine lv_isub hx hb dX7_item_30 ?_
      obtain ⟨v20, e_21, hf⟩ := op_none hf
      refine w_callN (rn_RX7_111 (As := [.int a2, .int (0 : Int32), .int (v19 - (1 : Int32))]) hx hb hml hown hB hW hZ hV (k_X7_within l E _ a2 (0 : Int32) (v19 - (1 : Int32)) v20 e_21) rfl rfl ⟨(Nat.le_of_ble_eq_true rfl), (Nat.le_of_ble_eq_true rfl)⟩ rfl hl.1 rfl (Nat.le_of_ble_eq_true rfl) dX7_item_31 ⟨Nat.le_refl _, Nat.le_refl _⟩) hV (fun H locs hn_v20 hW hV => ?_)
      refine lv_if_ne (tgt := 40) hx hb dX7_item_34 (by decide) (fun y22 => ?_) (fun y22 => ?_)
      · have hf := op_f y22 hf
        refine lv_aload_n hx hb dX7_item_40 rfl (lv_at hl 0 rfl) ?_
        refine gf_RX7_97 hx hb hB hown hW dX7_item_41 ?_
        refine lv_bipush (v := (60 : Int32)) hx hb dX7_item_44 (by decide) ?_
        refine lv_iload_n hx hb dX7_item_46 rfl (lv_at hl 1 rfl) ?_
        refine lv_imul hx hb dX7_item_47 ?_
        refine lv_iload_n hx hb dX7_item_48 rfl (lv_at hl 2 rfl) ?_
        refine lv_iadd hx hb dX7_item_49 ?_
        refine lv_aload_n hx hb dX7_item_50 rfl (lv_at hl 0 rfl) ?_
        refine gf_RX7_91 hx hb hB hown hW dX7_item_51 ?_
        refine lv_iload_n hx hb dX7_item_54 rfl (lv_at hl 1 rfl) ?_
        obtain ⟨v23, e_v23, hf⟩ := op_none hf
        refine w_iald hx hb hW iM42.1 (iM42.2 E _ _) e_v23 dX7_item_55 ?_
        refine lv_lload_n hx hb dX7_item_56 rfl (lv_at hl 3 rfl) ?_
        obtain ⟨v24, e_25, hf⟩ := op_none hf
        refine w_callL (rn_RX7_332 (As := [.int v23, .long a3]) hx hb hml hown hB hW hZ hV (k_X7_kept l E _ v23 a3 v24 e_25) rfl rfl ⟨(Nat.le_of_ble_eq_true rfl), (Nat.le_of_ble_eq_true rfl)⟩ rfl hl.1 rfl (Nat.le_of_ble_eq_true rfl) dX7_item_57 ⟨Nat.le_refl _, Nat.le_refl _⟩) hV (fun H locs hW hV => ?_)
        obtain ⟨μ26, e_μ26, hf⟩ := op_none hf
        refine w_last hx hb hW hV jM44.1 (fun g => jM44.2 E _ g) e_μ26 dX7_item_60 (fun H locs hW hV => ?_)
        refine lv_iconst (v := (1 : Int32)) hx hb dX7_item_61 (by decide) ?_
        exact w_retI hx hb hr hlocks hW hV (Prod.mk.inj (Option.some.inj hf)).1 (Prod.mk.inj (Option.some.inj hf)).2 dX7_item_62
      · have hf := op_t y22 hf
        refine lv_bipush (v := (-13 : Int32)) hx hb dX7_item_37 (by decide) ?_
        exact w_retI hx hb hr hlocks hW hV (Prod.mk.inj (Option.some.inj hf)).1 (Prod.mk.inj (Option.some.inj hf)).2 dX7_item_39
    · have hf := op_f y18 hf
      refine lv_bipush (v := (-11 : Int32)) hx hb dX7_item_18 (by decide) ?_
      exact w_retI hx hb hr hlocks hW hV (Prod.mk.inj (Option.some.inj hf)).1 (Prod.mk.inj (Option.some.inj hf)).2 dX7_item_20
  · have hf := op_t y16 hf
    refine lv_iconst (v := (-1 : Int32)) hx hb dX7_item_7 (by decide) ?_
    exact w_retI hx hb hr hlocks hW hV (Prod.mk.inj (Option.some.inj hf)).1 (Prod.mk.inj (Option.some.inj hf)).2 dX7_item_8
set_option maxHeartbeats 8000000 in
set_option maxRecDepth 100000 in
theorem k_X7_read (l : Launch) (E : WE) (μ : Mem) (a1 : Int32) (a2 : Int32) (r : Int64) (hf : f_X7_read μ a1 a2 = some r) : Met l yX7_read (.code yX7_read cX7_read 3 (some .long) :: BIG) ({ frames := 2, cells := 0, slots := 0, locals := 42 }) (PW E μ [.ref (ead E 2000), .int a1, .int a2]) (QL E r μ) 0 0 (eA E) := by
  refine Met.ofW (cc := cX7_read) (maxL := 3) (ret := (some .long)) (by decide) rfl ?_
  intro p e s m args below meth c s₁ B hml hv
  obtain ⟨rfl, hW, hZ⟩ := hv
  have hx := B.exec
  have hb := B.bytes
  have hr := B.returns
  have hB : ∀ w ∈ BIG, w.before _ s = true := fun w h => atoms_spec (ws := (.code yX7_read cX7_read 3 (some .long) :: BIG)) B.pre w (List.mem_cons_of_mem _ h)
  have hown : s.vm.findClass RX7 = some m.cls := findClass_of_methodNamed B.named
  have hlocks := B.notSynchronized
  have hV : va_S (eA E) s.heap s.heap [] := va_S.rf
  have hl := lv_entry ([.ref (ead E 2000), .int a1, .int a2]) (n := 3) (Nat.le_of_ble_eq_true rfl)
  rw [lg_entry_eq]
  generalize (lg_sl ([.ref (ead E 2000), .int a1, .int a2]) ++ List.replicate (3 - (lg_sl ([.ref (ead E 2000), .int a1, .int a2])).length) Slot.unset).toArray = ls at hl ⊢
  have hl : lv_has ls 3 [(0, .ref (ead E 2000)), (1, .int a1), (2, .int a2)] := hl
  obtain ⟨H, hH⟩ : ∃ H : Heap, H = s.heap := ⟨_, rfl⟩
  obtain ⟨locs, hlocs⟩ : ∃ locs : List Loc, locs = [] := ⟨_, rfl⟩
  rw [show (W p l e (headSpec (.code yX7_read cX7_read 3 (some .long) :: BIG) ({ frames := 2, cells := 0, slots := 0, locals := 42 })).room s m ([.ref (ead E 2000), .int a1, .int a2] : List Value).toArray below meth c s.heap [] 0 0) = W p l e (headSpec (.code yX7_read cX7_read 3 (some .long) :: BIG) ({ frames := 2, cells := 0, slots := 0, locals := 42 })).room s m ([.ref (ead E 2000), .int a1, .int a2] : List Value).toArray below meth c H locs 0 0 by rw [hH, hlocs]]
  have hV : va_S (eA E) s.heap H locs := by rw [hH, hlocs]; exact hV
  have hW : Wd E μ s H := by rw [hH]; exact hW
  unfold f_X7_read at hf
  refine lv_iload_n hx hb dX7_read_0 rfl (lv_at hl 1 rfl) ?_
  obtain ⟨v11, e_12, hf⟩ := op_none hf
  refine w_callN (rn_RX7_329 (As := [.int a1]) hx hb hml hown hB hW hZ hV (k_X7_isTape l E _ a1 v11 e_12) rfl rfl ⟨(Nat.le_of_ble_eq_true rfl), (Nat.le_of_ble_eq_true rfl)⟩ rfl hl.1 rfl (Nat.le_of_ble_eq_true rfl) dX7_read_1 ⟨Nat.le_refl _, Nat.le_refl _⟩) hV (fun H locs hn_v11 hW hV => ?_)
  refine lv_if_eq (tgt := 46) hx hb dX7_read_4 (by decide) (fun y13 => ?_) (fun y13 => ?_)
  · have hf := op_t y13 hf
    refine lv_ldc2 (v := (-9223372036854775808 : Int64)) hx hb hown (hB _ q_f4fad641) dX7_read_46 ?_
    exact w_retL hx hb hr hlocks hW hV (Option.some.inj hf) rfl dX7_read_49
  · have hf := op_f y13 hf
    refine lv_aload_n hx hb dX7_read_7 rfl (lv_at hl 0 rfl) ?_
    refine gf_RX7_91 hx hb hB hown hW dX7_read_8 ?_
    refine lv_iload_n hx hb dX7_read_11 rfl (lv_at hl 1 rfl) ?_
    obtain ⟨v14, e_v14, hf⟩ := op_none hf
    refine w_iald hx hb hW iM42.1 (iM42.2 E _ _) e_v14 dX7_read_12 ?_
    refine lv_if_lt (tgt := 46) hx hb dX7_read_13 (by decide) (fun y15 => ?_) (fun y15 => ?_)
    · have hf := op_t y15 hf
      refine lv_ldc2 (v := (-9223372036854775808 : Int64)) hx hb hown (hB _ q_f4fad641) dX7_read_46 ?_
      exact w_retL hx hb hr hlocks hW hV (Option.some.inj hf) rfl dX7_read_49
    · have hf := op_f y15 hf
      refine lv_iload_n hx hb dX7_read_16 rfl (lv_at hl 2 rfl) ?_
      refine lv_iconst (v := (0 : Int32)) hx hb dX7_read_17 (by decide) ?_
      refine lv_aload_n hx hb dX7_read_18 rfl (lv_at hl 0 rfl) ?_
      refine gf_RX7_94 hx hb hB hown hW dX7_read_19 ?_
      refine lv_iload_n hx hb dX7_read_22 rfl (lv_at hl 1 rfl) ?_
      obtain ⟨v16, e_v16, hf⟩ := op_none hf
      refine w_iald hx hb hW iM43.1 (iM43.2 E _ _) e_v16 dX7_read_23 ?_
      refine lv_iconst (v := (1 : Int32)) hx hb dX7_read_24 (by decide) ?_
      refine lv_isub hx hb dX7_read_25 ?_
      obtain ⟨v17, e_18, hf⟩ := op_none hf
      refine w_callN (rn_RX7_111 (As := [.int a2, .int (0 : Int32), .int (v16 - (1 : Int32))]) hx hb hml hown hB hW hZ hV (k_X7_within l E _ a2 (0 : Int32) (v16 - (1 : Int32)) v17 e_18) rfl rfl ⟨(Nat.le_of_ble_eq_true rfl), (Nat.le_of_ble_eq_true rfl)⟩ rfl hl.1 rfl (Nat.le_of_ble_eq_true rfl) dX7_read_26 ⟨Nat.le_refl _, Nat.le_refl _⟩) hV (fun H locs hn_v17 hW hV => ?_)
      refine lv_if_eq (tgt := 46) hx hb dX7_read_29 (by decide) (fun y19 => ?_) (fun y19 => ?_)
      · have hf := op_t y19 hf
        refine lv_ldc2 (v := (-9223372036854775808 : Int64)) hx hb hown (hB _ q_f4fad641) dX7_read_46 ?_
        exact w_retL hx hb hr hlocks hW hV (Option.some.inj hf) rfl dX7_read_49
      · have hf := op_f y19 hf
        refine lv_aload_n hx hb dX7_read_32 rfl (lv_at hl 0 rfl) ?_
        refine gf_RX7_97 hx hb hB hown hW dX7_read_33 ?_
        refine lv_bipush (v := (60 : Int32)) hx hb dX7_read_36 (by decide) ?_
        refine lv_iload_n hx hb dX7_read_38 rfl (lv_at hl 1 rfl) ?_
        refine lv_imul hx hb dX7_read_39 ?_
        refine lv_iload_n hx hb dX7_read_40 rfl (lv_at hl 2 rfl) ?_
        refine lv_iadd hx hb dX7_read_41 ?_
        obtain ⟨v20, e_v20, hf⟩ := op_none hf
        refine w_lald hx hb hW jM44.1 (jM44.2 E _ _) e_v20 dX7_read_42 ?_
        refine lv_goto (tgt := 49) hx hb dX7_read_43 (by decide) ?_
        exact w_retL hx hb hr hlocks hW hV (Option.some.inj hf) rfl dX7_read_49
