set_option maxHeartbeats 8000000 in
set_option maxRecDepth 100000 in
theorem k_X7_part (l : Launch) (E : WE) (μ : Mem) (a0 : Int64) (a2 : Int64) (a4 : Int32) (r : Int64) (hf : f_X7_part μ a0 a2 a4 = some r) : Met l yX7_part (.code yX7_part cX7_part 11 (some .long) :: BIG) ({ frames := 0, cells := 0, slots := 0, locals := 0 }) (PW E μ [.long a0, .long a2, .int a4]) (QL E r μ) 0 0 (eA E) := by
  refine Met.ofW (cc := cX7_part) (maxL := 11) (ret := (some .long)) (by decide) rfl ?_
  intro p e s m args below meth c s₁ B hml hv
  obtain ⟨rfl, hW, hZ⟩ := hv
  have hx := B.exec
  have hb := B.bytes
  have hr := B.returns
  have hB : ∀ w ∈ BIG, w.before _ s = true := fun w h => atoms_spec (ws := (.code yX7_part cX7_part 11 (some .long) :: BIG)) B.pre w (List.mem_cons_of_mem _ h)
  have hown : s.vm.findClass RX7 = some m.cls := findClass_of_methodNamed B.named
  have hlocks := B.notSynchronized
  have hV : va_S (eA E) s.heap s.heap [] := va_S.rf
  have hl := lv_entry ([.long a0, .long a2, .int a4]) (n := 11) (Nat.le_of_ble_eq_true rfl)
  rw [lg_entry_eq]
  generalize (lg_sl ([.long a0, .long a2, .int a4]) ++ List.replicate (11 - (lg_sl ([.long a0, .long a2, .int a4])).length) Slot.unset).toArray = ls at hl ⊢
  have hl : lv_has ls 11 [(0, .long a0), (2, .long a2), (4, .int a4)] := hl
  have c_6 : ∀ (n_6 : Nat) (b0_6 : Int64) (b2_6 : Int64) (b4_6 : Int32) (b5_6 : Int64) (b7_6 : Int64) , f_X7_part_6 μ n_6 b0_6 b2_6 b4_6 b5_6 b7_6 = some r → ∀ (H : Heap) (locs : List Loc) (ls : Array Slot), Wd E μ s H → va_S (eA E) s.heap H locs → lv_has ls 11 [(0, .long b0_6), (2, .long b2_6), (4, .int b4_6), (5, .long b5_6), (7, .long b7_6)] → W p l e (headSpec (.code yX7_part cX7_part 11 (some .long) :: BIG) ({ frames := 0, cells := 0, slots := 0, locals := 0 })).room s m ([.long a0, .long a2, .int a4] : List Value).toArray below meth c H locs 0 0 (MQ below (QL E r μ) ([.long a0, .long a2, .int a4] : List Value).toArray s 0 0 (eA E)) (F0 m 6 ls []) := by
    intro n_6
    induction n_6 with
    | zero =>
      intro b0_6 b2_6 b4_6 b5_6 b7_6 hf H locs ls hW hV hl
      cases hf
    | succ n_6 ih_6 =>
      intro b0_6 b2_6 b4_6 b5_6 b7_6 hf H locs ls hW hV hl
      rw [f_X7_part_6] at hf
      refine lv_lload hx hb dX7_part_6 (lv_at hl 4 rfl) ?_
      refine lv_lconst (v := (0 : Int64)) hx hb dX7_part_8 (by decide) ?_
      refine W.lcmp hx hb dX7_part_9 ?_
      refine lv_if_eq (tgt := 31) hx hb dX7_part_10 (by decide) (fun y6 => ?_) (fun y6 => ?_)
      · have hf := op_t y6 hf
        refine lv_iload hx hb dX7_part_31 (lv_at hl 2 rfl) ?_
        refine lv_if_ne (tgt := 43) hx hb dX7_part_33 (by decide) (fun y7 => ?_) (fun y7 => ?_)
        · have hf := op_f y7 hf
          refine lv_lload_n hx hb dX7_part_43 rfl (lv_at hl 1 rfl) ?_
          refine lv_lload hx hb dX7_part_44 (lv_at hl 3 rfl) ?_
          obtain ⟨v8, e_v8, hf⟩ := op_none hf
          refine w_ldiv hx hb e_v8 dX7_part_46 ?_
          exact w_retL hx hb hr hlocks hW hV (Option.some.inj hf) rfl dX7_part_47
        · have hf := op_t y7 hf
          refine lv_lload_n hx hb dX7_part_36 rfl (lv_at hl 0 rfl) ?_
          refine lv_lload hx hb dX7_part_37 (lv_at hl 3 rfl) ?_
          obtain ⟨v9, e_v9, hf⟩ := op_none hf
          refine w_ldiv hx hb e_v9 dX7_part_39 ?_
          refine lv_goto (tgt := 47) hx hb dX7_part_40 (by decide) ?_
          exact w_retL hx hb hr hlocks hW hV (Option.some.inj hf) rfl dX7_part_47
      · have hf := op_f y6 hf
        refine lv_lload hx hb dX7_part_13 (lv_at hl 3 rfl) ?_
        refine lv_lload hx hb dX7_part_15 (lv_at hl 4 rfl) ?_
        obtain ⟨v10, e_v10, hf⟩ := op_none hf
        refine w_lrem hx hb e_v10 dX7_part_17 ?_
        refine lv_lstore (i := 9) (lv' := [(9, .long v10), (0, .long b0_6), (2, .long b2_6), (4, .int b4_6), (5, .long b5_6), (7, .long b7_6)]) hx hb dX7_part_18 hl (by decide) rfl (fun ls hl => ?_)
        refine lv_lload hx hb dX7_part_20 (lv_at hl 5 rfl) ?_
        refine lv_lstore (i := 5) (lv' := [(5, .long b7_6), (9, .long v10), (0, .long b0_6), (2, .long b2_6), (4, .int b4_6), (7, .long b7_6)]) hx hb dX7_part_22 hl (by decide) rfl (fun ls hl => ?_)
        refine lv_lload hx hb dX7_part_24 (lv_at hl 1 rfl) ?_
        refine lv_lstore (i := 7) (lv' := [(7, .long v10), (5, .long b7_6), (9, .long v10), (0, .long b0_6), (2, .long b2_6), (4, .int b4_6)]) hx hb dX7_part_26 hl (by decide) rfl (fun ls hl => ?_)
        refine lv_goto (tgt := 6) hx hb dX7_part_28 (by decide) ?_
        exact ih_6 b0_6 b2_6 b4_6 b7_6 v10 hf H locs ls hW hV (lv_sub hl [3, 4, 5, 1, 0] rfl)
  obtain ⟨H, hH⟩ : ∃ H : Heap, H = s.heap := ⟨_, rfl⟩
  obtain ⟨locs, hlocs⟩ : ∃ locs : List Loc, locs = [] := ⟨_, rfl⟩
  rw [show (W p l e (headSpec (.code yX7_part cX7_part 11 (some .long) :: BIG) ({ frames := 0, cells := 0, slots := 0, locals := 0 })).room s m ([.long a0, .long a2, .int a4] : List Value).toArray below meth c s.heap [] 0 0) = W p l e (headSpec (.code yX7_part cX7_part 11 (some .long) :: BIG) ({ frames := 0, cells := 0, slots := 0, locals := 0 })).room s m ([.long a0, .long a2, .int a4] : List Value).toArray below meth c H locs 0 0 by rw [hH, hlocs]]
  have hV : va_S (eA E) s.heap H locs := by rw [hH, hlocs]; exact hV
  have hW : Wd E μ s H := by rw [hH]; exact hW
  unfold f_X7_part at hf
  refine lv_lload_n hx hb dX7_part_0 rfl (lv_at hl 0 rfl) ?_
  refine lv_lstore (i := 5) (lv' := [(5, .long a0), (0, .long a0), (2, .long a2), (4, .int a4)]) hx hb dX7_part_1 hl (by decide) rfl (fun ls hl => ?_)
  refine lv_lload_n hx hb dX7_part_3 rfl (lv_at hl 2 rfl) ?_
  refine lv_lstore (i := 7) (lv' := [(7, .long a2), (5, .long a0), (0, .long a0), (2, .long a2), (4, .int a4)]) hx hb dX7_part_4 hl (by decide) rfl (fun ls hl => ?_)
  exact c_6 FU a0 a2 a4 a0 a2 hf H locs ls hW hV (lv_sub hl [2, 3, 4, 1, 0] rfl)
set_option maxHeartbeats 8000000 in
set_option maxRecDepth 100000 in
theorem k_X7_odds (l : Launch) (E : WE) (μ : Mem) (a1 : Int32) (r : Int64) (μ' : Mem) (hf : f_X7_odds μ a1 = some (r, μ')) : Met l yX7_odds (.code yX7_odds cX7_odds 10 (some .long) :: BIG) ({ frames := 6, cells := 0, slots := 0, locals := 146 }) (PW E μ [.ref (ead E 2000), .int a1]) (QL E r μ') 0 0 (eA E) := by
  refine Met.ofW (cc := cX7_odds) (maxL := 10) (ret := (some .long)) (by decide) rfl ?_
  intro p e s m args below meth c s₁ B hml hv
  obtain ⟨rfl, hW, hZ⟩ := hv
  have hx := B.exec
  have hb := B.bytes
  have hr := B.returns
  have hB : ∀ w ∈ BIG, w.before _ s = true := fun w h => atoms_spec (ws := (.code yX7_odds cX7_odds 10 (some .long) :: BIG)) B.pre w (List.mem_cons_of_mem _ h)
  have hown : s.vm.findClass RX7 = some m.cls := findClass_of_methodNamed B.named
  have hlocks := B.notSynchronized
  have hV : va_S (eA E) s.heap s.heap [] := va_S.rf
  have hl := lv_entry ([.ref (ead E 2000), .int a1]) (n := 10) (Nat.le_of_ble_eq_true rfl)
  rw [lg_entry_eq]
  generalize (lg_sl ([.ref (ead E 2000), .int a1]) ++ List.replicate (10 - (lg_sl ([.ref (ead E 2000), .int a1])).length) Slot.unset).toArray = ls at hl ⊢
  have hl : lv_has ls 10 [(0, .ref (ead E 2000)), (1, .int a1)] := hl
  have c_58 : ∀ (n_58 : Nat) (μ_58 : Mem) (b1_58 : Int32) (b2_58 : Int32) (b3_58 : Int64) (b5_58 : Int64) (b7_58 : Int32) , f_X7_odds_58 n_58 μ_58 b1_58 b2_58 b3_58 b5_58 b7_58 = some (r, μ') → ∀ (H : Heap) (locs : List Loc) (ls : Array Slot), Wd E μ_58 s H → va_S (eA E) s.heap H locs → lv_has ls 10 [(0, .ref (ead E 2000)), (1, .int b1_58), (2, .int b2_58), (3, .long b3_58), (5, .long b5_58), (7, .int b7_58)] → W p l e (headSpec (.code yX7_odds cX7_odds 10 (some .long) :: BIG) ({ frames := 6, cells := 0, slots := 0, locals := 146 })).room s m ([.ref (ead E 2000), .int a1] : List Value).toArray below meth c H locs 0 0 (MQ below (QL E r μ') ([.ref (ead E 2000), .int a1] : List Value).toArray s 0 0 (eA E)) (F0 m 58 ls []) := by
    intro n_58
    induction n_58 with
    | zero =>
      intro μ_58 b1_58 b2_58 b3_58 b5_58 b7_58 hf H locs ls hW hV hl
      cases hf
    | succ n_58 ih_58 =>
      have c_125 : ∀ (μ_125 : Mem) (b1_125 : Int32) (b2_125 : Int32) (b3_125 : Int64) (b5_125 : Int64) (b7_125 : Int32) , f_X7_odds_125 (fun μ z0 z1 z2 z3 z4 => f_X7_odds_58 n_58 μ z0 z1 z2 z3 z4) μ_125 b1_125 b2_125 b3_125 b5_125 b7_125 = some (r, μ') → ∀ (H : Heap) (locs : List Loc) (ls : Array Slot), Wd E μ_125 s H → va_S (eA E) s.heap H locs → lv_has ls 10 [(0, .ref (ead E 2000)), (1, .int b1_125), (2, .int b2_125), (3, .long b3_125), (5, .long b5_125), (7, .int b7_125)] → W p l e (headSpec (.code yX7_odds cX7_odds 10 (some .long) :: BIG) ({ frames := 6, cells := 0, slots := 0, locals := 146 })).room s m ([.ref (ead E 2000), .int a1] : List Value).toArray below meth c H locs 0 0 (MQ below (QL E r μ') ([.ref (ead E 2000), .int a1] : List Value).toArray s 0 0 (eA E)) (F0 m 125 ls []) := by
        intro μ_125 b1_125 b2_125 b3_125 b5_125 b7_125 hf H locs ls hW hV hl
        unfold f_X7_odds_125 at hf
        obtain ⟨v30, e_v30, hf⟩ := op_none hf
        refine lv_iinc (v := v30) (lv' := [(7, .int v30), (0, .ref (ead E 2000)), (1, .int b1_125), (2, .int b2_125), (3, .long b3_125), (5, .long b5_125)]) hx hb dX7_odds_125 hl (k := 5) rfl (by rw [← Option.some.inj e_v30]; rfl) (by decide) rfl (fun ls hl => ?_)
        refine lv_goto (tgt := 58) hx hb dX7_odds_128 (by decide) ?_
        exact ih_58 μ_125 b1_125 b2_125 b3_125 b5_125 v30 hf H locs ls hW hV (lv_sub hl [1, 2, 3, 4, 5, 0] rfl)
      have c_122 : ∀ (μ_122 : Mem) (b1_122 : Int32) (b2_122 : Int32) (b3_122 : Int64) (b7_122 : Int32) (s0_122 : Int64) (s1_122 : Int64) , f_X7_odds_122 (fun μ z0 z1 z2 z3 z4 => f_X7_odds_58 n_58 μ z0 z1 z2 z3 z4) μ_122 b1_122 b2_122 b3_122 b7_122 s0_122 s1_122 = some (r, μ') → ∀ (H : Heap) (locs : List Loc) (ls : Array Slot), Wd E μ_122 s H → va_S (eA E) s.heap H locs → lv_has ls 10 [(0, .ref (ead E 2000)), (1, .int b1_122), (2, .int b2_122), (3, .long b3_122), (7, .int b7_122)] → W p l e (headSpec (.code yX7_odds cX7_odds 10 (some .long) :: BIG) ({ frames := 6, cells := 0, slots := 0, locals := 146 })).room s m ([.ref (ead E 2000), .int a1] : List Value).toArray below meth c H locs 0 0 (MQ below (QL E r μ') ([.ref (ead E 2000), .int a1] : List Value).toArray s 0 0 (eA E)) (F0 m 122 ls [.long s0_122, .long s1_122]) := by
        intro μ_122 b1_122 b2_122 b3_122 b7_122 s0_122 s1_122 hf H locs ls hW hV hl
        unfold f_X7_odds_122 at hf
        refine lv_ladd hx hb dX7_odds_122 ?_
        obtain ⟨v31, e_v31, hf⟩ := op_none hf
        refine lv_topL' (Option.some.inj e_v31) ?_
        refine lv_lstore (i := 5) (lv' := [(5, .long v31), (0, .ref (ead E 2000)), (1, .int b1_122), (2, .int b2_122), (3, .long b3_122), (7, .int b7_122)]) hx hb dX7_odds_123 hl (by decide) rfl (fun ls hl => ?_)
        exact c_125 μ_122 b1_122 b2_122 b3_122 v31 b7_122 hf H locs ls hW hV (lv_sub hl [1, 2, 3, 4, 0, 5] rfl)
      intro μ_58 b1_58 b2_58 b3_58 b5_58 b7_58 hf H locs ls hW hV hl
      rw [f_X7_odds_58] at hf
      refine lv_iload hx hb dX7_odds_58 (lv_at hl 5 rfl) ?_
      refine lv_iconst (v := (1 : Int32)) hx hb dX7_odds_60 (by decide) ?_
      refine lv_aload_n hx hb dX7_odds_61 rfl (lv_at hl 0 rfl) ?_
      refine gf_RX7_108 hx hb hB hown hW dX7_odds_62 ?_
      refine lv_ishl hx hb dX7_odds_65 ?_
      refine lv_icmp_ge (tgt := 131) hx hb dX7_odds_66 (by decide) (fun y32 => ?_) (fun y32 => ?_)
      · have hf := op_t y32 hf
        refine lv_lload hx hb dX7_odds_131 (lv_at hl 4 rfl) ?_
        refine lv_lload_n hx hb dX7_odds_133 rfl (lv_at hl 3 rfl) ?_
        refine lv_iload_n hx hb dX7_odds_134 rfl (lv_at hl 1 rfl) ?_
        obtain ⟨v33, e_34, hf⟩ := op_none hf
        refine w_callL (rn_RX7_295 (As := [.long b5_58, .long b3_58, .int b1_58]) hx hb hml hown hB hW hZ hV (k_X7_part l E _ b5_58 b3_58 b1_58 v33 e_34) rfl rfl ⟨(Nat.le_of_ble_eq_true rfl), (Nat.le_of_ble_eq_true rfl)⟩ rfl hl.1 rfl (Nat.le_of_ble_eq_true rfl) dX7_odds_135 ⟨Nat.le_refl _, Nat.le_refl _⟩) hV (fun H locs hW hV => ?_)
        exact w_retL hx hb hr hlocks hW hV (Prod.mk.inj (Option.some.inj hf)).1 (Prod.mk.inj (Option.some.inj hf)).2 dX7_odds_138
      · have hf := op_f y32 hf
        refine lv_iload hx hb dX7_odds_69 (lv_at hl 5 rfl) ?_
        refine lv_iload_n hx hb dX7_odds_71 rfl (lv_at hl 2 rfl) ?_
        refine lv_iconst (v := (-1 : Int32)) hx hb dX7_odds_72 (by decide) ?_
        refine lv_ixor hx hb dX7_odds_73 ?_
        refine lv_iand hx hb dX7_odds_74 ?_
        refine lv_if_ne (tgt := 125) hx hb dX7_odds_75 (by decide) (fun y35 => ?_) (fun y35 => ?_)
        · have hf := op_f y35 hf
          exact c_125 μ_58 b1_58 b2_58 b3_58 b5_58 b7_58 hf H locs ls hW hV (lv_sub hl [0, 1, 2, 3, 4, 5] rfl)
        · have hf := op_t y35 hf
          refine lv_aload_n hx hb dX7_odds_78 rfl (lv_at hl 0 rfl) ?_
          refine lv_iload hx hb dX7_odds_79 (lv_at hl 5 rfl) ?_
          obtain ⟨p39, e_38, hf⟩ := op_none hf
          refine w_callL (rn_RX7_277 (As := [.int b7_58]) hx hb hml hown hB hW hZ hV (k_X7_first l E _ b7_58 p39.1 p39.2 e_38) rfl rfl ⟨(Nat.le_of_ble_eq_true rfl), (Nat.le_of_ble_eq_true rfl)⟩ (w_rec hW oM.1 (oM.2 E _ _) rfl) rfl hl.1 rfl (Nat.le_of_ble_eq_true rfl) dX7_odds_81 ⟨Nat.le_refl _, Nat.le_refl _⟩) hV (fun H locs hW hV => ?_)
          refine lv_lconst (v := (0 : Int64)) hx hb dX7_odds_84 (by decide) ?_
          refine W.lcmp hx hb dX7_odds_85 ?_
          refine lv_if_ge (tgt := 92) hx hb dX7_odds_86 (by decide) (fun y40 => ?_) (fun y40 => ?_)
          · have hf := op_t y40 hf
            refine lv_lload_n hx hb dX7_odds_92 rfl (lv_at hl 3 rfl) ?_
            refine lv_aload_n hx hb dX7_odds_93 rfl (lv_at hl 0 rfl) ?_
            refine lv_iload hx hb dX7_odds_94 (lv_at hl 5 rfl) ?_
            obtain ⟨v41, e_42, hf⟩ := op_none hf
            refine w_callL (rn_RX7_281 (As := [.int b7_58]) hx hb hml hown hB hW hZ hV (k_X7_common l E _ b7_58 v41 e_42) rfl rfl ⟨(Nat.le_of_ble_eq_true rfl), (Nat.le_of_ble_eq_true rfl)⟩ (w_rec hW oM.1 (oM.2 E _ _) rfl) rfl hl.1 rfl (Nat.le_of_ble_eq_true rfl) dX7_odds_96 ⟨Nat.le_refl _, Nat.le_refl _⟩) hV (fun H locs hW hV => ?_)
            obtain ⟨v43, e_v43, hf⟩ := op_none hf
            refine w_ldiv hx hb e_v43 dX7_odds_99 ?_
            refine lv_lstore (i := 8) (lv' := [(8, .long v43), (0, .ref (ead E 2000)), (1, .int b1_58), (2, .int b2_58), (3, .long b3_58), (5, .long b5_58), (7, .int b7_58)]) hx hb dX7_odds_100 hl (by decide) rfl (fun ls hl => ?_)
            refine lv_lload hx hb dX7_odds_102 (lv_at hl 5 rfl) ?_
            refine lv_iload hx hb dX7_odds_104 (lv_at hl 6 rfl) ?_
            obtain ⟨v44, e_45, hf⟩ := op_none hf
            refine w_callI (rn_RX7_284 (As := [.int b7_58]) hx hb hml hown hB hW hZ hV (k_J6_bitCount_0f7a4 l E _ b7_58 v44 e_45) rfl rfl ⟨(Nat.le_of_ble_eq_true rfl), (Nat.le_of_ble_eq_true rfl)⟩ rfl hl.1 rfl (Nat.le_of_ble_eq_true rfl) dX7_odds_106 ⟨Nat.le_refl _, Nat.le_refl _⟩) hV (fun H locs hW hV => ?_)
            refine lv_iconst (v := (2 : Int32)) hx hb dX7_odds_109 (by decide) ?_
            obtain ⟨v46, e_v46, hf⟩ := op_none hf
            refine w_irem hx hb e_v46 dX7_odds_110 ?_
            refine lv_if_ne (tgt := 119) hx hb dX7_odds_111 (by decide) (fun y47 => ?_) (fun y47 => ?_)
            · have hf := op_f y47 hf
              refine lv_lload hx hb dX7_odds_119 (lv_at hl 0 rfl) ?_
              refine lv_lneg hx hb dX7_odds_121 ?_
              exact c_122 p39.2 b1_58 b2_58 b3_58 b7_58 (-v43) b5_58 hf H locs ls hW hV (lv_sub hl [1, 2, 3, 4, 6] rfl)
            · have hf := op_t y47 hf
              refine lv_lload hx hb dX7_odds_114 (lv_at hl 0 rfl) ?_
              refine lv_goto (tgt := 122) hx hb dX7_odds_116 (by decide) ?_
              exact c_122 p39.2 b1_58 b2_58 b3_58 b7_58 v43 b5_58 hf H locs ls hW hV (lv_sub hl [1, 2, 3, 4, 6] rfl)
          · have hf := op_f y40 hf
            refine lv_goto (tgt := 125) hx hb dX7_odds_89 (by decide) ?_
            exact c_125 p39.2 b1_58 b2_58 b3_58 b5_58 b7_58 hf H locs ls hW hV (lv_sub hl [0, 1, 2, 3, 4, 5] rfl)
  have c_17 : ∀ (n_17 : Nat) (μ_17 : Mem) (b1_17 : Int32) (b2_17 : Int32) (b3_17 : Int32) , f_X7_odds_17 n_17 μ_17 b1_17 b2_17 b3_17 = some (r, μ') → ∀ (H : Heap) (locs : List Loc) (ls : Array Slot), Wd E μ_17 s H → va_S (eA E) s.heap H locs → lv_has ls 10 [(0, .ref (ead E 2000)), (1, .int b1_17), (2, .int b2_17), (3, .int b3_17)] → W p l e (headSpec (.code yX7_odds cX7_odds 10 (some .long) :: BIG) ({ frames := 6, cells := 0, slots := 0, locals := 146 })).room s m ([.ref (ead E 2000), .int a1] : List Value).toArray below meth c H locs 0 0 (MQ below (QL E r μ') ([.ref (ead E 2000), .int a1] : List Value).toArray s 0 0 (eA E)) (F0 m 17 ls []) := by
    intro n_17
    induction n_17 with
    | zero =>
      intro μ_17 b1_17 b2_17 b3_17 hf H locs ls hW hV hl
      cases hf
    | succ n_17 ih_17 =>
      have c_40 : ∀ (μ_40 : Mem) (b1_40 : Int32) (b2_40 : Int32) (b3_40 : Int32) , f_X7_odds_40 (fun μ z0 z1 z2 => f_X7_odds_17 n_17 μ z0 z1 z2) μ_40 b1_40 b2_40 b3_40 = some (r, μ') → ∀ (H : Heap) (locs : List Loc) (ls : Array Slot), Wd E μ_40 s H → va_S (eA E) s.heap H locs → lv_has ls 10 [(0, .ref (ead E 2000)), (1, .int b1_40), (2, .int b2_40), (3, .int b3_40)] → W p l e (headSpec (.code yX7_odds cX7_odds 10 (some .long) :: BIG) ({ frames := 6, cells := 0, slots := 0, locals := 146 })).room s m ([.ref (ead E 2000), .int a1] : List Value).toArray below meth c H locs 0 0 (MQ below (QL E r μ') ([.ref (ead E 2000), .int a1] : List Value).toArray s 0 0 (eA E)) (F0 m 40 ls []) := by
        intro μ_40 b1_40 b2_40 b3_40 hf H locs ls hW hV hl
        unfold f_X7_odds_40 at hf
        obtain ⟨v29, e_v29, hf⟩ := op_none hf
        refine lv_iinc (v := v29) (lv' := [(3, .int v29), (0, .ref (ead E 2000)), (1, .int b1_40), (2, .int b2_40)]) hx hb dX7_odds_40 hl (k := 3) rfl (by rw [← Option.some.inj e_v29]; rfl) (by decide) rfl (fun ls hl => ?_)
        refine lv_goto (tgt := 17) hx hb dX7_odds_43 (by decide) ?_
        exact ih_17 μ_40 b1_40 b2_40 v29 hf H locs ls hW hV (lv_sub hl [1, 2, 3, 0] rfl)
      intro μ_17 b1_17 b2_17 b3_17 hf H locs ls hW hV hl
      rw [f_X7_odds_17] at hf
      refine lv_iload_n hx hb dX7_odds_17 rfl (lv_at hl 3 rfl) ?_
      refine lv_aload_n hx hb dX7_odds_18 rfl (lv_at hl 0 rfl) ?_
      refine gf_RX7_108 hx hb hB hown hW dX7_odds_19 ?_
      refine lv_icmp_ge (tgt := 46) hx hb dX7_odds_22 (by decide) (fun y48 => ?_) (fun y48 => ?_)
      · have hf := op_t y48 hf
        refine lv_aload_n hx hb dX7_odds_46 rfl (lv_at hl 0 rfl) ?_
        refine lv_iload_n hx hb dX7_odds_47 rfl (lv_at hl 2 rfl) ?_
        obtain ⟨v49, e_50, hf⟩ := op_none hf
        refine w_callL (rn_RX7_281 (As := [.int b2_17]) hx hb hml hown hB hW hZ hV (k_X7_common l E _ b2_17 v49 e_50) rfl rfl ⟨(Nat.le_of_ble_eq_true rfl), (Nat.le_of_ble_eq_true rfl)⟩ (w_rec hW oM.1 (oM.2 E _ _) rfl) rfl hl.1 rfl (Nat.le_of_ble_eq_true rfl) dX7_odds_48 ⟨Nat.le_refl _, Nat.le_refl _⟩) hV (fun H locs hW hV => ?_)
        refine lv_lstore_n (i := 3) (lv' := [(3, .long v49), (0, .ref (ead E 2000)), (1, .int b1_17), (2, .int b2_17)]) hx hb dX7_odds_51 rfl hl (by decide) rfl (fun ls hl => ?_)
        refine lv_lconst (v := (0 : Int64)) hx hb dX7_odds_52 (by decide) ?_
        refine lv_lstore (i := 5) (lv' := [(5, .long (0 : Int64)), (3, .long v49), (0, .ref (ead E 2000)), (1, .int b1_17), (2, .int b2_17)]) hx hb dX7_odds_53 hl (by decide) rfl (fun ls hl => ?_)
        refine lv_iconst (v := (0 : Int32)) hx hb dX7_odds_55 (by decide) ?_
        refine lv_istore (i := 7) (lv' := [(7, .int (0 : Int32)), (5, .long (0 : Int64)), (3, .long v49), (0, .ref (ead E 2000)), (1, .int b1_17), (2, .int b2_17)]) hx hb dX7_odds_56 hl (by decide) rfl (fun ls hl => ?_)
        exact c_58 FU μ_17 b1_17 b2_17 v49 (0 : Int64) (0 : Int32) hf H locs ls hW hV (lv_sub hl [3, 4, 5, 2, 1, 0] rfl)
      · have hf := op_f y48 hf
        refine lv_aload_n hx hb dX7_odds_25 rfl (lv_at hl 0 rfl) ?_
        refine gf_RX7_24 hx hb hB hown hW dX7_odds_26 ?_
        refine lv_iload_n hx hb dX7_odds_29 rfl (lv_at hl 3 rfl) ?_
        obtain ⟨v51, e_v51, hf⟩ := op_none hf
        refine w_iald hx hb hW iM5.1 (iM5.2 E _ _) e_v51 dX7_odds_30 ?_
        refine lv_if_ne (tgt := 40) hx hb dX7_odds_31 (by decide) (fun y52 => ?_) (fun y52 => ?_)
        · have hf := op_f y52 hf
          exact c_40 μ_17 b1_17 b2_17 b3_17 hf H locs ls hW hV (lv_sub hl [0, 1, 2, 3] rfl)
        · have hf := op_t y52 hf
          refine lv_iload_n hx hb dX7_odds_34 rfl (lv_at hl 2 rfl) ?_
          refine lv_iconst (v := (1 : Int32)) hx hb dX7_odds_35 (by decide) ?_
          refine lv_iload_n hx hb dX7_odds_36 rfl (lv_at hl 3 rfl) ?_
          refine lv_ishl hx hb dX7_odds_37 ?_
          refine lv_ior hx hb dX7_odds_38 ?_
          obtain ⟨v53, e_v53, hf⟩ := op_none hf
          refine lv_top' (Option.some.inj e_v53) ?_
          refine lv_istore_n (i := 2) (lv' := [(2, .int v53), (0, .ref (ead E 2000)), (1, .int b1_17), (3, .int b3_17)]) hx hb dX7_odds_39 rfl hl (by decide) rfl (fun ls hl => ?_)
          exact c_40 μ_17 b1_17 v53 b3_17 hf H locs ls hW hV (lv_sub hl [1, 2, 0, 3] rfl)
  obtain ⟨H, hH⟩ : ∃ H : Heap, H = s.heap := ⟨_, rfl⟩
  obtain ⟨locs, hlocs⟩ : ∃ locs : List Loc, locs = [] := ⟨_, rfl⟩
  rw [show (W p l e (headSpec (.code yX7_odds cX7_odds 10 (some .long) :: BIG) ({ frames := 6, cells := 0, slots := 0, locals := 146 })).room s m ([.ref (ead E 2000), .int a1] : List Value).toArray below meth c s.heap [] 0 0) = W p l e (headSpec (.code yX7_odds cX7_odds 10 (some .long) :: BIG) ({ frames := 6, cells := 0, slots := 0, locals := 146 })).room s m ([.ref (ead E 2000), .int a1] : List Value).toArray below meth c H locs 0 0 by rw [hH, hlocs]]
  have hV : va_S (eA E) s.heap H locs := by rw [hH, hlocs]; exact hV
  have hW : Wd E μ s H := by rw [hH]; exact hW
  unfold f_X7_odds at hf
  refine lv_iload_n hx hb dX7_odds_0 rfl (lv_at hl 1 rfl) ?_
  refine lv_iconst (v := (0 : Int32)) hx hb dX7_odds_1 (by decide) ?_
  refine lv_iconst (v := (1 : Int32)) hx hb dX7_odds_2 (by decide) ?_
  obtain ⟨v54, e_55, hf⟩ := op_none hf
  refine w_callN (rn_RX7_111 (As := [.int a1, .int (0 : Int32), .int (1 : Int32)]) hx hb hml hown hB hW hZ hV (k_X7_within l E _ a1 (0 : Int32) (1 : Int32) v54 e_55) rfl rfl ⟨(Nat.le_of_ble_eq_true rfl), (Nat.le_of_ble_eq_true rfl)⟩ rfl hl.1 rfl (Nat.le_of_ble_eq_true rfl) dX7_odds_3 ⟨Nat.le_refl _, Nat.le_refl _⟩) hV (fun H locs hn_v54 hW hV => ?_)
  refine lv_if_ne (tgt := 13) hx hb dX7_odds_6 (by decide) (fun y56 => ?_) (fun y56 => ?_)
  · have hf := op_f y56 hf
    refine lv_iconst (v := (0 : Int32)) hx hb dX7_odds_13 (by decide) ?_
    refine lv_istore_n (i := 2) (lv' := [(2, .int (0 : Int32)), (0, .ref (ead E 2000)), (1, .int a1)]) hx hb dX7_odds_14 rfl hl (by decide) rfl (fun ls hl => ?_)
    refine lv_iconst (v := (0 : Int32)) hx hb dX7_odds_15 (by decide) ?_
    refine lv_istore_n (i := 3) (lv' := [(3, .int (0 : Int32)), (2, .int (0 : Int32)), (0, .ref (ead E 2000)), (1, .int a1)]) hx hb dX7_odds_16 rfl hl (by decide) rfl (fun ls hl => ?_)
    exact c_17 FU μ a1 (0 : Int32) (0 : Int32) hf H locs ls hW hV (lv_sub hl [2, 3, 1, 0] rfl)
  · have hf := op_t y56 hf
    refine lv_ldc2 (v := (-9223372036854775808 : Int64)) hx hb hown (hB _ q_f4fad641) dX7_odds_9 ?_
    exact w_retL hx hb hr hlocks hW hV (Prod.mk.inj (Option.some.inj hf)).1 (Prod.mk.inj (Option.some.inj hf)).2 dX7_odds_12
set_option maxHeartbeats 8000000 in
set_option maxRecDepth 100000 in
theorem k_X7_mean (l : Launch) (E : WE) (μ : Mem) (a1 : Int32) (a2 : Int32) (r : Int64) (μ' : Mem) (hf : f_X7_mean μ a1 a2 = some (r, μ')) : Met l yX7_mean (.code yX7_mean cX7_mean 4 (some .long) :: BIG) ({ frames := 8, cells := 0, slots := 0, locals := 186 }) (PW E μ [.ref (ead E 2000), .int a1, .int a2]) (QL E r μ') 0 0 (eA E) := by
  refine Met.ofW (cc := cX7_mean) (maxL := 4) (ret := (some .long)) (by decide) rfl ?_
  intro p e s m args below meth c s₁ B hml hv
  obtain ⟨rfl, hW, hZ⟩ := hv
  have hx := B.exec
  have hb := B.bytes
  have hr := B.returns
  have hB : ∀ w ∈ BIG, w.before _ s = true := fun w h => atoms_spec (ws := (.code yX7_mean cX7_mean 4 (some .long) :: BIG)) B.pre w (List.mem_cons_of_mem _ h)
  have hown : s.vm.findClass RX7 = some m.cls := findClass_of_methodNamed B.named
  have hlocks := B.notSynchronized
  have hV : va_S (eA E) s.heap s.heap [] := va_S.rf
  have hl := lv_entry ([.ref (ead E 2000), .int a1, .int a2]) (n := 4) (Nat.le_of_ble_eq_true rfl)
  rw [lg_entry_eq]
  generalize (lg_sl ([.ref (ead E 2000), .int a1, .int a2]) ++ List.replicate (4 - (lg_sl ([.ref (ead E 2000), .int a1, .int a2])).length) Slot.unset).toArray = ls at hl ⊢
  have hl : lv_has ls 4 [(0, .ref (ead E 2000)), (1, .int a1), (2, .int a2)] := hl
  have c_40 : ∀ (n_40 : Nat) (μ_40 : Mem) (b1_40 : Int32) (b2_40 : Int32) (b3_40 : Int32) , f_X7_mean_40 n_40 μ_40 b1_40 b2_40 b3_40 = some (r, μ') → ∀ (H : Heap) (locs : List Loc) (ls : Array Slot), Wd E μ_40 s H → va_S (eA E) s.heap H locs → lv_has ls 4 [(0, .ref (ead E 2000)), (1, .int b1_40), (2, .int b2_40), (3, .int b3_40)] → W p l e (headSpec (.code yX7_mean cX7_mean 4 (some .long) :: BIG) ({ frames := 8, cells := 0, slots := 0, locals := 186 })).room s m ([.ref (ead E 2000), .int a1, .int a2] : List Value).toArray below meth c H locs 0 0 (MQ below (QL E r μ') ([.ref (ead E 2000), .int a1, .int a2] : List Value).toArray s 0 0 (eA E)) (F0 m 40 ls []) := by
    intro n_40
    induction n_40 with
    | zero =>
      intro μ_40 b1_40 b2_40 b3_40 hf H locs ls hW hV hl
      cases hf
    | succ n_40 ih_40 =>
      intro μ_40 b1_40 b2_40 b3_40 hf H locs ls hW hV hl
      rw [f_X7_mean_40] at hf
      refine lv_iload_n hx hb dX7_mean_40 rfl (lv_at hl 3 rfl) ?_
      refine lv_iload_n hx hb dX7_mean_41 rfl (lv_at hl 1 rfl) ?_
      refine lv_icmp_ge (tgt := 55) hx hb dX7_mean_42 (by decide) (fun y20 => ?_) (fun y20 => ?_)
      · have hf := op_t y20 hf
        refine lv_aload_n hx hb dX7_mean_55 rfl (lv_at hl 0 rfl) ?_
        obtain ⟨v21, e_22, hf⟩ := op_none hf
        refine w_callI (rn_RX7_244 (As := []) hx hb hml hown hB hW hZ hV (k_X7_allWent l E _ v21 e_22) rfl rfl ⟨(Nat.le_of_ble_eq_true rfl), (Nat.le_of_ble_eq_true rfl)⟩ (w_rec hW oM.1 (oM.2 E _ _) rfl) rfl hl.1 rfl (Nat.le_of_ble_eq_true rfl) dX7_mean_56 ⟨Nat.le_refl _, Nat.le_refl _⟩) hV (fun H locs hW hV => ?_)
        refine lv_istore_n (i := 3) (lv' := [(3, .int v21), (0, .ref (ead E 2000)), (1, .int b1_40), (2, .int b2_40)]) hx hb dX7_mean_59 rfl hl (by decide) rfl (fun ls hl => ?_)
        refine lv_aload_n hx hb dX7_mean_60 rfl (lv_at hl 1 rfl) ?_
        refine lv_aload_n hx hb dX7_mean_61 rfl (lv_at hl 1 rfl) ?_
        refine gf_RX7_88 hx hb hB hown hW dX7_mean_62 ?_
        obtain ⟨μ23, e_24, hf⟩ := op_none hf
        refine w_callV (rn_RX7_261 (As := [.ref (ead E 2041)]) hx hb hml hown hB hW hZ hV (k_X7_again l E _ 2041 iM41 μ23 e_24) rfl rfl ⟨(Nat.le_of_ble_eq_true rfl), (Nat.le_of_ble_eq_true rfl)⟩ (w_rec hW oM.1 (oM.2 E _ _) rfl) rfl hl.1 rfl (Nat.le_of_ble_eq_true rfl) dX7_mean_65 ⟨Nat.le_refl _, Nat.le_refl _⟩) hV (fun H locs hW hV => ?_)
        refine lv_iload_n hx hb dX7_mean_68 rfl (lv_at hl 0 rfl) ?_
        refine lv_i2l hx hb dX7_mean_69 rfl ?_
        refine lv_aload_n hx hb dX7_mean_70 rfl (lv_at hl 1 rfl) ?_
        refine gf_RX7_108 hx hb hB hown hW dX7_mean_71 ?_
        refine lv_i2l hx hb dX7_mean_74 rfl ?_
        refine lv_iload_n hx hb dX7_mean_75 rfl (lv_at hl 3 rfl) ?_
        obtain ⟨v25, e_26, hf⟩ := op_none hf
        refine w_callL (rn_RX7_295 (As := [.long v21.toInt64, .long ((gI μ23 2000 0).toInt64), .int b2_40]) hx hb hml hown hB hW hZ hV (k_X7_part l E _ v21.toInt64 ((gI μ23 2000 0).toInt64) b2_40 v25 e_26) rfl rfl ⟨(Nat.le_of_ble_eq_true rfl), (Nat.le_of_ble_eq_true rfl)⟩ rfl hl.1 rfl (Nat.le_of_ble_eq_true rfl) dX7_mean_76 ⟨Nat.le_refl _, Nat.le_refl _⟩) hV (fun H locs hW hV => ?_)
        exact w_retL hx hb hr hlocks hW hV (Prod.mk.inj (Option.some.inj hf)).1 (Prod.mk.inj (Option.some.inj hf)).2 dX7_mean_79
      · have hf := op_f y20 hf
        refine lv_aload_n hx hb dX7_mean_45 rfl (lv_at hl 0 rfl) ?_
        obtain ⟨μ27, e_28, hf⟩ := op_none hf
        refine w_callV (rn_RX7_251 (As := []) hx hb hml hown hB hW hZ hV (k_X7_goesDay l E _ μ27 e_28) rfl rfl ⟨(Nat.le_of_ble_eq_true rfl), (Nat.le_of_ble_eq_true rfl)⟩ (w_rec hW oM.1 (oM.2 E _ _) rfl) rfl hl.1 rfl (Nat.le_of_ble_eq_true rfl) dX7_mean_46 ⟨Nat.le_refl _, Nat.le_refl _⟩) hV (fun H locs hW hV => ?_)
        obtain ⟨v29, e_v29, hf⟩ := op_none hf
        refine lv_iinc (v := v29) (lv' := [(3, .int v29), (0, .ref (ead E 2000)), (1, .int b1_40), (2, .int b2_40)]) hx hb dX7_mean_49 hl (k := 3) rfl (by rw [← Option.some.inj e_v29]; rfl) (by decide) rfl (fun ls hl => ?_)
        refine lv_goto (tgt := 40) hx hb dX7_mean_52 (by decide) ?_
        exact ih_40 μ27 b1_40 b2_40 v29 hf H locs ls hW hV (lv_sub hl [1, 2, 3, 0] rfl)
  obtain ⟨H, hH⟩ : ∃ H : Heap, H = s.heap := ⟨_, rfl⟩
  obtain ⟨locs, hlocs⟩ : ∃ locs : List Loc, locs = [] := ⟨_, rfl⟩
  rw [show (W p l e (headSpec (.code yX7_mean cX7_mean 4 (some .long) :: BIG) ({ frames := 8, cells := 0, slots := 0, locals := 186 })).room s m ([.ref (ead E 2000), .int a1, .int a2] : List Value).toArray below meth c s.heap [] 0 0) = W p l e (headSpec (.code yX7_mean cX7_mean 4 (some .long) :: BIG) ({ frames := 8, cells := 0, slots := 0, locals := 186 })).room s m ([.ref (ead E 2000), .int a1, .int a2] : List Value).toArray below meth c H locs 0 0 by rw [hH, hlocs]]
  have hV : va_S (eA E) s.heap H locs := by rw [hH, hlocs]; exact hV
  have hW : Wd E μ s H := by rw [hH]; exact hW
  unfold f_X7_mean at hf
  refine lv_iload_n hx hb dX7_mean_0 rfl (lv_at hl 1 rfl) ?_
  refine lv_iconst (v := (0 : Int32)) hx hb dX7_mean_1 (by decide) ?_
  refine lv_bipush (v := (60 : Int32)) hx hb dX7_mean_2 (by decide) ?_
  obtain ⟨v30, e_31, hf⟩ := op_none hf
  refine w_callN (rn_RX7_111 (As := [.int a1, .int (0 : Int32), .int (60 : Int32)]) hx hb hml hown hB hW hZ hV (k_X7_within l E _ a1 (0 : Int32) (60 : Int32) v30 e_31) rfl rfl ⟨(Nat.le_of_ble_eq_true rfl), (Nat.le_of_ble_eq_true rfl)⟩ rfl hl.1 rfl (Nat.le_of_ble_eq_true rfl) dX7_mean_4 ⟨Nat.le_refl _, Nat.le_refl _⟩) hV (fun H locs hn_v30 hW hV => ?_)
  refine lv_if_eq (tgt := 26) hx hb dX7_mean_7 (by decide) (fun y32 => ?_) (fun y32 => ?_)
  · have hf := op_t y32 hf
    refine lv_ldc2 (v := (-9223372036854775808 : Int64)) hx hb hown (hB _ q_f4fad641) dX7_mean_26 ?_
    exact w_retL hx hb hr hlocks hW hV (Prod.mk.inj (Option.some.inj hf)).1 (Prod.mk.inj (Option.some.inj hf)).2 dX7_mean_29
  · have hf := op_f y32 hf
    refine lv_iload_n hx hb dX7_mean_10 rfl (lv_at hl 2 rfl) ?_
    refine lv_iconst (v := (0 : Int32)) hx hb dX7_mean_11 (by decide) ?_
    refine lv_iconst (v := (1 : Int32)) hx hb dX7_mean_12 (by decide) ?_
    obtain ⟨v33, e_34, hf⟩ := op_none hf
    refine w_callN (rn_RX7_111 (As := [.int a2, .int (0 : Int32), .int (1 : Int32)]) hx hb hml hown hB hW hZ hV (k_X7_within l E _ a2 (0 : Int32) (1 : Int32) v33 e_34) rfl rfl ⟨(Nat.le_of_ble_eq_true rfl), (Nat.le_of_ble_eq_true rfl)⟩ rfl hl.1 rfl (Nat.le_of_ble_eq_true rfl) dX7_mean_13 ⟨Nat.le_refl _, Nat.le_refl _⟩) hV (fun H locs hn_v33 hW hV => ?_)
    refine lv_if_eq (tgt := 26) hx hb dX7_mean_16 (by decide) (fun y35 => ?_) (fun y35 => ?_)
    · have hf := op_t y35 hf
      refine lv_ldc2 (v := (-9223372036854775808 : Int64)) hx hb hown (hB _ q_f4fad641) dX7_mean_26 ?_
      exact w_retL hx hb hr hlocks hW hV (Prod.mk.inj (Option.some.inj hf)).1 (Prod.mk.inj (Option.some.inj hf)).2 dX7_mean_29
    · have hf := op_f y35 hf
      refine lv_aload_n hx hb dX7_mean_19 rfl (lv_at hl 0 rfl) ?_
      refine gf_RX7_108 hx hb hB hown hW dX7_mean_20 ?_
      refine lv_if_ne (tgt := 30) hx hb dX7_mean_23 (by decide) (fun y36 => ?_) (fun y36 => ?_)
      · have hf := op_f y36 hf
        refine lv_aload_n hx hb dX7_mean_30 rfl (lv_at hl 0 rfl) ?_
        refine lv_aload_n hx hb dX7_mean_31 rfl (lv_at hl 0 rfl) ?_
        refine gf_RX7_88 hx hb hB hown hW dX7_mean_32 ?_
        obtain ⟨μ37, e_38, hf⟩ := op_none hf
        refine w_callV (rn_RX7_257 (As := [.ref (ead E 2041)]) hx hb hml hown hB hW hZ hV (k_X7_keep l E _ 2041 iM41 μ37 e_38) rfl rfl ⟨(Nat.le_of_ble_eq_true rfl), (Nat.le_of_ble_eq_true rfl)⟩ (w_rec hW oM.1 (oM.2 E _ _) rfl) rfl hl.1 rfl (Nat.le_of_ble_eq_true rfl) dX7_mean_35 ⟨Nat.le_refl _, Nat.le_refl _⟩) hV (fun H locs hW hV => ?_)
        refine lv_iconst (v := (0 : Int32)) hx hb dX7_mean_38 (by decide) ?_
        refine lv_istore_n (i := 3) (lv' := [(3, .int (0 : Int32)), (0, .ref (ead E 2000)), (1, .int a1), (2, .int a2)]) hx hb dX7_mean_39 rfl hl (by decide) rfl (fun ls hl => ?_)
        exact c_40 FU μ37 a1 a2 (0 : Int32) hf H locs ls hW hV (lv_sub hl [1, 2, 3, 0] rfl)
      · have hf := op_t y36 hf
        refine lv_ldc2 (v := (-9223372036854775808 : Int64)) hx hb hown (hB _ q_f4fad641) dX7_mean_26 ?_
        exact w_retL hx hb hr hlocks hW hV (Prod.mk.inj (Option.some.inj hf)).1 (Prod.mk.inj (Option.some.inj hf)).2 dX7_mean_29
set_option maxHeartbeats 8000000 in
set_option maxRecDepth 100000 in
theorem k_X7_plan (l : Launch) (E : WE) (μ : Mem) (a1 : Int32) (a2 : Int32) (r : Int32) (μ' : Mem) (hf : f_X7_plan μ a1 a2 = some (r, μ')) : Met l yX7_plan (.code yX7_plan cX7_plan 3 (some .int) :: BIG) ({ frames := 2, cells := 0, slots := 0, locals := 43 }) (PW E μ [.ref (ead E 2000), .int a1, .int a2]) (QI E r μ') 0 0 (eA E) := by
  refine Met.ofW (cc := cX7_plan) (maxL := 3) (ret := (some .int)) (by decide) rfl ?_
  intro p e s m args below meth c s₁ B hml hv
  obtain ⟨rfl, hW, hZ⟩ := hv
  have hx := B.exec
  have hb := B.bytes
  have hr := B.returns
  have hB : ∀ w ∈ BIG, w.before _ s = true := fun w h => atoms_spec (ws := (.code yX7_plan cX7_plan 3 (some .int) :: BIG)) B.pre w (List.mem_cons_of_mem _ h)
  have hown : s.vm.findClass RX7 = some m.cls := findClass_of_methodNamed B.named
  have hlocks := B.notSynchronized
  have hV : va_S (eA E) s.heap s.heap [] := va_S.rf
  have hl := lv_entry ([.ref (ead E 2000), .int a1, .int a2]) (n := 3) (Nat.le_of_ble_eq_true rfl)
  rw [lg_entry_eq]
  generalize (lg_sl ([.ref (ead E 2000), .int a1, .int a2]) ++ List.replicate (3 - (lg_sl ([.ref (ead E 2000), .int a1, .int a2])).length) Slot.unset).toArray = ls at hl ⊢
  have hl : lv_has ls 3 [(0, .ref (ead E 2000)), (1, .int a1), (2, .int a2)] := hl
  have c_104 : ∀ (μ_104 : Mem) (s0_104 : Int32) (s1_104 : Int32) , f_X7_plan_104 μ_104 s0_104 s1_104 = some (r, μ') → ∀ (H : Heap) (locs : List Loc) (ls : Array Slot), Wd E μ_104 s H → va_S (eA E) s.heap H locs → lv_has ls 3 [(0, .ref (ead E 2000))] → W p l e (headSpec (.code yX7_plan cX7_plan 3 (some .int) :: BIG) ({ frames := 2, cells := 0, slots := 0, locals := 43 })).room s m ([.ref (ead E 2000), .int a1, .int a2] : List Value).toArray below meth c H locs 0 0 (MQ below (QI E r μ') ([.ref (ead E 2000), .int a1, .int a2] : List Value).toArray s 0 0 (eA E)) (F0 m 104 ls [.int s0_104, .int s1_104, .ref (ead E 2033)]) := by
    intro μ_104 s0_104 s1_104 hf H locs ls hW hV hl
    unfold f_X7_plan_104 at hf
    obtain ⟨μ22, e_μ22, hf⟩ := op_none hf
    refine w_iast hx hb hW hV iM33.1 (fun f => iM33.2 E f _) e_μ22 dX7_plan_104 (fun H locs hW hV => ?_)
    refine lv_aload_n hx hb dX7_plan_105 rfl (lv_at hl 0 rfl) ?_
    refine gf_RX7_299 hx hb hB hown hW dX7_plan_106 ?_
    exact w_retI hx hb hr hlocks hW hV (Prod.mk.inj (Option.some.inj hf)).1 (Prod.mk.inj (Option.some.inj hf)).2 dX7_plan_109
  have c_58 : ∀ (μ_58 : Mem) (b1_58 : Int32) (b2_58 : Int32) , f_X7_plan_58 μ_58 b1_58 b2_58 = some (r, μ') → ∀ (H : Heap) (locs : List Loc) (ls : Array Slot), Wd E μ_58 s H → va_S (eA E) s.heap H locs → lv_has ls 3 [(0, .ref (ead E 2000)), (1, .int b1_58), (2, .int b2_58)] → W p l e (headSpec (.code yX7_plan cX7_plan 3 (some .int) :: BIG) ({ frames := 2, cells := 0, slots := 0, locals := 43 })).room s m ([.ref (ead E 2000), .int a1, .int a2] : List Value).toArray below meth c H locs 0 0 (MQ below (QI E r μ') ([.ref (ead E 2000), .int a1, .int a2] : List Value).toArray s 0 0 (eA E)) (F0 m 58 ls []) := by
    intro μ_58 b1_58 b2_58 hf H locs ls hW hV hl
    unfold f_X7_plan_58 at hf
    refine lv_aload_n hx hb dX7_plan_58 rfl (lv_at hl 0 rfl) ?_
    refine gf_RX7_299 hx hb hB hown hW dX7_plan_59 ?_
    refine lv_bipush (v := (10 : Int32)) hx hb dX7_plan_62 (by decide) ?_
    refine lv_icmp_ne (tgt := 70) hx hb dX7_plan_64 (by decide) (fun y23 => ?_) (fun y23 => ?_)
    · have hf := op_f y23 hf
      refine lv_aload_n hx hb dX7_plan_70 rfl (lv_at hl 0 rfl) ?_
      refine gf_RX7_70 hx hb hB hown hW dX7_plan_71 ?_
      refine lv_aload_n hx hb dX7_plan_74 rfl (lv_at hl 0 rfl) ?_
      refine gf_RX7_299 hx hb hB hown hW dX7_plan_75 ?_
      refine lv_iload_n hx hb dX7_plan_78 rfl (lv_at hl 1 rfl) ?_
      obtain ⟨μ24, e_μ24, hf⟩ := op_none hf
      refine w_iast hx hb hW hV iM32.1 (fun f => iM32.2 E f _) e_μ24 dX7_plan_79 (fun H locs hW hV => ?_)
      refine lv_aload_n hx hb dX7_plan_80 rfl (lv_at hl 0 rfl) ?_
      refine gf_RX7_73 hx hb hB hown hW dX7_plan_81 ?_
      refine lv_aload_n hx hb dX7_plan_84 rfl (lv_at hl 0 rfl) ?_
      refine lv_dup hx hb dX7_plan_85 rfl ?_
      refine gf_RX7_299 hx hb hB hown hW dX7_plan_86 ?_
      obtain ⟨v25, e_v25, hf⟩ := op_none hf
      refine lv_top' (Option.some.inj e_v25) ?_
      refine lv_dup_x1 hx hb dX7_plan_89 rfl rfl ?_
      refine lv_iconst (v := (1 : Int32)) hx hb dX7_plan_90 (by decide) ?_
      refine lv_iadd hx hb dX7_plan_91 ?_
      obtain ⟨μ26, e_μ26, hf⟩ := op_none hf
      refine pf_RX7_299 hx hb hB hown hW hV dX7_plan_92 (fun H locs hW hV => ?_)
      rw [Option.some.inj e_μ26] at hW
      refine lv_iload_n hx hb dX7_plan_95 rfl (lv_at hl 1 rfl) ?_
      refine lv_if_ne (tgt := 103) hx hb dX7_plan_96 (by decide) (fun y27 => ?_) (fun y27 => ?_)
      · have hf := op_f y27 hf
        refine lv_iload_n hx hb dX7_plan_103 rfl (lv_at hl 2 rfl) ?_
        exact c_104 μ26 b2_58 v25 hf H locs ls hW hV (lv_sub hl [0] rfl)
      · have hf := op_t y27 hf
        refine lv_iconst (v := (0 : Int32)) hx hb dX7_plan_99 (by decide) ?_
        refine lv_goto (tgt := 104) hx hb dX7_plan_100 (by decide) ?_
        exact c_104 μ26 (0 : Int32) v25 hf H locs ls hW hV (lv_sub hl [0] rfl)
    · have hf := op_t y23 hf
      refine lv_bipush (v := (-4 : Int32)) hx hb dX7_plan_67 (by decide) ?_
      exact w_retI hx hb hr hlocks hW hV (Prod.mk.inj (Option.some.inj hf)).1 (Prod.mk.inj (Option.some.inj hf)).2 dX7_plan_69
  have c_40 : ∀ (μ_40 : Mem) (b1_40 : Int32) (b2_40 : Int32) , f_X7_plan_40 μ_40 b1_40 b2_40 = some (r, μ') → ∀ (H : Heap) (locs : List Loc) (ls : Array Slot), Wd E μ_40 s H → va_S (eA E) s.heap H locs → lv_has ls 3 [(0, .ref (ead E 2000)), (1, .int b1_40), (2, .int b2_40)] → W p l e (headSpec (.code yX7_plan cX7_plan 3 (some .int) :: BIG) ({ frames := 2, cells := 0, slots := 0, locals := 43 })).room s m ([.ref (ead E 2000), .int a1, .int a2] : List Value).toArray below meth c H locs 0 0 (MQ below (QI E r μ') ([.ref (ead E 2000), .int a1, .int a2] : List Value).toArray s 0 0 (eA E)) (F0 m 40 ls []) := by
    intro μ_40 b1_40 b2_40 hf H locs ls hW hV hl
    unfold f_X7_plan_40 at hf
    refine lv_iload_n hx hb dX7_plan_40 rfl (lv_at hl 1 rfl) ?_
    refine lv_iconst (v := (3 : Int32)) hx hb dX7_plan_41 (by decide) ?_
    refine lv_icmp_ne (tgt := 58) hx hb dX7_plan_42 (by decide) (fun y28 => ?_) (fun y28 => ?_)
    · have hf := op_f y28 hf
      exact c_58 μ_40 b1_40 b2_40 hf H locs ls hW hV (lv_sub hl [0, 1, 2] rfl)
    · have hf := op_t y28 hf
      refine lv_iload_n hx hb dX7_plan_45 rfl (lv_at hl 2 rfl) ?_
      refine lv_iconst (v := (0 : Int32)) hx hb dX7_plan_46 (by decide) ?_
      refine lv_bipush (v := (127 : Int32)) hx hb dX7_plan_47 (by decide) ?_
      obtain ⟨v29, e_30, hf⟩ := op_none hf
      refine w_callN (rn_RX7_111 (As := [.int b2_40, .int (0 : Int32), .int (127 : Int32)]) hx hb hml hown hB hW hZ hV (k_X7_within l E _ b2_40 (0 : Int32) (127 : Int32) v29 e_30) rfl rfl ⟨(Nat.le_of_ble_eq_true rfl), (Nat.le_of_ble_eq_true rfl)⟩ rfl hl.1 rfl (Nat.le_of_ble_eq_true rfl) dX7_plan_49 ⟨Nat.le_refl _, Nat.le_refl _⟩) hV (fun H locs hn_v29 hW hV => ?_)
      refine lv_if_ne (tgt := 58) hx hb dX7_plan_52 (by decide) (fun y31 => ?_) (fun y31 => ?_)
      · have hf := op_f y31 hf
        exact c_58 μ_40 b1_40 b2_40 hf H locs ls hW hV (lv_sub hl [0, 1, 2] rfl)
      · have hf := op_t y31 hf
        refine lv_bipush (v := (-2 : Int32)) hx hb dX7_plan_55 (by decide) ?_
        exact w_retI hx hb hr hlocks hW hV (Prod.mk.inj (Option.some.inj hf)).1 (Prod.mk.inj (Option.some.inj hf)).2 dX7_plan_57
  obtain ⟨H, hH⟩ : ∃ H : Heap, H = s.heap := ⟨_, rfl⟩
  obtain ⟨locs, hlocs⟩ : ∃ locs : List Loc, locs = [] := ⟨_, rfl⟩
  rw [show (W p l e (headSpec (.code yX7_plan cX7_plan 3 (some .int) :: BIG) ({ frames := 2, cells := 0, slots := 0, locals := 43 })).room s m ([.ref (ead E 2000), .int a1, .int a2] : List Value).toArray below meth c s.heap [] 0 0) = W p l e (headSpec (.code yX7_plan cX7_plan 3 (some .int) :: BIG) ({ frames := 2, cells := 0, slots := 0, locals := 43 })).room s m ([.ref (ead E 2000), .int a1, .int a2] : List Value).toArray below meth c H locs 0 0 by rw [hH, hlocs]]
  have hV : va_S (eA E) s.heap H locs := by rw [hH, hlocs]; exact hV
  have hW : Wd E μ s H := by rw [hH]; exact hW
  unfold f_X7_plan at hf
  refine lv_iload_n hx hb dX7_plan_0 rfl (lv_at hl 1 rfl) ?_
  refine lv_iconst (v := (-1 : Int32)) hx hb dX7_plan_1 (by decide) ?_
  refine lv_icmp_ne (tgt := 12) hx hb dX7_plan_2 (by decide) (fun y32 => ?_) (fun y32 => ?_)
  · have hf := op_f y32 hf
    refine lv_iload_n hx hb dX7_plan_12 rfl (lv_at hl 1 rfl) ?_
    refine lv_iconst (v := (0 : Int32)) hx hb dX7_plan_13 (by decide) ?_
    refine lv_iconst (v := (3 : Int32)) hx hb dX7_plan_14 (by decide) ?_
    obtain ⟨v33, e_34, hf⟩ := op_none hf
    refine w_callN (rn_RX7_111 (As := [.int a1, .int (0 : Int32), .int (3 : Int32)]) hx hb hml hown hB hW hZ hV (k_X7_within l E _ a1 (0 : Int32) (3 : Int32) v33 e_34) rfl rfl ⟨(Nat.le_of_ble_eq_true rfl), (Nat.le_of_ble_eq_true rfl)⟩ rfl hl.1 rfl (Nat.le_of_ble_eq_true rfl) dX7_plan_15 ⟨Nat.le_refl _, Nat.le_refl _⟩) hV (fun H locs hn_v33 hW hV => ?_)
    refine lv_if_eq (tgt := 38) hx hb dX7_plan_18 (by decide) (fun y35 => ?_) (fun y35 => ?_)
    · have hf := op_t y35 hf
      refine lv_iconst (v := (-1 : Int32)) hx hb dX7_plan_38 (by decide) ?_
      exact w_retI hx hb hr hlocks hW hV (Prod.mk.inj (Option.some.inj hf)).1 (Prod.mk.inj (Option.some.inj hf)).2 dX7_plan_39
    · have hf := op_f y35 hf
      refine lv_iload_n hx hb dX7_plan_21 rfl (lv_at hl 1 rfl) ?_
      refine lv_iconst (v := (1 : Int32)) hx hb dX7_plan_22 (by decide) ?_
      refine lv_iconst (v := (2 : Int32)) hx hb dX7_plan_23 (by decide) ?_
      obtain ⟨v36, e_37, hf⟩ := op_none hf
      refine w_callN (rn_RX7_111 (As := [.int a1, .int (1 : Int32), .int (2 : Int32)]) hx hb hml hown hB hW hZ hV (k_X7_within l E _ a1 (1 : Int32) (2 : Int32) v36 e_37) rfl rfl ⟨(Nat.le_of_ble_eq_true rfl), (Nat.le_of_ble_eq_true rfl)⟩ rfl hl.1 rfl (Nat.le_of_ble_eq_true rfl) dX7_plan_24 ⟨Nat.le_refl _, Nat.le_refl _⟩) hV (fun H locs hn_v36 hW hV => ?_)
      refine lv_if_eq (tgt := 40) hx hb dX7_plan_27 (by decide) (fun y38 => ?_) (fun y38 => ?_)
      · have hf := op_t y38 hf
        exact c_40 μ a1 a2 hf H locs ls hW hV (lv_sub hl [0, 1, 2] rfl)
      · have hf := op_f y38 hf
        refine lv_aload_n hx hb dX7_plan_30 rfl (lv_at hl 0 rfl) ?_
        refine lv_iload_n hx hb dX7_plan_31 rfl (lv_at hl 2 rfl) ?_
        obtain ⟨v39, e_40, hf⟩ := op_none hf
        refine w_callN (rn_RX7_115 (As := [.int a2]) hx hb hml hown hB hW hZ hV (k_X7_isOne l E _ a2 v39 e_40) rfl rfl ⟨(Nat.le_of_ble_eq_true rfl), (Nat.le_of_ble_eq_true rfl)⟩ (w_rec hW oM.1 (oM.2 E _ _) rfl) rfl hl.1 rfl (Nat.le_of_ble_eq_true rfl) dX7_plan_32 ⟨Nat.le_refl _, Nat.le_refl _⟩) hV (fun H locs hn_v39 hW hV => ?_)
        refine lv_if_ne (tgt := 40) hx hb dX7_plan_35 (by decide) (fun y41 => ?_) (fun y41 => ?_)
        · have hf := op_f y41 hf
          exact c_40 μ a1 a2 hf H locs ls hW hV (lv_sub hl [0, 1, 2] rfl)
        · have hf := op_t y41 hf
          refine lv_iconst (v := (-1 : Int32)) hx hb dX7_plan_38 (by decide) ?_
          exact w_retI hx hb hr hlocks hW hV (Prod.mk.inj (Option.some.inj hf)).1 (Prod.mk.inj (Option.some.inj hf)).2 dX7_plan_39
  · have hf := op_t y32 hf
    refine lv_aload_n hx hb dX7_plan_5 rfl (lv_at hl 0 rfl) ?_
    refine lv_iconst (v := (0 : Int32)) hx hb dX7_plan_6 (by decide) ?_
    obtain ⟨μ42, e_μ42, hf⟩ := op_none hf
    refine pf_RX7_299 hx hb hB hown hW hV dX7_plan_7 (fun H locs hW hV => ?_)
    rw [Option.some.inj e_μ42] at hW
    refine lv_iconst (v := (0 : Int32)) hx hb dX7_plan_10 (by decide) ?_
    exact w_retI hx hb hr hlocks hW hV (Prod.mk.inj (Option.some.inj hf)).1 (Prod.mk.inj (Option.some.inj hf)).2 dX7_plan_11
set_option maxHeartbeats 8000000 in
set_option maxRecDepth 100000 in
theorem k_X7_ends (l : Launch) (E : WE) (μ : Mem) (a1 : Int32) (r : Int32) (μ' : Mem) (hf : f_X7_ends μ a1 = some (r, μ')) : Met l yX7_ends (.code yX7_ends cX7_ends 4 (some .int) :: BIG) ({ frames := 8, cells := 0, slots := 0, locals := 186 }) (PW E μ [.ref (ead E 2000), .int a1]) (QI E r μ') 0 0 (eA E) := by
  refine Met.ofW (cc := cX7_ends) (maxL := 4) (ret := (some .int)) (by decide) rfl ?_
  intro p e s m args below meth c s₁ B hml hv
  obtain ⟨rfl, hW, hZ⟩ := hv
  have hx := B.exec
  have hb := B.bytes
  have hr := B.returns
  have hB : ∀ w ∈ BIG, w.before _ s = true := fun w h => atoms_spec (ws := (.code yX7_ends cX7_ends 4 (some .int) :: BIG)) B.pre w (List.mem_cons_of_mem _ h)
  have hown : s.vm.findClass RX7 = some m.cls := findClass_of_methodNamed B.named
  have hlocks := B.notSynchronized
  have hV : va_S (eA E) s.heap s.heap [] := va_S.rf
  have hl := lv_entry ([.ref (ead E 2000), .int a1]) (n := 4) (Nat.le_of_ble_eq_true rfl)
  rw [lg_entry_eq]
  generalize (lg_sl ([.ref (ead E 2000), .int a1]) ++ List.replicate (4 - (lg_sl ([.ref (ead E 2000), .int a1])).length) Slot.unset).toArray = ls at hl ⊢
  have hl : lv_has ls 4 [(0, .ref (ead E 2000)), (1, .int a1)] := hl
  have c_112 : ∀ (μ_112 : Mem) (s0_112 : Int32) , f_X7_ends_112 μ_112 s0_112 = some (r, μ') → ∀ (H : Heap) (locs : List Loc) (ls : Array Slot), Wd E μ_112 s H → va_S (eA E) s.heap H locs → lv_has ls 4 [(0, .ref (ead E 2000))] → W p l e (headSpec (.code yX7_ends cX7_ends 4 (some .int) :: BIG) ({ frames := 8, cells := 0, slots := 0, locals := 186 })).room s m ([.ref (ead E 2000), .int a1] : List Value).toArray below meth c H locs 0 0 (MQ below (QI E r μ') ([.ref (ead E 2000), .int a1] : List Value).toArray s 0 0 (eA E)) (F0 m 112 ls [.int s0_112]) := by
    intro μ_112 s0_112 hf H locs ls hW hV hl
    unfold f_X7_ends_112 at hf
    refine lv_istore_n (i := 2) (lv' := [(2, .int s0_112), (0, .ref (ead E 2000))]) hx hb dX7_ends_112 rfl hl (by decide) rfl (fun ls hl => ?_)
    refine lv_aload_n hx hb dX7_ends_113 rfl (lv_at hl 1 rfl) ?_
    refine lv_aload_n hx hb dX7_ends_114 rfl (lv_at hl 1 rfl) ?_
    refine gf_RX7_88 hx hb hB hown hW dX7_ends_115 ?_
    obtain ⟨μ28, e_29, hf⟩ := op_none hf
    refine w_callV (rn_RX7_261 (As := [.ref (ead E 2041)]) hx hb hml hown hB hW hZ hV (k_X7_again l E _ 2041 iM41 μ28 e_29) rfl rfl ⟨(Nat.le_of_ble_eq_true rfl), (Nat.le_of_ble_eq_true rfl)⟩ (w_rec hW oM.1 (oM.2 E _ _) rfl) rfl hl.1 rfl (Nat.le_of_ble_eq_true rfl) dX7_ends_118 ⟨Nat.le_refl _, Nat.le_refl _⟩) hV (fun H locs hW hV => ?_)
    refine lv_iload_n hx hb dX7_ends_121 rfl (lv_at hl 0 rfl) ?_
    exact w_retI hx hb hr hlocks hW hV (Prod.mk.inj (Option.some.inj hf)).1 (Prod.mk.inj (Option.some.inj hf)).2 dX7_ends_122
  have c_21 : ∀ (n_21 : Nat) (μ_21 : Mem) (b1_21 : Int32) (b2_21 : Int32) , f_X7_ends_21 n_21 μ_21 b1_21 b2_21 = some (r, μ') → ∀ (H : Heap) (locs : List Loc) (ls : Array Slot), Wd E μ_21 s H → va_S (eA E) s.heap H locs → lv_has ls 4 [(0, .ref (ead E 2000)), (1, .int b1_21), (2, .int b2_21)] → W p l e (headSpec (.code yX7_ends cX7_ends 4 (some .int) :: BIG) ({ frames := 8, cells := 0, slots := 0, locals := 186 })).room s m ([.ref (ead E 2000), .int a1] : List Value).toArray below meth c H locs 0 0 (MQ below (QI E r μ') ([.ref (ead E 2000), .int a1] : List Value).toArray s 0 0 (eA E)) (F0 m 21 ls []) := by
    intro n_21
    induction n_21 with
    | zero =>
      intro μ_21 b1_21 b2_21 hf H locs ls hW hV hl
      cases hf
    | succ n_21 ih_21 =>
      have c_91 : ∀ (μ_91 : Mem) (b1_91 : Int32) (b2_91 : Int32) , f_X7_ends_91 (fun μ z0 z1 => f_X7_ends_21 n_21 μ z0 z1) μ_91 b1_91 b2_91 = some (r, μ') → ∀ (H : Heap) (locs : List Loc) (ls : Array Slot), Wd E μ_91 s H → va_S (eA E) s.heap H locs → lv_has ls 4 [(0, .ref (ead E 2000)), (1, .int b1_91), (2, .int b2_91)] → W p l e (headSpec (.code yX7_ends cX7_ends 4 (some .int) :: BIG) ({ frames := 8, cells := 0, slots := 0, locals := 186 })).room s m ([.ref (ead E 2000), .int a1] : List Value).toArray below meth c H locs 0 0 (MQ below (QI E r μ') ([.ref (ead E 2000), .int a1] : List Value).toArray s 0 0 (eA E)) (F0 m 91 ls []) := by
        intro μ_91 b1_91 b2_91 hf H locs ls hW hV hl
        unfold f_X7_ends_91 at hf
        obtain ⟨v26, e_v26, hf⟩ := op_none hf
        refine lv_iinc (v := v26) (lv' := [(2, .int v26), (0, .ref (ead E 2000)), (1, .int b1_91)]) hx hb dX7_ends_91 hl (k := 2) rfl (by rw [← Option.some.inj e_v26]; rfl) (by decide) rfl (fun ls hl => ?_)
        refine lv_goto (tgt := 21) hx hb dX7_ends_94 (by decide) ?_
        exact ih_21 μ_91 b1_91 v26 hf H locs ls hW hV (lv_sub hl [1, 2, 0] rfl)
      have c_90 : ∀ (μ_90 : Mem) (b1_90 : Int32) (b2_90 : Int32) (s0_90 : Int32) (s1_90 : Int32) , f_X7_ends_90 (fun μ z0 z1 => f_X7_ends_21 n_21 μ z0 z1) μ_90 b1_90 b2_90 s0_90 s1_90 = some (r, μ') → ∀ (H : Heap) (locs : List Loc) (ls : Array Slot), Wd E μ_90 s H → va_S (eA E) s.heap H locs → lv_has ls 4 [(0, .ref (ead E 2000)), (1, .int b1_90), (2, .int b2_90)] → W p l e (headSpec (.code yX7_ends cX7_ends 4 (some .int) :: BIG) ({ frames := 8, cells := 0, slots := 0, locals := 186 })).room s m ([.ref (ead E 2000), .int a1] : List Value).toArray below meth c H locs 0 0 (MQ below (QI E r μ') ([.ref (ead E 2000), .int a1] : List Value).toArray s 0 0 (eA E)) (F0 m 90 ls [.int s0_90, .int s1_90, .ref (ead E 2005)]) := by
        intro μ_90 b1_90 b2_90 s0_90 s1_90 hf H locs ls hW hV hl
        unfold f_X7_ends_90 at hf
        obtain ⟨μ27, e_μ27, hf⟩ := op_none hf
        refine w_iast hx hb hW hV iM5.1 (fun f => iM5.2 E f _) e_μ27 dX7_ends_90 (fun H locs hW hV => ?_)
        exact c_91 μ27 b1_90 b2_90 hf H locs ls hW hV (lv_sub hl [0, 1, 2] rfl)
      intro μ_21 b1_21 b2_21 hf H locs ls hW hV hl
      rw [f_X7_ends_21] at hf
      refine lv_iload_n hx hb dX7_ends_21 rfl (lv_at hl 2 rfl) ?_
      refine lv_aload_n hx hb dX7_ends_22 rfl (lv_at hl 0 rfl) ?_
      refine gf_RX7_299 hx hb hB hown hW dX7_ends_23 ?_
      refine lv_icmp_ge (tgt := 97) hx hb dX7_ends_26 (by decide) (fun y30 => ?_) (fun y30 => ?_)
      · have hf := op_t y30 hf
        refine lv_iload_n hx hb dX7_ends_97 rfl (lv_at hl 1 rfl) ?_
        refine lv_if_ne (tgt := 108) hx hb dX7_ends_98 (by decide) (fun y31 => ?_) (fun y31 => ?_)
        · have hf := op_f y31 hf
          refine lv_aload_n hx hb dX7_ends_108 rfl (lv_at hl 0 rfl) ?_
          obtain ⟨v32, e_33, hf⟩ := op_none hf
          refine w_callI (rn_RX7_247 (As := []) hx hb hml hown hB hW hZ hV (k_X7_allMissed l E _ v32 e_33) rfl rfl ⟨(Nat.le_of_ble_eq_true rfl), (Nat.le_of_ble_eq_true rfl)⟩ (w_rec hW oM.1 (oM.2 E _ _) rfl) rfl hl.1 rfl (Nat.le_of_ble_eq_true rfl) dX7_ends_109 ⟨Nat.le_refl _, Nat.le_refl _⟩) hV (fun H locs hW hV => ?_)
          exact c_112 μ_21 v32 hf H locs ls hW hV (lv_sub hl [0] rfl)
        · have hf := op_t y31 hf
          refine lv_aload_n hx hb dX7_ends_101 rfl (lv_at hl 0 rfl) ?_
          obtain ⟨v34, e_35, hf⟩ := op_none hf
          refine w_callI (rn_RX7_244 (As := []) hx hb hml hown hB hW hZ hV (k_X7_allWent l E _ v34 e_35) rfl rfl ⟨(Nat.le_of_ble_eq_true rfl), (Nat.le_of_ble_eq_true rfl)⟩ (w_rec hW oM.1 (oM.2 E _ _) rfl) rfl hl.1 rfl (Nat.le_of_ble_eq_true rfl) dX7_ends_102 ⟨Nat.le_refl _, Nat.le_refl _⟩) hV (fun H locs hW hV => ?_)
          refine lv_goto (tgt := 112) hx hb dX7_ends_105 (by decide) ?_
          exact c_112 μ_21 v34 hf H locs ls hW hV (lv_sub hl [0] rfl)
      · have hf := op_f y30 hf
        refine lv_aload_n hx hb dX7_ends_29 rfl (lv_at hl 0 rfl) ?_
        refine gf_RX7_73 hx hb hB hown hW dX7_ends_30 ?_
        refine lv_iload_n hx hb dX7_ends_33 rfl (lv_at hl 2 rfl) ?_
        obtain ⟨v36, e_v36, hf⟩ := op_none hf
        refine w_iald hx hb hW iM33.1 (iM33.2 E _ _) e_v36 dX7_ends_34 ?_
        refine lv_istore_n (i := 3) (lv' := [(3, .int v36), (0, .ref (ead E 2000)), (1, .int b1_21), (2, .int b2_21)]) hx hb dX7_ends_35 rfl hl (by decide) rfl (fun ls hl => ?_)
        refine lv_aload_n hx hb dX7_ends_36 rfl (lv_at hl 1 rfl) ?_
        refine gf_RX7_70 hx hb hB hown hW dX7_ends_37 ?_
        refine lv_iload_n hx hb dX7_ends_40 rfl (lv_at hl 3 rfl) ?_
        obtain ⟨v37, e_v37, hf⟩ := op_none hf
        refine w_iald hx hb hW iM32.1 (iM32.2 E _ _) e_v37 dX7_ends_41 ?_
        refine lv_if_ne (tgt := 52) hx hb dX7_ends_42 (by decide) (fun y38 => ?_) (fun y38 => ?_)
        · have hf := op_f y38 hf
          refine lv_aload_n hx hb dX7_ends_52 rfl (lv_at hl 1 rfl) ?_
          refine gf_RX7_70 hx hb hB hown hW dX7_ends_53 ?_
          refine lv_iload_n hx hb dX7_ends_56 rfl (lv_at hl 3 rfl) ?_
          obtain ⟨v39, e_v39, hf⟩ := op_none hf
          refine w_iald hx hb hW iM32.1 (iM32.2 E _ _) e_v39 dX7_ends_57 ?_
          refine lv_iconst (v := (3 : Int32)) hx hb dX7_ends_58 (by decide) ?_
          refine lv_icmp_ne (tgt := 70) hx hb dX7_ends_59 (by decide) (fun y40 => ?_) (fun y40 => ?_)
          · have hf := op_f y40 hf
            refine lv_aload_n hx hb dX7_ends_70 rfl (lv_at hl 1 rfl) ?_
            refine gf_RX7_24 hx hb hB hown hW dX7_ends_71 ?_
            refine lv_iload_n hx hb dX7_ends_74 rfl (lv_at hl 0 rfl) ?_
            refine lv_aload_n hx hb dX7_ends_75 rfl (lv_at hl 1 rfl) ?_
            refine gf_RX7_70 hx hb hB hown hW dX7_ends_76 ?_
            refine lv_iload_n hx hb dX7_ends_79 rfl (lv_at hl 3 rfl) ?_
            obtain ⟨v41, e_v41, hf⟩ := op_none hf
            refine w_iald hx hb hW iM32.1 (iM32.2 E _ _) e_v41 dX7_ends_80 ?_
            refine lv_iconst (v := (1 : Int32)) hx hb dX7_ends_81 (by decide) ?_
            refine lv_icmp_ne (tgt := 89) hx hb dX7_ends_82 (by decide) (fun y42 => ?_) (fun y42 => ?_)
            · have hf := op_f y42 hf
              refine lv_iconst (v := (0 : Int32)) hx hb dX7_ends_89 (by decide) ?_
              exact c_90 μ_21 b1_21 b2_21 (0 : Int32) v36 hf H locs ls hW hV (lv_sub hl [1, 2, 3] rfl)
            · have hf := op_t y42 hf
              refine lv_iconst (v := (1 : Int32)) hx hb dX7_ends_85 (by decide) ?_
              refine lv_goto (tgt := 90) hx hb dX7_ends_86 (by decide) ?_
              exact c_90 μ_21 b1_21 b2_21 (1 : Int32) v36 hf H locs ls hW hV (lv_sub hl [1, 2, 3] rfl)
          · have hf := op_t y40 hf
            refine lv_aload_n hx hb dX7_ends_62 rfl (lv_at hl 1 rfl) ?_
            refine lv_iload_n hx hb dX7_ends_63 rfl (lv_at hl 0 rfl) ?_
            obtain ⟨μ43, e_μ43, hf⟩ := op_none hf
            refine pf_RX7_101 hx hb hB hown hW hV dX7_ends_64 (fun H locs hW hV => ?_)
            rw [Option.some.inj e_μ43] at hW
            refine lv_goto (tgt := 91) hx hb dX7_ends_67 (by decide) ?_
            exact c_91 μ43 b1_21 b2_21 hf H locs ls hW hV (lv_sub hl [1, 2, 3] rfl)
        · have hf := op_t y38 hf
          refine lv_aload_n hx hb dX7_ends_45 rfl (lv_at hl 1 rfl) ?_
          obtain ⟨μ44, e_45, hf⟩ := op_none hf
          refine w_callV (rn_RX7_251 (As := []) hx hb hml hown hB hW hZ hV (k_X7_goesDay l E _ μ44 e_45) rfl rfl ⟨(Nat.le_of_ble_eq_true rfl), (Nat.le_of_ble_eq_true rfl)⟩ (w_rec hW oM.1 (oM.2 E _ _) rfl) rfl hl.1 rfl (Nat.le_of_ble_eq_true rfl) dX7_ends_46 ⟨Nat.le_refl _, Nat.le_refl _⟩) hV (fun H locs hW hV => ?_)
          refine lv_goto (tgt := 91) hx hb dX7_ends_49 (by decide) ?_
          exact c_91 μ44 b1_21 b2_21 hf H locs ls hW hV (lv_sub hl [1, 2, 3] rfl)
  obtain ⟨H, hH⟩ : ∃ H : Heap, H = s.heap := ⟨_, rfl⟩
  obtain ⟨locs, hlocs⟩ : ∃ locs : List Loc, locs = [] := ⟨_, rfl⟩
  rw [show (W p l e (headSpec (.code yX7_ends cX7_ends 4 (some .int) :: BIG) ({ frames := 8, cells := 0, slots := 0, locals := 186 })).room s m ([.ref (ead E 2000), .int a1] : List Value).toArray below meth c s.heap [] 0 0) = W p l e (headSpec (.code yX7_ends cX7_ends 4 (some .int) :: BIG) ({ frames := 8, cells := 0, slots := 0, locals := 186 })).room s m ([.ref (ead E 2000), .int a1] : List Value).toArray below meth c H locs 0 0 by rw [hH, hlocs]]
  have hV : va_S (eA E) s.heap H locs := by rw [hH, hlocs]; exact hV
  have hW : Wd E μ s H := by rw [hH]; exact hW
  unfold f_X7_ends at hf
  refine lv_iload_n hx hb dX7_ends_0 rfl (lv_at hl 1 rfl) ?_
  refine lv_iconst (v := (0 : Int32)) hx hb dX7_ends_1 (by decide) ?_
  refine lv_iconst (v := (1 : Int32)) hx hb dX7_ends_2 (by decide) ?_
  obtain ⟨v46, e_47, hf⟩ := op_none hf
  refine w_callN (rn_RX7_111 (As := [.int a1, .int (0 : Int32), .int (1 : Int32)]) hx hb hml hown hB hW hZ hV (k_X7_within l E _ a1 (0 : Int32) (1 : Int32) v46 e_47) rfl rfl ⟨(Nat.le_of_ble_eq_true rfl), (Nat.le_of_ble_eq_true rfl)⟩ rfl hl.1 rfl (Nat.le_of_ble_eq_true rfl) dX7_ends_3 ⟨Nat.le_refl _, Nat.le_refl _⟩) hV (fun H locs hn_v46 hW hV => ?_)
  refine lv_if_ne (tgt := 11) hx hb dX7_ends_6 (by decide) (fun y48 => ?_) (fun y48 => ?_)
  · have hf := op_f y48 hf
    refine lv_aload_n hx hb dX7_ends_11 rfl (lv_at hl 0 rfl) ?_
    refine lv_aload_n hx hb dX7_ends_12 rfl (lv_at hl 0 rfl) ?_
    refine gf_RX7_88 hx hb hB hown hW dX7_ends_13 ?_
    obtain ⟨μ49, e_50, hf⟩ := op_none hf
    refine w_callV (rn_RX7_257 (As := [.ref (ead E 2041)]) hx hb hml hown hB hW hZ hV (k_X7_keep l E _ 2041 iM41 μ49 e_50) rfl rfl ⟨(Nat.le_of_ble_eq_true rfl), (Nat.le_of_ble_eq_true rfl)⟩ (w_rec hW oM.1 (oM.2 E _ _) rfl) rfl hl.1 rfl (Nat.le_of_ble_eq_true rfl) dX7_ends_16 ⟨Nat.le_refl _, Nat.le_refl _⟩) hV (fun H locs hW hV => ?_)
    refine lv_iconst (v := (0 : Int32)) hx hb dX7_ends_19 (by decide) ?_
    refine lv_istore_n (i := 2) (lv' := [(2, .int (0 : Int32)), (0, .ref (ead E 2000)), (1, .int a1)]) hx hb dX7_ends_20 rfl hl (by decide) rfl (fun ls hl => ?_)
    exact c_21 FU μ49 a1 (0 : Int32) hf H locs ls hW hV (lv_sub hl [1, 2, 0] rfl)
  · have hf := op_t y48 hf
    refine lv_iconst (v := (-1 : Int32)) hx hb dX7_ends_9 (by decide) ?_
    exact w_retI hx hb hr hlocks hW hV (Prod.mk.inj (Option.some.inj hf)).1 (Prod.mk.inj (Option.some.inj hf)).2 dX7_ends_10
set_option maxHeartbeats 8000000 in
set_option maxRecDepth 100000 in
theorem k_X7_book (l : Launch) (E : WE) (μ : Mem) (a1 : Int32) (a2 : Int32) (r : Int32) (μ' : Mem) (hf : f_X7_book μ a1 a2 = some (r, μ')) : Met l yX7_book (.code yX7_book cX7_book 3 (some .int) :: BIG) ({ frames := 2, cells := 0, slots := 0, locals := 43 }) (PW E μ [.ref (ead E 2000), .int a1, .int a2]) (QI E r μ') 0 0 (eA E) := by
  refine Met.ofW (cc := cX7_book) (maxL := 3) (ret := (some .int)) (by decide) rfl ?_
  intro p e s m args below meth c s₁ B hml hv
  obtain ⟨rfl, hW, hZ⟩ := hv
  have hx := B.exec
  have hb := B.bytes
  have hr := B.returns
  have hB : ∀ w ∈ BIG, w.before _ s = true := fun w h => atoms_spec (ws := (.code yX7_book cX7_book 3 (some .int) :: BIG)) B.pre w (List.mem_cons_of_mem _ h)
  have hown : s.vm.findClass RX7 = some m.cls := findClass_of_methodNamed B.named
  have hlocks := B.notSynchronized
  have hV : va_S (eA E) s.heap s.heap [] := va_S.rf
  have hl := lv_entry ([.ref (ead E 2000), .int a1, .int a2]) (n := 3) (Nat.le_of_ble_eq_true rfl)
  rw [lg_entry_eq]
  generalize (lg_sl ([.ref (ead E 2000), .int a1, .int a2]) ++ List.replicate (3 - (lg_sl ([.ref (ead E 2000), .int a1, .int a2])).length) Slot.unset).toArray = ls at hl ⊢
  have hl : lv_has ls 3 [(0, .ref (ead E 2000)), (1, .int a1), (2, .int a2)] := hl
  obtain ⟨H, hH⟩ : ∃ H : Heap, H = s.heap := ⟨_, rfl⟩
  obtain ⟨locs, hlocs⟩ : ∃ locs : List Loc, locs = [] := ⟨_, rfl⟩
  rw [show (W p l e (headSpec (.code yX7_book cX7_book 3 (some .int) :: BIG) ({ frames := 2, cells := 0, slots := 0, locals := 43 })).room s m ([.ref (ead E 2000), .int a1, .int a2] : List Value).toArray below meth c s.heap [] 0 0) = W p l e (headSpec (.code yX7_book cX7_book 3 (some .int) :: BIG) ({ frames := 2, cells := 0, slots := 0, locals := 43 })).room s m ([.ref (ead E 2000), .int a1, .int a2] : List Value).toArray below meth c H locs 0 0 by rw [hH, hlocs]]
  have hV : va_S (eA E) s.heap H locs := by rw [hH, hlocs]; exact hV
  have hW : Wd E μ s H := by rw [hH]; exact hW
  unfold f_X7_book at hf
  refine lv_iload_n hx hb dX7_book_0 rfl (lv_at hl 1 rfl) ?_
  refine lv_iconst (v := (-1 : Int32)) hx hb dX7_book_1 (by decide) ?_
  refine lv_icmp_ne (tgt := 12) hx hb dX7_book_2 (by decide) (fun y14 => ?_) (fun y14 => ?_)
  · have hf := op_f y14 hf
    refine lv_aload_n hx hb dX7_book_12 rfl (lv_at hl 0 rfl) ?_
    refine lv_iload_n hx hb dX7_book_13 rfl (lv_at hl 1 rfl) ?_
    obtain ⟨v15, e_16, hf⟩ := op_none hf
    refine w_callN (rn_RX7_115 (As := [.int a1]) hx hb hml hown hB hW hZ hV (k_X7_isOne l E _ a1 v15 e_16) rfl rfl ⟨(Nat.le_of_ble_eq_true rfl), (Nat.le_of_ble_eq_true rfl)⟩ (w_rec hW oM.1 (oM.2 E _ _) rfl) rfl hl.1 rfl (Nat.le_of_ble_eq_true rfl) dX7_book_14 ⟨Nat.le_refl _, Nat.le_refl _⟩) hV (fun H locs hn_v15 hW hV => ?_)
    refine lv_if_ne (tgt := 22) hx hb dX7_book_17 (by decide) (fun y17 => ?_) (fun y17 => ?_)
    · have hf := op_f y17 hf
      refine lv_iload_n hx hb dX7_book_22 rfl (lv_at hl 2 rfl) ?_
      refine lv_iconst (v := (0 : Int32)) hx hb dX7_book_23 (by decide) ?_
      refine lv_sipush (v := (9999 : Int32)) hx hb dX7_book_24 (by decide) ?_
      obtain ⟨v18, e_19, hf⟩ := op_none hf
      refine w_callN (rn_RX7_111 (As := [.int a2, .int (0 : Int32), .int (9999 : Int32)]) hx hb hml hown hB hW hZ hV (k_X7_within l E _ a2 (0 : Int32) (9999 : Int32) v18 e_19) rfl rfl ⟨(Nat.le_of_ble_eq_true rfl), (Nat.le_of_ble_eq_true rfl)⟩ rfl hl.1 rfl (Nat.le_of_ble_eq_true rfl) dX7_book_27 ⟨Nat.le_refl _, Nat.le_refl _⟩) hV (fun H locs hn_v18 hW hV => ?_)
      refine lv_if_ne (tgt := 36) hx hb dX7_book_30 (by decide) (fun y20 => ?_) (fun y20 => ?_)
      · have hf := op_f y20 hf
        refine lv_aload_n hx hb dX7_book_36 rfl (lv_at hl 0 rfl) ?_
        refine gf_RX7_302 hx hb hB hown hW dX7_book_37 ?_
        refine lv_bipush (v := (8 : Int32)) hx hb dX7_book_40 (by decide) ?_
        refine lv_icmp_ne (tgt := 48) hx hb dX7_book_42 (by decide) (fun y21 => ?_) (fun y21 => ?_)
        · have hf := op_f y21 hf
          refine lv_aload_n hx hb dX7_book_48 rfl (lv_at hl 0 rfl) ?_
          refine gf_RX7_76 hx hb hB hown hW dX7_book_49 ?_
          refine lv_aload_n hx hb dX7_book_52 rfl (lv_at hl 0 rfl) ?_
          refine gf_RX7_302 hx hb hB hown hW dX7_book_53 ?_
          refine lv_iload_n hx hb dX7_book_56 rfl (lv_at hl 1 rfl) ?_
          obtain ⟨μ22, e_μ22, hf⟩ := op_none hf
          refine w_iast hx hb hW hV iM35.1 (fun f => iM35.2 E f _) e_μ22 dX7_book_57 (fun H locs hW hV => ?_)
          refine lv_aload_n hx hb dX7_book_58 rfl (lv_at hl 0 rfl) ?_
          refine gf_RX7_79 hx hb hB hown hW dX7_book_59 ?_
          refine lv_aload_n hx hb dX7_book_62 rfl (lv_at hl 0 rfl) ?_
          refine lv_dup hx hb dX7_book_63 rfl ?_
          refine gf_RX7_302 hx hb hB hown hW dX7_book_64 ?_
          obtain ⟨v23, e_v23, hf⟩ := op_none hf
          refine lv_top' (Option.some.inj e_v23) ?_
          refine lv_dup_x1 hx hb dX7_book_67 rfl rfl ?_
          refine lv_iconst (v := (1 : Int32)) hx hb dX7_book_68 (by decide) ?_
          refine lv_iadd hx hb dX7_book_69 ?_
          obtain ⟨μ24, e_μ24, hf⟩ := op_none hf
          refine pf_RX7_302 hx hb hB hown hW hV dX7_book_70 (fun H locs hW hV => ?_)
          rw [Option.some.inj e_μ24] at hW
          refine lv_iload_n hx hb dX7_book_73 rfl (lv_at hl 2 rfl) ?_
          obtain ⟨μ25, e_μ25, hf⟩ := op_none hf
          refine w_iast hx hb hW hV iM36.1 (fun f => iM36.2 E f _) e_μ25 dX7_book_74 (fun H locs hW hV => ?_)
          refine lv_aload_n hx hb dX7_book_75 rfl (lv_at hl 0 rfl) ?_
          refine gf_RX7_302 hx hb hB hown hW dX7_book_76 ?_
          exact w_retI hx hb hr hlocks hW hV (Prod.mk.inj (Option.some.inj hf)).1 (Prod.mk.inj (Option.some.inj hf)).2 dX7_book_79
        · have hf := op_t y21 hf
          refine lv_bipush (v := (-4 : Int32)) hx hb dX7_book_45 (by decide) ?_
          exact w_retI hx hb hr hlocks hW hV (Prod.mk.inj (Option.some.inj hf)).1 (Prod.mk.inj (Option.some.inj hf)).2 dX7_book_47
      · have hf := op_t y20 hf
        refine lv_bipush (v := (-2 : Int32)) hx hb dX7_book_33 (by decide) ?_
        exact w_retI hx hb hr hlocks hW hV (Prod.mk.inj (Option.some.inj hf)).1 (Prod.mk.inj (Option.some.inj hf)).2 dX7_book_35
    · have hf := op_t y17 hf
      refine lv_iconst (v := (-1 : Int32)) hx hb dX7_book_20 (by decide) ?_
      exact w_retI hx hb hr hlocks hW hV (Prod.mk.inj (Option.some.inj hf)).1 (Prod.mk.inj (Option.some.inj hf)).2 dX7_book_21
  · have hf := op_t y14 hf
    refine lv_aload_n hx hb dX7_book_5 rfl (lv_at hl 0 rfl) ?_
    refine lv_iconst (v := (0 : Int32)) hx hb dX7_book_6 (by decide) ?_
    obtain ⟨μ26, e_μ26, hf⟩ := op_none hf
    refine pf_RX7_302 hx hb hB hown hW hV dX7_book_7 (fun H locs hW hV => ?_)
    rw [Option.some.inj e_μ26] at hW
    refine lv_iconst (v := (0 : Int32)) hx hb dX7_book_10 (by decide) ?_
    exact w_retI hx hb hr hlocks hW hV (Prod.mk.inj (Option.some.inj hf)).1 (Prod.mk.inj (Option.some.inj hf)).2 dX7_book_11
set_option maxHeartbeats 8000000 in
set_option maxRecDepth 100000 in
theorem k_X7_looked (l : Launch) (E : WE) (μ : Mem) (r : Int32) (hf : f_X7_looked μ = some r) : Met l yX7_looked (.code yX7_looked cX7_looked 2 (some .int) :: BIG) ({ frames := 0, cells := 0, slots := 0, locals := 0 }) (PW E μ [.ref (ead E 2000)]) (QI E r μ) 0 0 (eA E) := by
  refine Met.ofW (cc := cX7_looked) (maxL := 2) (ret := (some .int)) (by decide) rfl ?_
  intro p e s m args below meth c s₁ B hml hv
  obtain ⟨rfl, hW, hZ⟩ := hv
  have hx := B.exec
  have hb := B.bytes
  have hr := B.returns
  have hB : ∀ w ∈ BIG, w.before _ s = true := fun w h => atoms_spec (ws := (.code yX7_looked cX7_looked 2 (some .int) :: BIG)) B.pre w (List.mem_cons_of_mem _ h)
  have hown : s.vm.findClass RX7 = some m.cls := findClass_of_methodNamed B.named
  have hlocks := B.notSynchronized
  have hV : va_S (eA E) s.heap s.heap [] := va_S.rf
  have hl := lv_entry ([.ref (ead E 2000)]) (n := 2) (Nat.le_of_ble_eq_true rfl)
  rw [lg_entry_eq]
  generalize (lg_sl ([.ref (ead E 2000)]) ++ List.replicate (2 - (lg_sl ([.ref (ead E 2000)])).length) Slot.unset).toArray = ls at hl ⊢
  have hl : lv_has ls 2 [(0, .ref (ead E 2000))] := hl
  have c_2 : ∀ (n_2 : Nat) (b1_2 : Int32) , f_X7_looked_2 μ n_2 b1_2 = some r → ∀ (H : Heap) (locs : List Loc) (ls : Array Slot), Wd E μ s H → va_S (eA E) s.heap H locs → lv_has ls 2 [(0, .ref (ead E 2000)), (1, .int b1_2)] → W p l e (headSpec (.code yX7_looked cX7_looked 2 (some .int) :: BIG) ({ frames := 0, cells := 0, slots := 0, locals := 0 })).room s m ([.ref (ead E 2000)] : List Value).toArray below meth c H locs 0 0 (MQ below (QI E r μ) ([.ref (ead E 2000)] : List Value).toArray s 0 0 (eA E)) (F0 m 2 ls []) := by
    intro n_2
    induction n_2 with
    | zero =>
      intro b1_2 hf H locs ls hW hV hl
      cases hf
    | succ n_2 ih_2 =>
      intro b1_2 hf H locs ls hW hV hl
      rw [f_X7_looked_2] at hf
      refine lv_iload_n hx hb dX7_looked_2 rfl (lv_at hl 1 rfl) ?_
      refine lv_aload_n hx hb dX7_looked_3 rfl (lv_at hl 0 rfl) ?_
      refine gf_RX7_302 hx hb hB hown hW dX7_looked_4 ?_
      refine lv_icmp_ge (tgt := 38) hx hb dX7_looked_7 (by decide) (fun y7 => ?_) (fun y7 => ?_)
      · have hf := op_t y7 hf
        refine lv_bipush (v := (-5 : Int32)) hx hb dX7_looked_38 (by decide) ?_
        exact w_retI hx hb hr hlocks hW hV (Option.some.inj hf) rfl dX7_looked_40
      · have hf := op_f y7 hf
        refine lv_aload_n hx hb dX7_looked_10 rfl (lv_at hl 0 rfl) ?_
        refine gf_RX7_27 hx hb hB hown hW dX7_looked_11 ?_
        refine lv_aload_n hx hb dX7_looked_14 rfl (lv_at hl 0 rfl) ?_
        refine gf_RX7_76 hx hb hB hown hW dX7_looked_15 ?_
        refine lv_iload_n hx hb dX7_looked_18 rfl (lv_at hl 1 rfl) ?_
        obtain ⟨v8, e_v8, hf⟩ := op_none hf
        refine w_iald hx hb hW iM35.1 (iM35.2 E _ _) e_v8 dX7_looked_19 ?_
        obtain ⟨v9, e_v9, hf⟩ := op_none hf
        refine w_iald hx hb hW iM6.1 (iM6.2 E _ _) e_v9 dX7_looked_20 ?_
        refine lv_aload_n hx hb dX7_looked_21 rfl (lv_at hl 0 rfl) ?_
        refine gf_RX7_79 hx hb hB hown hW dX7_looked_22 ?_
        refine lv_iload_n hx hb dX7_looked_25 rfl (lv_at hl 1 rfl) ?_
        obtain ⟨v10, e_v10, hf⟩ := op_none hf
        refine w_iald hx hb hW iM36.1 (iM36.2 E _ _) e_v10 dX7_looked_26 ?_
        refine lv_icmp_eq (tgt := 32) hx hb dX7_looked_27 (by decide) (fun y11 => ?_) (fun y11 => ?_)
        · have hf := op_t y11 hf
          obtain ⟨v12, e_v12, hf⟩ := op_none hf
          refine lv_iinc (v := v12) (lv' := [(1, .int v12), (0, .ref (ead E 2000))]) hx hb dX7_looked_32 hl (k := 1) rfl (by rw [← Option.some.inj e_v12]; rfl) (by decide) rfl (fun ls hl => ?_)
          refine lv_goto (tgt := 2) hx hb dX7_looked_35 (by decide) ?_
          exact ih_2 v12 hf H locs ls hW hV (lv_sub hl [1, 0] rfl)
        · have hf := op_f y11 hf
          refine lv_iload_n hx hb dX7_looked_30 rfl (lv_at hl 1 rfl) ?_
          exact w_retI hx hb hr hlocks hW hV (Option.some.inj hf) rfl dX7_looked_31
  obtain ⟨H, hH⟩ : ∃ H : Heap, H = s.heap := ⟨_, rfl⟩
  obtain ⟨locs, hlocs⟩ : ∃ locs : List Loc, locs = [] := ⟨_, rfl⟩
  rw [show (W p l e (headSpec (.code yX7_looked cX7_looked 2 (some .int) :: BIG) ({ frames := 0, cells := 0, slots := 0, locals := 0 })).room s m ([.ref (ead E 2000)] : List Value).toArray below meth c s.heap [] 0 0) = W p l e (headSpec (.code yX7_looked cX7_looked 2 (some .int) :: BIG) ({ frames := 0, cells := 0, slots := 0, locals := 0 })).room s m ([.ref (ead E 2000)] : List Value).toArray below meth c H locs 0 0 by rw [hH, hlocs]]
  have hV : va_S (eA E) s.heap H locs := by rw [hH, hlocs]; exact hV
  have hW : Wd E μ s H := by rw [hH]; exact hW
  unfold f_X7_looked at hf
  refine lv_iconst (v := (0 : Int32)) hx hb dX7_looked_0 (by decide) ?_
  refine lv_istore_n (i := 1) (lv' := [(1, .int (0 : Int32)), (0, .ref (ead E 2000))]) hx hb dX7_looked_1 rfl hl (by decide) rfl (fun ls hl => ?_)
  exact c_2 FU (0 : Int32) hf H locs ls hW hV (lv_sub hl [1, 0] rfl)
set_option maxHeartbeats 8000000 in
set_option maxRecDepth 100000 in
theorem k_X7_judge (l : Launch) (E : WE) (μ : Mem) (a1 : Int32) (a2 : Int32) (r : Int32) (hf : f_X7_judge μ a1 a2 = some r) : Met l yX7_judge (.code yX7_judge cX7_judge 4 (some .int) :: BIG) ({ frames := 1, cells := 0, slots := 0, locals := 22 }) (PW E μ [.ref (ead E 2000), .int a1, .int a2]) (QI E r μ) 0 0 (eA E) := by
  refine Met.ofW (cc := cX7_judge) (maxL := 4) (ret := (some .int)) (by decide) rfl ?_
  intro p e s m args below meth c s₁ B hml hv
  obtain ⟨rfl, hW, hZ⟩ := hv
  have hx := B.exec
  have hb := B.bytes
  have hr := B.returns
  have hB : ∀ w ∈ BIG, w.before _ s = true := fun w h => atoms_spec (ws := (.code yX7_judge cX7_judge 4 (some .int) :: BIG)) B.pre w (List.mem_cons_of_mem _ h)
  have hown : s.vm.findClass RX7 = some m.cls := findClass_of_methodNamed B.named
  have hlocks := B.notSynchronized
  have hV : va_S (eA E) s.heap s.heap [] := va_S.rf
  have hl := lv_entry ([.ref (ead E 2000), .int a1, .int a2]) (n := 4) (Nat.le_of_ble_eq_true rfl)
  rw [lg_entry_eq]
  generalize (lg_sl ([.ref (ead E 2000), .int a1, .int a2]) ++ List.replicate (4 - (lg_sl ([.ref (ead E 2000), .int a1, .int a2])).length) Slot.unset).toArray = ls at hl ⊢
  have hl : lv_has ls 4 [(0, .ref (ead E 2000)), (1, .int a1), (2, .int a2)] := hl
  have c_36 : ∀ (n_36 : Nat) (b1_36 : Int32) (b2_36 : Int32) (b3_36 : Int32) , f_X7_judge_36 μ n_36 b1_36 b2_36 b3_36 = some r → ∀ (H : Heap) (locs : List Loc) (ls : Array Slot), Wd E μ s H → va_S (eA E) s.heap H locs → lv_has ls 4 [(0, .ref (ead E 2000)), (1, .int b1_36), (2, .int b2_36), (3, .int b3_36)] → W p l e (headSpec (.code yX7_judge cX7_judge 4 (some .int) :: BIG) ({ frames := 1, cells := 0, slots := 0, locals := 22 })).room s m ([.ref (ead E 2000), .int a1, .int a2] : List Value).toArray below meth c H locs 0 0 (MQ below (QI E r μ) ([.ref (ead E 2000), .int a1, .int a2] : List Value).toArray s 0 0 (eA E)) (F0 m 36 ls []) := by
    intro n_36
    induction n_36 with
    | zero =>
      intro b1_36 b2_36 b3_36 hf H locs ls hW hV hl
      cases hf
    | succ n_36 ih_36 =>
      intro b1_36 b2_36 b3_36 hf H locs ls hW hV hl
      rw [f_X7_judge_36] at hf
      refine lv_iload_n hx hb dX7_judge_36 rfl (lv_at hl 3 rfl) ?_
      refine lv_aload_n hx hb dX7_judge_37 rfl (lv_at hl 0 rfl) ?_
      refine gf_RX7_108 hx hb hB hown hW dX7_judge_38 ?_
      refine lv_icmp_ge (tgt := 111) hx hb dX7_judge_41 (by decide) (fun y18 => ?_) (fun y18 => ?_)
      · have hf := op_t y18 hf
        refine lv_bipush (v := (-5 : Int32)) hx hb dX7_judge_111 (by decide) ?_
        exact w_retI hx hb hr hlocks hW hV (Option.some.inj hf) rfl dX7_judge_113
      · have hf := op_f y18 hf
        refine lv_aload_n hx hb dX7_judge_44 rfl (lv_at hl 0 rfl) ?_
        refine gf_RX7_91 hx hb hB hown hW dX7_judge_45 ?_
        refine lv_iload_n hx hb dX7_judge_48 rfl (lv_at hl 1 rfl) ?_
        obtain ⟨v19, e_v19, hf⟩ := op_none hf
        refine w_iald hx hb hW iM42.1 (iM42.2 E _ _) e_v19 dX7_judge_49 ?_
        refine lv_iconst (v := (-1 : Int32)) hx hb dX7_judge_50 (by decide) ?_
        refine lv_icmp_eq (tgt := 74) hx hb dX7_judge_51 (by decide) (fun y20 => ?_) (fun y20 => ?_)
        · have hf := op_t y20 hf
          refine lv_bipush (v := (100 : Int32)) hx hb dX7_judge_74 (by decide) ?_
          refine lv_iload_n hx hb dX7_judge_76 rfl (lv_at hl 3 rfl) ?_
          refine lv_iadd hx hb dX7_judge_77 ?_
          exact w_retI hx hb hr hlocks hW hV (Option.some.inj hf) rfl dX7_judge_78
        · have hf := op_f y20 hf
          refine lv_iload_n hx hb dX7_judge_54 rfl (lv_at hl 2 rfl) ?_
          refine lv_if_lt (tgt := 74) hx hb dX7_judge_55 (by decide) (fun y21 => ?_) (fun y21 => ?_)
          · have hf := op_t y21 hf
            refine lv_bipush (v := (100 : Int32)) hx hb dX7_judge_74 (by decide) ?_
            refine lv_iload_n hx hb dX7_judge_76 rfl (lv_at hl 3 rfl) ?_
            refine lv_iadd hx hb dX7_judge_77 ?_
            exact w_retI hx hb hr hlocks hW hV (Option.some.inj hf) rfl dX7_judge_78
          · have hf := op_f y21 hf
            refine lv_iload_n hx hb dX7_judge_58 rfl (lv_at hl 2 rfl) ?_
            refine lv_i2l hx hb dX7_judge_59 rfl ?_
            refine lv_iload_n hx hb dX7_judge_60 rfl (lv_at hl 3 rfl) ?_
            refine lv_i2l hx hb dX7_judge_61 rfl ?_
            refine lv_ladd hx hb dX7_judge_62 ?_
            refine lv_aload_n hx hb dX7_judge_63 rfl (lv_at hl 0 rfl) ?_
            refine gf_RX7_94 hx hb hB hown hW dX7_judge_64 ?_
            refine lv_iload_n hx hb dX7_judge_67 rfl (lv_at hl 1 rfl) ?_
            obtain ⟨v22, e_v22, hf⟩ := op_none hf
            refine w_iald hx hb hW iM43.1 (iM43.2 E _ _) e_v22 dX7_judge_68 ?_
            refine lv_i2l hx hb dX7_judge_69 rfl ?_
            refine W.lcmp hx hb dX7_judge_70 ?_
            refine lv_if_lt (tgt := 79) hx hb dX7_judge_71 (by decide) (fun y23 => ?_) (fun y23 => ?_)
            · have hf := op_t y23 hf
              refine lv_aload_n hx hb dX7_judge_79 rfl (lv_at hl 0 rfl) ?_
              refine gf_RX7_97 hx hb hB hown hW dX7_judge_80 ?_
              refine lv_bipush (v := (60 : Int32)) hx hb dX7_judge_83 (by decide) ?_
              refine lv_iload_n hx hb dX7_judge_85 rfl (lv_at hl 1 rfl) ?_
              refine lv_imul hx hb dX7_judge_86 ?_
              refine lv_iload_n hx hb dX7_judge_87 rfl (lv_at hl 2 rfl) ?_
              refine lv_iadd hx hb dX7_judge_88 ?_
              refine lv_iload_n hx hb dX7_judge_89 rfl (lv_at hl 3 rfl) ?_
              refine lv_iadd hx hb dX7_judge_90 ?_
              obtain ⟨v24, e_v24, hf⟩ := op_none hf
              refine w_lald hx hb hW jM44.1 (jM44.2 E _ _) e_v24 dX7_judge_91 ?_
              refine lv_aload_n hx hb dX7_judge_92 rfl (lv_at hl 0 rfl) ?_
              refine gf_RX7_27 hx hb hB hown hW dX7_judge_93 ?_
              refine lv_iload_n hx hb dX7_judge_96 rfl (lv_at hl 3 rfl) ?_
              obtain ⟨v25, e_v25, hf⟩ := op_none hf
              refine w_iald hx hb hW iM6.1 (iM6.2 E _ _) e_v25 dX7_judge_97 ?_
              refine lv_i2l hx hb dX7_judge_98 rfl ?_
              refine W.lcmp hx hb dX7_judge_99 ?_
              refine lv_if_eq (tgt := 105) hx hb dX7_judge_100 (by decide) (fun y26 => ?_) (fun y26 => ?_)
              · have hf := op_t y26 hf
                obtain ⟨v27, e_v27, hf⟩ := op_none hf
                refine lv_iinc (v := v27) (lv' := [(3, .int v27), (0, .ref (ead E 2000)), (1, .int b1_36), (2, .int b2_36)]) hx hb dX7_judge_105 hl (k := 3) rfl (by rw [← Option.some.inj e_v27]; rfl) (by decide) rfl (fun ls hl => ?_)
                refine lv_goto (tgt := 36) hx hb dX7_judge_108 (by decide) ?_
                exact ih_36 b1_36 b2_36 v27 hf H locs ls hW hV (lv_sub hl [1, 2, 3, 0] rfl)
              · have hf := op_f y26 hf
                refine lv_iload_n hx hb dX7_judge_103 rfl (lv_at hl 3 rfl) ?_
                exact w_retI hx hb hr hlocks hW hV (Option.some.inj hf) rfl dX7_judge_104
            · have hf := op_f y23 hf
              refine lv_bipush (v := (100 : Int32)) hx hb dX7_judge_74 (by decide) ?_
              refine lv_iload_n hx hb dX7_judge_76 rfl (lv_at hl 3 rfl) ?_
              refine lv_iadd hx hb dX7_judge_77 ?_
              exact w_retI hx hb hr hlocks hW hV (Option.some.inj hf) rfl dX7_judge_78
  have c_34 : ∀ (b1_34 : Int32) (b2_34 : Int32) , f_X7_judge_34 μ b1_34 b2_34 = some r → ∀ (H : Heap) (locs : List Loc) (ls : Array Slot), Wd E μ s H → va_S (eA E) s.heap H locs → lv_has ls 4 [(0, .ref (ead E 2000)), (1, .int b1_34), (2, .int b2_34)] → W p l e (headSpec (.code yX7_judge cX7_judge 4 (some .int) :: BIG) ({ frames := 1, cells := 0, slots := 0, locals := 22 })).room s m ([.ref (ead E 2000), .int a1, .int a2] : List Value).toArray below meth c H locs 0 0 (MQ below (QI E r μ) ([.ref (ead E 2000), .int a1, .int a2] : List Value).toArray s 0 0 (eA E)) (F0 m 34 ls []) := by
    intro b1_34 b2_34 hf H locs ls hW hV hl
    unfold f_X7_judge_34 at hf
    refine lv_iconst (v := (0 : Int32)) hx hb dX7_judge_34 (by decide) ?_
    refine lv_istore_n (i := 3) (lv' := [(3, .int (0 : Int32)), (0, .ref (ead E 2000)), (1, .int b1_34), (2, .int b2_34)]) hx hb dX7_judge_35 rfl hl (by decide) rfl (fun ls hl => ?_)
    exact c_36 FU b1_34 b2_34 (0 : Int32) hf H locs ls hW hV (lv_sub hl [1, 2, 3, 0] rfl)
  obtain ⟨H, hH⟩ : ∃ H : Heap, H = s.heap := ⟨_, rfl⟩
  obtain ⟨locs, hlocs⟩ : ∃ locs : List Loc, locs = [] := ⟨_, rfl⟩
  rw [show (W p l e (headSpec (.code yX7_judge cX7_judge 4 (some .int) :: BIG) ({ frames := 1, cells := 0, slots := 0, locals := 22 })).room s m ([.ref (ead E 2000), .int a1, .int a2] : List Value).toArray below meth c s.heap [] 0 0) = W p l e (headSpec (.code yX7_judge cX7_judge 4 (some .int) :: BIG) ({ frames := 1, cells := 0, slots := 0, locals := 22 })).room s m ([.ref (ead E 2000), .int a1, .int a2] : List Value).toArray below meth c H locs 0 0 by rw [hH, hlocs]]
  have hV : va_S (eA E) s.heap H locs := by rw [hH, hlocs]; exact hV
  have hW : Wd E μ s H := by rw [hH]; exact hW
  unfold f_X7_judge at hf
  refine lv_iload_n hx hb dX7_judge_0 rfl (lv_at hl 1 rfl) ?_
  refine lv_iconst (v := (0 : Int32)) hx hb dX7_judge_1 (by decide) ?_
  refine lv_iconst (v := (5 : Int32)) hx hb dX7_judge_2 (by decide) ?_
  obtain ⟨v28, e_29, hf⟩ := op_none hf
  refine w_callN (rn_RX7_111 (As := [.int a1, .int (0 : Int32), .int (5 : Int32)]) hx hb hml hown hB hW hZ hV (k_X7_within l E _ a1 (0 : Int32) (5 : Int32) v28 e_29) rfl rfl ⟨(Nat.le_of_ble_eq_true rfl), (Nat.le_of_ble_eq_true rfl)⟩ rfl hl.1 rfl (Nat.le_of_ble_eq_true rfl) dX7_judge_3 ⟨Nat.le_refl _, Nat.le_refl _⟩) hV (fun H locs hn_v28 hW hV => ?_)
  refine lv_if_ne (tgt := 11) hx hb dX7_judge_6 (by decide) (fun y30 => ?_) (fun y30 => ?_)
  · have hf := op_f y30 hf
    refine lv_aload_n hx hb dX7_judge_11 rfl (lv_at hl 0 rfl) ?_
    refine gf_RX7_91 hx hb hB hown hW dX7_judge_12 ?_
    refine lv_iload_n hx hb dX7_judge_15 rfl (lv_at hl 1 rfl) ?_
    obtain ⟨v31, e_v31, hf⟩ := op_none hf
    refine w_iald hx hb hW iM42.1 (iM42.2 E _ _) e_v31 dX7_judge_16 ?_
    refine lv_iconst (v := (-1 : Int32)) hx hb dX7_judge_17 (by decide) ?_
    refine lv_icmp_eq (tgt := 34) hx hb dX7_judge_18 (by decide) (fun y32 => ?_) (fun y32 => ?_)
    · have hf := op_t y32 hf
      exact c_34 a1 a2 hf H locs ls hW hV (lv_sub hl [0, 1, 2] rfl)
    · have hf := op_f y32 hf
      refine lv_aload_n hx hb dX7_judge_21 rfl (lv_at hl 0 rfl) ?_
      refine gf_RX7_91 hx hb hB hown hW dX7_judge_22 ?_
      refine lv_iload_n hx hb dX7_judge_25 rfl (lv_at hl 1 rfl) ?_
      obtain ⟨v33, e_v33, hf⟩ := op_none hf
      refine w_iald hx hb hW iM42.1 (iM42.2 E _ _) e_v33 dX7_judge_26 ?_
      refine lv_iconst (v := (3 : Int32)) hx hb dX7_judge_27 (by decide) ?_
      refine lv_icmp_eq (tgt := 34) hx hb dX7_judge_28 (by decide) (fun y34 => ?_) (fun y34 => ?_)
      · have hf := op_t y34 hf
        exact c_34 a1 a2 hf H locs ls hW hV (lv_sub hl [0, 1, 2] rfl)
      · have hf := op_f y34 hf
        refine lv_bipush (v := (-12 : Int32)) hx hb dX7_judge_31 (by decide) ?_
        exact w_retI hx hb hr hlocks hW hV (Option.some.inj hf) rfl dX7_judge_33
  · have hf := op_t y30 hf
    refine lv_iconst (v := (-1 : Int32)) hx hb dX7_judge_9 (by decide) ?_
    exact w_retI hx hb hr hlocks hW hV (Option.some.inj hf) rfl dX7_judge_10
set_option maxHeartbeats 8000000 in
set_option maxRecDepth 100000 in
theorem k_X7_image (l : Launch) (E : WE) (μ : Mem) (r : Int32) (μ' : Mem) (hf : f_X7_image μ = some (r, μ')) : Met l yX7_image (.code yX7_image cX7_image 1 (some .int) :: BIG) ({ frames := 1, cells := 0, slots := 0, locals := 22 }) (PW E μ [.ref (ead E 2000)]) (QI E r μ') 0 0 (eA E) := by
  refine Met.ofW (cc := cX7_image) (maxL := 1) (ret := (some .int)) (by decide) rfl ?_
  intro p e s m args below meth c s₁ B hml hv
  obtain ⟨rfl, hW, hZ⟩ := hv
  have hx := B.exec
  have hb := B.bytes
  have hr := B.returns
  have hB : ∀ w ∈ BIG, w.before _ s = true := fun w h => atoms_spec (ws := (.code yX7_image cX7_image 1 (some .int) :: BIG)) B.pre w (List.mem_cons_of_mem _ h)
  have hown : s.vm.findClass RX7 = some m.cls := findClass_of_methodNamed B.named
  have hlocks := B.notSynchronized
  have hV : va_S (eA E) s.heap s.heap [] := va_S.rf
  have hl := lv_entry ([.ref (ead E 2000)]) (n := 1) (Nat.le_of_ble_eq_true rfl)
  rw [lg_entry_eq]
  generalize (lg_sl ([.ref (ead E 2000)]) ++ List.replicate (1 - (lg_sl ([.ref (ead E 2000)])).length) Slot.unset).toArray = ls at hl ⊢
  have hl : lv_has ls 1 [(0, .ref (ead E 2000))] := hl
  obtain ⟨H, hH⟩ : ∃ H : Heap, H = s.heap := ⟨_, rfl⟩
  obtain ⟨locs, hlocs⟩ : ∃ locs : List Loc, locs = [] := ⟨_, rfl⟩
  rw [show (W p l e (headSpec (.code yX7_image cX7_image 1 (some .int) :: BIG) ({ frames := 1, cells := 0, slots := 0, locals := 22 })).room s m ([.ref (ead E 2000)] : List Value).toArray below meth c s.heap [] 0 0) = W p l e (headSpec (.code yX7_image cX7_image 1 (some .int) :: BIG) ({ frames := 1, cells := 0, slots := 0, locals := 22 })).room s m ([.ref (ead E 2000)] : List Value).toArray below meth c H locs 0 0 by rw [hH, hlocs]]
  have hV : va_S (eA E) s.heap H locs := by rw [hH, hlocs]; exact hV
  have hW : Wd E μ s H := by rw [hH]; exact hW
  unfold f_X7_image at hf
  refine lv_aload_n hx hb dX7_image_0 rfl (lv_at hl 0 rfl) ?_
  refine lv_iconst (v := (1 : Int32)) hx hb dX7_image_1 (by decide) ?_
  obtain ⟨μ4, e_μ4, hf⟩ := op_none hf
  refine pf_RX7_305 hx hb hB hown hW hV (by decide) dX7_image_2 (fun H locs hW hV => ?_)
  rw [Option.some.inj e_μ4] at hW
  refine lv_aload_n hx hb dX7_image_5 rfl (lv_at hl 0 rfl) ?_
  refine lv_aload_n hx hb dX7_image_6 rfl (lv_at hl 0 rfl) ?_
  refine gf_RX7_85 hx hb hB hown hW dX7_image_7 ?_
  obtain ⟨μ5, e_6, hf⟩ := op_none hf
  refine w_callV (rn_RX7_257 (As := [.ref (ead E 2040)]) hx hb hml hown hB hW hZ hV (k_X7_keep l E _ 2040 iM40 μ5 e_6) rfl rfl ⟨(Nat.le_of_ble_eq_true rfl), (Nat.le_of_ble_eq_true rfl)⟩ (w_rec hW oM.1 (oM.2 E _ _) rfl) rfl hl.1 rfl (Nat.le_of_ble_eq_true rfl) dX7_image_10 ⟨Nat.le_refl _, Nat.le_refl _⟩) hV (fun H locs hW hV => ?_)
  refine lv_aload_n hx hb dX7_image_13 rfl (lv_at hl 0 rfl) ?_
  refine gf_RX7_108 hx hb hB hown hW dX7_image_14 ?_
  exact w_retI hx hb hr hlocks hW hV (Prod.mk.inj (Option.some.inj hf)).1 (Prod.mk.inj (Option.some.inj hf)).2 dX7_image_17
set_option maxHeartbeats 8000000 in
set_option maxRecDepth 100000 in
theorem k_X7_undo (l : Launch) (E : WE) (μ : Mem) (r : Int32) (μ' : Mem) (hf : f_X7_undo μ = some (r, μ')) : Met l yX7_undo (.code yX7_undo cX7_undo 1 (some .int) :: BIG) ({ frames := 1, cells := 0, slots := 0, locals := 22 }) (PW E μ [.ref (ead E 2000)]) (QI E r μ') 0 0 (eA E) := by
  refine Met.ofW (cc := cX7_undo) (maxL := 1) (ret := (some .int)) (by decide) rfl ?_
  intro p e s m args below meth c s₁ B hml hv
  obtain ⟨rfl, hW, hZ⟩ := hv
  have hx := B.exec
  have hb := B.bytes
  have hr := B.returns
  have hB : ∀ w ∈ BIG, w.before _ s = true := fun w h => atoms_spec (ws := (.code yX7_undo cX7_undo 1 (some .int) :: BIG)) B.pre w (List.mem_cons_of_mem _ h)
  have hown : s.vm.findClass RX7 = some m.cls := findClass_of_methodNamed B.named
  have hlocks := B.notSynchronized
  have hV : va_S (eA E) s.heap s.heap [] := va_S.rf
  have hl := lv_entry ([.ref (ead E 2000)]) (n := 1) (Nat.le_of_ble_eq_true rfl)
  rw [lg_entry_eq]
  generalize (lg_sl ([.ref (ead E 2000)]) ++ List.replicate (1 - (lg_sl ([.ref (ead E 2000)])).length) Slot.unset).toArray = ls at hl ⊢
  have hl : lv_has ls 1 [(0, .ref (ead E 2000))] := hl
  obtain ⟨H, hH⟩ : ∃ H : Heap, H = s.heap := ⟨_, rfl⟩
  obtain ⟨locs, hlocs⟩ : ∃ locs : List Loc, locs = [] := ⟨_, rfl⟩
  rw [show (W p l e (headSpec (.code yX7_undo cX7_undo 1 (some .int) :: BIG) ({ frames := 1, cells := 0, slots := 0, locals := 22 })).room s m ([.ref (ead E 2000)] : List Value).toArray below meth c s.heap [] 0 0) = W p l e (headSpec (.code yX7_undo cX7_undo 1 (some .int) :: BIG) ({ frames := 1, cells := 0, slots := 0, locals := 22 })).room s m ([.ref (ead E 2000)] : List Value).toArray below meth c H locs 0 0 by rw [hH, hlocs]]
  have hV : va_S (eA E) s.heap H locs := by rw [hH, hlocs]; exact hV
  have hW : Wd E μ s H := by rw [hH]; exact hW
  unfold f_X7_undo at hf
  refine lv_aload_n hx hb dX7_undo_0 rfl (lv_at hl 0 rfl) ?_
  refine gf_RX7_305 hx hb hB hown hW dX7_undo_1 ?_
  refine lv_if_ne (tgt := 10) hx hb dX7_undo_4 (by decide) (fun y4 => ?_) (fun y4 => ?_)
  · have hf := op_f y4 hf
    refine lv_aload_n hx hb dX7_undo_10 rfl (lv_at hl 0 rfl) ?_
    refine lv_aload_n hx hb dX7_undo_11 rfl (lv_at hl 0 rfl) ?_
    refine gf_RX7_85 hx hb hB hown hW dX7_undo_12 ?_
    obtain ⟨μ5, e_6, hf⟩ := op_none hf
    refine w_callV (rn_RX7_261 (As := [.ref (ead E 2040)]) hx hb hml hown hB hW hZ hV (k_X7_again l E _ 2040 iM40 μ5 e_6) rfl rfl ⟨(Nat.le_of_ble_eq_true rfl), (Nat.le_of_ble_eq_true rfl)⟩ (w_rec hW oM.1 (oM.2 E _ _) rfl) rfl hl.1 rfl (Nat.le_of_ble_eq_true rfl) dX7_undo_15 ⟨Nat.le_refl _, Nat.le_refl _⟩) hV (fun H locs hW hV => ?_)
    refine lv_aload_n hx hb dX7_undo_18 rfl (lv_at hl 0 rfl) ?_
    refine gf_RX7_108 hx hb hB hown hW dX7_undo_19 ?_
    exact w_retI hx hb hr hlocks hW hV (Prod.mk.inj (Option.some.inj hf)).1 (Prod.mk.inj (Option.some.inj hf)).2 dX7_undo_22
  · have hf := op_t y4 hf
    refine lv_bipush (v := (-3 : Int32)) hx hb dX7_undo_7 (by decide) ?_
    exact w_retI hx hb hr hlocks hW hV (Prod.mk.inj (Option.some.inj hf)).1 (Prod.mk.inj (Option.some.inj hf)).2 dX7_undo_9
set_option maxHeartbeats 8000000 in
set_option maxRecDepth 100000 in
theorem k_X7_ran (l : Launch) (E : WE) (μ : Mem) (a1 : Int32) (μ' : Mem) (hf : f_X7_ran μ a1 = some μ') : Met l yX7_ran (.code yX7_ran cX7_ran 2 none :: BIG) ({ frames := 0, cells := 0, slots := 0, locals := 0 }) (PW E μ [.ref (ead E 2000), .int a1]) (QV E μ') 0 0 (eA E) := by
  refine Met.ofW (cc := cX7_ran) (maxL := 2) (ret := none) (by decide) rfl ?_
  intro p e s m args below meth c s₁ B hml hv
  obtain ⟨rfl, hW, hZ⟩ := hv
  have hx := B.exec
  have hb := B.bytes
  have hr := B.returns
  have hB : ∀ w ∈ BIG, w.before _ s = true := fun w h => atoms_spec (ws := (.code yX7_ran cX7_ran 2 none :: BIG)) B.pre w (List.mem_cons_of_mem _ h)
  have hown : s.vm.findClass RX7 = some m.cls := findClass_of_methodNamed B.named
  have hlocks := B.notSynchronized
  have hV : va_S (eA E) s.heap s.heap [] := va_S.rf
  have hl := lv_entry ([.ref (ead E 2000), .int a1]) (n := 2) (Nat.le_of_ble_eq_true rfl)
  rw [lg_entry_eq]
  generalize (lg_sl ([.ref (ead E 2000), .int a1]) ++ List.replicate (2 - (lg_sl ([.ref (ead E 2000), .int a1])).length) Slot.unset).toArray = ls at hl ⊢
  have hl : lv_has ls 2 [(0, .ref (ead E 2000)), (1, .int a1)] := hl
  have c_19 : ∀ (μ_19 : Mem) , f_X7_ran_19 μ_19 = some μ' → ∀ (H : Heap) (locs : List Loc) (ls : Array Slot), Wd E μ_19 s H → va_S (eA E) s.heap H locs → lv_has ls 2 [(0, .ref (ead E 2000))] → W p l e (headSpec (.code yX7_ran cX7_ran 2 none :: BIG) ({ frames := 0, cells := 0, slots := 0, locals := 0 })).room s m ([.ref (ead E 2000), .int a1] : List Value).toArray below meth c H locs 0 0 (MQ below (QV E μ') ([.ref (ead E 2000), .int a1] : List Value).toArray s 0 0 (eA E)) (F0 m 19 ls []) := by
    intro μ_19 hf H locs ls hW hV hl
    unfold f_X7_ran_19 at hf
    refine lv_aload_n hx hb dX7_ran_19 rfl (lv_at hl 0 rfl) ?_
    refine lv_dup hx hb dX7_ran_20 rfl ?_
    refine gf_RX7_309 hx hb hB hown hW dX7_ran_21 ?_
    refine lv_iconst (v := (1 : Int32)) hx hb dX7_ran_24 (by decide) ?_
    refine lv_iadd hx hb dX7_ran_25 ?_
    obtain ⟨μ4, e_μ4, hf⟩ := op_none hf
    refine pf_RX7_309 hx hb hB hown hW hV dX7_ran_26 (fun H locs hW hV => ?_)
    rw [Option.some.inj e_μ4] at hW
    exact w_retV hx hb hr hlocks hW hV (Option.some.inj hf) dX7_ran_29
  obtain ⟨H, hH⟩ : ∃ H : Heap, H = s.heap := ⟨_, rfl⟩
  obtain ⟨locs, hlocs⟩ : ∃ locs : List Loc, locs = [] := ⟨_, rfl⟩
  rw [show (W p l e (headSpec (.code yX7_ran cX7_ran 2 none :: BIG) ({ frames := 0, cells := 0, slots := 0, locals := 0 })).room s m ([.ref (ead E 2000), .int a1] : List Value).toArray below meth c s.heap [] 0 0) = W p l e (headSpec (.code yX7_ran cX7_ran 2 none :: BIG) ({ frames := 0, cells := 0, slots := 0, locals := 0 })).room s m ([.ref (ead E 2000), .int a1] : List Value).toArray below meth c H locs 0 0 by rw [hH, hlocs]]
  have hV : va_S (eA E) s.heap H locs := by rw [hH, hlocs]; exact hV
  have hW : Wd E μ s H := by rw [hH]; exact hW
  unfold f_X7_ran at hf
  refine lv_aload_n hx hb dX7_ran_0 rfl (lv_at hl 0 rfl) ?_
  refine gf_RX7_309 hx hb hB hown hW dX7_ran_1 ?_
  refine lv_bipush (v := (20 : Int32)) hx hb dX7_ran_4 (by decide) ?_
  refine lv_icmp_ge (tgt := 19) hx hb dX7_ran_6 (by decide) (fun y5 => ?_) (fun y5 => ?_)
  · have hf := op_t y5 hf
    exact c_19 μ hf H locs ls hW hV (lv_sub hl [0] rfl)
  · have hf := op_f y5 hf
    refine lv_aload_n hx hb dX7_ran_9 rfl (lv_at hl 0 rfl) ?_
    refine gf_RX7_82 hx hb hB hown hW dX7_ran_10 ?_
    refine lv_aload_n hx hb dX7_ran_13 rfl (lv_at hl 0 rfl) ?_
    refine gf_RX7_309 hx hb hB hown hW dX7_ran_14 ?_
    refine lv_iload_n hx hb dX7_ran_17 rfl (lv_at hl 1 rfl) ?_
    obtain ⟨μ6, e_μ6, hf⟩ := op_none hf
    refine w_iast hx hb hW hV iM38.1 (fun f => iM38.2 E f _) e_μ6 dX7_ran_18 (fun H locs hW hV => ?_)
    exact c_19 μ6 hf H locs ls hW hV (lv_sub hl [0] rfl)
