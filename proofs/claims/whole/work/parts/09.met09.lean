set_option maxHeartbeats 8000000 in
set_option maxRecDepth 100000 in
theorem k_X7_isClause (l : Launch) (E : WE) (μ : Mem) (a1 : Int32) (r : Int32) (μ' : Mem) (hf : f_X7_isClause μ a1 = some (r, μ')) : Met l yX7_isClause (.code yX7_isClause cX7_isClause 4 (some .boolean) :: BIG) ({ frames := 30, cells := 0, slots := 0, locals := 652 }) (PW E μ [.ref (ead E 2000), .int a1]) (QN E .boolean r μ') 0 0 (eA E) := by
  refine Met.ofW (cc := cX7_isClause) (maxL := 4) (ret := (some .boolean)) (by decide) rfl ?_
  intro p e s m args below meth c s₁ B hml hv
  obtain ⟨rfl, hW, hZ⟩ := hv
  have hx := B.exec
  have hb := B.bytes
  have hr := B.returns
  have hB : ∀ w ∈ BIG, w.before _ s = true := fun w h => atoms_spec (ws := (.code yX7_isClause cX7_isClause 4 (some .boolean) :: BIG)) B.pre w (List.mem_cons_of_mem _ h)
  have hown : s.vm.findClass RX7 = some m.cls := findClass_of_methodNamed B.named
  have hlocks := B.notSynchronized
  have hV : va_S (eA E) s.heap s.heap [] := va_S.rf
  have hl := lv_entry ([.ref (ead E 2000), .int a1]) (n := 4) (Nat.le_of_ble_eq_true rfl)
  rw [lg_entry_eq]
  generalize (lg_sl ([.ref (ead E 2000), .int a1]) ++ List.replicate (4 - (lg_sl ([.ref (ead E 2000), .int a1])).length) Slot.unset).toArray = ls at hl ⊢
  have hl : lv_has ls 4 [(0, .ref (ead E 2000)), (1, .int a1)] := hl
  have c_184 : ∀ (μ_184 : Mem) (b1_184 : Int32) , f_X7_isClause_184 μ_184 b1_184 = some (r, μ') → ∀ (H : Heap) (locs : List Loc) (ls : Array Slot), Wd E μ_184 s H → va_S (eA E) s.heap H locs → lv_has ls 4 [(0, .ref (ead E 2000)), (1, .int b1_184)] → W p l e (headSpec (.code yX7_isClause cX7_isClause 4 (some .boolean) :: BIG) ({ frames := 30, cells := 0, slots := 0, locals := 652 })).room s m ([.ref (ead E 2000), .int a1] : List Value).toArray below meth c H locs 0 0 (MQ below (QN E .boolean r μ') ([.ref (ead E 2000), .int a1] : List Value).toArray s 0 0 (eA E)) (F0 m 184 ls []) := by
    intro μ_184 b1_184 hf H locs ls hW hV hl
    unfold f_X7_isClause_184 at hf
    refine lv_aload_n hx hb dX7_isClause_184 rfl (lv_at hl 0 rfl) ?_
    refine gf_RX7_51 hx hb hB hown hW dX7_isClause_185 ?_
    refine lv_iload_n hx hb dX7_isClause_188 rfl (lv_at hl 1 rfl) ?_
    refine lv_aload_n hx hb dX7_isClause_189 rfl (lv_at hl 0 rfl) ?_
    refine gf_RX7_157 hx hb hB hown hW dX7_isClause_190 ?_
    refine lv_aload_n hx hb dX7_isClause_193 rfl (lv_at hl 0 rfl) ?_
    refine gf_RX7_48 hx hb hB hown hW dX7_isClause_194 ?_
    refine lv_iload_n hx hb dX7_isClause_197 rfl (lv_at hl 1 rfl) ?_
    obtain ⟨v47, e_v47, hf⟩ := op_none hf
    refine w_iald hx hb hW iM22.1 (iM22.2 E _ _) e_v47 dX7_isClause_198 ?_
    refine lv_isub hx hb dX7_isClause_199 ?_
    obtain ⟨μ48, e_μ48, hf⟩ := op_none hf
    refine w_iast hx hb hW hV iM23.1 (fun f => iM23.2 E f _) e_μ48 dX7_isClause_200 (fun H locs hW hV => ?_)
    refine lv_iconst (v := (1 : Int32)) hx hb dX7_isClause_201 (by decide) ?_
    exact w_retN hx hb hr hlocks hW hV (by decide) (Prod.mk.inj (Option.some.inj hf)).1 (Prod.mk.inj (Option.some.inj hf)).2 dX7_isClause_202
  have c_115 : ∀ (μ_115 : Mem) (b1_115 : Int32) (b2_115 : Int32) (s0_115 : Int32) , f_X7_isClause_115 μ_115 b1_115 b2_115 s0_115 = some (r, μ') → ∀ (H : Heap) (locs : List Loc) (ls : Array Slot), Wd E μ_115 s H → va_S (eA E) s.heap H locs → lv_has ls 4 [(0, .ref (ead E 2000)), (1, .int b1_115), (2, .int b2_115)] → W p l e (headSpec (.code yX7_isClause cX7_isClause 4 (some .boolean) :: BIG) ({ frames := 30, cells := 0, slots := 0, locals := 652 })).room s m ([.ref (ead E 2000), .int a1] : List Value).toArray below meth c H locs 0 0 (MQ below (QN E .boolean r μ') ([.ref (ead E 2000), .int a1] : List Value).toArray s 0 0 (eA E)) (F0 m 115 ls [.int s0_115]) := by
    intro μ_115 b1_115 b2_115 s0_115 hf H locs ls hW hV hl
    unfold f_X7_isClause_115 at hf
    refine lv_istore_n (i := 3) (lv' := [(3, .int s0_115), (0, .ref (ead E 2000)), (1, .int b1_115), (2, .int b2_115)]) hx hb dX7_isClause_115 rfl hl (by decide) rfl (fun ls hl => ?_)
    refine lv_iload_n hx hb dX7_isClause_116 rfl (lv_at hl 0 rfl) ?_
    refine lv_if_eq (tgt := 127) hx hb dX7_isClause_117 (by decide) (fun y49 => ?_) (fun y49 => ?_)
    · have hf := op_t y49 hf
      refine lv_iconst (v := (0 : Int32)) hx hb dX7_isClause_127 (by decide) ?_
      exact w_retN hx hb hr hlocks hW hV (by decide) (Prod.mk.inj (Option.some.inj hf)).1 (Prod.mk.inj (Option.some.inj hf)).2 dX7_isClause_128
    · have hf := op_f y49 hf
      refine lv_aload_n hx hb dX7_isClause_120 rfl (lv_at hl 1 rfl) ?_
      obtain ⟨p53, e_52, hf⟩ := op_none hf
      refine w_callN (rn_RX7_167 (As := []) hx hb hml hown hB hW hZ hV (k_X7_isNumber l E _ p53.1 p53.2 e_52) rfl rfl ⟨(Nat.le_of_ble_eq_true rfl), (Nat.le_of_ble_eq_true rfl)⟩ (w_rec hW oM.1 (oM.2 E _ _) rfl) rfl hl.1 rfl (Nat.le_of_ble_eq_true rfl) dX7_isClause_121 ⟨Nat.le_refl _, Nat.le_refl _⟩) hV (fun H locs hn_p53_1 hW hV => ?_)
      refine lv_if_ne (tgt := 129) hx hb dX7_isClause_124 (by decide) (fun y54 => ?_) (fun y54 => ?_)
      · have hf := op_f y54 hf
        refine lv_aload_n hx hb dX7_isClause_129 rfl (lv_at hl 1 rfl) ?_
        refine gf_RX7_42 hx hb hB hown hW dX7_isClause_130 ?_
        refine lv_iload_n hx hb dX7_isClause_133 rfl (lv_at hl 2 rfl) ?_
        refine lv_iload_n hx hb dX7_isClause_134 rfl (lv_at hl 3 rfl) ?_
        obtain ⟨μ55, e_μ55, hf⟩ := op_none hf
        refine w_iast hx hb hW hV iM20.1 (fun f => iM20.2 E f _) e_μ55 dX7_isClause_135 (fun H locs hW hV => ?_)
        refine lv_aload_n hx hb dX7_isClause_136 rfl (lv_at hl 1 rfl) ?_
        refine gf_RX7_45 hx hb hB hown hW dX7_isClause_137 ?_
        refine lv_iload_n hx hb dX7_isClause_140 rfl (lv_at hl 2 rfl) ?_
        refine lv_aload_n hx hb dX7_isClause_141 rfl (lv_at hl 1 rfl) ?_
        refine gf_RX7_135 hx hb hB hown hW dX7_isClause_142 ?_
        obtain ⟨μ56, e_μ56, hf⟩ := op_none hf
        refine w_iast hx hb hW hV iM21.1 (fun f => iM21.2 E f _) e_μ56 dX7_isClause_145 (fun H locs hW hV => ?_)
        refine lv_aload_n hx hb dX7_isClause_146 rfl (lv_at hl 1 rfl) ?_
        refine gf_RX7_48 hx hb hB hown hW dX7_isClause_147 ?_
        refine lv_iload_n hx hb dX7_isClause_150 rfl (lv_at hl 2 rfl) ?_
        refine lv_aload_n hx hb dX7_isClause_151 rfl (lv_at hl 1 rfl) ?_
        refine gf_RX7_157 hx hb hB hown hW dX7_isClause_152 ?_
        obtain ⟨μ57, e_μ57, hf⟩ := op_none hf
        refine w_iast hx hb hW hV iM22.1 (fun f => iM22.2 E f _) e_μ57 dX7_isClause_155 (fun H locs hW hV => ?_)
        refine lv_aload_n hx hb dX7_isClause_156 rfl (lv_at hl 1 rfl) ?_
        refine lv_iconst (v := (0 : Int32)) hx hb dX7_isClause_157 (by decide) ?_
        obtain ⟨μ58, e_μ58, hf⟩ := op_none hf
        refine pf_RX7_173 hx hb hB hown hW hV dX7_isClause_158 (fun H locs hW hV => ?_)
        rw [Option.some.inj e_μ58] at hW
        refine lv_iload_n hx hb dX7_isClause_161 rfl (lv_at hl 3 rfl) ?_
        refine lv_iconst (v := (2 : Int32)) hx hb dX7_isClause_162 (by decide) ?_
        refine lv_icmp_ge (tgt := 184) hx hb dX7_isClause_163 (by decide) (fun y59 => ?_) (fun y59 => ?_)
        · have hf := op_t y59 hf
          exact c_184 μ58 b1_115 hf H locs ls hW hV (lv_sub hl [1, 2] rfl)
        · have hf := op_f y59 hf
          refine lv_aload_n hx hb dX7_isClause_166 rfl (lv_at hl 1 rfl) ?_
          refine lv_bipush (v := (32 : Int32)) hx hb dX7_isClause_167 (by decide) ?_
          obtain ⟨p63, e_62, hf⟩ := op_none hf
          refine w_callN (rn_RX7_154 (As := [.int (32 : Int32)]) hx hb hml hown hB hW hZ hV (k_X7_is l E _ (32 : Int32) p63.1 p63.2 e_62) rfl rfl ⟨(Nat.le_of_ble_eq_true rfl), (Nat.le_of_ble_eq_true rfl)⟩ (w_rec hW oM.1 (oM.2 E _ _) rfl) rfl hl.1 rfl (Nat.le_of_ble_eq_true rfl) dX7_isClause_169 ⟨Nat.le_refl _, Nat.le_refl _⟩) hV (fun H locs hn_p63_1 hW hV => ?_)
          refine lv_if_eq (tgt := 182) hx hb dX7_isClause_172 (by decide) (fun y64 => ?_) (fun y64 => ?_)
          · have hf := op_t y64 hf
            refine lv_iconst (v := (0 : Int32)) hx hb dX7_isClause_182 (by decide) ?_
            exact w_retN hx hb hr hlocks hW hV (by decide) (Prod.mk.inj (Option.some.inj hf)).1 (Prod.mk.inj (Option.some.inj hf)).2 dX7_isClause_183
          · have hf := op_f y64 hf
            refine lv_aload_n hx hb dX7_isClause_175 rfl (lv_at hl 1 rfl) ?_
            obtain ⟨p68, e_67, hf⟩ := op_none hf
            refine w_callN (rn_RX7_182 (As := []) hx hb hml hown hB hW hZ hV (k_X7_isE l E _ p68.1 p68.2 e_67) rfl rfl ⟨(Nat.le_of_ble_eq_true rfl), (Nat.le_of_ble_eq_true rfl)⟩ (w_rec hW oM.1 (oM.2 E _ _) rfl) rfl hl.1 rfl (Nat.le_of_ble_eq_true rfl) dX7_isClause_176 ⟨Nat.le_refl _, Nat.le_refl _⟩) hV (fun H locs hn_p68_1 hW hV => ?_)
            refine lv_if_ne (tgt := 184) hx hb dX7_isClause_179 (by decide) (fun y69 => ?_) (fun y69 => ?_)
            · have hf := op_f y69 hf
              exact c_184 p68.2 b1_115 hf H locs ls hW hV (lv_sub hl [1, 2] rfl)
            · have hf := op_t y69 hf
              refine lv_iconst (v := (0 : Int32)) hx hb dX7_isClause_182 (by decide) ?_
              exact w_retN hx hb hr hlocks hW hV (by decide) (Prod.mk.inj (Option.some.inj hf)).1 (Prod.mk.inj (Option.some.inj hf)).2 dX7_isClause_183
      · have hf := op_t y54 hf
        refine lv_iconst (v := (0 : Int32)) hx hb dX7_isClause_127 (by decide) ?_
        exact w_retN hx hb hr hlocks hW hV (by decide) (Prod.mk.inj (Option.some.inj hf)).1 (Prod.mk.inj (Option.some.inj hf)).2 dX7_isClause_128
  have c_114 : ∀ (μ_114 : Mem) (b1_114 : Int32) (b2_114 : Int32) , f_X7_isClause_114 μ_114 b1_114 b2_114 = some (r, μ') → ∀ (H : Heap) (locs : List Loc) (ls : Array Slot), Wd E μ_114 s H → va_S (eA E) s.heap H locs → lv_has ls 4 [(0, .ref (ead E 2000)), (1, .int b1_114), (2, .int b2_114)] → W p l e (headSpec (.code yX7_isClause cX7_isClause 4 (some .boolean) :: BIG) ({ frames := 30, cells := 0, slots := 0, locals := 652 })).room s m ([.ref (ead E 2000), .int a1] : List Value).toArray below meth c H locs 0 0 (MQ below (QN E .boolean r μ') ([.ref (ead E 2000), .int a1] : List Value).toArray s 0 0 (eA E)) (F0 m 114 ls []) := by
    intro μ_114 b1_114 b2_114 hf H locs ls hW hV hl
    unfold f_X7_isClause_114 at hf
    refine lv_iconst (v := (0 : Int32)) hx hb dX7_isClause_114 (by decide) ?_
    exact c_115 μ_114 b1_114 b2_114 (0 : Int32) hf H locs ls hW hV (lv_sub hl [0, 1, 2] rfl)
  have c_69 : ∀ (μ_69 : Mem) (b1_69 : Int32) (b2_69 : Int32) , f_X7_isClause_69 μ_69 b1_69 b2_69 = some (r, μ') → ∀ (H : Heap) (locs : List Loc) (ls : Array Slot), Wd E μ_69 s H → va_S (eA E) s.heap H locs → lv_has ls 4 [(0, .ref (ead E 2000)), (1, .int b1_69), (2, .int b2_69)] → W p l e (headSpec (.code yX7_isClause cX7_isClause 4 (some .boolean) :: BIG) ({ frames := 30, cells := 0, slots := 0, locals := 652 })).room s m ([.ref (ead E 2000), .int a1] : List Value).toArray below meth c H locs 0 0 (MQ below (QN E .boolean r μ') ([.ref (ead E 2000), .int a1] : List Value).toArray s 0 0 (eA E)) (F0 m 69 ls []) := by
    intro μ_69 b1_69 b2_69 hf H locs ls hW hV hl
    unfold f_X7_isClause_69 at hf
    refine lv_iload_n hx hb dX7_isClause_69 rfl (lv_at hl 2 rfl) ?_
    refine lv_if_ne (tgt := 82) hx hb dX7_isClause_70 (by decide) (fun y70 => ?_) (fun y70 => ?_)
    · have hf := op_f y70 hf
      refine lv_iload_n hx hb dX7_isClause_82 rfl (lv_at hl 2 rfl) ?_
      refine lv_iconst (v := (1 : Int32)) hx hb dX7_isClause_83 (by decide) ?_
      refine lv_icmp_ne (tgt := 96) hx hb dX7_isClause_84 (by decide) (fun y71 => ?_) (fun y71 => ?_)
      · have hf := op_f y71 hf
        refine lv_iload_n hx hb dX7_isClause_96 rfl (lv_at hl 2 rfl) ?_
        refine lv_iconst (v := (2 : Int32)) hx hb dX7_isClause_97 (by decide) ?_
        refine lv_icmp_ne (tgt := 114) hx hb dX7_isClause_98 (by decide) (fun y72 => ?_) (fun y72 => ?_)
        · have hf := op_f y72 hf
          exact c_114 μ_69 b1_69 b2_69 hf H locs ls hW hV (lv_sub hl [0, 1, 2] rfl)
        · have hf := op_t y72 hf
          refine lv_aload_n hx hb dX7_isClause_101 rfl (lv_at hl 0 rfl) ?_
          refine w_ldcS hx hb hown hZ (List.mem_of_getElem? (i := 8) rfl) dX7_isClause_102 ?_
          obtain ⟨p76, e_75, hf⟩ := op_none hf
          refine w_callN (rn_RX7_193 (As := [.ref (adS E 8)]) hx hb hml hown hB hW hZ hV (k_X7_isAll l E _ 8 (by decide) p76.1 p76.2 e_75) rfl rfl ⟨(Nat.le_of_ble_eq_true rfl), (Nat.le_of_ble_eq_true rfl)⟩ (w_rec hW oM.1 (oM.2 E _ _) rfl) rfl hl.1 rfl (Nat.le_of_ble_eq_true rfl) dX7_isClause_104 ⟨Nat.le_refl _, Nat.le_refl _⟩) hV (fun H locs hn_p76_1 hW hV => ?_)
          refine lv_if_eq (tgt := 114) hx hb dX7_isClause_107 (by decide) (fun y77 => ?_) (fun y77 => ?_)
          · have hf := op_t y77 hf
            exact c_114 p76.2 b1_69 b2_69 hf H locs ls hW hV (lv_sub hl [0, 1, 2] rfl)
          · have hf := op_f y77 hf
            refine lv_iconst (v := (1 : Int32)) hx hb dX7_isClause_110 (by decide) ?_
            refine lv_goto (tgt := 115) hx hb dX7_isClause_111 (by decide) ?_
            exact c_115 p76.2 b1_69 b2_69 (1 : Int32) hf H locs ls hW hV (lv_sub hl [0, 1, 2] rfl)
      · have hf := op_t y71 hf
        refine lv_aload_n hx hb dX7_isClause_87 rfl (lv_at hl 0 rfl) ?_
        refine w_ldcS hx hb hown hZ (List.mem_of_getElem? (i := 7) rfl) dX7_isClause_88 ?_
        obtain ⟨p81, e_80, hf⟩ := op_none hf
        refine w_callN (rn_RX7_193 (As := [.ref (adS E 7)]) hx hb hml hown hB hW hZ hV (k_X7_isAll l E _ 7 (by decide) p81.1 p81.2 e_80) rfl rfl ⟨(Nat.le_of_ble_eq_true rfl), (Nat.le_of_ble_eq_true rfl)⟩ (w_rec hW oM.1 (oM.2 E _ _) rfl) rfl hl.1 rfl (Nat.le_of_ble_eq_true rfl) dX7_isClause_90 ⟨Nat.le_refl _, Nat.le_refl _⟩) hV (fun H locs hn_p81_1 hW hV => ?_)
        refine lv_goto (tgt := 115) hx hb dX7_isClause_93 (by decide) ?_
        exact c_115 p81.2 b1_69 b2_69 p81.1 hf H locs ls hW hV (lv_sub hl [0, 1, 2] rfl)
    · have hf := op_t y70 hf
      refine lv_aload_n hx hb dX7_isClause_73 rfl (lv_at hl 0 rfl) ?_
      refine w_ldcS hx hb hown hZ (List.mem_of_getElem? (i := 6) rfl) dX7_isClause_74 ?_
      obtain ⟨p85, e_84, hf⟩ := op_none hf
      refine w_callN (rn_RX7_193 (As := [.ref (adS E 6)]) hx hb hml hown hB hW hZ hV (k_X7_isAll l E _ 6 (by decide) p85.1 p85.2 e_84) rfl rfl ⟨(Nat.le_of_ble_eq_true rfl), (Nat.le_of_ble_eq_true rfl)⟩ (w_rec hW oM.1 (oM.2 E _ _) rfl) rfl hl.1 rfl (Nat.le_of_ble_eq_true rfl) dX7_isClause_76 ⟨Nat.le_refl _, Nat.le_refl _⟩) hV (fun H locs hn_p85_1 hW hV => ?_)
      refine lv_goto (tgt := 115) hx hb dX7_isClause_79 (by decide) ?_
      exact c_115 p85.2 b1_69 b2_69 p85.1 hf H locs ls hW hV (lv_sub hl [0, 1, 2] rfl)
  have c_68 : ∀ (μ_68 : Mem) (b1_68 : Int32) (s0_68 : Int32) , f_X7_isClause_68 μ_68 b1_68 s0_68 = some (r, μ') → ∀ (H : Heap) (locs : List Loc) (ls : Array Slot), Wd E μ_68 s H → va_S (eA E) s.heap H locs → lv_has ls 4 [(0, .ref (ead E 2000)), (1, .int b1_68)] → W p l e (headSpec (.code yX7_isClause cX7_isClause 4 (some .boolean) :: BIG) ({ frames := 30, cells := 0, slots := 0, locals := 652 })).room s m ([.ref (ead E 2000), .int a1] : List Value).toArray below meth c H locs 0 0 (MQ below (QN E .boolean r μ') ([.ref (ead E 2000), .int a1] : List Value).toArray s 0 0 (eA E)) (F0 m 68 ls [.int s0_68]) := by
    intro μ_68 b1_68 s0_68 hf H locs ls hW hV hl
    unfold f_X7_isClause_68 at hf
    refine lv_istore_n (i := 2) (lv' := [(2, .int s0_68), (0, .ref (ead E 2000)), (1, .int b1_68)]) hx hb dX7_isClause_68 rfl hl (by decide) rfl (fun ls hl => ?_)
    exact c_69 μ_68 b1_68 s0_68 hf H locs ls hW hV (lv_sub hl [1, 2, 0] rfl)
  obtain ⟨H, hH⟩ : ∃ H : Heap, H = s.heap := ⟨_, rfl⟩
  obtain ⟨locs, hlocs⟩ : ∃ locs : List Loc, locs = [] := ⟨_, rfl⟩
  rw [show (W p l e (headSpec (.code yX7_isClause cX7_isClause 4 (some .boolean) :: BIG) ({ frames := 30, cells := 0, slots := 0, locals := 652 })).room s m ([.ref (ead E 2000), .int a1] : List Value).toArray below meth c s.heap [] 0 0) = W p l e (headSpec (.code yX7_isClause cX7_isClause 4 (some .boolean) :: BIG) ({ frames := 30, cells := 0, slots := 0, locals := 652 })).room s m ([.ref (ead E 2000), .int a1] : List Value).toArray below meth c H locs 0 0 by rw [hH, hlocs]]
  have hV : va_S (eA E) s.heap H locs := by rw [hH, hlocs]; exact hV
  have hW : Wd E μ s H := by rw [hH]; exact hW
  unfold f_X7_isClause at hf
  refine lv_iconst (v := (-1 : Int32)) hx hb dX7_isClause_0 (by decide) ?_
  refine lv_istore_n (i := 2) (lv' := [(2, .int (-1 : Int32)), (0, .ref (ead E 2000)), (1, .int a1)]) hx hb dX7_isClause_1 rfl hl (by decide) rfl (fun ls hl => ?_)
  refine lv_aload_n hx hb dX7_isClause_2 rfl (lv_at hl 1 rfl) ?_
  refine gf_RX7_132 hx hb hB hown hW dX7_isClause_3 ?_
  refine lv_aload_n hx hb dX7_isClause_6 rfl (lv_at hl 1 rfl) ?_
  refine gf_RX7_129 hx hb hB hown hW dX7_isClause_7 ?_
  refine lv_icmp_ge (tgt := 69) hx hb dX7_isClause_10 (by decide) (fun y86 => ?_) (fun y86 => ?_)
  · have hf := op_t y86 hf
    exact c_69 μ a1 (-1 : Int32) hf H locs ls hW hV (lv_sub hl [1, 2, 0] rfl)
  · have hf := op_f y86 hf
    refine lv_aload_n hx hb dX7_isClause_13 rfl (lv_at hl 1 rfl) ?_
    refine gf_RX7_36 hx hb hB hown hW dX7_isClause_14 ?_
    refine lv_aload_n hx hb dX7_isClause_17 rfl (lv_at hl 1 rfl) ?_
    refine gf_RX7_132 hx hb hB hown hW dX7_isClause_18 ?_
    obtain ⟨v87, e_v87, hf⟩ := op_none hf
    refine w_iald hx hb hW iM12.1 (iM12.2 E _ _) e_v87 dX7_isClause_21 ?_
    refine lv_bipush (v := (108 : Int32)) hx hb dX7_isClause_22 (by decide) ?_
    refine lv_icmp_ne (tgt := 31) hx hb dX7_isClause_24 (by decide) (fun y88 => ?_) (fun y88 => ?_)
    · have hf := op_f y88 hf
      refine lv_aload_n hx hb dX7_isClause_31 rfl (lv_at hl 1 rfl) ?_
      refine gf_RX7_36 hx hb hB hown hW dX7_isClause_32 ?_
      refine lv_aload_n hx hb dX7_isClause_35 rfl (lv_at hl 1 rfl) ?_
      refine gf_RX7_132 hx hb hB hown hW dX7_isClause_36 ?_
      obtain ⟨v89, e_v89, hf⟩ := op_none hf
      refine w_iald hx hb hW iM12.1 (iM12.2 E _ _) e_v89 dX7_isClause_39 ?_
      refine lv_bipush (v := (101 : Int32)) hx hb dX7_isClause_40 (by decide) ?_
      refine lv_icmp_ne (tgt := 49) hx hb dX7_isClause_42 (by decide) (fun y90 => ?_) (fun y90 => ?_)
      · have hf := op_f y90 hf
        refine lv_aload_n hx hb dX7_isClause_49 rfl (lv_at hl 1 rfl) ?_
        refine gf_RX7_36 hx hb hB hown hW dX7_isClause_50 ?_
        refine lv_aload_n hx hb dX7_isClause_53 rfl (lv_at hl 1 rfl) ?_
        refine gf_RX7_132 hx hb hB hown hW dX7_isClause_54 ?_
        obtain ⟨v91, e_v91, hf⟩ := op_none hf
        refine w_iald hx hb hW iM12.1 (iM12.2 E _ _) e_v91 dX7_isClause_57 ?_
        refine lv_bipush (v := (97 : Int32)) hx hb dX7_isClause_58 (by decide) ?_
        refine lv_icmp_ne (tgt := 67) hx hb dX7_isClause_60 (by decide) (fun y92 => ?_) (fun y92 => ?_)
        · have hf := op_f y92 hf
          refine lv_iconst (v := (-1 : Int32)) hx hb dX7_isClause_67 (by decide) ?_
          exact c_68 μ a1 (-1 : Int32) hf H locs ls hW hV (lv_sub hl [1, 2] rfl)
        · have hf := op_t y92 hf
          refine lv_iconst (v := (2 : Int32)) hx hb dX7_isClause_63 (by decide) ?_
          refine lv_goto (tgt := 68) hx hb dX7_isClause_64 (by decide) ?_
          exact c_68 μ a1 (2 : Int32) hf H locs ls hW hV (lv_sub hl [1, 2] rfl)
      · have hf := op_t y90 hf
        refine lv_iconst (v := (1 : Int32)) hx hb dX7_isClause_45 (by decide) ?_
        refine lv_goto (tgt := 68) hx hb dX7_isClause_46 (by decide) ?_
        exact c_68 μ a1 (1 : Int32) hf H locs ls hW hV (lv_sub hl [1, 2] rfl)
    · have hf := op_t y88 hf
      refine lv_iconst (v := (0 : Int32)) hx hb dX7_isClause_27 (by decide) ?_
      refine lv_goto (tgt := 68) hx hb dX7_isClause_28 (by decide) ?_
      exact c_68 μ a1 (0 : Int32) hf H locs ls hW hV (lv_sub hl [1, 2] rfl)
set_option maxHeartbeats 8000000 in
set_option maxRecDepth 100000 in
theorem k_X7_store (l : Launch) (E : WE) (μ : Mem) (r : Int32) (μ' : Mem) (hf : f_X7_store μ = some (r, μ')) : Met l yX7_store (.code yX7_store cX7_store 5 (some .int) :: BIG) ({ frames := 31, cells := 0, slots := 0, locals := 675 }) (PW E μ [.ref (ead E 2000)]) (QI E r μ') 0 0 (eA E) := by
  refine Met.ofW (cc := cX7_store) (maxL := 5) (ret := (some .int)) (by decide) rfl ?_
  intro p e s m args below meth c s₁ B hml hv
  obtain ⟨rfl, hW, hZ⟩ := hv
  have hx := B.exec
  have hb := B.bytes
  have hr := B.returns
  have hB : ∀ w ∈ BIG, w.before _ s = true := fun w h => atoms_spec (ws := (.code yX7_store cX7_store 5 (some .int) :: BIG)) B.pre w (List.mem_cons_of_mem _ h)
  have hown : s.vm.findClass RX7 = some m.cls := findClass_of_methodNamed B.named
  have hlocks := B.notSynchronized
  have hV : va_S (eA E) s.heap s.heap [] := va_S.rf
  have hl := lv_entry ([.ref (ead E 2000)]) (n := 5) (Nat.le_of_ble_eq_true rfl)
  rw [lg_entry_eq]
  generalize (lg_sl ([.ref (ead E 2000)]) ++ List.replicate (5 - (lg_sl ([.ref (ead E 2000)])).length) Slot.unset).toArray = ls at hl ⊢
  have hl : lv_has ls 5 [(0, .ref (ead E 2000))] := hl
  have c_123 : ∀ (μ_123 : Mem) (b1_123 : Int32) (b2_123 : Int32) (b4_123 : Int32) , f_X7_store_123 μ_123 b1_123 b2_123 b4_123 = some (r, μ') → ∀ (H : Heap) (locs : List Loc) (ls : Array Slot), Wd E μ_123 s H → va_S (eA E) s.heap H locs → lv_has ls 5 [(0, .ref (ead E 2000)), (1, .int b1_123), (2, .int b2_123), (4, .int b4_123)] → W p l e (headSpec (.code yX7_store cX7_store 5 (some .int) :: BIG) ({ frames := 31, cells := 0, slots := 0, locals := 675 })).room s m ([.ref (ead E 2000)] : List Value).toArray below meth c H locs 0 0 (MQ below (QI E r μ') ([.ref (ead E 2000)] : List Value).toArray s 0 0 (eA E)) (F0 m 123 ls []) := by
    intro μ_123 b1_123 b2_123 b4_123 hf H locs ls hW hV hl
    unfold f_X7_store_123 at hf
    refine lv_aload_n hx hb dX7_store_123 rfl (lv_at hl 0 rfl) ?_
    refine lv_iconst (v := (0 : Int32)) hx hb dX7_store_124 (by decide) ?_
    obtain ⟨μ39, e_μ39, hf⟩ := op_none hf
    refine pf_RX7_129 hx hb hB hown hW hV dX7_store_125 (fun H locs hW hV => ?_)
    rw [Option.some.inj e_μ39] at hW
    refine lv_iload hx hb dX7_store_128 (lv_at hl 3 rfl) ?_
    refine lv_if_ne (tgt := 146) hx hb dX7_store_130 (by decide) (fun y40 => ?_) (fun y40 => ?_)
    · have hf := op_f y40 hf
      refine lv_aload_n hx hb dX7_store_146 rfl (lv_at hl 0 rfl) ?_
      refine gf_RX7_39 hx hb hB hown hW dX7_store_147 ?_
      refine lv_aload_n hx hb dX7_store_150 rfl (lv_at hl 0 rfl) ?_
      refine gf_RX7_201 hx hb hB hown hW dX7_store_151 ?_
      refine lv_iload_n hx hb dX7_store_154 rfl (lv_at hl 2 rfl) ?_
      obtain ⟨μ41, e_μ41, hf⟩ := op_none hf
      refine w_iast hx hb hW hV iM19.1 (fun f => iM19.2 E f _) e_μ41 dX7_store_155 (fun H locs hW hV => ?_)
      refine lv_aload_n hx hb dX7_store_156 rfl (lv_at hl 0 rfl) ?_
      refine lv_aload_n hx hb dX7_store_157 rfl (lv_at hl 0 rfl) ?_
      refine gf_RX7_201 hx hb hB hown hW dX7_store_158 ?_
      obtain ⟨μ42, e_μ42, hf⟩ := op_none hf
      refine pf_RX7_105 hx hb hB hown hW hV dX7_store_161 (fun H locs hW hV => ?_)
      rw [Option.some.inj e_μ42] at hW
      refine lv_aload_n hx hb dX7_store_164 rfl (lv_at hl 0 rfl) ?_
      refine lv_dup hx hb dX7_store_165 rfl ?_
      refine gf_RX7_201 hx hb hB hown hW dX7_store_166 ?_
      obtain ⟨v43, e_v43, hf⟩ := op_none hf
      refine lv_top' (Option.some.inj e_v43) ?_
      refine lv_dup_x1 hx hb dX7_store_169 rfl rfl ?_
      refine lv_iconst (v := (1 : Int32)) hx hb dX7_store_170 (by decide) ?_
      refine lv_iadd hx hb dX7_store_171 ?_
      obtain ⟨μ44, e_μ44, hf⟩ := op_none hf
      refine pf_RX7_201 hx hb hB hown hW hV dX7_store_172 (fun H locs hW hV => ?_)
      rw [Option.some.inj e_μ44] at hW
      exact w_retI hx hb hr hlocks hW hV (Prod.mk.inj (Option.some.inj hf)).1 (Prod.mk.inj (Option.some.inj hf)).2 dX7_store_175
    · have hf := op_t y40 hf
      refine lv_aload_n hx hb dX7_store_133 rfl (lv_at hl 0 rfl) ?_
      refine lv_iload_n hx hb dX7_store_134 rfl (lv_at hl 1 rfl) ?_
      obtain ⟨μ45, e_μ45, hf⟩ := op_none hf
      refine pf_RX7_157 hx hb hB hown hW hV dX7_store_135 (fun H locs hW hV => ?_)
      rw [Option.some.inj e_μ45] at hW
      refine lv_bipush (v := (-10 : Int32)) hx hb dX7_store_138 (by decide) ?_
      refine lv_aload_n hx hb dX7_store_140 rfl (lv_at hl 0 rfl) ?_
      refine gf_RX7_132 hx hb hB hown hW dX7_store_141 ?_
      refine lv_isub hx hb dX7_store_144 ?_
      exact w_retI hx hb hr hlocks hW hV (Prod.mk.inj (Option.some.inj hf)).1 (Prod.mk.inj (Option.some.inj hf)).2 dX7_store_145
  have c_29 : ∀ (n_29 : Nat) (μ_29 : Mem) (b1_29 : Int32) (b2_29 : Int32) (b3_29 : Int32) (b4_29 : Int32) , f_X7_store_29 n_29 μ_29 b1_29 b2_29 b3_29 b4_29 = some (r, μ') → ∀ (H : Heap) (locs : List Loc) (ls : Array Slot), Wd E μ_29 s H → va_S (eA E) s.heap H locs → lv_has ls 5 [(0, .ref (ead E 2000)), (1, .int b1_29), (2, .int b2_29), (3, .int b3_29), (4, .int b4_29)] → W p l e (headSpec (.code yX7_store cX7_store 5 (some .int) :: BIG) ({ frames := 31, cells := 0, slots := 0, locals := 675 })).room s m ([.ref (ead E 2000)] : List Value).toArray below meth c H locs 0 0 (MQ below (QI E r μ') ([.ref (ead E 2000)] : List Value).toArray s 0 0 (eA E)) (F0 m 29 ls []) := by
    intro n_29
    induction n_29 with
    | zero =>
      intro μ_29 b1_29 b2_29 b3_29 b4_29 hf H locs ls hW hV hl
      cases hf
    | succ n_29 ih_29 =>
      have c_119 : ∀ (μ_119 : Mem) (b1_119 : Int32) (b2_119 : Int32) (b4_119 : Int32) (s0_119 : Int32) , f_X7_store_119 (fun μ z0 z1 z2 z3 => f_X7_store_29 n_29 μ z0 z1 z2 z3) μ_119 b1_119 b2_119 b4_119 s0_119 = some (r, μ') → ∀ (H : Heap) (locs : List Loc) (ls : Array Slot), Wd E μ_119 s H → va_S (eA E) s.heap H locs → lv_has ls 5 [(0, .ref (ead E 2000)), (1, .int b1_119), (2, .int b2_119), (4, .int b4_119)] → W p l e (headSpec (.code yX7_store cX7_store 5 (some .int) :: BIG) ({ frames := 31, cells := 0, slots := 0, locals := 675 })).room s m ([.ref (ead E 2000)] : List Value).toArray below meth c H locs 0 0 (MQ below (QI E r μ') ([.ref (ead E 2000)] : List Value).toArray s 0 0 (eA E)) (F0 m 119 ls [.int s0_119]) := by
        intro μ_119 b1_119 b2_119 b4_119 s0_119 hf H locs ls hW hV hl
        unfold f_X7_store_119 at hf
        refine lv_istore_n (i := 3) (lv' := [(3, .int s0_119), (0, .ref (ead E 2000)), (1, .int b1_119), (2, .int b2_119), (4, .int b4_119)]) hx hb dX7_store_119 rfl hl (by decide) rfl (fun ls hl => ?_)
        refine lv_goto (tgt := 29) hx hb dX7_store_120 (by decide) ?_
        exact ih_29 μ_119 b1_119 b2_119 s0_119 b4_119 hf H locs ls hW hV (lv_sub hl [1, 2, 3, 0, 4] rfl)
      have c_114 : ∀ (μ_114 : Mem) (b1_114 : Int32) (b2_114 : Int32) (b4_114 : Int32) , f_X7_store_114 (fun μ z0 z1 z2 z3 => f_X7_store_29 n_29 μ z0 z1 z2 z3) μ_114 b1_114 b2_114 b4_114 = some (r, μ') → ∀ (H : Heap) (locs : List Loc) (ls : Array Slot), Wd E μ_114 s H → va_S (eA E) s.heap H locs → lv_has ls 5 [(0, .ref (ead E 2000)), (1, .int b1_114), (2, .int b2_114), (4, .int b4_114)] → W p l e (headSpec (.code yX7_store cX7_store 5 (some .int) :: BIG) ({ frames := 31, cells := 0, slots := 0, locals := 675 })).room s m ([.ref (ead E 2000)] : List Value).toArray below meth c H locs 0 0 (MQ below (QI E r μ') ([.ref (ead E 2000)] : List Value).toArray s 0 0 (eA E)) (F0 m 114 ls []) := by
        intro μ_114 b1_114 b2_114 b4_114 hf H locs ls hW hV hl
        unfold f_X7_store_114 at hf
        refine lv_iconst (v := (1 : Int32)) hx hb dX7_store_114 (by decide) ?_
        refine lv_goto (tgt := 119) hx hb dX7_store_115 (by decide) ?_
        exact c_119 μ_114 b1_114 b2_114 b4_114 (1 : Int32) hf H locs ls hW hV (lv_sub hl [0, 1, 2, 3] rfl)
      have c_118 : ∀ (μ_118 : Mem) (b1_118 : Int32) (b2_118 : Int32) (b4_118 : Int32) , f_X7_store_118 (fun μ z0 z1 z2 z3 => f_X7_store_29 n_29 μ z0 z1 z2 z3) μ_118 b1_118 b2_118 b4_118 = some (r, μ') → ∀ (H : Heap) (locs : List Loc) (ls : Array Slot), Wd E μ_118 s H → va_S (eA E) s.heap H locs → lv_has ls 5 [(0, .ref (ead E 2000)), (1, .int b1_118), (2, .int b2_118), (4, .int b4_118)] → W p l e (headSpec (.code yX7_store cX7_store 5 (some .int) :: BIG) ({ frames := 31, cells := 0, slots := 0, locals := 675 })).room s m ([.ref (ead E 2000)] : List Value).toArray below meth c H locs 0 0 (MQ below (QI E r μ') ([.ref (ead E 2000)] : List Value).toArray s 0 0 (eA E)) (F0 m 118 ls []) := by
        intro μ_118 b1_118 b2_118 b4_118 hf H locs ls hW hV hl
        unfold f_X7_store_118 at hf
        refine lv_iconst (v := (0 : Int32)) hx hb dX7_store_118 (by decide) ?_
        exact c_119 μ_118 b1_118 b2_118 b4_118 (0 : Int32) hf H locs ls hW hV (lv_sub hl [0, 1, 2, 3] rfl)
      have c_92 : ∀ (μ_92 : Mem) (b1_92 : Int32) (b2_92 : Int32) (s0_92 : Int32) , f_X7_store_92 (fun μ z0 z1 z2 z3 => f_X7_store_29 n_29 μ z0 z1 z2 z3) μ_92 b1_92 b2_92 s0_92 = some (r, μ') → ∀ (H : Heap) (locs : List Loc) (ls : Array Slot), Wd E μ_92 s H → va_S (eA E) s.heap H locs → lv_has ls 5 [(0, .ref (ead E 2000)), (1, .int b1_92), (2, .int b2_92)] → W p l e (headSpec (.code yX7_store cX7_store 5 (some .int) :: BIG) ({ frames := 31, cells := 0, slots := 0, locals := 675 })).room s m ([.ref (ead E 2000)] : List Value).toArray below meth c H locs 0 0 (MQ below (QI E r μ') ([.ref (ead E 2000)] : List Value).toArray s 0 0 (eA E)) (F0 m 92 ls [.int s0_92]) := by
        intro μ_92 b1_92 b2_92 s0_92 hf H locs ls hW hV hl
        unfold f_X7_store_92 at hf
        refine lv_istore (i := 4) (lv' := [(4, .int s0_92), (0, .ref (ead E 2000)), (1, .int b1_92), (2, .int b2_92)]) hx hb dX7_store_92 hl (by decide) rfl (fun ls hl => ?_)
        refine lv_iload hx hb dX7_store_94 (lv_at hl 0 rfl) ?_
        refine lv_if_ne (tgt := 114) hx hb dX7_store_96 (by decide) (fun y29 => ?_) (fun y29 => ?_)
        · have hf := op_f y29 hf
          exact c_114 μ_92 b1_92 b2_92 s0_92 hf H locs ls hW hV (lv_sub hl [1, 2, 3, 0] rfl)
        · have hf := op_t y29 hf
          refine lv_iload_n hx hb dX7_store_99 rfl (lv_at hl 3 rfl) ?_
          refine lv_bipush (v := (10 : Int32)) hx hb dX7_store_100 (by decide) ?_
          refine lv_icmp_ge (tgt := 118) hx hb dX7_store_102 (by decide) (fun y30 => ?_) (fun y30 => ?_)
          · have hf := op_t y30 hf
            exact c_118 μ_92 b1_92 b2_92 s0_92 hf H locs ls hW hV (lv_sub hl [1, 2, 3, 0] rfl)
          · have hf := op_f y30 hf
            refine lv_aload_n hx hb dX7_store_105 rfl (lv_at hl 1 rfl) ?_
            refine lv_bipush (v := (59 : Int32)) hx hb dX7_store_106 (by decide) ?_
            obtain ⟨p34, e_33, hf⟩ := op_none hf
            refine w_callN (rn_RX7_154 (As := [.int (59 : Int32)]) hx hb hml hown hB hW hZ hV (k_X7_is l E _ (59 : Int32) p34.1 p34.2 e_33) rfl rfl ⟨(Nat.le_of_ble_eq_true rfl), (Nat.le_of_ble_eq_true rfl)⟩ (w_rec hW oM.1 (oM.2 E _ _) rfl) rfl hl.1 rfl (Nat.le_of_ble_eq_true rfl) dX7_store_108 ⟨Nat.le_refl _, Nat.le_refl _⟩) hV (fun H locs hn_p34_1 hW hV => ?_)
            refine lv_if_eq (tgt := 118) hx hb dX7_store_111 (by decide) (fun y35 => ?_) (fun y35 => ?_)
            · have hf := op_t y35 hf
              exact c_118 p34.2 b1_92 b2_92 s0_92 hf H locs ls hW hV (lv_sub hl [1, 2, 3, 0] rfl)
            · have hf := op_f y35 hf
              exact c_114 p34.2 b1_92 b2_92 s0_92 hf H locs ls hW hV (lv_sub hl [1, 2, 3, 0] rfl)
      have c_65 : ∀ (μ_65 : Mem) (b1_65 : Int32) (b2_65 : Int32) (b4_65 : Int32) (s0_65 : Int32) , f_X7_store_65 (fun μ z0 z1 z2 z3 => f_X7_store_29 n_29 μ z0 z1 z2 z3) μ_65 b1_65 b2_65 b4_65 s0_65 = some (r, μ') → ∀ (H : Heap) (locs : List Loc) (ls : Array Slot), Wd E μ_65 s H → va_S (eA E) s.heap H locs → lv_has ls 5 [(0, .ref (ead E 2000)), (1, .int b1_65), (2, .int b2_65), (4, .int b4_65)] → W p l e (headSpec (.code yX7_store cX7_store 5 (some .int) :: BIG) ({ frames := 31, cells := 0, slots := 0, locals := 675 })).room s m ([.ref (ead E 2000)] : List Value).toArray below meth c H locs 0 0 (MQ below (QI E r μ') ([.ref (ead E 2000)] : List Value).toArray s 0 0 (eA E)) (F0 m 65 ls [.int s0_65]) := by
        intro μ_65 b1_65 b2_65 b4_65 s0_65 hf H locs ls hW hV hl
        unfold f_X7_store_65 at hf
        refine lv_istore_n (i := 3) (lv' := [(3, .int s0_65), (0, .ref (ead E 2000)), (1, .int b1_65), (2, .int b2_65), (4, .int b4_65)]) hx hb dX7_store_65 rfl hl (by decide) rfl (fun ls hl => ?_)
        refine lv_iload_n hx hb dX7_store_66 rfl (lv_at hl 0 rfl) ?_
        refine lv_if_ne (tgt := 73) hx hb dX7_store_67 (by decide) (fun y36 => ?_) (fun y36 => ?_)
        · have hf := op_f y36 hf
          obtain ⟨v37, e_v37, hf⟩ := op_none hf
          refine lv_iinc (v := v37) (lv' := [(2, .int v37), (3, .int s0_65), (0, .ref (ead E 2000)), (1, .int b1_65), (4, .int b4_65)]) hx hb dX7_store_73 hl (k := 3) rfl (by rw [← Option.some.inj e_v37]; rfl) (by decide) rfl (fun ls hl => ?_)
          refine lv_aload_n hx hb dX7_store_76 rfl (lv_at hl 2 rfl) ?_
          refine gf_RX7_132 hx hb hB hown hW dX7_store_77 ?_
          refine lv_aload_n hx hb dX7_store_80 rfl (lv_at hl 2 rfl) ?_
          refine gf_RX7_129 hx hb hB hown hW dX7_store_81 ?_
          refine lv_icmp_ne (tgt := 91) hx hb dX7_store_84 (by decide) (fun y38 => ?_) (fun y38 => ?_)
          · have hf := op_f y38 hf
            refine lv_iconst (v := (0 : Int32)) hx hb dX7_store_91 (by decide) ?_
            exact c_92 μ_65 b1_65 v37 (0 : Int32) hf H locs ls hW hV (lv_sub hl [2, 3, 0] rfl)
          · have hf := op_t y38 hf
            refine lv_iconst (v := (1 : Int32)) hx hb dX7_store_87 (by decide) ?_
            refine lv_goto (tgt := 92) hx hb dX7_store_88 (by decide) ?_
            exact c_92 μ_65 b1_65 v37 (1 : Int32) hf H locs ls hW hV (lv_sub hl [2, 3, 0] rfl)
        · have hf := op_t y36 hf
          refine lv_goto (tgt := 29) hx hb dX7_store_70 (by decide) ?_
          exact ih_29 μ_65 b1_65 b2_65 s0_65 b4_65 hf H locs ls hW hV (lv_sub hl [1, 2, 3, 0, 4] rfl)
      have c_64 : ∀ (μ_64 : Mem) (b1_64 : Int32) (b2_64 : Int32) (b4_64 : Int32) , f_X7_store_64 (fun μ z0 z1 z2 z3 => f_X7_store_29 n_29 μ z0 z1 z2 z3) μ_64 b1_64 b2_64 b4_64 = some (r, μ') → ∀ (H : Heap) (locs : List Loc) (ls : Array Slot), Wd E μ_64 s H → va_S (eA E) s.heap H locs → lv_has ls 5 [(0, .ref (ead E 2000)), (1, .int b1_64), (2, .int b2_64), (4, .int b4_64)] → W p l e (headSpec (.code yX7_store cX7_store 5 (some .int) :: BIG) ({ frames := 31, cells := 0, slots := 0, locals := 675 })).room s m ([.ref (ead E 2000)] : List Value).toArray below meth c H locs 0 0 (MQ below (QI E r μ') ([.ref (ead E 2000)] : List Value).toArray s 0 0 (eA E)) (F0 m 64 ls []) := by
        intro μ_64 b1_64 b2_64 b4_64 hf H locs ls hW hV hl
        unfold f_X7_store_64 at hf
        refine lv_iconst (v := (0 : Int32)) hx hb dX7_store_64 (by decide) ?_
        exact c_65 μ_64 b1_64 b2_64 b4_64 (0 : Int32) hf H locs ls hW hV (lv_sub hl [0, 1, 2, 3] rfl)
      intro μ_29 b1_29 b2_29 b3_29 b4_29 hf H locs ls hW hV hl
      rw [f_X7_store_29] at hf
      refine lv_iload_n hx hb dX7_store_29 rfl (lv_at hl 3 rfl) ?_
      refine lv_if_eq (tgt := 123) hx hb dX7_store_30 (by decide) (fun y46 => ?_) (fun y46 => ?_)
      · have hf := op_t y46 hf
        exact c_123 μ_29 b1_29 b2_29 b4_29 hf H locs ls hW hV (lv_sub hl [0, 1, 2, 4] rfl)
      · have hf := op_f y46 hf
        refine lv_iload hx hb dX7_store_33 (lv_at hl 4 rfl) ?_
        refine lv_if_ne (tgt := 123) hx hb dX7_store_35 (by decide) (fun y47 => ?_) (fun y47 => ?_)
        · have hf := op_f y47 hf
          exact c_123 μ_29 b1_29 b2_29 b4_29 hf H locs ls hW hV (lv_sub hl [0, 1, 2, 4] rfl)
        · have hf := op_t y47 hf
          refine lv_iload_n hx hb dX7_store_38 rfl (lv_at hl 2 rfl) ?_
          refine lv_bipush (v := (10 : Int32)) hx hb dX7_store_39 (by decide) ?_
          refine lv_icmp_ge (tgt := 64) hx hb dX7_store_41 (by decide) (fun y48 => ?_) (fun y48 => ?_)
          · have hf := op_t y48 hf
            exact c_64 μ_29 b1_29 b2_29 b4_29 hf H locs ls hW hV (lv_sub hl [0, 1, 2, 4] rfl)
          · have hf := op_f y48 hf
            refine lv_aload_n hx hb dX7_store_44 rfl (lv_at hl 0 rfl) ?_
            refine lv_bipush (v := (10 : Int32)) hx hb dX7_store_45 (by decide) ?_
            refine lv_aload_n hx hb dX7_store_47 rfl (lv_at hl 0 rfl) ?_
            refine gf_RX7_201 hx hb hB hown hW dX7_store_48 ?_
            refine lv_imul hx hb dX7_store_51 ?_
            refine lv_iload_n hx hb dX7_store_52 rfl (lv_at hl 2 rfl) ?_
            refine lv_iadd hx hb dX7_store_53 ?_
            obtain ⟨p52, e_51, hf⟩ := op_none hf
            refine w_callN (rn_RX7_204 (As := [.int (((10 : Int32) * (gI μ_29 2000 17)) + b2_29)]) hx hb hml hown hB hW hZ hV (k_X7_isClause l E _ (((10 : Int32) * (gI μ_29 2000 17)) + b2_29) p52.1 p52.2 e_51) rfl rfl ⟨(Nat.le_of_ble_eq_true rfl), (Nat.le_of_ble_eq_true rfl)⟩ (w_rec hW oM.1 (oM.2 E _ _) rfl) rfl hl.1 rfl (Nat.le_of_ble_eq_true rfl) dX7_store_54 ⟨Nat.le_refl _, Nat.le_refl _⟩) hV (fun H locs hn_p52_1 hW hV => ?_)
            refine lv_if_eq (tgt := 64) hx hb dX7_store_57 (by decide) (fun y53 => ?_) (fun y53 => ?_)
            · have hf := op_t y53 hf
              exact c_64 p52.2 b1_29 b2_29 b4_29 hf H locs ls hW hV (lv_sub hl [0, 1, 2, 4] rfl)
            · have hf := op_f y53 hf
              refine lv_iconst (v := (1 : Int32)) hx hb dX7_store_60 (by decide) ?_
              refine lv_goto (tgt := 65) hx hb dX7_store_61 (by decide) ?_
              exact c_65 p52.2 b1_29 b2_29 b4_29 (1 : Int32) hf H locs ls hW hV (lv_sub hl [0, 1, 2, 4] rfl)
  obtain ⟨H, hH⟩ : ∃ H : Heap, H = s.heap := ⟨_, rfl⟩
  obtain ⟨locs, hlocs⟩ : ∃ locs : List Loc, locs = [] := ⟨_, rfl⟩
  rw [show (W p l e (headSpec (.code yX7_store cX7_store 5 (some .int) :: BIG) ({ frames := 31, cells := 0, slots := 0, locals := 675 })).room s m ([.ref (ead E 2000)] : List Value).toArray below meth c s.heap [] 0 0) = W p l e (headSpec (.code yX7_store cX7_store 5 (some .int) :: BIG) ({ frames := 31, cells := 0, slots := 0, locals := 675 })).room s m ([.ref (ead E 2000)] : List Value).toArray below meth c H locs 0 0 by rw [hH, hlocs]]
  have hV : va_S (eA E) s.heap H locs := by rw [hH, hlocs]; exact hV
  have hW : Wd E μ s H := by rw [hH]; exact hW
  unfold f_X7_store at hf
  refine lv_aload_n hx hb dX7_store_0 rfl (lv_at hl 0 rfl) ?_
  refine gf_RX7_201 hx hb hB hown hW dX7_store_1 ?_
  refine lv_bipush (v := (6 : Int32)) hx hb dX7_store_4 (by decide) ?_
  refine lv_icmp_ne (tgt := 12) hx hb dX7_store_6 (by decide) (fun y54 => ?_) (fun y54 => ?_)
  · have hf := op_f y54 hf
    refine lv_aload_n hx hb dX7_store_12 rfl (lv_at hl 0 rfl) ?_
    refine gf_RX7_157 hx hb hB hown hW dX7_store_13 ?_
    obtain ⟨v55, e_v55, hf⟩ := op_none hf
    refine lv_top' (Option.some.inj e_v55) ?_
    refine lv_istore_n (i := 1) (lv' := [(1, .int v55), (0, .ref (ead E 2000))]) hx hb dX7_store_16 rfl hl (by decide) rfl (fun ls hl => ?_)
    refine lv_aload_n hx hb dX7_store_17 rfl (lv_at hl 1 rfl) ?_
    refine lv_iconst (v := (0 : Int32)) hx hb dX7_store_18 (by decide) ?_
    obtain ⟨μ56, e_μ56, hf⟩ := op_none hf
    refine pf_RX7_132 hx hb hB hown hW hV dX7_store_19 (fun H locs hW hV => ?_)
    rw [Option.some.inj e_μ56] at hW
    refine lv_iconst (v := (0 : Int32)) hx hb dX7_store_22 (by decide) ?_
    refine lv_istore_n (i := 2) (lv' := [(2, .int (0 : Int32)), (1, .int v55), (0, .ref (ead E 2000))]) hx hb dX7_store_23 rfl hl (by decide) rfl (fun ls hl => ?_)
    refine lv_iconst (v := (1 : Int32)) hx hb dX7_store_24 (by decide) ?_
    refine lv_istore_n (i := 3) (lv' := [(3, .int (1 : Int32)), (2, .int (0 : Int32)), (1, .int v55), (0, .ref (ead E 2000))]) hx hb dX7_store_25 rfl hl (by decide) rfl (fun ls hl => ?_)
    refine lv_iconst (v := (0 : Int32)) hx hb dX7_store_26 (by decide) ?_
    refine lv_istore (i := 4) (lv' := [(4, .int (0 : Int32)), (3, .int (1 : Int32)), (2, .int (0 : Int32)), (1, .int v55), (0, .ref (ead E 2000))]) hx hb dX7_store_27 hl (by decide) rfl (fun ls hl => ?_)
    exact c_29 FU μ56 v55 (0 : Int32) (1 : Int32) (0 : Int32) hf H locs ls hW hV (lv_sub hl [4, 3, 2, 1, 0] rfl)
  · have hf := op_t y54 hf
    refine lv_bipush (v := (-4 : Int32)) hx hb dX7_store_9 (by decide) ?_
    exact w_retI hx hb hr hlocks hW hV (Prod.mk.inj (Option.some.inj hf)).1 (Prod.mk.inj (Option.some.inj hf)).2 dX7_store_11
set_option maxHeartbeats 8000000 in
set_option maxRecDepth 100000 in
theorem k_X7_isDay (l : Launch) (E : WE) (μ : Mem) (a1 : Int32) (a2 : Int32) (r : Int32) (μ' : Mem) (hf : f_X7_isDay μ a1 a2 = some (r, μ')) : Met l yX7_isDay (.code yX7_isDay cX7_isDay 3 (some .boolean) :: BIG) ({ frames := 4, cells := 0, slots := 0, locals := 97 }) (PW E μ [.ref (ead E 2000), .int a1, .int a2]) (QN E .boolean r μ') 0 0 (eA E) := by
  refine Met.ofW (cc := cX7_isDay) (maxL := 3) (ret := (some .boolean)) (by decide) rfl ?_
  intro p e s m args below meth c s₁ B hml hv
  obtain ⟨rfl, hW, hZ⟩ := hv
  have hx := B.exec
  have hb := B.bytes
  have hr := B.returns
  have hB : ∀ w ∈ BIG, w.before _ s = true := fun w h => atoms_spec (ws := (.code yX7_isDay cX7_isDay 3 (some .boolean) :: BIG)) B.pre w (List.mem_cons_of_mem _ h)
  have hown : s.vm.findClass RX7 = some m.cls := findClass_of_methodNamed B.named
  have hlocks := B.notSynchronized
  have hV : va_S (eA E) s.heap s.heap [] := va_S.rf
  have hl := lv_entry ([.ref (ead E 2000), .int a1, .int a2]) (n := 3) (Nat.le_of_ble_eq_true rfl)
  rw [lg_entry_eq]
  generalize (lg_sl ([.ref (ead E 2000), .int a1, .int a2]) ++ List.replicate (3 - (lg_sl ([.ref (ead E 2000), .int a1, .int a2])).length) Slot.unset).toArray = ls at hl ⊢
  have hl : lv_has ls 3 [(0, .ref (ead E 2000)), (1, .int a1), (2, .int a2)] := hl
  obtain ⟨H, hH⟩ : ∃ H : Heap, H = s.heap := ⟨_, rfl⟩
  obtain ⟨locs, hlocs⟩ : ∃ locs : List Loc, locs = [] := ⟨_, rfl⟩
  rw [show (W p l e (headSpec (.code yX7_isDay cX7_isDay 3 (some .boolean) :: BIG) ({ frames := 4, cells := 0, slots := 0, locals := 97 })).room s m ([.ref (ead E 2000), .int a1, .int a2] : List Value).toArray below meth c s.heap [] 0 0) = W p l e (headSpec (.code yX7_isDay cX7_isDay 3 (some .boolean) :: BIG) ({ frames := 4, cells := 0, slots := 0, locals := 97 })).room s m ([.ref (ead E 2000), .int a1, .int a2] : List Value).toArray below meth c H locs 0 0 by rw [hH, hlocs]]
  have hV : va_S (eA E) s.heap H locs := by rw [hH, hlocs]; exact hV
  have hW : Wd E μ s H := by rw [hH]; exact hW
  unfold f_X7_isDay at hf
  refine lv_iload_n hx hb dX7_isDay_0 rfl (lv_at hl 2 rfl) ?_
  refine lv_aload_n hx hb dX7_isDay_1 rfl (lv_at hl 0 rfl) ?_
  refine lv_iload_n hx hb dX7_isDay_2 rfl (lv_at hl 1 rfl) ?_
  obtain ⟨v9, e_10, hf⟩ := op_none hf
  refine w_callI (rn_RX7_119 (As := [.int a1]) hx hb hml hown hB hW hZ hV (k_X7_turn l E _ a1 v9 e_10) rfl rfl ⟨(Nat.le_of_ble_eq_true rfl), (Nat.le_of_ble_eq_true rfl)⟩ (w_rec hW oM.1 (oM.2 E _ _) rfl) rfl hl.1 rfl (Nat.le_of_ble_eq_true rfl) dX7_isDay_3 ⟨Nat.le_refl _, Nat.le_refl _⟩) hV (fun H locs hW hV => ?_)
  obtain ⟨v11, e_v11, hf⟩ := op_none hf
  refine w_irem hx hb e_v11 dX7_isDay_6 ?_
  refine lv_aload_n hx hb dX7_isDay_7 rfl (lv_at hl 0 rfl) ?_
  refine lv_iload_n hx hb dX7_isDay_8 rfl (lv_at hl 1 rfl) ?_
  obtain ⟨p15, e_14, hf⟩ := op_none hf
  refine w_callI (rn_RX7_123 (As := [.int a1]) hx hb hml hown hB hW hZ hV (k_X7_rest l E _ a1 p15.1 p15.2 e_14) rfl rfl ⟨(Nat.le_of_ble_eq_true rfl), (Nat.le_of_ble_eq_true rfl)⟩ (w_rec hW oM.1 (oM.2 E _ _) rfl) rfl hl.1 rfl (Nat.le_of_ble_eq_true rfl) dX7_isDay_9 ⟨Nat.le_refl _, Nat.le_refl _⟩) hV (fun H locs hW hV => ?_)
  refine lv_icmp_ne (tgt := 19) hx hb dX7_isDay_12 (by decide) (fun y16 => ?_) (fun y16 => ?_)
  · have hf := op_f y16 hf
    refine lv_iconst (v := (0 : Int32)) hx hb dX7_isDay_19 (by decide) ?_
    exact w_retN hx hb hr hlocks hW hV (by decide) (Prod.mk.inj (Option.some.inj hf)).1 (Prod.mk.inj (Option.some.inj hf)).2 dX7_isDay_20
  · have hf := op_t y16 hf
    refine lv_iconst (v := (1 : Int32)) hx hb dX7_isDay_15 (by decide) ?_
    refine lv_goto (tgt := 20) hx hb dX7_isDay_16 (by decide) ?_
    exact w_retN hx hb hr hlocks hW hV (by decide) (Prod.mk.inj (Option.some.inj hf)).1 (Prod.mk.inj (Option.some.inj hf)).2 dX7_isDay_20
set_option maxHeartbeats 8000000 in
set_option maxRecDepth 100000 in
theorem k_X7_goesOff (l : Launch) (E : WE) (μ : Mem) (a1 : Int32) (a2 : Int32) (r : Int32) (μ' : Mem) (hf : f_X7_goesOff μ a1 a2 = some (r, μ')) : Met l yX7_goesOff (.code yX7_goesOff cX7_goesOff 3 (some .boolean) :: BIG) ({ frames := 5, cells := 0, slots := 0, locals := 119 }) (PW E μ [.ref (ead E 2000), .int a1, .int a2]) (QN E .boolean r μ') 0 0 (eA E) := by
  refine Met.ofW (cc := cX7_goesOff) (maxL := 3) (ret := (some .boolean)) (by decide) rfl ?_
  intro p e s m args below meth c s₁ B hml hv
  obtain ⟨rfl, hW, hZ⟩ := hv
  have hx := B.exec
  have hb := B.bytes
  have hr := B.returns
  have hB : ∀ w ∈ BIG, w.before _ s = true := fun w h => atoms_spec (ws := (.code yX7_goesOff cX7_goesOff 3 (some .boolean) :: BIG)) B.pre w (List.mem_cons_of_mem _ h)
  have hown : s.vm.findClass RX7 = some m.cls := findClass_of_methodNamed B.named
  have hlocks := B.notSynchronized
  have hV : va_S (eA E) s.heap s.heap [] := va_S.rf
  have hl := lv_entry ([.ref (ead E 2000), .int a1, .int a2]) (n := 3) (Nat.le_of_ble_eq_true rfl)
  rw [lg_entry_eq]
  generalize (lg_sl ([.ref (ead E 2000), .int a1, .int a2]) ++ List.replicate (3 - (lg_sl ([.ref (ead E 2000), .int a1, .int a2])).length) Slot.unset).toArray = ls at hl ⊢
  have hl : lv_has ls 3 [(0, .ref (ead E 2000)), (1, .int a1), (2, .int a2)] := hl
  obtain ⟨H, hH⟩ : ∃ H : Heap, H = s.heap := ⟨_, rfl⟩
  obtain ⟨locs, hlocs⟩ : ∃ locs : List Loc, locs = [] := ⟨_, rfl⟩
  rw [show (W p l e (headSpec (.code yX7_goesOff cX7_goesOff 3 (some .boolean) :: BIG) ({ frames := 5, cells := 0, slots := 0, locals := 119 })).room s m ([.ref (ead E 2000), .int a1, .int a2] : List Value).toArray below meth c s.heap [] 0 0) = W p l e (headSpec (.code yX7_goesOff cX7_goesOff 3 (some .boolean) :: BIG) ({ frames := 5, cells := 0, slots := 0, locals := 119 })).room s m ([.ref (ead E 2000), .int a1, .int a2] : List Value).toArray below meth c H locs 0 0 by rw [hH, hlocs]]
  have hV : va_S (eA E) s.heap H locs := by rw [hH, hlocs]; exact hV
  have hW : Wd E μ s H := by rw [hH]; exact hW
  unfold f_X7_goesOff at hf
  refine lv_aload_n hx hb dX7_goesOff_0 rfl (lv_at hl 0 rfl) ?_
  refine gf_RX7_24 hx hb hB hown hW dX7_goesOff_1 ?_
  refine lv_iload_n hx hb dX7_goesOff_4 rfl (lv_at hl 1 rfl) ?_
  obtain ⟨v8, e_v8, hf⟩ := op_none hf
  refine w_iald hx hb hW iM5.1 (iM5.2 E _ _) e_v8 dX7_goesOff_5 ?_
  refine lv_if_ne (tgt := 22) hx hb dX7_goesOff_6 (by decide) (fun y9 => ?_) (fun y9 => ?_)
  · have hf := op_f y9 hf
    refine lv_iconst (v := (0 : Int32)) hx hb dX7_goesOff_22 (by decide) ?_
    exact w_retN hx hb hr hlocks hW hV (by decide) (Prod.mk.inj (Option.some.inj hf)).1 (Prod.mk.inj (Option.some.inj hf)).2 dX7_goesOff_23
  · have hf := op_t y9 hf
    refine lv_aload_n hx hb dX7_goesOff_9 rfl (lv_at hl 0 rfl) ?_
    refine lv_iload_n hx hb dX7_goesOff_10 rfl (lv_at hl 1 rfl) ?_
    refine lv_iload_n hx hb dX7_goesOff_11 rfl (lv_at hl 2 rfl) ?_
    obtain ⟨p13, e_12, hf⟩ := op_none hf
    refine w_callN (rn_RX7_226 (As := [.int a1, .int a2]) hx hb hml hown hB hW hZ hV (k_X7_isDay l E _ a1 a2 p13.1 p13.2 e_12) rfl rfl ⟨(Nat.le_of_ble_eq_true rfl), (Nat.le_of_ble_eq_true rfl)⟩ (w_rec hW oM.1 (oM.2 E _ _) rfl) rfl hl.1 rfl (Nat.le_of_ble_eq_true rfl) dX7_goesOff_12 ⟨Nat.le_refl _, Nat.le_refl _⟩) hV (fun H locs hn_p13_1 hW hV => ?_)
    refine lv_if_eq (tgt := 22) hx hb dX7_goesOff_15 (by decide) (fun y14 => ?_) (fun y14 => ?_)
    · have hf := op_t y14 hf
      refine lv_iconst (v := (0 : Int32)) hx hb dX7_goesOff_22 (by decide) ?_
      exact w_retN hx hb hr hlocks hW hV (by decide) (Prod.mk.inj (Option.some.inj hf)).1 (Prod.mk.inj (Option.some.inj hf)).2 dX7_goesOff_23
    · have hf := op_f y14 hf
      refine lv_iconst (v := (1 : Int32)) hx hb dX7_goesOff_18 (by decide) ?_
      refine lv_goto (tgt := 23) hx hb dX7_goesOff_19 (by decide) ?_
      exact w_retN hx hb hr hlocks hW hV (by decide) (Prod.mk.inj (Option.some.inj hf)).1 (Prod.mk.inj (Option.some.inj hf)).2 dX7_goesOff_23
set_option maxHeartbeats 8000000 in
set_option maxRecDepth 100000 in
theorem k_X7_goOff (l : Launch) (E : WE) (μ : Mem) (a1 : Int32) (r : Int32) (μ' : Mem) (hf : f_X7_goOff μ a1 = some (r, μ')) : Met l yX7_goOff (.code yX7_goOff cX7_goOff 4 (some .int) :: BIG) ({ frames := 6, cells := 0, slots := 0, locals := 141 }) (PW E μ [.ref (ead E 2000), .int a1]) (QI E r μ') 0 0 (eA E) := by
  refine Met.ofW (cc := cX7_goOff) (maxL := 4) (ret := (some .int)) (by decide) rfl ?_
  intro p e s m args below meth c s₁ B hml hv
  obtain ⟨rfl, hW, hZ⟩ := hv
  have hx := B.exec
  have hb := B.bytes
  have hr := B.returns
  have hB : ∀ w ∈ BIG, w.before _ s = true := fun w h => atoms_spec (ws := (.code yX7_goOff cX7_goOff 4 (some .int) :: BIG)) B.pre w (List.mem_cons_of_mem _ h)
  have hown : s.vm.findClass RX7 = some m.cls := findClass_of_methodNamed B.named
  have hlocks := B.notSynchronized
  have hV : va_S (eA E) s.heap s.heap [] := va_S.rf
  have hl := lv_entry ([.ref (ead E 2000), .int a1]) (n := 4) (Nat.le_of_ble_eq_true rfl)
  rw [lg_entry_eq]
  generalize (lg_sl ([.ref (ead E 2000), .int a1]) ++ List.replicate (4 - (lg_sl ([.ref (ead E 2000), .int a1])).length) Slot.unset).toArray = ls at hl ⊢
  have hl : lv_has ls 4 [(0, .ref (ead E 2000)), (1, .int a1)] := hl
  have c_4 : ∀ (n_4 : Nat) (μ_4 : Mem) (b1_4 : Int32) (b2_4 : Int32) (b3_4 : Int32) , f_X7_goOff_4 n_4 μ_4 b1_4 b2_4 b3_4 = some (r, μ') → ∀ (H : Heap) (locs : List Loc) (ls : Array Slot), Wd E μ_4 s H → va_S (eA E) s.heap H locs → lv_has ls 4 [(0, .ref (ead E 2000)), (1, .int b1_4), (2, .int b2_4), (3, .int b3_4)] → W p l e (headSpec (.code yX7_goOff cX7_goOff 4 (some .int) :: BIG) ({ frames := 6, cells := 0, slots := 0, locals := 141 })).room s m ([.ref (ead E 2000), .int a1] : List Value).toArray below meth c H locs 0 0 (MQ below (QI E r μ') ([.ref (ead E 2000), .int a1] : List Value).toArray s 0 0 (eA E)) (F0 m 4 ls []) := by
    intro n_4
    induction n_4 with
    | zero =>
      intro μ_4 b1_4 b2_4 b3_4 hf H locs ls hW hV hl
      cases hf
    | succ n_4 ih_4 =>
      have c_27 : ∀ (μ_27 : Mem) (b1_27 : Int32) (b2_27 : Int32) (b3_27 : Int32) , f_X7_goOff_27 (fun μ z0 z1 z2 => f_X7_goOff_4 n_4 μ z0 z1 z2) μ_27 b1_27 b2_27 b3_27 = some (r, μ') → ∀ (H : Heap) (locs : List Loc) (ls : Array Slot), Wd E μ_27 s H → va_S (eA E) s.heap H locs → lv_has ls 4 [(0, .ref (ead E 2000)), (1, .int b1_27), (2, .int b2_27), (3, .int b3_27)] → W p l e (headSpec (.code yX7_goOff cX7_goOff 4 (some .int) :: BIG) ({ frames := 6, cells := 0, slots := 0, locals := 141 })).room s m ([.ref (ead E 2000), .int a1] : List Value).toArray below meth c H locs 0 0 (MQ below (QI E r μ') ([.ref (ead E 2000), .int a1] : List Value).toArray s 0 0 (eA E)) (F0 m 27 ls []) := by
        intro μ_27 b1_27 b2_27 b3_27 hf H locs ls hW hV hl
        unfold f_X7_goOff_27 at hf
        obtain ⟨v9, e_v9, hf⟩ := op_none hf
        refine lv_iinc (v := v9) (lv' := [(3, .int v9), (0, .ref (ead E 2000)), (1, .int b1_27), (2, .int b2_27)]) hx hb dX7_goOff_27 hl (k := 3) rfl (by rw [← Option.some.inj e_v9]; rfl) (by decide) rfl (fun ls hl => ?_)
        refine lv_goto (tgt := 4) hx hb dX7_goOff_30 (by decide) ?_
        exact ih_4 μ_27 b1_27 b2_27 v9 hf H locs ls hW hV (lv_sub hl [1, 2, 3, 0] rfl)
      intro μ_4 b1_4 b2_4 b3_4 hf H locs ls hW hV hl
      rw [f_X7_goOff_4] at hf
      refine lv_iload_n hx hb dX7_goOff_4 rfl (lv_at hl 3 rfl) ?_
      refine lv_aload_n hx hb dX7_goOff_5 rfl (lv_at hl 0 rfl) ?_
      refine gf_RX7_108 hx hb hB hown hW dX7_goOff_6 ?_
      refine lv_icmp_ge (tgt := 33) hx hb dX7_goOff_9 (by decide) (fun y10 => ?_) (fun y10 => ?_)
      · have hf := op_t y10 hf
        refine lv_iload_n hx hb dX7_goOff_33 rfl (lv_at hl 2 rfl) ?_
        exact w_retI hx hb hr hlocks hW hV (Prod.mk.inj (Option.some.inj hf)).1 (Prod.mk.inj (Option.some.inj hf)).2 dX7_goOff_34
      · have hf := op_f y10 hf
        refine lv_aload_n hx hb dX7_goOff_12 rfl (lv_at hl 0 rfl) ?_
        refine lv_iload_n hx hb dX7_goOff_13 rfl (lv_at hl 3 rfl) ?_
        refine lv_iload_n hx hb dX7_goOff_14 rfl (lv_at hl 1 rfl) ?_
        obtain ⟨p14, e_13, hf⟩ := op_none hf
        refine w_callN (rn_RX7_232 (As := [.int b3_4, .int b1_4]) hx hb hml hown hB hW hZ hV (k_X7_goesOff l E _ b3_4 b1_4 p14.1 p14.2 e_13) rfl rfl ⟨(Nat.le_of_ble_eq_true rfl), (Nat.le_of_ble_eq_true rfl)⟩ (w_rec hW oM.1 (oM.2 E _ _) rfl) rfl hl.1 rfl (Nat.le_of_ble_eq_true rfl) dX7_goOff_15 ⟨Nat.le_refl _, Nat.le_refl _⟩) hV (fun H locs hn_p14_1 hW hV => ?_)
        refine lv_if_eq (tgt := 27) hx hb dX7_goOff_18 (by decide) (fun y15 => ?_) (fun y15 => ?_)
        · have hf := op_t y15 hf
          exact c_27 p14.2 b1_4 b2_4 b3_4 hf H locs ls hW hV (lv_sub hl [0, 1, 2, 3] rfl)
        · have hf := op_f y15 hf
          refine lv_iload_n hx hb dX7_goOff_21 rfl (lv_at hl 2 rfl) ?_
          refine lv_iconst (v := (1 : Int32)) hx hb dX7_goOff_22 (by decide) ?_
          refine lv_iload_n hx hb dX7_goOff_23 rfl (lv_at hl 3 rfl) ?_
          refine lv_ishl hx hb dX7_goOff_24 ?_
          refine lv_ior hx hb dX7_goOff_25 ?_
          obtain ⟨v16, e_v16, hf⟩ := op_none hf
          refine lv_top' (Option.some.inj e_v16) ?_
          refine lv_istore_n (i := 2) (lv' := [(2, .int v16), (0, .ref (ead E 2000)), (1, .int b1_4), (3, .int b3_4)]) hx hb dX7_goOff_26 rfl hl (by decide) rfl (fun ls hl => ?_)
          exact c_27 p14.2 b1_4 v16 b3_4 hf H locs ls hW hV (lv_sub hl [1, 2, 0, 3] rfl)
  obtain ⟨H, hH⟩ : ∃ H : Heap, H = s.heap := ⟨_, rfl⟩
  obtain ⟨locs, hlocs⟩ : ∃ locs : List Loc, locs = [] := ⟨_, rfl⟩
  rw [show (W p l e (headSpec (.code yX7_goOff cX7_goOff 4 (some .int) :: BIG) ({ frames := 6, cells := 0, slots := 0, locals := 141 })).room s m ([.ref (ead E 2000), .int a1] : List Value).toArray below meth c s.heap [] 0 0) = W p l e (headSpec (.code yX7_goOff cX7_goOff 4 (some .int) :: BIG) ({ frames := 6, cells := 0, slots := 0, locals := 141 })).room s m ([.ref (ead E 2000), .int a1] : List Value).toArray below meth c H locs 0 0 by rw [hH, hlocs]]
  have hV : va_S (eA E) s.heap H locs := by rw [hH, hlocs]; exact hV
  have hW : Wd E μ s H := by rw [hH]; exact hW
  unfold f_X7_goOff at hf
  refine lv_iconst (v := (0 : Int32)) hx hb dX7_goOff_0 (by decide) ?_
  refine lv_istore_n (i := 2) (lv' := [(2, .int (0 : Int32)), (0, .ref (ead E 2000)), (1, .int a1)]) hx hb dX7_goOff_1 rfl hl (by decide) rfl (fun ls hl => ?_)
  refine lv_iconst (v := (0 : Int32)) hx hb dX7_goOff_2 (by decide) ?_
  refine lv_istore_n (i := 3) (lv' := [(3, .int (0 : Int32)), (2, .int (0 : Int32)), (0, .ref (ead E 2000)), (1, .int a1)]) hx hb dX7_goOff_3 rfl hl (by decide) rfl (fun ls hl => ?_)
  exact c_4 FU μ a1 (0 : Int32) (0 : Int32) hf H locs ls hW hV (lv_sub hl [2, 3, 1, 0] rfl)
set_option maxHeartbeats 8000000 in
set_option maxRecDepth 100000 in
theorem k_X7_isHeard (l : Launch) (E : WE) (μ : Mem) (r : Int32) (hf : f_X7_isHeard μ = some r) : Met l yX7_isHeard (.code yX7_isHeard cX7_isHeard 1 (some .boolean) :: BIG) ({ frames := 0, cells := 0, slots := 0, locals := 0 }) (PW E μ [.ref (ead E 2000)]) (QN E .boolean r μ) 0 0 (eA E) := by
  refine Met.ofW (cc := cX7_isHeard) (maxL := 1) (ret := (some .boolean)) (by decide) rfl ?_
  intro p e s m args below meth c s₁ B hml hv
  obtain ⟨rfl, hW, hZ⟩ := hv
  have hx := B.exec
  have hb := B.bytes
  have hr := B.returns
  have hB : ∀ w ∈ BIG, w.before _ s = true := fun w h => atoms_spec (ws := (.code yX7_isHeard cX7_isHeard 1 (some .boolean) :: BIG)) B.pre w (List.mem_cons_of_mem _ h)
  have hown : s.vm.findClass RX7 = some m.cls := findClass_of_methodNamed B.named
  have hlocks := B.notSynchronized
  have hV : va_S (eA E) s.heap s.heap [] := va_S.rf
  have hl := lv_entry ([.ref (ead E 2000)]) (n := 1) (Nat.le_of_ble_eq_true rfl)
  rw [lg_entry_eq]
  generalize (lg_sl ([.ref (ead E 2000)]) ++ List.replicate (1 - (lg_sl ([.ref (ead E 2000)])).length) Slot.unset).toArray = ls at hl ⊢
  have hl : lv_has ls 1 [(0, .ref (ead E 2000))] := hl
  obtain ⟨H, hH⟩ : ∃ H : Heap, H = s.heap := ⟨_, rfl⟩
  obtain ⟨locs, hlocs⟩ : ∃ locs : List Loc, locs = [] := ⟨_, rfl⟩
  rw [show (W p l e (headSpec (.code yX7_isHeard cX7_isHeard 1 (some .boolean) :: BIG) ({ frames := 0, cells := 0, slots := 0, locals := 0 })).room s m ([.ref (ead E 2000)] : List Value).toArray below meth c s.heap [] 0 0) = W p l e (headSpec (.code yX7_isHeard cX7_isHeard 1 (some .boolean) :: BIG) ({ frames := 0, cells := 0, slots := 0, locals := 0 })).room s m ([.ref (ead E 2000)] : List Value).toArray below meth c H locs 0 0 by rw [hH, hlocs]]
  have hV : va_S (eA E) s.heap H locs := by rw [hH, hlocs]; exact hV
  have hW : Wd E μ s H := by rw [hH]; exact hW
  unfold f_X7_isHeard at hf
  refine lv_aload_n hx hb dX7_isHeard_0 rfl (lv_at hl 0 rfl) ?_
  refine gf_RX7_101 hx hb hB hown hW dX7_isHeard_1 ?_
  refine lv_aload_n hx hb dX7_isHeard_4 rfl (lv_at hl 0 rfl) ?_
  refine gf_RX7_229 hx hb hB hown hW dX7_isHeard_5 ?_
  refine lv_bipush (v := (7 : Int32)) hx hb dX7_isHeard_8 (by decide) ?_
  obtain ⟨v3, e_v3, hf⟩ := op_none hf
  refine w_irem hx hb e_v3 dX7_isHeard_10 ?_
  refine lv_ishr hx hb dX7_isHeard_11 ?_
  refine lv_iconst (v := (1 : Int32)) hx hb dX7_isHeard_12 (by decide) ?_
  refine lv_iand hx hb dX7_isHeard_13 ?_
  refine lv_iconst (v := (1 : Int32)) hx hb dX7_isHeard_14 (by decide) ?_
  refine lv_icmp_ne (tgt := 22) hx hb dX7_isHeard_15 (by decide) (fun y4 => ?_) (fun y4 => ?_)
  · have hf := op_f y4 hf
    refine lv_iconst (v := (0 : Int32)) hx hb dX7_isHeard_22 (by decide) ?_
    exact w_retN hx hb hr hlocks hW hV (by decide) (Option.some.inj hf) rfl dX7_isHeard_23
  · have hf := op_t y4 hf
    refine lv_iconst (v := (1 : Int32)) hx hb dX7_isHeard_18 (by decide) ?_
    refine lv_goto (tgt := 23) hx hb dX7_isHeard_19 (by decide) ?_
    exact w_retN hx hb hr hlocks hW hV (by decide) (Option.some.inj hf) rfl dX7_isHeard_23
set_option maxHeartbeats 8000000 in
set_option maxRecDepth 100000 in
theorem k_X7_goesDay (l : Launch) (E : WE) (μ : Mem) (μ' : Mem) (hf : f_X7_goesDay μ = some μ') : Met l yX7_goesDay (.code yX7_goesDay cX7_goesDay 3 none :: BIG) ({ frames := 7, cells := 0, slots := 0, locals := 164 }) (PW E μ [.ref (ead E 2000)]) (QV E μ') 0 0 (eA E) := by
  refine Met.ofW (cc := cX7_goesDay) (maxL := 3) (ret := none) (by decide) rfl ?_
  intro p e s m args below meth c s₁ B hml hv
  obtain ⟨rfl, hW, hZ⟩ := hv
  have hx := B.exec
  have hb := B.bytes
  have hr := B.returns
  have hB : ∀ w ∈ BIG, w.before _ s = true := fun w h => atoms_spec (ws := (.code yX7_goesDay cX7_goesDay 3 none :: BIG)) B.pre w (List.mem_cons_of_mem _ h)
  have hown : s.vm.findClass RX7 = some m.cls := findClass_of_methodNamed B.named
  have hlocks := B.notSynchronized
  have hV : va_S (eA E) s.heap s.heap [] := va_S.rf
  have hl := lv_entry ([.ref (ead E 2000)]) (n := 3) (Nat.le_of_ble_eq_true rfl)
  rw [lg_entry_eq]
  generalize (lg_sl ([.ref (ead E 2000)]) ++ List.replicate (3 - (lg_sl ([.ref (ead E 2000)])).length) Slot.unset).toArray = ls at hl ⊢
  have hl : lv_has ls 3 [(0, .ref (ead E 2000))] := hl
  have c_11 : ∀ (n_11 : Nat) (μ_11 : Mem) (b1_11 : Int32) (b2_11 : Int32) , f_X7_goesDay_11 n_11 μ_11 b1_11 b2_11 = some μ' → ∀ (H : Heap) (locs : List Loc) (ls : Array Slot), Wd E μ_11 s H → va_S (eA E) s.heap H locs → lv_has ls 3 [(0, .ref (ead E 2000)), (1, .int b1_11), (2, .int b2_11)] → W p l e (headSpec (.code yX7_goesDay cX7_goesDay 3 none :: BIG) ({ frames := 7, cells := 0, slots := 0, locals := 164 })).room s m ([.ref (ead E 2000)] : List Value).toArray below meth c H locs 0 0 (MQ below (QV E μ') ([.ref (ead E 2000)] : List Value).toArray s 0 0 (eA E)) (F0 m 11 ls []) := by
    intro n_11
    induction n_11 with
    | zero =>
      intro μ_11 b1_11 b2_11 hf H locs ls hW hV hl
      cases hf
    | succ n_11 ih_11 =>
      have c_57 : ∀ (μ_57 : Mem) (b1_57 : Int32) (b2_57 : Int32) , f_X7_goesDay_57 (fun μ z0 z1 => f_X7_goesDay_11 n_11 μ z0 z1) μ_57 b1_57 b2_57 = some μ' → ∀ (H : Heap) (locs : List Loc) (ls : Array Slot), Wd E μ_57 s H → va_S (eA E) s.heap H locs → lv_has ls 3 [(0, .ref (ead E 2000)), (1, .int b1_57), (2, .int b2_57)] → W p l e (headSpec (.code yX7_goesDay cX7_goesDay 3 none :: BIG) ({ frames := 7, cells := 0, slots := 0, locals := 164 })).room s m ([.ref (ead E 2000)] : List Value).toArray below meth c H locs 0 0 (MQ below (QV E μ') ([.ref (ead E 2000)] : List Value).toArray s 0 0 (eA E)) (F0 m 57 ls []) := by
        intro μ_57 b1_57 b2_57 hf H locs ls hW hV hl
        unfold f_X7_goesDay_57 at hf
        obtain ⟨v16, e_v16, hf⟩ := op_none hf
        refine lv_iinc (v := v16) (lv' := [(2, .int v16), (0, .ref (ead E 2000)), (1, .int b1_57)]) hx hb dX7_goesDay_57 hl (k := 2) rfl (by rw [← Option.some.inj e_v16]; rfl) (by decide) rfl (fun ls hl => ?_)
        refine lv_goto (tgt := 11) hx hb dX7_goesDay_60 (by decide) ?_
        exact ih_11 μ_57 b1_57 v16 hf H locs ls hW hV (lv_sub hl [1, 2, 0] rfl)
      intro μ_11 b1_11 b2_11 hf H locs ls hW hV hl
      rw [f_X7_goesDay_11] at hf
      refine lv_iload_n hx hb dX7_goesDay_11 rfl (lv_at hl 2 rfl) ?_
      refine lv_aload_n hx hb dX7_goesDay_12 rfl (lv_at hl 0 rfl) ?_
      refine gf_RX7_108 hx hb hB hown hW dX7_goesDay_13 ?_
      refine lv_icmp_ge (tgt := 63) hx hb dX7_goesDay_16 (by decide) (fun y17 => ?_) (fun y17 => ?_)
      · have hf := op_t y17 hf
        refine lv_aload_n hx hb dX7_goesDay_63 rfl (lv_at hl 0 rfl) ?_
        refine lv_dup hx hb dX7_goesDay_64 rfl ?_
        refine gf_RX7_229 hx hb hB hown hW dX7_goesDay_65 ?_
        refine lv_iconst (v := (1 : Int32)) hx hb dX7_goesDay_68 (by decide) ?_
        refine lv_iadd hx hb dX7_goesDay_69 ?_
        obtain ⟨μ18, e_μ18, hf⟩ := op_none hf
        refine pf_RX7_229 hx hb hB hown hW hV dX7_goesDay_70 (fun H locs hW hV => ?_)
        rw [Option.some.inj e_μ18] at hW
        exact w_retV hx hb hr hlocks hW hV (Option.some.inj hf) dX7_goesDay_73
      · have hf := op_f y17 hf
        refine lv_iload_n hx hb dX7_goesDay_19 rfl (lv_at hl 1 rfl) ?_
        refine lv_iload_n hx hb dX7_goesDay_20 rfl (lv_at hl 2 rfl) ?_
        refine lv_ishr hx hb dX7_goesDay_21 ?_
        refine lv_iconst (v := (1 : Int32)) hx hb dX7_goesDay_22 (by decide) ?_
        refine lv_iand hx hb dX7_goesDay_23 ?_
        refine lv_if_ne (tgt := 30) hx hb dX7_goesDay_24 (by decide) (fun y19 => ?_) (fun y19 => ?_)
        · have hf := op_f y19 hf
          refine lv_aload_n hx hb dX7_goesDay_30 rfl (lv_at hl 0 rfl) ?_
          refine gf_RX7_27 hx hb hB hown hW dX7_goesDay_31 ?_
          refine lv_iload_n hx hb dX7_goesDay_34 rfl (lv_at hl 2 rfl) ?_
          refine lv_dup2_11 hx hb dX7_goesDay_35 rfl rfl ?_
          obtain ⟨v20, e_v20, hf⟩ := op_none hf
          refine w_iald hx hb hW iM6.1 (iM6.2 E _ _) e_v20 dX7_goesDay_36 ?_
          refine lv_iconst (v := (1 : Int32)) hx hb dX7_goesDay_37 (by decide) ?_
          refine lv_iadd hx hb dX7_goesDay_38 ?_
          obtain ⟨μ21, e_μ21, hf⟩ := op_none hf
          refine w_iast hx hb hW hV iM6.1 (fun f => iM6.2 E f _) e_μ21 dX7_goesDay_39 (fun H locs hW hV => ?_)
          refine lv_aload_n hx hb dX7_goesDay_40 rfl (lv_at hl 0 rfl) ?_
          obtain ⟨v22, e_23, hf⟩ := op_none hf
          refine w_callN (rn_RX7_238 (As := []) hx hb hml hown hB hW hZ hV (k_X7_isHeard l E _ v22 e_23) rfl rfl ⟨(Nat.le_of_ble_eq_true rfl), (Nat.le_of_ble_eq_true rfl)⟩ (w_rec hW oM.1 (oM.2 E _ _) rfl) rfl hl.1 rfl (Nat.le_of_ble_eq_true rfl) dX7_goesDay_41 ⟨Nat.le_refl _, Nat.le_refl _⟩) hV (fun H locs hn_v22 hW hV => ?_)
          refine lv_if_ne (tgt := 57) hx hb dX7_goesDay_44 (by decide) (fun y24 => ?_) (fun y24 => ?_)
          · have hf := op_f y24 hf
            exact c_57 μ21 b1_11 b2_11 hf H locs ls hW hV (lv_sub hl [0, 1, 2] rfl)
          · have hf := op_t y24 hf
            refine lv_aload_n hx hb dX7_goesDay_47 rfl (lv_at hl 0 rfl) ?_
            refine gf_RX7_30 hx hb hB hown hW dX7_goesDay_48 ?_
            refine lv_iload_n hx hb dX7_goesDay_51 rfl (lv_at hl 2 rfl) ?_
            refine lv_dup2_11 hx hb dX7_goesDay_52 rfl rfl ?_
            obtain ⟨v25, e_v25, hf⟩ := op_none hf
            refine w_iald hx hb hW iM7.1 (iM7.2 E _ _) e_v25 dX7_goesDay_53 ?_
            refine lv_iconst (v := (1 : Int32)) hx hb dX7_goesDay_54 (by decide) ?_
            refine lv_iadd hx hb dX7_goesDay_55 ?_
            obtain ⟨μ26, e_μ26, hf⟩ := op_none hf
            refine w_iast hx hb hW hV iM7.1 (fun f => iM7.2 E f _) e_μ26 dX7_goesDay_56 (fun H locs hW hV => ?_)
            exact c_57 μ26 b1_11 b2_11 hf H locs ls hW hV (lv_sub hl [0, 1, 2] rfl)
        · have hf := op_t y19 hf
          refine lv_goto (tgt := 57) hx hb dX7_goesDay_27 (by decide) ?_
          exact c_57 μ_11 b1_11 b2_11 hf H locs ls hW hV (lv_sub hl [0, 1, 2] rfl)
  obtain ⟨H, hH⟩ : ∃ H : Heap, H = s.heap := ⟨_, rfl⟩
  obtain ⟨locs, hlocs⟩ : ∃ locs : List Loc, locs = [] := ⟨_, rfl⟩
  rw [show (W p l e (headSpec (.code yX7_goesDay cX7_goesDay 3 none :: BIG) ({ frames := 7, cells := 0, slots := 0, locals := 164 })).room s m ([.ref (ead E 2000)] : List Value).toArray below meth c s.heap [] 0 0) = W p l e (headSpec (.code yX7_goesDay cX7_goesDay 3 none :: BIG) ({ frames := 7, cells := 0, slots := 0, locals := 164 })).room s m ([.ref (ead E 2000)] : List Value).toArray below meth c H locs 0 0 by rw [hH, hlocs]]
  have hV : va_S (eA E) s.heap H locs := by rw [hH, hlocs]; exact hV
  have hW : Wd E μ s H := by rw [hH]; exact hW
  unfold f_X7_goesDay at hf
  refine lv_aload_n hx hb dX7_goesDay_0 rfl (lv_at hl 0 rfl) ?_
  refine lv_aload_n hx hb dX7_goesDay_1 rfl (lv_at hl 0 rfl) ?_
  refine gf_RX7_229 hx hb hB hown hW dX7_goesDay_2 ?_
  obtain ⟨p30, e_29, hf⟩ := op_none hf
  refine w_callI (rn_RX7_235 (As := [.int (gI μ 2000 10)]) hx hb hml hown hB hW hZ hV (k_X7_goOff l E _ (gI μ 2000 10) p30.1 p30.2 e_29) rfl rfl ⟨(Nat.le_of_ble_eq_true rfl), (Nat.le_of_ble_eq_true rfl)⟩ (w_rec hW oM.1 (oM.2 E _ _) rfl) rfl hl.1 rfl (Nat.le_of_ble_eq_true rfl) dX7_goesDay_5 ⟨Nat.le_refl _, Nat.le_refl _⟩) hV (fun H locs hW hV => ?_)
  refine lv_istore_n (i := 1) (lv' := [(1, .int p30.1), (0, .ref (ead E 2000))]) hx hb dX7_goesDay_8 rfl hl (by decide) rfl (fun ls hl => ?_)
  refine lv_iconst (v := (0 : Int32)) hx hb dX7_goesDay_9 (by decide) ?_
  refine lv_istore_n (i := 2) (lv' := [(2, .int (0 : Int32)), (1, .int p30.1), (0, .ref (ead E 2000))]) hx hb dX7_goesDay_10 rfl hl (by decide) rfl (fun ls hl => ?_)
  exact c_11 FU p30.2 p30.1 (0 : Int32) hf H locs ls hW hV (lv_sub hl [2, 1, 0] rfl)
set_option maxHeartbeats 8000000 in
set_option maxRecDepth 100000 in
theorem k_X7_allWent (l : Launch) (E : WE) (μ : Mem) (r : Int32) (hf : f_X7_allWent μ = some r) : Met l yX7_allWent (.code yX7_allWent cX7_allWent 3 (some .int) :: BIG) ({ frames := 0, cells := 0, slots := 0, locals := 0 }) (PW E μ [.ref (ead E 2000)]) (QI E r μ) 0 0 (eA E) := by
  refine Met.ofW (cc := cX7_allWent) (maxL := 3) (ret := (some .int)) (by decide) rfl ?_
  intro p e s m args below meth c s₁ B hml hv
  obtain ⟨rfl, hW, hZ⟩ := hv
  have hx := B.exec
  have hb := B.bytes
  have hr := B.returns
  have hB : ∀ w ∈ BIG, w.before _ s = true := fun w h => atoms_spec (ws := (.code yX7_allWent cX7_allWent 3 (some .int) :: BIG)) B.pre w (List.mem_cons_of_mem _ h)
  have hown : s.vm.findClass RX7 = some m.cls := findClass_of_methodNamed B.named
  have hlocks := B.notSynchronized
  have hV : va_S (eA E) s.heap s.heap [] := va_S.rf
  have hl := lv_entry ([.ref (ead E 2000)]) (n := 3) (Nat.le_of_ble_eq_true rfl)
  rw [lg_entry_eq]
  generalize (lg_sl ([.ref (ead E 2000)]) ++ List.replicate (3 - (lg_sl ([.ref (ead E 2000)])).length) Slot.unset).toArray = ls at hl ⊢
  have hl : lv_has ls 3 [(0, .ref (ead E 2000))] := hl
  have c_4 : ∀ (n_4 : Nat) (b1_4 : Int32) (b2_4 : Int32) , f_X7_allWent_4 μ n_4 b1_4 b2_4 = some r → ∀ (H : Heap) (locs : List Loc) (ls : Array Slot), Wd E μ s H → va_S (eA E) s.heap H locs → lv_has ls 3 [(0, .ref (ead E 2000)), (1, .int b1_4), (2, .int b2_4)] → W p l e (headSpec (.code yX7_allWent cX7_allWent 3 (some .int) :: BIG) ({ frames := 0, cells := 0, slots := 0, locals := 0 })).room s m ([.ref (ead E 2000)] : List Value).toArray below meth c H locs 0 0 (MQ below (QI E r μ) ([.ref (ead E 2000)] : List Value).toArray s 0 0 (eA E)) (F0 m 4 ls []) := by
    intro n_4
    induction n_4 with
    | zero =>
      intro b1_4 b2_4 hf H locs ls hW hV hl
      cases hf
    | succ n_4 ih_4 =>
      intro b1_4 b2_4 hf H locs ls hW hV hl
      rw [f_X7_allWent_4] at hf
      refine lv_iload_n hx hb dX7_allWent_4 rfl (lv_at hl 2 rfl) ?_
      refine lv_aload_n hx hb dX7_allWent_5 rfl (lv_at hl 0 rfl) ?_
      refine gf_RX7_108 hx hb hB hown hW dX7_allWent_6 ?_
      refine lv_icmp_ge (tgt := 27) hx hb dX7_allWent_9 (by decide) (fun y5 => ?_) (fun y5 => ?_)
      · have hf := op_t y5 hf
        refine lv_iload_n hx hb dX7_allWent_27 rfl (lv_at hl 1 rfl) ?_
        exact w_retI hx hb hr hlocks hW hV (Option.some.inj hf) rfl dX7_allWent_28
      · have hf := op_f y5 hf
        refine lv_iload_n hx hb dX7_allWent_12 rfl (lv_at hl 1 rfl) ?_
        refine lv_aload_n hx hb dX7_allWent_13 rfl (lv_at hl 0 rfl) ?_
        refine gf_RX7_27 hx hb hB hown hW dX7_allWent_14 ?_
        refine lv_iload_n hx hb dX7_allWent_17 rfl (lv_at hl 2 rfl) ?_
        obtain ⟨v6, e_v6, hf⟩ := op_none hf
        refine w_iald hx hb hW iM6.1 (iM6.2 E _ _) e_v6 dX7_allWent_18 ?_
        refine lv_iadd hx hb dX7_allWent_19 ?_
        obtain ⟨v7, e_v7, hf⟩ := op_none hf
        refine lv_top' (Option.some.inj e_v7) ?_
        refine lv_istore_n (i := 1) (lv' := [(1, .int v7), (0, .ref (ead E 2000)), (2, .int b2_4)]) hx hb dX7_allWent_20 rfl hl (by decide) rfl (fun ls hl => ?_)
        obtain ⟨v8, e_v8, hf⟩ := op_none hf
        refine lv_iinc (v := v8) (lv' := [(2, .int v8), (1, .int v7), (0, .ref (ead E 2000))]) hx hb dX7_allWent_21 hl (k := 2) rfl (by rw [← Option.some.inj e_v8]; rfl) (by decide) rfl (fun ls hl => ?_)
        refine lv_goto (tgt := 4) hx hb dX7_allWent_24 (by decide) ?_
        exact ih_4 v7 v8 hf H locs ls hW hV (lv_sub hl [2, 1, 0] rfl)
  obtain ⟨H, hH⟩ : ∃ H : Heap, H = s.heap := ⟨_, rfl⟩
  obtain ⟨locs, hlocs⟩ : ∃ locs : List Loc, locs = [] := ⟨_, rfl⟩
  rw [show (W p l e (headSpec (.code yX7_allWent cX7_allWent 3 (some .int) :: BIG) ({ frames := 0, cells := 0, slots := 0, locals := 0 })).room s m ([.ref (ead E 2000)] : List Value).toArray below meth c s.heap [] 0 0) = W p l e (headSpec (.code yX7_allWent cX7_allWent 3 (some .int) :: BIG) ({ frames := 0, cells := 0, slots := 0, locals := 0 })).room s m ([.ref (ead E 2000)] : List Value).toArray below meth c H locs 0 0 by rw [hH, hlocs]]
  have hV : va_S (eA E) s.heap H locs := by rw [hH, hlocs]; exact hV
  have hW : Wd E μ s H := by rw [hH]; exact hW
  unfold f_X7_allWent at hf
  refine lv_iconst (v := (0 : Int32)) hx hb dX7_allWent_0 (by decide) ?_
  refine lv_istore_n (i := 1) (lv' := [(1, .int (0 : Int32)), (0, .ref (ead E 2000))]) hx hb dX7_allWent_1 rfl hl (by decide) rfl (fun ls hl => ?_)
  refine lv_iconst (v := (0 : Int32)) hx hb dX7_allWent_2 (by decide) ?_
  refine lv_istore_n (i := 2) (lv' := [(2, .int (0 : Int32)), (1, .int (0 : Int32)), (0, .ref (ead E 2000))]) hx hb dX7_allWent_3 rfl hl (by decide) rfl (fun ls hl => ?_)
  exact c_4 FU (0 : Int32) (0 : Int32) hf H locs ls hW hV (lv_sub hl [2, 1, 0] rfl)
set_option maxHeartbeats 8000000 in
set_option maxRecDepth 100000 in
theorem k_X7_allMissed (l : Launch) (E : WE) (μ : Mem) (r : Int32) (hf : f_X7_allMissed μ = some r) : Met l yX7_allMissed (.code yX7_allMissed cX7_allMissed 3 (some .int) :: BIG) ({ frames := 0, cells := 0, slots := 0, locals := 0 }) (PW E μ [.ref (ead E 2000)]) (QI E r μ) 0 0 (eA E) := by
  refine Met.ofW (cc := cX7_allMissed) (maxL := 3) (ret := (some .int)) (by decide) rfl ?_
  intro p e s m args below meth c s₁ B hml hv
  obtain ⟨rfl, hW, hZ⟩ := hv
  have hx := B.exec
  have hb := B.bytes
  have hr := B.returns
  have hB : ∀ w ∈ BIG, w.before _ s = true := fun w h => atoms_spec (ws := (.code yX7_allMissed cX7_allMissed 3 (some .int) :: BIG)) B.pre w (List.mem_cons_of_mem _ h)
  have hown : s.vm.findClass RX7 = some m.cls := findClass_of_methodNamed B.named
  have hlocks := B.notSynchronized
  have hV : va_S (eA E) s.heap s.heap [] := va_S.rf
  have hl := lv_entry ([.ref (ead E 2000)]) (n := 3) (Nat.le_of_ble_eq_true rfl)
  rw [lg_entry_eq]
  generalize (lg_sl ([.ref (ead E 2000)]) ++ List.replicate (3 - (lg_sl ([.ref (ead E 2000)])).length) Slot.unset).toArray = ls at hl ⊢
  have hl : lv_has ls 3 [(0, .ref (ead E 2000))] := hl
  have c_4 : ∀ (n_4 : Nat) (b1_4 : Int32) (b2_4 : Int32) , f_X7_allMissed_4 μ n_4 b1_4 b2_4 = some r → ∀ (H : Heap) (locs : List Loc) (ls : Array Slot), Wd E μ s H → va_S (eA E) s.heap H locs → lv_has ls 3 [(0, .ref (ead E 2000)), (1, .int b1_4), (2, .int b2_4)] → W p l e (headSpec (.code yX7_allMissed cX7_allMissed 3 (some .int) :: BIG) ({ frames := 0, cells := 0, slots := 0, locals := 0 })).room s m ([.ref (ead E 2000)] : List Value).toArray below meth c H locs 0 0 (MQ below (QI E r μ) ([.ref (ead E 2000)] : List Value).toArray s 0 0 (eA E)) (F0 m 4 ls []) := by
    intro n_4
    induction n_4 with
    | zero =>
      intro b1_4 b2_4 hf H locs ls hW hV hl
      cases hf
    | succ n_4 ih_4 =>
      intro b1_4 b2_4 hf H locs ls hW hV hl
      rw [f_X7_allMissed_4] at hf
      refine lv_iload_n hx hb dX7_allMissed_4 rfl (lv_at hl 2 rfl) ?_
      refine lv_aload_n hx hb dX7_allMissed_5 rfl (lv_at hl 0 rfl) ?_
      refine gf_RX7_108 hx hb hB hown hW dX7_allMissed_6 ?_
      refine lv_icmp_ge (tgt := 27) hx hb dX7_allMissed_9 (by decide) (fun y5 => ?_) (fun y5 => ?_)
      · have hf := op_t y5 hf
        refine lv_iload_n hx hb dX7_allMissed_27 rfl (lv_at hl 1 rfl) ?_
        exact w_retI hx hb hr hlocks hW hV (Option.some.inj hf) rfl dX7_allMissed_28
      · have hf := op_f y5 hf
        refine lv_iload_n hx hb dX7_allMissed_12 rfl (lv_at hl 1 rfl) ?_
        refine lv_aload_n hx hb dX7_allMissed_13 rfl (lv_at hl 0 rfl) ?_
        refine gf_RX7_30 hx hb hB hown hW dX7_allMissed_14 ?_
        refine lv_iload_n hx hb dX7_allMissed_17 rfl (lv_at hl 2 rfl) ?_
        obtain ⟨v6, e_v6, hf⟩ := op_none hf
        refine w_iald hx hb hW iM7.1 (iM7.2 E _ _) e_v6 dX7_allMissed_18 ?_
        refine lv_iadd hx hb dX7_allMissed_19 ?_
        obtain ⟨v7, e_v7, hf⟩ := op_none hf
        refine lv_top' (Option.some.inj e_v7) ?_
        refine lv_istore_n (i := 1) (lv' := [(1, .int v7), (0, .ref (ead E 2000)), (2, .int b2_4)]) hx hb dX7_allMissed_20 rfl hl (by decide) rfl (fun ls hl => ?_)
        obtain ⟨v8, e_v8, hf⟩ := op_none hf
        refine lv_iinc (v := v8) (lv' := [(2, .int v8), (1, .int v7), (0, .ref (ead E 2000))]) hx hb dX7_allMissed_21 hl (k := 2) rfl (by rw [← Option.some.inj e_v8]; rfl) (by decide) rfl (fun ls hl => ?_)
        refine lv_goto (tgt := 4) hx hb dX7_allMissed_24 (by decide) ?_
        exact ih_4 v7 v8 hf H locs ls hW hV (lv_sub hl [2, 1, 0] rfl)
  obtain ⟨H, hH⟩ : ∃ H : Heap, H = s.heap := ⟨_, rfl⟩
  obtain ⟨locs, hlocs⟩ : ∃ locs : List Loc, locs = [] := ⟨_, rfl⟩
  rw [show (W p l e (headSpec (.code yX7_allMissed cX7_allMissed 3 (some .int) :: BIG) ({ frames := 0, cells := 0, slots := 0, locals := 0 })).room s m ([.ref (ead E 2000)] : List Value).toArray below meth c s.heap [] 0 0) = W p l e (headSpec (.code yX7_allMissed cX7_allMissed 3 (some .int) :: BIG) ({ frames := 0, cells := 0, slots := 0, locals := 0 })).room s m ([.ref (ead E 2000)] : List Value).toArray below meth c H locs 0 0 by rw [hH, hlocs]]
  have hV : va_S (eA E) s.heap H locs := by rw [hH, hlocs]; exact hV
  have hW : Wd E μ s H := by rw [hH]; exact hW
  unfold f_X7_allMissed at hf
  refine lv_iconst (v := (0 : Int32)) hx hb dX7_allMissed_0 (by decide) ?_
  refine lv_istore_n (i := 1) (lv' := [(1, .int (0 : Int32)), (0, .ref (ead E 2000))]) hx hb dX7_allMissed_1 rfl hl (by decide) rfl (fun ls hl => ?_)
  refine lv_iconst (v := (0 : Int32)) hx hb dX7_allMissed_2 (by decide) ?_
  refine lv_istore_n (i := 2) (lv' := [(2, .int (0 : Int32)), (1, .int (0 : Int32)), (0, .ref (ead E 2000))]) hx hb dX7_allMissed_3 rfl hl (by decide) rfl (fun ls hl => ?_)
  exact c_4 FU (0 : Int32) (0 : Int32) hf H locs ls hW hV (lv_sub hl [2, 1, 0] rfl)
set_option maxHeartbeats 8000000 in
set_option maxRecDepth 100000 in
theorem k_X7_quiet (l : Launch) (E : WE) (μ : Mem) (r : Int32) (μ' : Mem) (hf : f_X7_quiet μ = some (r, μ')) : Met l yX7_quiet (.code yX7_quiet cX7_quiet 2 (some .int) :: BIG) ({ frames := 7, cells := 0, slots := 0, locals := 164 }) (PW E μ [.ref (ead E 2000)]) (QI E r μ') 0 0 (eA E) := by
  refine Met.ofW (cc := cX7_quiet) (maxL := 2) (ret := (some .int)) (by decide) rfl ?_
  intro p e s m args below meth c s₁ B hml hv
  obtain ⟨rfl, hW, hZ⟩ := hv
  have hx := B.exec
  have hb := B.bytes
  have hr := B.returns
  have hB : ∀ w ∈ BIG, w.before _ s = true := fun w h => atoms_spec (ws := (.code yX7_quiet cX7_quiet 2 (some .int) :: BIG)) B.pre w (List.mem_cons_of_mem _ h)
  have hown : s.vm.findClass RX7 = some m.cls := findClass_of_methodNamed B.named
  have hlocks := B.notSynchronized
  have hV : va_S (eA E) s.heap s.heap [] := va_S.rf
  have hl := lv_entry ([.ref (ead E 2000)]) (n := 2) (Nat.le_of_ble_eq_true rfl)
  rw [lg_entry_eq]
  generalize (lg_sl ([.ref (ead E 2000)]) ++ List.replicate (2 - (lg_sl ([.ref (ead E 2000)])).length) Slot.unset).toArray = ls at hl ⊢
  have hl : lv_has ls 2 [(0, .ref (ead E 2000))] := hl
  have c_2 : ∀ (n_2 : Nat) (μ_2 : Mem) (b1_2 : Int32) , f_X7_quiet_2 n_2 μ_2 b1_2 = some (r, μ') → ∀ (H : Heap) (locs : List Loc) (ls : Array Slot), Wd E μ_2 s H → va_S (eA E) s.heap H locs → lv_has ls 2 [(0, .ref (ead E 2000)), (1, .int b1_2)] → W p l e (headSpec (.code yX7_quiet cX7_quiet 2 (some .int) :: BIG) ({ frames := 7, cells := 0, slots := 0, locals := 164 })).room s m ([.ref (ead E 2000)] : List Value).toArray below meth c H locs 0 0 (MQ below (QI E r μ') ([.ref (ead E 2000)] : List Value).toArray s 0 0 (eA E)) (F0 m 2 ls []) := by
    intro n_2
    induction n_2 with
    | zero =>
      intro μ_2 b1_2 hf H locs ls hW hV hl
      cases hf
    | succ n_2 ih_2 =>
      intro μ_2 b1_2 hf H locs ls hW hV hl
      rw [f_X7_quiet_2] at hf
      refine lv_iload_n hx hb dX7_quiet_2 rfl (lv_at hl 1 rfl) ?_
      refine lv_sipush (v := (1000 : Int32)) hx hb dX7_quiet_3 (by decide) ?_
      refine lv_icmp_gt (tgt := 30) hx hb dX7_quiet_6 (by decide) (fun y8 => ?_) (fun y8 => ?_)
      · have hf := op_t y8 hf
        refine lv_bipush (v := (-5 : Int32)) hx hb dX7_quiet_30 (by decide) ?_
        exact w_retI hx hb hr hlocks hW hV (Prod.mk.inj (Option.some.inj hf)).1 (Prod.mk.inj (Option.some.inj hf)).2 dX7_quiet_32
      · have hf := op_f y8 hf
        refine lv_aload_n hx hb dX7_quiet_9 rfl (lv_at hl 0 rfl) ?_
        refine lv_aload_n hx hb dX7_quiet_10 rfl (lv_at hl 0 rfl) ?_
        refine gf_RX7_229 hx hb hB hown hW dX7_quiet_11 ?_
        refine lv_iload_n hx hb dX7_quiet_14 rfl (lv_at hl 1 rfl) ?_
        refine lv_iadd hx hb dX7_quiet_15 ?_
        obtain ⟨p12, e_11, hf⟩ := op_none hf
        refine w_callI (rn_RX7_235 (As := [.int ((gI μ_2 2000 10) + b1_2)]) hx hb hml hown hB hW hZ hV (k_X7_goOff l E _ ((gI μ_2 2000 10) + b1_2) p12.1 p12.2 e_11) rfl rfl ⟨(Nat.le_of_ble_eq_true rfl), (Nat.le_of_ble_eq_true rfl)⟩ (w_rec hW oM.1 (oM.2 E _ _) rfl) rfl hl.1 rfl (Nat.le_of_ble_eq_true rfl) dX7_quiet_16 ⟨Nat.le_refl _, Nat.le_refl _⟩) hV (fun H locs hW hV => ?_)
        refine lv_if_ne (tgt := 24) hx hb dX7_quiet_19 (by decide) (fun y13 => ?_) (fun y13 => ?_)
        · have hf := op_f y13 hf
          obtain ⟨v14, e_v14, hf⟩ := op_none hf
          refine lv_iinc (v := v14) (lv' := [(1, .int v14), (0, .ref (ead E 2000))]) hx hb dX7_quiet_24 hl (k := 1) rfl (by rw [← Option.some.inj e_v14]; rfl) (by decide) rfl (fun ls hl => ?_)
          refine lv_goto (tgt := 2) hx hb dX7_quiet_27 (by decide) ?_
          exact ih_2 p12.2 v14 hf H locs ls hW hV (lv_sub hl [1, 0] rfl)
        · have hf := op_t y13 hf
          refine lv_iload_n hx hb dX7_quiet_22 rfl (lv_at hl 1 rfl) ?_
          exact w_retI hx hb hr hlocks hW hV (Prod.mk.inj (Option.some.inj hf)).1 (Prod.mk.inj (Option.some.inj hf)).2 dX7_quiet_23
  obtain ⟨H, hH⟩ : ∃ H : Heap, H = s.heap := ⟨_, rfl⟩
  obtain ⟨locs, hlocs⟩ : ∃ locs : List Loc, locs = [] := ⟨_, rfl⟩
  rw [show (W p l e (headSpec (.code yX7_quiet cX7_quiet 2 (some .int) :: BIG) ({ frames := 7, cells := 0, slots := 0, locals := 164 })).room s m ([.ref (ead E 2000)] : List Value).toArray below meth c s.heap [] 0 0) = W p l e (headSpec (.code yX7_quiet cX7_quiet 2 (some .int) :: BIG) ({ frames := 7, cells := 0, slots := 0, locals := 164 })).room s m ([.ref (ead E 2000)] : List Value).toArray below meth c H locs 0 0 by rw [hH, hlocs]]
  have hV : va_S (eA E) s.heap H locs := by rw [hH, hlocs]; exact hV
  have hW : Wd E μ s H := by rw [hH]; exact hW
  unfold f_X7_quiet at hf
  refine lv_iconst (v := (0 : Int32)) hx hb dX7_quiet_0 (by decide) ?_
  refine lv_istore_n (i := 1) (lv' := [(1, .int (0 : Int32)), (0, .ref (ead E 2000))]) hx hb dX7_quiet_1 rfl hl (by decide) rfl (fun ls hl => ?_)
  exact c_2 FU μ (0 : Int32) hf H locs ls hW hV (lv_sub hl [1, 0] rfl)
set_option maxHeartbeats 8000000 in
set_option maxRecDepth 100000 in
theorem k_X7_told (l : Launch) (E : WE) (μ : Mem) (a1 : Int32) (r : Int32) (μ' : Mem) (hf : f_X7_told μ a1 = some (r, μ')) : Met l yX7_told (.code yX7_told cX7_told 2 (some .int) :: BIG) ({ frames := 8, cells := 0, slots := 0, locals := 185 }) (PW E μ [.ref (ead E 2000), .int a1]) (QI E r μ') 0 0 (eA E) := by
  refine Met.ofW (cc := cX7_told) (maxL := 2) (ret := (some .int)) (by decide) rfl ?_
  intro p e s m args below meth c s₁ B hml hv
  obtain ⟨rfl, hW, hZ⟩ := hv
  have hx := B.exec
  have hb := B.bytes
  have hr := B.returns
  have hB : ∀ w ∈ BIG, w.before _ s = true := fun w h => atoms_spec (ws := (.code yX7_told cX7_told 2 (some .int) :: BIG)) B.pre w (List.mem_cons_of_mem _ h)
  have hown : s.vm.findClass RX7 = some m.cls := findClass_of_methodNamed B.named
  have hlocks := B.notSynchronized
  have hV : va_S (eA E) s.heap s.heap [] := va_S.rf
  have hl := lv_entry ([.ref (ead E 2000), .int a1]) (n := 2) (Nat.le_of_ble_eq_true rfl)
  rw [lg_entry_eq]
  generalize (lg_sl ([.ref (ead E 2000), .int a1]) ++ List.replicate (2 - (lg_sl ([.ref (ead E 2000), .int a1])).length) Slot.unset).toArray = ls at hl ⊢
  have hl : lv_has ls 2 [(0, .ref (ead E 2000)), (1, .int a1)] := hl
  obtain ⟨H, hH⟩ : ∃ H : Heap, H = s.heap := ⟨_, rfl⟩
  obtain ⟨locs, hlocs⟩ : ∃ locs : List Loc, locs = [] := ⟨_, rfl⟩
  rw [show (W p l e (headSpec (.code yX7_told cX7_told 2 (some .int) :: BIG) ({ frames := 8, cells := 0, slots := 0, locals := 185 })).room s m ([.ref (ead E 2000), .int a1] : List Value).toArray below meth c s.heap [] 0 0) = W p l e (headSpec (.code yX7_told cX7_told 2 (some .int) :: BIG) ({ frames := 8, cells := 0, slots := 0, locals := 185 })).room s m ([.ref (ead E 2000), .int a1] : List Value).toArray below meth c H locs 0 0 by rw [hH, hlocs]]
  have hV : va_S (eA E) s.heap H locs := by rw [hH, hlocs]; exact hV
  have hW : Wd E μ s H := by rw [hH]; exact hW
  unfold f_X7_told at hf
  refine lv_iload_n hx hb dX7_told_0 rfl (lv_at hl 1 rfl) ?_
  by_cases y22 : a1 = (0 : Int32)
  · have hf := op_t y22 hf
    refine lv_tableIn (tgt := 44) (off := 43) hx hb dX7_told_1 (by rw [y22]; decide) (by rw [y22]; decide) (by rw [y22]; rfl) (by decide) ?_
    refine lv_aload_n hx hb dX7_told_44 rfl (lv_at hl 0 rfl) ?_
    refine gf_RX7_229 hx hb hB hown hW dX7_told_45 ?_
    exact w_retI hx hb hr hlocks hW hV (Prod.mk.inj (Option.some.inj hf)).1 (Prod.mk.inj (Option.some.inj hf)).2 dX7_told_48
  have hf := op_f y22 hf
  by_cases y23 : a1 = (1 : Int32)
  · have hf := op_t y23 hf
    refine lv_tableIn (tgt := 49) (off := 48) hx hb dX7_told_1 (by rw [y23]; decide) (by rw [y23]; decide) (by rw [y23]; rfl) (by decide) ?_
    refine lv_aload_n hx hb dX7_told_49 rfl (lv_at hl 0 rfl) ?_
    obtain ⟨v24, e_25, hf⟩ := op_none hf
    refine w_callI (rn_RX7_211 (As := []) hx hb hml hown hB hW hZ hV (k_X7_allBy l E _ v24 e_25) rfl rfl ⟨(Nat.le_of_ble_eq_true rfl), (Nat.le_of_ble_eq_true rfl)⟩ (w_rec hW oM.1 (oM.2 E _ _) rfl) rfl hl.1 rfl (Nat.le_of_ble_eq_true rfl) dX7_told_50 ⟨Nat.le_refl _, Nat.le_refl _⟩) hV (fun H locs hW hV => ?_)
    exact w_retI hx hb hr hlocks hW hV (Prod.mk.inj (Option.some.inj hf)).1 (Prod.mk.inj (Option.some.inj hf)).2 dX7_told_53
  have hf := op_f y23 hf
  by_cases y26 : a1 = (2 : Int32)
  · have hf := op_t y26 hf
    refine lv_tableIn (tgt := 54) (off := 53) hx hb dX7_told_1 (by rw [y26]; decide) (by rw [y26]; decide) (by rw [y26]; rfl) (by decide) ?_
    refine lv_aload_n hx hb dX7_told_54 rfl (lv_at hl 0 rfl) ?_
    refine gf_RX7_101 hx hb hB hown hW dX7_told_55 ?_
    exact w_retI hx hb hr hlocks hW hV (Prod.mk.inj (Option.some.inj hf)).1 (Prod.mk.inj (Option.some.inj hf)).2 dX7_told_58
  have hf := op_f y26 hf
  by_cases y27 : a1 = (3 : Int32)
  · have hf := op_t y27 hf
    refine lv_tableIn (tgt := 59) (off := 58) hx hb dX7_told_1 (by rw [y27]; decide) (by rw [y27]; decide) (by rw [y27]; rfl) (by decide) ?_
    refine lv_aload_n hx hb dX7_told_59 rfl (lv_at hl 0 rfl) ?_
    refine lv_aload_n hx hb dX7_told_60 rfl (lv_at hl 0 rfl) ?_
    refine gf_RX7_229 hx hb hB hown hW dX7_told_61 ?_
    obtain ⟨p31, e_30, hf⟩ := op_none hf
    refine w_callI (rn_RX7_235 (As := [.int (gI μ 2000 10)]) hx hb hml hown hB hW hZ hV (k_X7_goOff l E _ (gI μ 2000 10) p31.1 p31.2 e_30) rfl rfl ⟨(Nat.le_of_ble_eq_true rfl), (Nat.le_of_ble_eq_true rfl)⟩ (w_rec hW oM.1 (oM.2 E _ _) rfl) rfl hl.1 rfl (Nat.le_of_ble_eq_true rfl) dX7_told_64 ⟨Nat.le_refl _, Nat.le_refl _⟩) hV (fun H locs hW hV => ?_)
    exact w_retI hx hb hr hlocks hW hV (Prod.mk.inj (Option.some.inj hf)).1 (Prod.mk.inj (Option.some.inj hf)).2 dX7_told_67
  have hf := op_f y27 hf
  by_cases y32 : a1 = (4 : Int32)
  · have hf := op_t y32 hf
    refine lv_tableIn (tgt := 68) (off := 67) hx hb dX7_told_1 (by rw [y32]; decide) (by rw [y32]; decide) (by rw [y32]; rfl) (by decide) ?_
    refine lv_aload_n hx hb dX7_told_68 rfl (lv_at hl 0 rfl) ?_
    obtain ⟨p36, e_35, hf⟩ := op_none hf
    refine w_callI (rn_RX7_241 (As := []) hx hb hml hown hB hW hZ hV (k_X7_quiet l E _ p36.1 p36.2 e_35) rfl rfl ⟨(Nat.le_of_ble_eq_true rfl), (Nat.le_of_ble_eq_true rfl)⟩ (w_rec hW oM.1 (oM.2 E _ _) rfl) rfl hl.1 rfl (Nat.le_of_ble_eq_true rfl) dX7_told_69 ⟨Nat.le_refl _, Nat.le_refl _⟩) hV (fun H locs hW hV => ?_)
    exact w_retI hx hb hr hlocks hW hV (Prod.mk.inj (Option.some.inj hf)).1 (Prod.mk.inj (Option.some.inj hf)).2 dX7_told_72
  have hf := op_f y32 hf
  by_cases y37 : a1 = (5 : Int32)
  · have hf := op_t y37 hf
    refine lv_tableIn (tgt := 73) (off := 72) hx hb dX7_told_1 (by rw [y37]; decide) (by rw [y37]; decide) (by rw [y37]; rfl) (by decide) ?_
    refine lv_aload_n hx hb dX7_told_73 rfl (lv_at hl 0 rfl) ?_
    obtain ⟨v38, e_39, hf⟩ := op_none hf
    refine w_callI (rn_RX7_244 (As := []) hx hb hml hown hB hW hZ hV (k_X7_allWent l E _ v38 e_39) rfl rfl ⟨(Nat.le_of_ble_eq_true rfl), (Nat.le_of_ble_eq_true rfl)⟩ (w_rec hW oM.1 (oM.2 E _ _) rfl) rfl hl.1 rfl (Nat.le_of_ble_eq_true rfl) dX7_told_74 ⟨Nat.le_refl _, Nat.le_refl _⟩) hV (fun H locs hW hV => ?_)
    exact w_retI hx hb hr hlocks hW hV (Prod.mk.inj (Option.some.inj hf)).1 (Prod.mk.inj (Option.some.inj hf)).2 dX7_told_77
  have hf := op_f y37 hf
  by_cases y40 : a1 = (6 : Int32)
  · have hf := op_t y40 hf
    refine lv_tableIn (tgt := 78) (off := 77) hx hb dX7_told_1 (by rw [y40]; decide) (by rw [y40]; decide) (by rw [y40]; rfl) (by decide) ?_
    refine lv_aload_n hx hb dX7_told_78 rfl (lv_at hl 0 rfl) ?_
    obtain ⟨v41, e_42, hf⟩ := op_none hf
    refine w_callI (rn_RX7_247 (As := []) hx hb hml hown hB hW hZ hV (k_X7_allMissed l E _ v41 e_42) rfl rfl ⟨(Nat.le_of_ble_eq_true rfl), (Nat.le_of_ble_eq_true rfl)⟩ (w_rec hW oM.1 (oM.2 E _ _) rfl) rfl hl.1 rfl (Nat.le_of_ble_eq_true rfl) dX7_told_79 ⟨Nat.le_refl _, Nat.le_refl _⟩) hV (fun H locs hW hV => ?_)
    exact w_retI hx hb hr hlocks hW hV (Prod.mk.inj (Option.some.inj hf)).1 (Prod.mk.inj (Option.some.inj hf)).2 dX7_told_82
  have hf := op_f y40 hf
  refine lv_tableOut (tgt := 83) hx hb dX7_told_1 (by have a_y22 := lv_neT (a := 0) y22 (by decide); have a_y23 := lv_neT (a := 1) y23 (by decide); have a_y26 := lv_neT (a := 2) y26 (by decide); have a_y27 := lv_neT (a := 3) y27 (by decide); have a_y32 := lv_neT (a := 4) y32 (by decide); have a_y37 := lv_neT (a := 5) y37 (by decide); have a_y40 := lv_neT (a := 6) y40 (by decide); omega) (by decide) ?_
  refine lv_iconst (v := (-1 : Int32)) hx hb dX7_told_83 (by decide) ?_
  exact w_retI hx hb hr hlocks hW hV (Prod.mk.inj (Option.some.inj hf)).1 (Prod.mk.inj (Option.some.inj hf)).2 dX7_told_84
set_option maxHeartbeats 8000000 in
set_option maxRecDepth 100000 in
theorem k_X7_pass (l : Launch) (E : WE) (μ : Mem) (a1 : Int32) (r : Int32) (μ' : Mem) (hf : f_X7_pass μ a1 = some (r, μ')) : Met l yX7_pass (.code yX7_pass cX7_pass 4 (some .int) :: BIG) ({ frames := 8, cells := 0, slots := 0, locals := 186 }) (PW E μ [.ref (ead E 2000), .int a1]) (QI E r μ') 0 0 (eA E) := by
  refine Met.ofW (cc := cX7_pass) (maxL := 4) (ret := (some .int)) (by decide) rfl ?_
  intro p e s m args below meth c s₁ B hml hv
  obtain ⟨rfl, hW, hZ⟩ := hv
  have hx := B.exec
  have hb := B.bytes
  have hr := B.returns
  have hB : ∀ w ∈ BIG, w.before _ s = true := fun w h => atoms_spec (ws := (.code yX7_pass cX7_pass 4 (some .int) :: BIG)) B.pre w (List.mem_cons_of_mem _ h)
  have hown : s.vm.findClass RX7 = some m.cls := findClass_of_methodNamed B.named
  have hlocks := B.notSynchronized
  have hV : va_S (eA E) s.heap s.heap [] := va_S.rf
  have hl := lv_entry ([.ref (ead E 2000), .int a1]) (n := 4) (Nat.le_of_ble_eq_true rfl)
  rw [lg_entry_eq]
  generalize (lg_sl ([.ref (ead E 2000), .int a1]) ++ List.replicate (4 - (lg_sl ([.ref (ead E 2000), .int a1])).length) Slot.unset).toArray = ls at hl ⊢
  have hl : lv_has ls 4 [(0, .ref (ead E 2000)), (1, .int a1)] := hl
  have c_29 : ∀ (n_29 : Nat) (μ_29 : Mem) (b1_29 : Int32) (b2_29 : Int32) , f_X7_pass_29 n_29 μ_29 b1_29 b2_29 = some (r, μ') → ∀ (H : Heap) (locs : List Loc) (ls : Array Slot), Wd E μ_29 s H → va_S (eA E) s.heap H locs → lv_has ls 4 [(0, .ref (ead E 2000)), (1, .int b1_29), (2, .int b2_29)] → W p l e (headSpec (.code yX7_pass cX7_pass 4 (some .int) :: BIG) ({ frames := 8, cells := 0, slots := 0, locals := 186 })).room s m ([.ref (ead E 2000), .int a1] : List Value).toArray below meth c H locs 0 0 (MQ below (QI E r μ') ([.ref (ead E 2000), .int a1] : List Value).toArray s 0 0 (eA E)) (F0 m 29 ls []) := by
    intro n_29
    induction n_29 with
    | zero =>
      intro μ_29 b1_29 b2_29 hf H locs ls hW hV hl
      cases hf
    | succ n_29 ih_29 =>
      have c_40 : ∀ (n_40 : Nat) (μ_40 : Mem) (b1_40 : Int32) (b2_40 : Int32) (b3_40 : Int32) , f_X7_pass_40 (fun μ z0 z1 => f_X7_pass_29 n_29 μ z0 z1) n_40 μ_40 b1_40 b2_40 b3_40 = some (r, μ') → ∀ (H : Heap) (locs : List Loc) (ls : Array Slot), Wd E μ_40 s H → va_S (eA E) s.heap H locs → lv_has ls 4 [(0, .ref (ead E 2000)), (1, .int b1_40), (2, .int b2_40), (3, .int b3_40)] → W p l e (headSpec (.code yX7_pass cX7_pass 4 (some .int) :: BIG) ({ frames := 8, cells := 0, slots := 0, locals := 186 })).room s m ([.ref (ead E 2000), .int a1] : List Value).toArray below meth c H locs 0 0 (MQ below (QI E r μ') ([.ref (ead E 2000), .int a1] : List Value).toArray s 0 0 (eA E)) (F0 m 40 ls []) := by
        intro n_40
        induction n_40 with
        | zero =>
          intro μ_40 b1_40 b2_40 b3_40 hf H locs ls hW hV hl
          cases hf
        | succ n_40 ih_40 =>
          intro μ_40 b1_40 b2_40 b3_40 hf H locs ls hW hV hl
          rw [f_X7_pass_40] at hf
          refine lv_iload_n hx hb dX7_pass_40 rfl (lv_at hl 3 rfl) ?_
          refine lv_aload_n hx hb dX7_pass_41 rfl (lv_at hl 0 rfl) ?_
          refine gf_RX7_108 hx hb hB hown hW dX7_pass_42 ?_
          refine lv_icmp_ge (tgt := 90) hx hb dX7_pass_45 (by decide) (fun y15 => ?_) (fun y15 => ?_)
          · have hf := op_t y15 hf
            obtain ⟨v16, e_v16, hf⟩ := op_none hf
            refine lv_iinc (v := v16) (lv' := [(2, .int v16), (0, .ref (ead E 2000)), (1, .int b1_40), (3, .int b3_40)]) hx hb dX7_pass_90 hl (k := 2) rfl (by rw [← Option.some.inj e_v16]; rfl) (by decide) rfl (fun ls hl => ?_)
            refine lv_goto (tgt := 29) hx hb dX7_pass_93 (by decide) ?_
            exact ih_29 μ_40 b1_40 v16 hf H locs ls hW hV (lv_sub hl [1, 2, 0] rfl)
          · have hf := op_f y15 hf
            refine lv_aload_n hx hb dX7_pass_48 rfl (lv_at hl 0 rfl) ?_
            refine gf_RX7_27 hx hb hB hown hW dX7_pass_49 ?_
            refine lv_iload_n hx hb dX7_pass_52 rfl (lv_at hl 3 rfl) ?_
            refine lv_sipush (v := (9999 : Int32)) hx hb dX7_pass_53 (by decide) ?_
            refine lv_aload_n hx hb dX7_pass_56 rfl (lv_at hl 0 rfl) ?_
            refine gf_RX7_27 hx hb hB hown hW dX7_pass_57 ?_
            refine lv_iload_n hx hb dX7_pass_60 rfl (lv_at hl 3 rfl) ?_
            obtain ⟨v17, e_v17, hf⟩ := op_none hf
            refine w_iald hx hb hW iM6.1 (iM6.2 E _ _) e_v17 dX7_pass_61 ?_
            refine va_mmin hx hb (hml.trans hl.1.symm) hown (hB _ q_39dd62f4) (hB _ q_6443835c) (hB _ q_544deca7) (hB _ q_4cca8523) (Nat.le_of_ble_eq_true rfl) (Nat.le_of_ble_eq_true rfl) (Nat.le_of_ble_eq_true rfl) (Nat.le_of_ble_eq_true rfl) dX7_pass_62 ?_
            obtain ⟨μ18, e_μ18, hf⟩ := op_none hf
            refine w_iast hx hb hW hV iM6.1 (fun f => iM6.2 E f _) e_μ18 dX7_pass_65 (fun H locs hW hV => ?_)
            refine lv_aload_n hx hb dX7_pass_66 rfl (lv_at hl 0 rfl) ?_
            refine gf_RX7_30 hx hb hB hown hW dX7_pass_67 ?_
            refine lv_iload_n hx hb dX7_pass_70 rfl (lv_at hl 3 rfl) ?_
            refine lv_sipush (v := (9999 : Int32)) hx hb dX7_pass_71 (by decide) ?_
            refine lv_aload_n hx hb dX7_pass_74 rfl (lv_at hl 0 rfl) ?_
            refine gf_RX7_30 hx hb hB hown hW dX7_pass_75 ?_
            refine lv_iload_n hx hb dX7_pass_78 rfl (lv_at hl 3 rfl) ?_
            obtain ⟨v19, e_v19, hf⟩ := op_none hf
            refine w_iald hx hb hW iM7.1 (iM7.2 E _ _) e_v19 dX7_pass_79 ?_
            refine va_mmin hx hb (hml.trans hl.1.symm) hown (hB _ q_39dd62f4) (hB _ q_6443835c) (hB _ q_544deca7) (hB _ q_4cca8523) (Nat.le_of_ble_eq_true rfl) (Nat.le_of_ble_eq_true rfl) (Nat.le_of_ble_eq_true rfl) (Nat.le_of_ble_eq_true rfl) dX7_pass_80 ?_
            obtain ⟨μ20, e_μ20, hf⟩ := op_none hf
            refine w_iast hx hb hW hV iM7.1 (fun f => iM7.2 E f _) e_μ20 dX7_pass_83 (fun H locs hW hV => ?_)
            obtain ⟨v21, e_v21, hf⟩ := op_none hf
            refine lv_iinc (v := v21) (lv' := [(3, .int v21), (0, .ref (ead E 2000)), (1, .int b1_40), (2, .int b2_40)]) hx hb dX7_pass_84 hl (k := 3) rfl (by rw [← Option.some.inj e_v21]; rfl) (by decide) rfl (fun ls hl => ?_)
            refine lv_goto (tgt := 40) hx hb dX7_pass_87 (by decide) ?_
            exact ih_40 μ20 b1_40 b2_40 v21 hf H locs ls hW hV (lv_sub hl [1, 2, 3, 0] rfl)
      intro μ_29 b1_29 b2_29 hf H locs ls hW hV hl
      rw [f_X7_pass_29] at hf
      refine lv_iload_n hx hb dX7_pass_29 rfl (lv_at hl 2 rfl) ?_
      refine lv_iload_n hx hb dX7_pass_30 rfl (lv_at hl 1 rfl) ?_
      refine lv_icmp_ge (tgt := 96) hx hb dX7_pass_31 (by decide) (fun y22 => ?_) (fun y22 => ?_)
      · have hf := op_t y22 hf
        refine lv_aload_n hx hb dX7_pass_96 rfl (lv_at hl 0 rfl) ?_
        refine gf_RX7_229 hx hb hB hown hW dX7_pass_97 ?_
        exact w_retI hx hb hr hlocks hW hV (Prod.mk.inj (Option.some.inj hf)).1 (Prod.mk.inj (Option.some.inj hf)).2 dX7_pass_100
      · have hf := op_f y22 hf
        refine lv_aload_n hx hb dX7_pass_34 rfl (lv_at hl 0 rfl) ?_
        obtain ⟨μ23, e_24, hf⟩ := op_none hf
        refine w_callV (rn_RX7_251 (As := []) hx hb hml hown hB hW hZ hV (k_X7_goesDay l E _ μ23 e_24) rfl rfl ⟨(Nat.le_of_ble_eq_true rfl), (Nat.le_of_ble_eq_true rfl)⟩ (w_rec hW oM.1 (oM.2 E _ _) rfl) rfl hl.1 rfl (Nat.le_of_ble_eq_true rfl) dX7_pass_35 ⟨Nat.le_refl _, Nat.le_refl _⟩) hV (fun H locs hW hV => ?_)
        refine lv_iconst (v := (0 : Int32)) hx hb dX7_pass_38 (by decide) ?_
        refine lv_istore_n (i := 3) (lv' := [(3, .int (0 : Int32)), (0, .ref (ead E 2000)), (1, .int b1_29), (2, .int b2_29)]) hx hb dX7_pass_39 rfl hl (by decide) rfl (fun ls hl => ?_)
        exact c_40 FU μ23 b1_29 b2_29 (0 : Int32) hf H locs ls hW hV (lv_sub hl [1, 2, 3, 0] rfl)
  obtain ⟨H, hH⟩ : ∃ H : Heap, H = s.heap := ⟨_, rfl⟩
  obtain ⟨locs, hlocs⟩ : ∃ locs : List Loc, locs = [] := ⟨_, rfl⟩
  rw [show (W p l e (headSpec (.code yX7_pass cX7_pass 4 (some .int) :: BIG) ({ frames := 8, cells := 0, slots := 0, locals := 186 })).room s m ([.ref (ead E 2000), .int a1] : List Value).toArray below meth c s.heap [] 0 0) = W p l e (headSpec (.code yX7_pass cX7_pass 4 (some .int) :: BIG) ({ frames := 8, cells := 0, slots := 0, locals := 186 })).room s m ([.ref (ead E 2000), .int a1] : List Value).toArray below meth c H locs 0 0 by rw [hH, hlocs]]
  have hV : va_S (eA E) s.heap H locs := by rw [hH, hlocs]; exact hV
  have hW : Wd E μ s H := by rw [hH]; exact hW
  unfold f_X7_pass at hf
  refine lv_iload_n hx hb dX7_pass_0 rfl (lv_at hl 1 rfl) ?_
  refine lv_iconst (v := (0 : Int32)) hx hb dX7_pass_1 (by decide) ?_
  refine lv_bipush (v := (60 : Int32)) hx hb dX7_pass_2 (by decide) ?_
  obtain ⟨v25, e_26, hf⟩ := op_none hf
  refine w_callN (rn_RX7_111 (As := [.int a1, .int (0 : Int32), .int (60 : Int32)]) hx hb hml hown hB hW hZ hV (k_X7_within l E _ a1 (0 : Int32) (60 : Int32) v25 e_26) rfl rfl ⟨(Nat.le_of_ble_eq_true rfl), (Nat.le_of_ble_eq_true rfl)⟩ rfl hl.1 rfl (Nat.le_of_ble_eq_true rfl) dX7_pass_4 ⟨Nat.le_refl _, Nat.le_refl _⟩) hV (fun H locs hn_v25 hW hV => ?_)
  refine lv_if_ne (tgt := 13) hx hb dX7_pass_7 (by decide) (fun y27 => ?_) (fun y27 => ?_)
  · have hf := op_f y27 hf
    refine lv_aload_n hx hb dX7_pass_13 rfl (lv_at hl 0 rfl) ?_
    refine gf_RX7_229 hx hb hB hown hW dX7_pass_14 ?_
    refine lv_iload_n hx hb dX7_pass_17 rfl (lv_at hl 1 rfl) ?_
    refine lv_iadd hx hb dX7_pass_18 ?_
    refine lv_ldc (v := (99999 : Int32)) hx hb hown (hB _ q_ace910ed) dX7_pass_19 ?_
    refine lv_icmp_le (tgt := 27) hx hb dX7_pass_21 (by decide) (fun y28 => ?_) (fun y28 => ?_)
    · have hf := op_t y28 hf
      refine lv_iconst (v := (0 : Int32)) hx hb dX7_pass_27 (by decide) ?_
      refine lv_istore_n (i := 2) (lv' := [(2, .int (0 : Int32)), (0, .ref (ead E 2000)), (1, .int a1)]) hx hb dX7_pass_28 rfl hl (by decide) rfl (fun ls hl => ?_)
      exact c_29 FU μ a1 (0 : Int32) hf H locs ls hW hV (lv_sub hl [1, 2, 0] rfl)
    · have hf := op_f y28 hf
      refine lv_bipush (v := (-3 : Int32)) hx hb dX7_pass_24 (by decide) ?_
      exact w_retI hx hb hr hlocks hW hV (Prod.mk.inj (Option.some.inj hf)).1 (Prod.mk.inj (Option.some.inj hf)).2 dX7_pass_26
  · have hf := op_t y27 hf
    refine lv_bipush (v := (-2 : Int32)) hx hb dX7_pass_10 (by decide) ?_
    exact w_retI hx hb hr hlocks hW hV (Prod.mk.inj (Option.some.inj hf)).1 (Prod.mk.inj (Option.some.inj hf)).2 dX7_pass_12
