set_option maxHeartbeats 8000000 in
set_option maxRecDepth 100000 in
theorem k_X7_shift (l : Launch) (E : WE) (μ : Mem) (a1 : Int32) (a2 : Int32) (a3 : Int32) (a4 : Int32) (a5 : Int32) (r : Int32) (μ' : Mem) (hf : f_X7_shift μ a1 a2 a3 a4 a5 = some (r, μ')) : Met l yX7_shift (.code yX7_shift cX7_shift 7 (some .int) :: BIG) ({ frames := 2, cells := 0, slots := 0, locals := 42 }) (PW E μ [.ref (ead E 2000), .int a1, .int a2, .int a3, .int a4, .int a5]) (QI E r μ') 0 0 (eA E) := by
  refine Met.ofW (cc := cX7_shift) (maxL := 7) (ret := (some .int)) (by decide) rfl ?_
  intro p e s m args below meth c s₁ B hml hv
  obtain ⟨rfl, hW, hZ⟩ := hv
  have hx := B.exec
  have hb := B.bytes
  have hr := B.returns
  have hB : ∀ w ∈ BIG, w.before _ s = true := fun w h => atoms_spec (ws := (.code yX7_shift cX7_shift 7 (some .int) :: BIG)) B.pre w (List.mem_cons_of_mem _ h)
  have hown : s.vm.findClass RX7 = some m.cls := findClass_of_methodNamed B.named
  have hlocks := B.notSynchronized
  have hV : va_S (eA E) s.heap s.heap [] := va_S.rf
  have hl := lv_entry ([.ref (ead E 2000), .int a1, .int a2, .int a3, .int a4, .int a5]) (n := 7) (Nat.le_of_ble_eq_true rfl)
  rw [lg_entry_eq]
  generalize (lg_sl ([.ref (ead E 2000), .int a1, .int a2, .int a3, .int a4, .int a5]) ++ List.replicate (7 - (lg_sl ([.ref (ead E 2000), .int a1, .int a2, .int a3, .int a4, .int a5])).length) Slot.unset).toArray = ls at hl ⊢
  have hl : lv_has ls 7 [(0, .ref (ead E 2000)), (1, .int a1), (2, .int a2), (3, .int a3), (4, .int a4), (5, .int a5)] := hl
  have c_124 : ∀ (n_124 : Nat) (μ_124 : Mem) (b1_124 : Int32) (b2_124 : Int32) (b3_124 : Int32) (b4_124 : Int32) (b5_124 : Int32) (b6_124 : Int32) , f_X7_shift_124 n_124 μ_124 b1_124 b2_124 b3_124 b4_124 b5_124 b6_124 = some (r, μ') → ∀ (H : Heap) (locs : List Loc) (ls : Array Slot), Wd E μ_124 s H → va_S (eA E) s.heap H locs → lv_has ls 7 [(0, .ref (ead E 2000)), (1, .int b1_124), (2, .int b2_124), (3, .int b3_124), (4, .int b4_124), (5, .int b5_124), (6, .int b6_124)] → W p l e (headSpec (.code yX7_shift cX7_shift 7 (some .int) :: BIG) ({ frames := 2, cells := 0, slots := 0, locals := 42 })).room s m ([.ref (ead E 2000), .int a1, .int a2, .int a3, .int a4, .int a5] : List Value).toArray below meth c H locs 0 0 (MQ below (QI E r μ') ([.ref (ead E 2000), .int a1, .int a2, .int a3, .int a4, .int a5] : List Value).toArray s 0 0 (eA E)) (F0 m 124 ls []) := by
    intro n_124
    induction n_124 with
    | zero =>
      intro μ_124 b1_124 b2_124 b3_124 b4_124 b5_124 b6_124 hf H locs ls hW hV hl
      cases hf
    | succ n_124 ih_124 =>
      intro μ_124 b1_124 b2_124 b3_124 b4_124 b5_124 b6_124 hf H locs ls hW hV hl
      rw [f_X7_shift_124] at hf
      refine lv_iload hx hb dX7_shift_124 (lv_at hl 6 rfl) ?_
      refine lv_if_lt (tgt := 164) hx hb dX7_shift_126 (by decide) (fun y32 => ?_) (fun y32 => ?_)
      · have hf := op_t y32 hf
        refine lv_goto (tgt := 212) hx hb dX7_shift_164 (by decide) ?_
        refine lv_iload hx hb dX7_shift_212 (lv_at hl 5 rfl) ?_
        exact w_retI hx hb hr hlocks hW hV (Prod.mk.inj (Option.some.inj hf)).1 (Prod.mk.inj (Option.some.inj hf)).2 dX7_shift_214
      · have hf := op_f y32 hf
        refine lv_aload_n hx hb dX7_shift_129 rfl (lv_at hl 0 rfl) ?_
        refine gf_RX7_97 hx hb hB hown hW dX7_shift_130 ?_
        refine lv_bipush (v := (60 : Int32)) hx hb dX7_shift_133 (by decide) ?_
        refine lv_iload_n hx hb dX7_shift_135 rfl (lv_at hl 3 rfl) ?_
        refine lv_imul hx hb dX7_shift_136 ?_
        refine lv_iload hx hb dX7_shift_137 (lv_at hl 4 rfl) ?_
        refine lv_iadd hx hb dX7_shift_139 ?_
        refine lv_iload hx hb dX7_shift_140 (lv_at hl 6 rfl) ?_
        refine lv_iadd hx hb dX7_shift_142 ?_
        refine lv_aload_n hx hb dX7_shift_143 rfl (lv_at hl 0 rfl) ?_
        refine gf_RX7_97 hx hb hB hown hW dX7_shift_144 ?_
        refine lv_bipush (v := (60 : Int32)) hx hb dX7_shift_147 (by decide) ?_
        refine lv_iload_n hx hb dX7_shift_149 rfl (lv_at hl 1 rfl) ?_
        refine lv_imul hx hb dX7_shift_150 ?_
        refine lv_iload_n hx hb dX7_shift_151 rfl (lv_at hl 2 rfl) ?_
        refine lv_iadd hx hb dX7_shift_152 ?_
        refine lv_iload hx hb dX7_shift_153 (lv_at hl 6 rfl) ?_
        refine lv_iadd hx hb dX7_shift_155 ?_
        obtain ⟨v33, e_v33, hf⟩ := op_none hf
        refine w_lald hx hb hW jM44.1 (jM44.2 E _ _) e_v33 dX7_shift_156 ?_
        obtain ⟨μ34, e_μ34, hf⟩ := op_none hf
        refine w_last hx hb hW hV jM44.1 (fun g => jM44.2 E _ g) e_μ34 dX7_shift_157 (fun H locs hW hV => ?_)
        obtain ⟨v35, e_v35, hf⟩ := op_none hf
        refine lv_iinc (v := v35) (lv' := [(6, .int v35), (0, .ref (ead E 2000)), (1, .int b1_124), (2, .int b2_124), (3, .int b3_124), (4, .int b4_124), (5, .int b5_124)]) hx hb dX7_shift_158 hl (k := 6) rfl (by rw [← Option.some.inj e_v35]; rfl) (by decide) rfl (fun ls hl => ?_)
        refine lv_goto (tgt := 124) hx hb dX7_shift_161 (by decide) ?_
        exact ih_124 μ34 b1_124 b2_124 b3_124 b4_124 b5_124 v35 hf H locs ls hW hV (lv_sub hl [1, 2, 3, 4, 5, 6, 0] rfl)
  have c_170 : ∀ (n_170 : Nat) (μ_170 : Mem) (b1_170 : Int32) (b2_170 : Int32) (b3_170 : Int32) (b4_170 : Int32) (b5_170 : Int32) (b6_170 : Int32) , f_X7_shift_170 n_170 μ_170 b1_170 b2_170 b3_170 b4_170 b5_170 b6_170 = some (r, μ') → ∀ (H : Heap) (locs : List Loc) (ls : Array Slot), Wd E μ_170 s H → va_S (eA E) s.heap H locs → lv_has ls 7 [(0, .ref (ead E 2000)), (1, .int b1_170), (2, .int b2_170), (3, .int b3_170), (4, .int b4_170), (5, .int b5_170), (6, .int b6_170)] → W p l e (headSpec (.code yX7_shift cX7_shift 7 (some .int) :: BIG) ({ frames := 2, cells := 0, slots := 0, locals := 42 })).room s m ([.ref (ead E 2000), .int a1, .int a2, .int a3, .int a4, .int a5] : List Value).toArray below meth c H locs 0 0 (MQ below (QI E r μ') ([.ref (ead E 2000), .int a1, .int a2, .int a3, .int a4, .int a5] : List Value).toArray s 0 0 (eA E)) (F0 m 170 ls []) := by
    intro n_170
    induction n_170 with
    | zero =>
      intro μ_170 b1_170 b2_170 b3_170 b4_170 b5_170 b6_170 hf H locs ls hW hV hl
      cases hf
    | succ n_170 ih_170 =>
      intro μ_170 b1_170 b2_170 b3_170 b4_170 b5_170 b6_170 hf H locs ls hW hV hl
      rw [f_X7_shift_170] at hf
      refine lv_iload hx hb dX7_shift_170 (lv_at hl 6 rfl) ?_
      refine lv_iload hx hb dX7_shift_172 (lv_at hl 5 rfl) ?_
      refine lv_icmp_ge (tgt := 212) hx hb dX7_shift_174 (by decide) (fun y36 => ?_) (fun y36 => ?_)
      · have hf := op_t y36 hf
        refine lv_iload hx hb dX7_shift_212 (lv_at hl 5 rfl) ?_
        exact w_retI hx hb hr hlocks hW hV (Prod.mk.inj (Option.some.inj hf)).1 (Prod.mk.inj (Option.some.inj hf)).2 dX7_shift_214
      · have hf := op_f y36 hf
        refine lv_aload_n hx hb dX7_shift_177 rfl (lv_at hl 0 rfl) ?_
        refine gf_RX7_97 hx hb hB hown hW dX7_shift_178 ?_
        refine lv_bipush (v := (60 : Int32)) hx hb dX7_shift_181 (by decide) ?_
        refine lv_iload_n hx hb dX7_shift_183 rfl (lv_at hl 3 rfl) ?_
        refine lv_imul hx hb dX7_shift_184 ?_
        refine lv_iload hx hb dX7_shift_185 (lv_at hl 4 rfl) ?_
        refine lv_iadd hx hb dX7_shift_187 ?_
        refine lv_iload hx hb dX7_shift_188 (lv_at hl 6 rfl) ?_
        refine lv_iadd hx hb dX7_shift_190 ?_
        refine lv_aload_n hx hb dX7_shift_191 rfl (lv_at hl 0 rfl) ?_
        refine gf_RX7_97 hx hb hB hown hW dX7_shift_192 ?_
        refine lv_bipush (v := (60 : Int32)) hx hb dX7_shift_195 (by decide) ?_
        refine lv_iload_n hx hb dX7_shift_197 rfl (lv_at hl 1 rfl) ?_
        refine lv_imul hx hb dX7_shift_198 ?_
        refine lv_iload_n hx hb dX7_shift_199 rfl (lv_at hl 2 rfl) ?_
        refine lv_iadd hx hb dX7_shift_200 ?_
        refine lv_iload hx hb dX7_shift_201 (lv_at hl 6 rfl) ?_
        refine lv_iadd hx hb dX7_shift_203 ?_
        obtain ⟨v37, e_v37, hf⟩ := op_none hf
        refine w_lald hx hb hW jM44.1 (jM44.2 E _ _) e_v37 dX7_shift_204 ?_
        obtain ⟨μ38, e_μ38, hf⟩ := op_none hf
        refine w_last hx hb hW hV jM44.1 (fun g => jM44.2 E _ g) e_μ38 dX7_shift_205 (fun H locs hW hV => ?_)
        obtain ⟨v39, e_v39, hf⟩ := op_none hf
        refine lv_iinc (v := v39) (lv' := [(6, .int v39), (0, .ref (ead E 2000)), (1, .int b1_170), (2, .int b2_170), (3, .int b3_170), (4, .int b4_170), (5, .int b5_170)]) hx hb dX7_shift_206 hl (k := 6) rfl (by rw [← Option.some.inj e_v39]; rfl) (by decide) rfl (fun ls hl => ?_)
        refine lv_goto (tgt := 170) hx hb dX7_shift_209 (by decide) ?_
        exact ih_170 μ38 b1_170 b2_170 b3_170 b4_170 b5_170 v39 hf H locs ls hW hV (lv_sub hl [1, 2, 3, 4, 5, 6, 0] rfl)
  have c_167 : ∀ (μ_167 : Mem) (b1_167 : Int32) (b2_167 : Int32) (b3_167 : Int32) (b4_167 : Int32) (b5_167 : Int32) , f_X7_shift_167 μ_167 b1_167 b2_167 b3_167 b4_167 b5_167 = some (r, μ') → ∀ (H : Heap) (locs : List Loc) (ls : Array Slot), Wd E μ_167 s H → va_S (eA E) s.heap H locs → lv_has ls 7 [(0, .ref (ead E 2000)), (1, .int b1_167), (2, .int b2_167), (3, .int b3_167), (4, .int b4_167), (5, .int b5_167)] → W p l e (headSpec (.code yX7_shift cX7_shift 7 (some .int) :: BIG) ({ frames := 2, cells := 0, slots := 0, locals := 42 })).room s m ([.ref (ead E 2000), .int a1, .int a2, .int a3, .int a4, .int a5] : List Value).toArray below meth c H locs 0 0 (MQ below (QI E r μ') ([.ref (ead E 2000), .int a1, .int a2, .int a3, .int a4, .int a5] : List Value).toArray s 0 0 (eA E)) (F0 m 167 ls []) := by
    intro μ_167 b1_167 b2_167 b3_167 b4_167 b5_167 hf H locs ls hW hV hl
    unfold f_X7_shift_167 at hf
    refine lv_iconst (v := (0 : Int32)) hx hb dX7_shift_167 (by decide) ?_
    refine lv_istore (i := 6) (lv' := [(6, .int (0 : Int32)), (0, .ref (ead E 2000)), (1, .int b1_167), (2, .int b2_167), (3, .int b3_167), (4, .int b4_167), (5, .int b5_167)]) hx hb dX7_shift_168 hl (by decide) rfl (fun ls hl => ?_)
    exact c_170 FU μ_167 b1_167 b2_167 b3_167 b4_167 b5_167 (0 : Int32) hf H locs ls hW hV (lv_sub hl [1, 2, 3, 4, 5, 6, 0] rfl)
  obtain ⟨H, hH⟩ : ∃ H : Heap, H = s.heap := ⟨_, rfl⟩
  obtain ⟨locs, hlocs⟩ : ∃ locs : List Loc, locs = [] := ⟨_, rfl⟩
  rw [show (W p l e (headSpec (.code yX7_shift cX7_shift 7 (some .int) :: BIG) ({ frames := 2, cells := 0, slots := 0, locals := 42 })).room s m ([.ref (ead E 2000), .int a1, .int a2, .int a3, .int a4, .int a5] : List Value).toArray below meth c s.heap [] 0 0) = W p l e (headSpec (.code yX7_shift cX7_shift 7 (some .int) :: BIG) ({ frames := 2, cells := 0, slots := 0, locals := 42 })).room s m ([.ref (ead E 2000), .int a1, .int a2, .int a3, .int a4, .int a5] : List Value).toArray below meth c H locs 0 0 by rw [hH, hlocs]]
  have hV : va_S (eA E) s.heap H locs := by rw [hH, hlocs]; exact hV
  have hW : Wd E μ s H := by rw [hH]; exact hW
  unfold f_X7_shift at hf
  refine lv_iload_n hx hb dX7_shift_0 rfl (lv_at hl 1 rfl) ?_
  obtain ⟨v40, e_41, hf⟩ := op_none hf
  refine w_callN (rn_RX7_329 (As := [.int a1]) hx hb hml hown hB hW hZ hV (k_X7_isTape l E _ a1 v40 e_41) rfl rfl ⟨(Nat.le_of_ble_eq_true rfl), (Nat.le_of_ble_eq_true rfl)⟩ rfl hl.1 rfl (Nat.le_of_ble_eq_true rfl) dX7_shift_1 ⟨Nat.le_refl _, Nat.le_refl _⟩) hV (fun H locs hn_v40 hW hV => ?_)
  refine lv_if_eq (tgt := 14) hx hb dX7_shift_4 (by decide) (fun y42 => ?_) (fun y42 => ?_)
  · have hf := op_t y42 hf
    refine lv_iconst (v := (-1 : Int32)) hx hb dX7_shift_14 (by decide) ?_
    exact w_retI hx hb hr hlocks hW hV (Prod.mk.inj (Option.some.inj hf)).1 (Prod.mk.inj (Option.some.inj hf)).2 dX7_shift_15
  · have hf := op_f y42 hf
    refine lv_iload_n hx hb dX7_shift_7 rfl (lv_at hl 3 rfl) ?_
    obtain ⟨v43, e_44, hf⟩ := op_none hf
    refine w_callN (rn_RX7_329 (As := [.int a3]) hx hb hml hown hB hW hZ hV (k_X7_isTape l E _ a3 v43 e_44) rfl rfl ⟨(Nat.le_of_ble_eq_true rfl), (Nat.le_of_ble_eq_true rfl)⟩ rfl hl.1 rfl (Nat.le_of_ble_eq_true rfl) dX7_shift_8 ⟨Nat.le_refl _, Nat.le_refl _⟩) hV (fun H locs hn_v43 hW hV => ?_)
    refine lv_if_ne (tgt := 16) hx hb dX7_shift_11 (by decide) (fun y45 => ?_) (fun y45 => ?_)
    · have hf := op_f y45 hf
      refine lv_aload_n hx hb dX7_shift_16 rfl (lv_at hl 0 rfl) ?_
      refine gf_RX7_91 hx hb hB hown hW dX7_shift_17 ?_
      refine lv_iload_n hx hb dX7_shift_20 rfl (lv_at hl 1 rfl) ?_
      obtain ⟨v46, e_v46, hf⟩ := op_none hf
      refine w_iald hx hb hW iM42.1 (iM42.2 E _ _) e_v46 dX7_shift_21 ?_
      refine lv_if_lt (tgt := 34) hx hb dX7_shift_22 (by decide) (fun y47 => ?_) (fun y47 => ?_)
      · have hf := op_t y47 hf
        refine lv_bipush (v := (-11 : Int32)) hx hb dX7_shift_34 (by decide) ?_
        exact w_retI hx hb hr hlocks hW hV (Prod.mk.inj (Option.some.inj hf)).1 (Prod.mk.inj (Option.some.inj hf)).2 dX7_shift_36
      · have hf := op_f y47 hf
        refine lv_aload_n hx hb dX7_shift_25 rfl (lv_at hl 0 rfl) ?_
        refine gf_RX7_91 hx hb hB hown hW dX7_shift_26 ?_
        refine lv_iload_n hx hb dX7_shift_29 rfl (lv_at hl 3 rfl) ?_
        obtain ⟨v48, e_v48, hf⟩ := op_none hf
        refine w_iald hx hb hW iM42.1 (iM42.2 E _ _) e_v48 dX7_shift_30 ?_
        refine lv_if_ge (tgt := 37) hx hb dX7_shift_31 (by decide) (fun y49 => ?_) (fun y49 => ?_)
        · have hf := op_t y49 hf
          refine lv_aload_n hx hb dX7_shift_37 rfl (lv_at hl 0 rfl) ?_
          refine gf_RX7_91 hx hb hB hown hW dX7_shift_38 ?_
          refine lv_iload_n hx hb dX7_shift_41 rfl (lv_at hl 1 rfl) ?_
          obtain ⟨v50, e_v50, hf⟩ := op_none hf
          refine w_iald hx hb hW iM42.1 (iM42.2 E _ _) e_v50 dX7_shift_42 ?_
          refine lv_aload_n hx hb dX7_shift_43 rfl (lv_at hl 0 rfl) ?_
          refine gf_RX7_91 hx hb hB hown hW dX7_shift_44 ?_
          refine lv_iload_n hx hb dX7_shift_47 rfl (lv_at hl 3 rfl) ?_
          obtain ⟨v51, e_v51, hf⟩ := op_none hf
          refine w_iald hx hb hW iM42.1 (iM42.2 E _ _) e_v51 dX7_shift_48 ?_
          refine lv_icmp_eq (tgt := 55) hx hb dX7_shift_49 (by decide) (fun y52 => ?_) (fun y52 => ?_)
          · have hf := op_t y52 hf
            refine lv_iload hx hb dX7_shift_55 (lv_at hl 5 rfl) ?_
            refine lv_if_lt (tgt := 104) hx hb dX7_shift_57 (by decide) (fun y53 => ?_) (fun y53 => ?_)
            · have hf := op_t y53 hf
              refine lv_bipush (v := (-13 : Int32)) hx hb dX7_shift_104 (by decide) ?_
              exact w_retI hx hb hr hlocks hW hV (Prod.mk.inj (Option.some.inj hf)).1 (Prod.mk.inj (Option.some.inj hf)).2 dX7_shift_106
            · have hf := op_f y53 hf
              refine lv_iload_n hx hb dX7_shift_60 rfl (lv_at hl 2 rfl) ?_
              refine lv_if_lt (tgt := 104) hx hb dX7_shift_61 (by decide) (fun y54 => ?_) (fun y54 => ?_)
              · have hf := op_t y54 hf
                refine lv_bipush (v := (-13 : Int32)) hx hb dX7_shift_104 (by decide) ?_
                exact w_retI hx hb hr hlocks hW hV (Prod.mk.inj (Option.some.inj hf)).1 (Prod.mk.inj (Option.some.inj hf)).2 dX7_shift_106
              · have hf := op_f y54 hf
                refine lv_iload hx hb dX7_shift_64 (lv_at hl 4 rfl) ?_
                refine lv_if_lt (tgt := 104) hx hb dX7_shift_66 (by decide) (fun y55 => ?_) (fun y55 => ?_)
                · have hf := op_t y55 hf
                  refine lv_bipush (v := (-13 : Int32)) hx hb dX7_shift_104 (by decide) ?_
                  exact w_retI hx hb hr hlocks hW hV (Prod.mk.inj (Option.some.inj hf)).1 (Prod.mk.inj (Option.some.inj hf)).2 dX7_shift_106
                · have hf := op_f y55 hf
                  refine lv_iload_n hx hb dX7_shift_69 rfl (lv_at hl 2 rfl) ?_
                  refine lv_i2l hx hb dX7_shift_70 rfl ?_
                  refine lv_iload hx hb dX7_shift_71 (lv_at hl 5 rfl) ?_
                  refine lv_i2l hx hb dX7_shift_73 rfl ?_
                  refine lv_ladd hx hb dX7_shift_74 ?_
                  refine lv_aload_n hx hb dX7_shift_75 rfl (lv_at hl 0 rfl) ?_
                  refine gf_RX7_94 hx hb hB hown hW dX7_shift_76 ?_
                  refine lv_iload_n hx hb dX7_shift_79 rfl (lv_at hl 1 rfl) ?_
                  obtain ⟨v56, e_v56, hf⟩ := op_none hf
                  refine w_iald hx hb hW iM43.1 (iM43.2 E _ _) e_v56 dX7_shift_80 ?_
                  refine lv_i2l hx hb dX7_shift_81 rfl ?_
                  refine W.lcmp hx hb dX7_shift_82 ?_
                  refine lv_if_gt (tgt := 104) hx hb dX7_shift_83 (by decide) (fun y57 => ?_) (fun y57 => ?_)
                  · have hf := op_t y57 hf
                    refine lv_bipush (v := (-13 : Int32)) hx hb dX7_shift_104 (by decide) ?_
                    exact w_retI hx hb hr hlocks hW hV (Prod.mk.inj (Option.some.inj hf)).1 (Prod.mk.inj (Option.some.inj hf)).2 dX7_shift_106
                  · have hf := op_f y57 hf
                    refine lv_iload hx hb dX7_shift_86 (lv_at hl 4 rfl) ?_
                    refine lv_i2l hx hb dX7_shift_88 rfl ?_
                    refine lv_iload hx hb dX7_shift_89 (lv_at hl 5 rfl) ?_
                    refine lv_i2l hx hb dX7_shift_91 rfl ?_
                    refine lv_ladd hx hb dX7_shift_92 ?_
                    refine lv_aload_n hx hb dX7_shift_93 rfl (lv_at hl 0 rfl) ?_
                    refine gf_RX7_94 hx hb hB hown hW dX7_shift_94 ?_
                    refine lv_iload_n hx hb dX7_shift_97 rfl (lv_at hl 3 rfl) ?_
                    obtain ⟨v58, e_v58, hf⟩ := op_none hf
                    refine w_iald hx hb hW iM43.1 (iM43.2 E _ _) e_v58 dX7_shift_98 ?_
                    refine lv_i2l hx hb dX7_shift_99 rfl ?_
                    refine W.lcmp hx hb dX7_shift_100 ?_
                    refine lv_if_le (tgt := 107) hx hb dX7_shift_101 (by decide) (fun y59 => ?_) (fun y59 => ?_)
                    · have hf := op_t y59 hf
                      refine lv_iload_n hx hb dX7_shift_107 rfl (lv_at hl 1 rfl) ?_
                      refine lv_iload_n hx hb dX7_shift_108 rfl (lv_at hl 3 rfl) ?_
                      refine lv_icmp_ne (tgt := 167) hx hb dX7_shift_109 (by decide) (fun y60 => ?_) (fun y60 => ?_)
                      · have hf := op_f y60 hf
                        exact c_167 μ a1 a2 a3 a4 a5 hf H locs ls hW hV (lv_sub hl [0, 1, 2, 3, 4, 5] rfl)
                      · have hf := op_t y60 hf
                        refine lv_iload_n hx hb dX7_shift_112 rfl (lv_at hl 2 rfl) ?_
                        refine lv_iload hx hb dX7_shift_113 (lv_at hl 4 rfl) ?_
                        refine lv_icmp_ge (tgt := 167) hx hb dX7_shift_115 (by decide) (fun y61 => ?_) (fun y61 => ?_)
                        · have hf := op_t y61 hf
                          exact c_167 μ a1 a2 a3 a4 a5 hf H locs ls hW hV (lv_sub hl [0, 1, 2, 3, 4, 5] rfl)
                        · have hf := op_f y61 hf
                          refine lv_iload hx hb dX7_shift_118 (lv_at hl 5 rfl) ?_
                          refine lv_iconst (v := (1 : Int32)) hx hb dX7_shift_120 (by decide) ?_
                          refine lv_isub hx hb dX7_shift_121 ?_
                          obtain ⟨v62, e_v62, hf⟩ := op_none hf
                          refine lv_top' (Option.some.inj e_v62) ?_
                          refine lv_istore (i := 6) (lv' := [(6, .int v62), (0, .ref (ead E 2000)), (1, .int a1), (2, .int a2), (3, .int a3), (4, .int a4), (5, .int a5)]) hx hb dX7_shift_122 hl (by decide) rfl (fun ls hl => ?_)
                          exact c_124 FU μ a1 a2 a3 a4 a5 v62 hf H locs ls hW hV (lv_sub hl [1, 2, 3, 4, 5, 6, 0] rfl)
                    · have hf := op_f y59 hf
                      refine lv_bipush (v := (-13 : Int32)) hx hb dX7_shift_104 (by decide) ?_
                      exact w_retI hx hb hr hlocks hW hV (Prod.mk.inj (Option.some.inj hf)).1 (Prod.mk.inj (Option.some.inj hf)).2 dX7_shift_106
          · have hf := op_f y52 hf
            refine lv_bipush (v := (-12 : Int32)) hx hb dX7_shift_52 (by decide) ?_
            exact w_retI hx hb hr hlocks hW hV (Prod.mk.inj (Option.some.inj hf)).1 (Prod.mk.inj (Option.some.inj hf)).2 dX7_shift_54
        · have hf := op_f y49 hf
          refine lv_bipush (v := (-11 : Int32)) hx hb dX7_shift_34 (by decide) ?_
          exact w_retI hx hb hr hlocks hW hV (Prod.mk.inj (Option.some.inj hf)).1 (Prod.mk.inj (Option.some.inj hf)).2 dX7_shift_36
    · have hf := op_t y45 hf
      refine lv_iconst (v := (-1 : Int32)) hx hb dX7_shift_14 (by decide) ?_
      exact w_retI hx hb hr hlocks hW hV (Prod.mk.inj (Option.some.inj hf)).1 (Prod.mk.inj (Option.some.inj hf)).2 dX7_shift_15
