set_option maxHeartbeats 8000000 in
set_option maxRecDepth 100000 in
theorem k_X7_keep (l : Launch) (E : WE) (μ : Mem) (k1 : Nat) (h1 : isI k1 126) (μ' : Mem) (hf : f_X7_keep μ k1 = some μ') : Met l yX7_keep (.code yX7_keep cX7_keep 3 none :: BIG) ({ frames := 0, cells := 0, slots := 0, locals := 0 }) (PW E μ [.ref (ead E 2000), .ref (ead E k1)]) (QV E μ') 0 0 (eA E) := by
  refine Met.ofW (cc := cX7_keep) (maxL := 3) (ret := none) (by decide) rfl ?_
  intro p e s m args below meth c s₁ B hml hv
  obtain ⟨rfl, hW, hZ⟩ := hv
  have hx := B.exec
  have hb := B.bytes
  have hr := B.returns
  have hB : ∀ w ∈ BIG, w.before _ s = true := fun w h => atoms_spec (ws := (.code yX7_keep cX7_keep 3 none :: BIG)) B.pre w (List.mem_cons_of_mem _ h)
  have hown : s.vm.findClass RX7 = some m.cls := findClass_of_methodNamed B.named
  have hlocks := B.notSynchronized
  have hV : va_S (eA E) s.heap s.heap [] := va_S.rf
  have hl := lv_entry ([.ref (ead E 2000), .ref (ead E k1)]) (n := 3) (Nat.le_of_ble_eq_true rfl)
  rw [lg_entry_eq]
  generalize (lg_sl ([.ref (ead E 2000), .ref (ead E k1)]) ++ List.replicate (3 - (lg_sl ([.ref (ead E 2000), .ref (ead E k1)])).length) Slot.unset).toArray = ls at hl ⊢
  have hl : lv_has ls 3 [(0, .ref (ead E 2000)), (1, .ref (ead E k1))] := hl
  have c_197 : ∀ (n_197 : Nat) (μ_197 : Mem) (b2_197 : Int32) , f_X7_keep_197 k1 n_197 μ_197 b2_197 = some μ' → ∀ (H : Heap) (locs : List Loc) (ls : Array Slot), Wd E μ_197 s H → va_S (eA E) s.heap H locs → lv_has ls 3 [(0, .ref (ead E 2000)), (1, .ref (ead E k1)), (2, .int b2_197)] → W p l e (headSpec (.code yX7_keep cX7_keep 3 none :: BIG) ({ frames := 0, cells := 0, slots := 0, locals := 0 })).room s m ([.ref (ead E 2000), .ref (ead E k1)] : List Value).toArray below meth c H locs 0 0 (MQ below (QV E μ') ([.ref (ead E 2000), .ref (ead E k1)] : List Value).toArray s 0 0 (eA E)) (F0 m 197 ls []) := by
    intro n_197
    induction n_197 with
    | zero =>
      intro μ_197 b2_197 hf H locs ls hW hV hl
      cases hf
    | succ n_197 ih_197 =>
      intro μ_197 b2_197 hf H locs ls hW hV hl
      rw [f_X7_keep_197] at hf
      refine lv_iload_n hx hb dX7_keep_197 rfl (lv_at hl 2 rfl) ?_
      refine lv_bipush (v := (8 : Int32)) hx hb dX7_keep_198 (by decide) ?_
      refine lv_icmp_ge (tgt := 233) hx hb dX7_keep_200 (by decide) (fun y45 => ?_) (fun y45 => ?_)
      · have hf := op_t y45 hf
        refine lv_aload_n hx hb dX7_keep_233 rfl (lv_at hl 1 rfl) ?_
        refine lv_bipush (v := (120 : Int32)) hx hb dX7_keep_234 (by decide) ?_
        refine lv_aload_n hx hb dX7_keep_236 rfl (lv_at hl 0 rfl) ?_
        refine gf_RX7_108 hx hb hB hown hW dX7_keep_237 ?_
        obtain ⟨μ46, e_μ46, hf⟩ := op_none hf
        refine w_iast hx hb hW hV h1.1 (fun f => h1.2 E f _) e_μ46 dX7_keep_240 (fun H locs hW hV => ?_)
        refine lv_aload_n hx hb dX7_keep_241 rfl (lv_at hl 1 rfl) ?_
        refine lv_bipush (v := (121 : Int32)) hx hb dX7_keep_242 (by decide) ?_
        refine lv_aload_n hx hb dX7_keep_244 rfl (lv_at hl 0 rfl) ?_
        refine gf_RX7_101 hx hb hB hown hW dX7_keep_245 ?_
        obtain ⟨μ47, e_μ47, hf⟩ := op_none hf
        refine w_iast hx hb hW hV h1.1 (fun f => h1.2 E f _) e_μ47 dX7_keep_248 (fun H locs hW hV => ?_)
        refine lv_aload_n hx hb dX7_keep_249 rfl (lv_at hl 1 rfl) ?_
        refine lv_bipush (v := (122 : Int32)) hx hb dX7_keep_250 (by decide) ?_
        refine lv_aload_n hx hb dX7_keep_252 rfl (lv_at hl 0 rfl) ?_
        refine gf_RX7_229 hx hb hB hown hW dX7_keep_253 ?_
        obtain ⟨μ48, e_μ48, hf⟩ := op_none hf
        refine w_iast hx hb hW hV h1.1 (fun f => h1.2 E f _) e_μ48 dX7_keep_256 (fun H locs hW hV => ?_)
        refine lv_aload_n hx hb dX7_keep_257 rfl (lv_at hl 1 rfl) ?_
        refine lv_bipush (v := (123 : Int32)) hx hb dX7_keep_258 (by decide) ?_
        refine lv_aload_n hx hb dX7_keep_260 rfl (lv_at hl 0 rfl) ?_
        refine gf_RX7_289 hx hb hB hown hW dX7_keep_261 ?_
        obtain ⟨μ49, e_μ49, hf⟩ := op_none hf
        refine w_iast hx hb hW hV h1.1 (fun f => h1.2 E f _) e_μ49 dX7_keep_264 (fun H locs hW hV => ?_)
        refine lv_aload_n hx hb dX7_keep_265 rfl (lv_at hl 1 rfl) ?_
        refine lv_bipush (v := (124 : Int32)) hx hb dX7_keep_266 (by decide) ?_
        refine lv_aload_n hx hb dX7_keep_268 rfl (lv_at hl 0 rfl) ?_
        refine gf_RX7_299 hx hb hB hown hW dX7_keep_269 ?_
        refine lv_bipush (v := (100 : Int32)) hx hb dX7_keep_272 (by decide) ?_
        refine lv_aload_n hx hb dX7_keep_274 rfl (lv_at hl 0 rfl) ?_
        refine gf_RX7_302 hx hb hB hown hW dX7_keep_275 ?_
        refine lv_imul hx hb dX7_keep_278 ?_
        refine lv_iadd hx hb dX7_keep_279 ?_
        obtain ⟨μ50, e_μ50, hf⟩ := op_none hf
        refine w_iast hx hb hW hV h1.1 (fun f => h1.2 E f _) e_μ50 dX7_keep_280 (fun H locs hW hV => ?_)
        refine lv_aload_n hx hb dX7_keep_281 rfl (lv_at hl 1 rfl) ?_
        refine lv_bipush (v := (125 : Int32)) hx hb dX7_keep_282 (by decide) ?_
        refine lv_aload_n hx hb dX7_keep_284 rfl (lv_at hl 0 rfl) ?_
        refine gf_RX7_105 hx hb hB hown hW dX7_keep_285 ?_
        obtain ⟨μ51, e_μ51, hf⟩ := op_none hf
        refine w_iast hx hb hW hV h1.1 (fun f => h1.2 E f _) e_μ51 dX7_keep_288 (fun H locs hW hV => ?_)
        exact w_retV hx hb hr hlocks hW hV (Option.some.inj hf) dX7_keep_289
      · have hf := op_f y45 hf
        refine lv_aload_n hx hb dX7_keep_203 rfl (lv_at hl 1 rfl) ?_
        refine lv_bipush (v := (104 : Int32)) hx hb dX7_keep_204 (by decide) ?_
        refine lv_iload_n hx hb dX7_keep_206 rfl (lv_at hl 2 rfl) ?_
        refine lv_iadd hx hb dX7_keep_207 ?_
        refine lv_aload_n hx hb dX7_keep_208 rfl (lv_at hl 0 rfl) ?_
        refine gf_RX7_76 hx hb hB hown hW dX7_keep_209 ?_
        refine lv_iload_n hx hb dX7_keep_212 rfl (lv_at hl 2 rfl) ?_
        obtain ⟨v52, e_v52, hf⟩ := op_none hf
        refine w_iald hx hb hW iM35.1 (iM35.2 E _ _) e_v52 dX7_keep_213 ?_
        obtain ⟨μ53, e_μ53, hf⟩ := op_none hf
        refine w_iast hx hb hW hV h1.1 (fun f => h1.2 E f _) e_μ53 dX7_keep_214 (fun H locs hW hV => ?_)
        refine lv_aload_n hx hb dX7_keep_215 rfl (lv_at hl 1 rfl) ?_
        refine lv_bipush (v := (112 : Int32)) hx hb dX7_keep_216 (by decide) ?_
        refine lv_iload_n hx hb dX7_keep_218 rfl (lv_at hl 2 rfl) ?_
        refine lv_iadd hx hb dX7_keep_219 ?_
        refine lv_aload_n hx hb dX7_keep_220 rfl (lv_at hl 0 rfl) ?_
        refine gf_RX7_79 hx hb hB hown hW dX7_keep_221 ?_
        refine lv_iload_n hx hb dX7_keep_224 rfl (lv_at hl 2 rfl) ?_
        obtain ⟨v54, e_v54, hf⟩ := op_none hf
        refine w_iald hx hb hW iM36.1 (iM36.2 E _ _) e_v54 dX7_keep_225 ?_
        obtain ⟨μ55, e_μ55, hf⟩ := op_none hf
        refine w_iast hx hb hW hV h1.1 (fun f => h1.2 E f _) e_μ55 dX7_keep_226 (fun H locs hW hV => ?_)
        obtain ⟨v56, e_v56, hf⟩ := op_none hf
        refine lv_iinc (v := v56) (lv' := [(2, .int v56), (0, .ref (ead E 2000)), (1, .ref (ead E k1))]) hx hb dX7_keep_227 hl (k := 2) rfl (by rw [← Option.some.inj e_v56]; rfl) (by decide) rfl (fun ls hl => ?_)
        refine lv_goto (tgt := 197) hx hb dX7_keep_230 (by decide) ?_
        exact ih_197 μ55 v56 hf H locs ls hW hV (lv_sub hl [1, 2, 0] rfl)
  have c_159 : ∀ (n_159 : Nat) (μ_159 : Mem) (b2_159 : Int32) , f_X7_keep_159 k1 n_159 μ_159 b2_159 = some μ' → ∀ (H : Heap) (locs : List Loc) (ls : Array Slot), Wd E μ_159 s H → va_S (eA E) s.heap H locs → lv_has ls 3 [(0, .ref (ead E 2000)), (1, .ref (ead E k1)), (2, .int b2_159)] → W p l e (headSpec (.code yX7_keep cX7_keep 3 none :: BIG) ({ frames := 0, cells := 0, slots := 0, locals := 0 })).room s m ([.ref (ead E 2000), .ref (ead E k1)] : List Value).toArray below meth c H locs 0 0 (MQ below (QV E μ') ([.ref (ead E 2000), .ref (ead E k1)] : List Value).toArray s 0 0 (eA E)) (F0 m 159 ls []) := by
    intro n_159
    induction n_159 with
    | zero =>
      intro μ_159 b2_159 hf H locs ls hW hV hl
      cases hf
    | succ n_159 ih_159 =>
      intro μ_159 b2_159 hf H locs ls hW hV hl
      rw [f_X7_keep_159] at hf
      refine lv_iload_n hx hb dX7_keep_159 rfl (lv_at hl 2 rfl) ?_
      refine lv_bipush (v := (10 : Int32)) hx hb dX7_keep_160 (by decide) ?_
      refine lv_icmp_ge (tgt := 195) hx hb dX7_keep_162 (by decide) (fun y57 => ?_) (fun y57 => ?_)
      · have hf := op_t y57 hf
        refine lv_iconst (v := (0 : Int32)) hx hb dX7_keep_195 (by decide) ?_
        refine lv_istore_n (i := 2) (lv' := [(2, .int (0 : Int32)), (0, .ref (ead E 2000)), (1, .ref (ead E k1))]) hx hb dX7_keep_196 rfl hl (by decide) rfl (fun ls hl => ?_)
        exact c_197 FU μ_159 (0 : Int32) hf H locs ls hW hV (lv_sub hl [1, 2, 0] rfl)
      · have hf := op_f y57 hf
        refine lv_aload_n hx hb dX7_keep_165 rfl (lv_at hl 1 rfl) ?_
        refine lv_bipush (v := (84 : Int32)) hx hb dX7_keep_166 (by decide) ?_
        refine lv_iload_n hx hb dX7_keep_168 rfl (lv_at hl 2 rfl) ?_
        refine lv_iadd hx hb dX7_keep_169 ?_
        refine lv_aload_n hx hb dX7_keep_170 rfl (lv_at hl 0 rfl) ?_
        refine gf_RX7_70 hx hb hB hown hW dX7_keep_171 ?_
        refine lv_iload_n hx hb dX7_keep_174 rfl (lv_at hl 2 rfl) ?_
        obtain ⟨v58, e_v58, hf⟩ := op_none hf
        refine w_iald hx hb hW iM32.1 (iM32.2 E _ _) e_v58 dX7_keep_175 ?_
        obtain ⟨μ59, e_μ59, hf⟩ := op_none hf
        refine w_iast hx hb hW hV h1.1 (fun f => h1.2 E f _) e_μ59 dX7_keep_176 (fun H locs hW hV => ?_)
        refine lv_aload_n hx hb dX7_keep_177 rfl (lv_at hl 1 rfl) ?_
        refine lv_bipush (v := (94 : Int32)) hx hb dX7_keep_178 (by decide) ?_
        refine lv_iload_n hx hb dX7_keep_180 rfl (lv_at hl 2 rfl) ?_
        refine lv_iadd hx hb dX7_keep_181 ?_
        refine lv_aload_n hx hb dX7_keep_182 rfl (lv_at hl 0 rfl) ?_
        refine gf_RX7_73 hx hb hB hown hW dX7_keep_183 ?_
        refine lv_iload_n hx hb dX7_keep_186 rfl (lv_at hl 2 rfl) ?_
        obtain ⟨v60, e_v60, hf⟩ := op_none hf
        refine w_iald hx hb hW iM33.1 (iM33.2 E _ _) e_v60 dX7_keep_187 ?_
        obtain ⟨μ61, e_μ61, hf⟩ := op_none hf
        refine w_iast hx hb hW hV h1.1 (fun f => h1.2 E f _) e_μ61 dX7_keep_188 (fun H locs hW hV => ?_)
        obtain ⟨v62, e_v62, hf⟩ := op_none hf
        refine lv_iinc (v := v62) (lv' := [(2, .int v62), (0, .ref (ead E 2000)), (1, .ref (ead E k1))]) hx hb dX7_keep_189 hl (k := 2) rfl (by rw [← Option.some.inj e_v62]; rfl) (by decide) rfl (fun ls hl => ?_)
        refine lv_goto (tgt := 159) hx hb dX7_keep_192 (by decide) ?_
        exact ih_159 μ61 v62 hf H locs ls hW hV (lv_sub hl [1, 2, 0] rfl)
  have c_133 : ∀ (n_133 : Nat) (μ_133 : Mem) (b2_133 : Int32) , f_X7_keep_133 k1 n_133 μ_133 b2_133 = some μ' → ∀ (H : Heap) (locs : List Loc) (ls : Array Slot), Wd E μ_133 s H → va_S (eA E) s.heap H locs → lv_has ls 3 [(0, .ref (ead E 2000)), (1, .ref (ead E k1)), (2, .int b2_133)] → W p l e (headSpec (.code yX7_keep cX7_keep 3 none :: BIG) ({ frames := 0, cells := 0, slots := 0, locals := 0 })).room s m ([.ref (ead E 2000), .ref (ead E k1)] : List Value).toArray below meth c H locs 0 0 (MQ below (QV E μ') ([.ref (ead E 2000), .ref (ead E k1)] : List Value).toArray s 0 0 (eA E)) (F0 m 133 ls []) := by
    intro n_133
    induction n_133 with
    | zero =>
      intro μ_133 b2_133 hf H locs ls hW hV hl
      cases hf
    | succ n_133 ih_133 =>
      intro μ_133 b2_133 hf H locs ls hW hV hl
      rw [f_X7_keep_133] at hf
      refine lv_iload_n hx hb dX7_keep_133 rfl (lv_at hl 2 rfl) ?_
      refine lv_bipush (v := (24 : Int32)) hx hb dX7_keep_134 (by decide) ?_
      refine lv_icmp_ge (tgt := 157) hx hb dX7_keep_136 (by decide) (fun y63 => ?_) (fun y63 => ?_)
      · have hf := op_t y63 hf
        refine lv_iconst (v := (0 : Int32)) hx hb dX7_keep_157 (by decide) ?_
        refine lv_istore_n (i := 2) (lv' := [(2, .int (0 : Int32)), (0, .ref (ead E 2000)), (1, .ref (ead E k1))]) hx hb dX7_keep_158 rfl hl (by decide) rfl (fun ls hl => ?_)
        exact c_159 FU μ_133 (0 : Int32) hf H locs ls hW hV (lv_sub hl [1, 2, 0] rfl)
      · have hf := op_f y63 hf
        refine lv_aload_n hx hb dX7_keep_139 rfl (lv_at hl 1 rfl) ?_
        refine lv_bipush (v := (60 : Int32)) hx hb dX7_keep_140 (by decide) ?_
        refine lv_iload_n hx hb dX7_keep_142 rfl (lv_at hl 2 rfl) ?_
        refine lv_iadd hx hb dX7_keep_143 ?_
        refine lv_aload_n hx hb dX7_keep_144 rfl (lv_at hl 0 rfl) ?_
        refine gf_RX7_33 hx hb hB hown hW dX7_keep_145 ?_
        refine lv_iload_n hx hb dX7_keep_148 rfl (lv_at hl 2 rfl) ?_
        obtain ⟨v64, e_v64, hf⟩ := op_none hf
        refine w_iald hx hb hW iM8.1 (iM8.2 E _ _) e_v64 dX7_keep_149 ?_
        obtain ⟨μ65, e_μ65, hf⟩ := op_none hf
        refine w_iast hx hb hW hV h1.1 (fun f => h1.2 E f _) e_μ65 dX7_keep_150 (fun H locs hW hV => ?_)
        obtain ⟨v66, e_v66, hf⟩ := op_none hf
        refine lv_iinc (v := v66) (lv' := [(2, .int v66), (0, .ref (ead E 2000)), (1, .ref (ead E k1))]) hx hb dX7_keep_151 hl (k := 2) rfl (by rw [← Option.some.inj e_v66]; rfl) (by decide) rfl (fun ls hl => ?_)
        refine lv_goto (tgt := 133) hx hb dX7_keep_154 (by decide) ?_
        exact ih_133 μ65 v66 hf H locs ls hW hV (lv_sub hl [1, 2, 0] rfl)
  have c_2 : ∀ (n_2 : Nat) (μ_2 : Mem) (b2_2 : Int32) , f_X7_keep_2 k1 n_2 μ_2 b2_2 = some μ' → ∀ (H : Heap) (locs : List Loc) (ls : Array Slot), Wd E μ_2 s H → va_S (eA E) s.heap H locs → lv_has ls 3 [(0, .ref (ead E 2000)), (1, .ref (ead E k1)), (2, .int b2_2)] → W p l e (headSpec (.code yX7_keep cX7_keep 3 none :: BIG) ({ frames := 0, cells := 0, slots := 0, locals := 0 })).room s m ([.ref (ead E 2000), .ref (ead E k1)] : List Value).toArray below meth c H locs 0 0 (MQ below (QV E μ') ([.ref (ead E 2000), .ref (ead E k1)] : List Value).toArray s 0 0 (eA E)) (F0 m 2 ls []) := by
    intro n_2
    induction n_2 with
    | zero =>
      intro μ_2 b2_2 hf H locs ls hW hV hl
      cases hf
    | succ n_2 ih_2 =>
      intro μ_2 b2_2 hf H locs ls hW hV hl
      rw [f_X7_keep_2] at hf
      refine lv_iload_n hx hb dX7_keep_2 rfl (lv_at hl 2 rfl) ?_
      refine lv_bipush (v := (6 : Int32)) hx hb dX7_keep_3 (by decide) ?_
      refine lv_icmp_ge (tgt := 131) hx hb dX7_keep_5 (by decide) (fun y67 => ?_) (fun y67 => ?_)
      · have hf := op_t y67 hf
        refine lv_iconst (v := (0 : Int32)) hx hb dX7_keep_131 (by decide) ?_
        refine lv_istore_n (i := 2) (lv' := [(2, .int (0 : Int32)), (0, .ref (ead E 2000)), (1, .ref (ead E k1))]) hx hb dX7_keep_132 rfl hl (by decide) rfl (fun ls hl => ?_)
        exact c_133 FU μ_2 (0 : Int32) hf H locs ls hW hV (lv_sub hl [1, 2, 0] rfl)
      · have hf := op_f y67 hf
        refine lv_aload_n hx hb dX7_keep_8 rfl (lv_at hl 1 rfl) ?_
        refine lv_iload_n hx hb dX7_keep_9 rfl (lv_at hl 2 rfl) ?_
        refine lv_aload_n hx hb dX7_keep_10 rfl (lv_at hl 0 rfl) ?_
        refine gf_RX7_9 hx hb hB hown hW dX7_keep_11 ?_
        refine lv_iload_n hx hb dX7_keep_14 rfl (lv_at hl 2 rfl) ?_
        obtain ⟨v68, e_v68, hf⟩ := op_none hf
        refine w_iald hx hb hW iM1.1 (iM1.2 E _ _) e_v68 dX7_keep_15 ?_
        obtain ⟨μ69, e_μ69, hf⟩ := op_none hf
        refine w_iast hx hb hW hV h1.1 (fun f => h1.2 E f _) e_μ69 dX7_keep_16 (fun H locs hW hV => ?_)
        refine lv_aload_n hx hb dX7_keep_17 rfl (lv_at hl 1 rfl) ?_
        refine lv_bipush (v := (6 : Int32)) hx hb dX7_keep_18 (by decide) ?_
        refine lv_iload_n hx hb dX7_keep_20 rfl (lv_at hl 2 rfl) ?_
        refine lv_iadd hx hb dX7_keep_21 ?_
        refine lv_aload_n hx hb dX7_keep_22 rfl (lv_at hl 0 rfl) ?_
        refine gf_RX7_15 hx hb hB hown hW dX7_keep_23 ?_
        refine lv_iload_n hx hb dX7_keep_26 rfl (lv_at hl 2 rfl) ?_
        obtain ⟨v70, e_v70, hf⟩ := op_none hf
        refine w_iald hx hb hW iM2.1 (iM2.2 E _ _) e_v70 dX7_keep_27 ?_
        obtain ⟨μ71, e_μ71, hf⟩ := op_none hf
        refine w_iast hx hb hW hV h1.1 (fun f => h1.2 E f _) e_μ71 dX7_keep_28 (fun H locs hW hV => ?_)
        refine lv_aload_n hx hb dX7_keep_29 rfl (lv_at hl 1 rfl) ?_
        refine lv_bipush (v := (12 : Int32)) hx hb dX7_keep_30 (by decide) ?_
        refine lv_iload_n hx hb dX7_keep_32 rfl (lv_at hl 2 rfl) ?_
        refine lv_iadd hx hb dX7_keep_33 ?_
        refine lv_aload_n hx hb dX7_keep_34 rfl (lv_at hl 0 rfl) ?_
        refine gf_RX7_18 hx hb hB hown hW dX7_keep_35 ?_
        refine lv_iload_n hx hb dX7_keep_38 rfl (lv_at hl 2 rfl) ?_
        obtain ⟨v72, e_v72, hf⟩ := op_none hf
        refine w_iald hx hb hW iM3.1 (iM3.2 E _ _) e_v72 dX7_keep_39 ?_
        obtain ⟨μ73, e_μ73, hf⟩ := op_none hf
        refine w_iast hx hb hW hV h1.1 (fun f => h1.2 E f _) e_μ73 dX7_keep_40 (fun H locs hW hV => ?_)
        refine lv_aload_n hx hb dX7_keep_41 rfl (lv_at hl 1 rfl) ?_
        refine lv_bipush (v := (18 : Int32)) hx hb dX7_keep_42 (by decide) ?_
        refine lv_iload_n hx hb dX7_keep_44 rfl (lv_at hl 2 rfl) ?_
        refine lv_iadd hx hb dX7_keep_45 ?_
        refine lv_aload_n hx hb dX7_keep_46 rfl (lv_at hl 0 rfl) ?_
        refine gf_RX7_21 hx hb hB hown hW dX7_keep_47 ?_
        refine lv_iload_n hx hb dX7_keep_50 rfl (lv_at hl 2 rfl) ?_
        obtain ⟨v74, e_v74, hf⟩ := op_none hf
        refine w_iald hx hb hW iM4.1 (iM4.2 E _ _) e_v74 dX7_keep_51 ?_
        obtain ⟨μ75, e_μ75, hf⟩ := op_none hf
        refine w_iast hx hb hW hV h1.1 (fun f => h1.2 E f _) e_μ75 dX7_keep_52 (fun H locs hW hV => ?_)
        refine lv_aload_n hx hb dX7_keep_53 rfl (lv_at hl 1 rfl) ?_
        refine lv_bipush (v := (24 : Int32)) hx hb dX7_keep_54 (by decide) ?_
        refine lv_iload_n hx hb dX7_keep_56 rfl (lv_at hl 2 rfl) ?_
        refine lv_iadd hx hb dX7_keep_57 ?_
        refine lv_aload_n hx hb dX7_keep_58 rfl (lv_at hl 0 rfl) ?_
        refine gf_RX7_24 hx hb hB hown hW dX7_keep_59 ?_
        refine lv_iload_n hx hb dX7_keep_62 rfl (lv_at hl 2 rfl) ?_
        obtain ⟨v76, e_v76, hf⟩ := op_none hf
        refine w_iald hx hb hW iM5.1 (iM5.2 E _ _) e_v76 dX7_keep_63 ?_
        obtain ⟨μ77, e_μ77, hf⟩ := op_none hf
        refine w_iast hx hb hW hV h1.1 (fun f => h1.2 E f _) e_μ77 dX7_keep_64 (fun H locs hW hV => ?_)
        refine lv_aload_n hx hb dX7_keep_65 rfl (lv_at hl 1 rfl) ?_
        refine lv_bipush (v := (30 : Int32)) hx hb dX7_keep_66 (by decide) ?_
        refine lv_iload_n hx hb dX7_keep_68 rfl (lv_at hl 2 rfl) ?_
        refine lv_iadd hx hb dX7_keep_69 ?_
        refine lv_aload_n hx hb dX7_keep_70 rfl (lv_at hl 0 rfl) ?_
        refine gf_RX7_27 hx hb hB hown hW dX7_keep_71 ?_
        refine lv_iload_n hx hb dX7_keep_74 rfl (lv_at hl 2 rfl) ?_
        obtain ⟨v78, e_v78, hf⟩ := op_none hf
        refine w_iald hx hb hW iM6.1 (iM6.2 E _ _) e_v78 dX7_keep_75 ?_
        obtain ⟨μ79, e_μ79, hf⟩ := op_none hf
        refine w_iast hx hb hW hV h1.1 (fun f => h1.2 E f _) e_μ79 dX7_keep_76 (fun H locs hW hV => ?_)
        refine lv_aload_n hx hb dX7_keep_77 rfl (lv_at hl 1 rfl) ?_
        refine lv_bipush (v := (36 : Int32)) hx hb dX7_keep_78 (by decide) ?_
        refine lv_iload_n hx hb dX7_keep_80 rfl (lv_at hl 2 rfl) ?_
        refine lv_iadd hx hb dX7_keep_81 ?_
        refine lv_aload_n hx hb dX7_keep_82 rfl (lv_at hl 0 rfl) ?_
        refine gf_RX7_30 hx hb hB hown hW dX7_keep_83 ?_
        refine lv_iload_n hx hb dX7_keep_86 rfl (lv_at hl 2 rfl) ?_
        obtain ⟨v80, e_v80, hf⟩ := op_none hf
        refine w_iald hx hb hW iM7.1 (iM7.2 E _ _) e_v80 dX7_keep_87 ?_
        obtain ⟨μ81, e_μ81, hf⟩ := op_none hf
        refine w_iast hx hb hW hV h1.1 (fun f => h1.2 E f _) e_μ81 dX7_keep_88 (fun H locs hW hV => ?_)
        refine lv_aload_n hx hb dX7_keep_89 rfl (lv_at hl 1 rfl) ?_
        refine lv_bipush (v := (42 : Int32)) hx hb dX7_keep_90 (by decide) ?_
        refine lv_iload_n hx hb dX7_keep_92 rfl (lv_at hl 2 rfl) ?_
        refine lv_iadd hx hb dX7_keep_93 ?_
        refine lv_aload_n hx hb dX7_keep_94 rfl (lv_at hl 0 rfl) ?_
        refine gf_RX7_61 hx hb hB hown hW dX7_keep_95 ?_
        refine lv_iload_n hx hb dX7_keep_98 rfl (lv_at hl 2 rfl) ?_
        obtain ⟨v82, e_v82, hf⟩ := op_none hf
        refine w_iald hx hb hW iM28.1 (iM28.2 E _ _) e_v82 dX7_keep_99 ?_
        obtain ⟨μ83, e_μ83, hf⟩ := op_none hf
        refine w_iast hx hb hW hV h1.1 (fun f => h1.2 E f _) e_μ83 dX7_keep_100 (fun H locs hW hV => ?_)
        refine lv_aload_n hx hb dX7_keep_101 rfl (lv_at hl 1 rfl) ?_
        refine lv_bipush (v := (48 : Int32)) hx hb dX7_keep_102 (by decide) ?_
        refine lv_iload_n hx hb dX7_keep_104 rfl (lv_at hl 2 rfl) ?_
        refine lv_iadd hx hb dX7_keep_105 ?_
        refine lv_aload_n hx hb dX7_keep_106 rfl (lv_at hl 0 rfl) ?_
        refine gf_RX7_64 hx hb hB hown hW dX7_keep_107 ?_
        refine lv_iload_n hx hb dX7_keep_110 rfl (lv_at hl 2 rfl) ?_
        obtain ⟨v84, e_v84, hf⟩ := op_none hf
        refine w_iald hx hb hW iM29.1 (iM29.2 E _ _) e_v84 dX7_keep_111 ?_
        obtain ⟨μ85, e_μ85, hf⟩ := op_none hf
        refine w_iast hx hb hW hV h1.1 (fun f => h1.2 E f _) e_μ85 dX7_keep_112 (fun H locs hW hV => ?_)
        refine lv_aload_n hx hb dX7_keep_113 rfl (lv_at hl 1 rfl) ?_
        refine lv_bipush (v := (54 : Int32)) hx hb dX7_keep_114 (by decide) ?_
        refine lv_iload_n hx hb dX7_keep_116 rfl (lv_at hl 2 rfl) ?_
        refine lv_iadd hx hb dX7_keep_117 ?_
        refine lv_aload_n hx hb dX7_keep_118 rfl (lv_at hl 0 rfl) ?_
        refine gf_RX7_67 hx hb hB hown hW dX7_keep_119 ?_
        refine lv_iload_n hx hb dX7_keep_122 rfl (lv_at hl 2 rfl) ?_
        obtain ⟨v86, e_v86, hf⟩ := op_none hf
        refine w_iald hx hb hW iM30.1 (iM30.2 E _ _) e_v86 dX7_keep_123 ?_
        obtain ⟨μ87, e_μ87, hf⟩ := op_none hf
        refine w_iast hx hb hW hV h1.1 (fun f => h1.2 E f _) e_μ87 dX7_keep_124 (fun H locs hW hV => ?_)
        obtain ⟨v88, e_v88, hf⟩ := op_none hf
        refine lv_iinc (v := v88) (lv' := [(2, .int v88), (0, .ref (ead E 2000)), (1, .ref (ead E k1))]) hx hb dX7_keep_125 hl (k := 2) rfl (by rw [← Option.some.inj e_v88]; rfl) (by decide) rfl (fun ls hl => ?_)
        refine lv_goto (tgt := 2) hx hb dX7_keep_128 (by decide) ?_
        exact ih_2 μ87 v88 hf H locs ls hW hV (lv_sub hl [1, 2, 0] rfl)
  obtain ⟨H, hH⟩ : ∃ H : Heap, H = s.heap := ⟨_, rfl⟩
  obtain ⟨locs, hlocs⟩ : ∃ locs : List Loc, locs = [] := ⟨_, rfl⟩
  rw [show (W p l e (headSpec (.code yX7_keep cX7_keep 3 none :: BIG) ({ frames := 0, cells := 0, slots := 0, locals := 0 })).room s m ([.ref (ead E 2000), .ref (ead E k1)] : List Value).toArray below meth c s.heap [] 0 0) = W p l e (headSpec (.code yX7_keep cX7_keep 3 none :: BIG) ({ frames := 0, cells := 0, slots := 0, locals := 0 })).room s m ([.ref (ead E 2000), .ref (ead E k1)] : List Value).toArray below meth c H locs 0 0 by rw [hH, hlocs]]
  have hV : va_S (eA E) s.heap H locs := by rw [hH, hlocs]; exact hV
  have hW : Wd E μ s H := by rw [hH]; exact hW
  unfold f_X7_keep at hf
  refine lv_iconst (v := (0 : Int32)) hx hb dX7_keep_0 (by decide) ?_
  refine lv_istore_n (i := 2) (lv' := [(2, .int (0 : Int32)), (0, .ref (ead E 2000)), (1, .ref (ead E k1))]) hx hb dX7_keep_1 rfl hl (by decide) rfl (fun ls hl => ?_)
  exact c_2 FU μ (0 : Int32) hf H locs ls hW hV (lv_sub hl [1, 2, 0] rfl)
set_option maxHeartbeats 8000000 in
set_option maxRecDepth 100000 in
theorem k_X7_again (l : Launch) (E : WE) (μ : Mem) (k1 : Nat) (h1 : isI k1 126) (μ' : Mem) (hf : f_X7_again μ k1 = some μ') : Met l yX7_again (.code yX7_again cX7_again 3 none :: BIG) ({ frames := 0, cells := 0, slots := 0, locals := 0 }) (PW E μ [.ref (ead E 2000), .ref (ead E k1)]) (QV E μ') 0 0 (eA E) := by
  refine Met.ofW (cc := cX7_again) (maxL := 3) (ret := none) (by decide) rfl ?_
  intro p e s m args below meth c s₁ B hml hv
  obtain ⟨rfl, hW, hZ⟩ := hv
  have hx := B.exec
  have hb := B.bytes
  have hr := B.returns
  have hB : ∀ w ∈ BIG, w.before _ s = true := fun w h => atoms_spec (ws := (.code yX7_again cX7_again 3 none :: BIG)) B.pre w (List.mem_cons_of_mem _ h)
  have hown : s.vm.findClass RX7 = some m.cls := findClass_of_methodNamed B.named
  have hlocks := B.notSynchronized
  have hV : va_S (eA E) s.heap s.heap [] := va_S.rf
  have hl := lv_entry ([.ref (ead E 2000), .ref (ead E k1)]) (n := 3) (Nat.le_of_ble_eq_true rfl)
  rw [lg_entry_eq]
  generalize (lg_sl ([.ref (ead E 2000), .ref (ead E k1)]) ++ List.replicate (3 - (lg_sl ([.ref (ead E 2000), .ref (ead E k1)])).length) Slot.unset).toArray = ls at hl ⊢
  have hl : lv_has ls 3 [(0, .ref (ead E 2000)), (1, .ref (ead E k1))] := hl
  have c_197 : ∀ (n_197 : Nat) (μ_197 : Mem) (b2_197 : Int32) , f_X7_again_197 k1 n_197 μ_197 b2_197 = some μ' → ∀ (H : Heap) (locs : List Loc) (ls : Array Slot), Wd E μ_197 s H → va_S (eA E) s.heap H locs → lv_has ls 3 [(0, .ref (ead E 2000)), (1, .ref (ead E k1)), (2, .int b2_197)] → W p l e (headSpec (.code yX7_again cX7_again 3 none :: BIG) ({ frames := 0, cells := 0, slots := 0, locals := 0 })).room s m ([.ref (ead E 2000), .ref (ead E k1)] : List Value).toArray below meth c H locs 0 0 (MQ below (QV E μ') ([.ref (ead E 2000), .ref (ead E k1)] : List Value).toArray s 0 0 (eA E)) (F0 m 197 ls []) := by
    intro n_197
    induction n_197 with
    | zero =>
      intro μ_197 b2_197 hf H locs ls hW hV hl
      cases hf
    | succ n_197 ih_197 =>
      intro μ_197 b2_197 hf H locs ls hW hV hl
      rw [f_X7_again_197] at hf
      refine lv_iload_n hx hb dX7_again_197 rfl (lv_at hl 2 rfl) ?_
      refine lv_bipush (v := (8 : Int32)) hx hb dX7_again_198 (by decide) ?_
      refine lv_icmp_ge (tgt := 233) hx hb dX7_again_200 (by decide) (fun y55 => ?_) (fun y55 => ?_)
      · have hf := op_t y55 hf
        refine lv_aload_n hx hb dX7_again_233 rfl (lv_at hl 0 rfl) ?_
        refine lv_aload_n hx hb dX7_again_234 rfl (lv_at hl 1 rfl) ?_
        refine lv_bipush (v := (120 : Int32)) hx hb dX7_again_235 (by decide) ?_
        obtain ⟨v56, e_v56, hf⟩ := op_none hf
        refine w_iald hx hb hW h1.1 (h1.2 E _ _) e_v56 dX7_again_237 ?_
        obtain ⟨μ57, e_μ57, hf⟩ := op_none hf
        refine pf_RX7_108 hx hb hB hown hW hV dX7_again_238 (fun H locs hW hV => ?_)
        rw [Option.some.inj e_μ57] at hW
        refine lv_aload_n hx hb dX7_again_241 rfl (lv_at hl 0 rfl) ?_
        refine lv_aload_n hx hb dX7_again_242 rfl (lv_at hl 1 rfl) ?_
        refine lv_bipush (v := (121 : Int32)) hx hb dX7_again_243 (by decide) ?_
        obtain ⟨v58, e_v58, hf⟩ := op_none hf
        refine w_iald hx hb hW h1.1 (h1.2 E _ _) e_v58 dX7_again_245 ?_
        obtain ⟨μ59, e_μ59, hf⟩ := op_none hf
        refine pf_RX7_101 hx hb hB hown hW hV dX7_again_246 (fun H locs hW hV => ?_)
        rw [Option.some.inj e_μ59] at hW
        refine lv_aload_n hx hb dX7_again_249 rfl (lv_at hl 0 rfl) ?_
        refine lv_aload_n hx hb dX7_again_250 rfl (lv_at hl 1 rfl) ?_
        refine lv_bipush (v := (122 : Int32)) hx hb dX7_again_251 (by decide) ?_
        obtain ⟨v60, e_v60, hf⟩ := op_none hf
        refine w_iald hx hb hW h1.1 (h1.2 E _ _) e_v60 dX7_again_253 ?_
        obtain ⟨μ61, e_μ61, hf⟩ := op_none hf
        refine pf_RX7_229 hx hb hB hown hW hV dX7_again_254 (fun H locs hW hV => ?_)
        rw [Option.some.inj e_μ61] at hW
        refine lv_aload_n hx hb dX7_again_257 rfl (lv_at hl 0 rfl) ?_
        refine lv_aload_n hx hb dX7_again_258 rfl (lv_at hl 1 rfl) ?_
        refine lv_bipush (v := (123 : Int32)) hx hb dX7_again_259 (by decide) ?_
        obtain ⟨v62, e_v62, hf⟩ := op_none hf
        refine w_iald hx hb hW h1.1 (h1.2 E _ _) e_v62 dX7_again_261 ?_
        obtain ⟨μ63, e_μ63, hf⟩ := op_none hf
        refine pf_RX7_289 hx hb hB hown hW hV dX7_again_262 (fun H locs hW hV => ?_)
        rw [Option.some.inj e_μ63] at hW
        refine lv_aload_n hx hb dX7_again_265 rfl (lv_at hl 0 rfl) ?_
        refine lv_aload_n hx hb dX7_again_266 rfl (lv_at hl 1 rfl) ?_
        refine lv_bipush (v := (124 : Int32)) hx hb dX7_again_267 (by decide) ?_
        obtain ⟨v64, e_v64, hf⟩ := op_none hf
        refine w_iald hx hb hW h1.1 (h1.2 E _ _) e_v64 dX7_again_269 ?_
        refine lv_bipush (v := (100 : Int32)) hx hb dX7_again_270 (by decide) ?_
        obtain ⟨v65, e_v65, hf⟩ := op_none hf
        refine w_irem hx hb e_v65 dX7_again_272 ?_
        obtain ⟨μ66, e_μ66, hf⟩ := op_none hf
        refine pf_RX7_299 hx hb hB hown hW hV dX7_again_273 (fun H locs hW hV => ?_)
        rw [Option.some.inj e_μ66] at hW
        refine lv_aload_n hx hb dX7_again_276 rfl (lv_at hl 0 rfl) ?_
        refine lv_aload_n hx hb dX7_again_277 rfl (lv_at hl 1 rfl) ?_
        refine lv_bipush (v := (124 : Int32)) hx hb dX7_again_278 (by decide) ?_
        obtain ⟨v67, e_v67, hf⟩ := op_none hf
        refine w_iald hx hb hW h1.1 (h1.2 E _ _) e_v67 dX7_again_280 ?_
        refine lv_bipush (v := (100 : Int32)) hx hb dX7_again_281 (by decide) ?_
        obtain ⟨v68, e_v68, hf⟩ := op_none hf
        refine w_idiv hx hb e_v68 dX7_again_283 ?_
        obtain ⟨μ69, e_μ69, hf⟩ := op_none hf
        refine pf_RX7_302 hx hb hB hown hW hV dX7_again_284 (fun H locs hW hV => ?_)
        rw [Option.some.inj e_μ69] at hW
        refine lv_aload_n hx hb dX7_again_287 rfl (lv_at hl 0 rfl) ?_
        refine lv_aload_n hx hb dX7_again_288 rfl (lv_at hl 1 rfl) ?_
        refine lv_bipush (v := (125 : Int32)) hx hb dX7_again_289 (by decide) ?_
        obtain ⟨v70, e_v70, hf⟩ := op_none hf
        refine w_iald hx hb hW h1.1 (h1.2 E _ _) e_v70 dX7_again_291 ?_
        obtain ⟨μ71, e_μ71, hf⟩ := op_none hf
        refine pf_RX7_105 hx hb hB hown hW hV dX7_again_292 (fun H locs hW hV => ?_)
        rw [Option.some.inj e_μ71] at hW
        exact w_retV hx hb hr hlocks hW hV (Option.some.inj hf) dX7_again_295
      · have hf := op_f y55 hf
        refine lv_aload_n hx hb dX7_again_203 rfl (lv_at hl 0 rfl) ?_
        refine gf_RX7_76 hx hb hB hown hW dX7_again_204 ?_
        refine lv_iload_n hx hb dX7_again_207 rfl (lv_at hl 2 rfl) ?_
        refine lv_aload_n hx hb dX7_again_208 rfl (lv_at hl 1 rfl) ?_
        refine lv_bipush (v := (104 : Int32)) hx hb dX7_again_209 (by decide) ?_
        refine lv_iload_n hx hb dX7_again_211 rfl (lv_at hl 2 rfl) ?_
        refine lv_iadd hx hb dX7_again_212 ?_
        obtain ⟨v72, e_v72, hf⟩ := op_none hf
        refine w_iald hx hb hW h1.1 (h1.2 E _ _) e_v72 dX7_again_213 ?_
        obtain ⟨μ73, e_μ73, hf⟩ := op_none hf
        refine w_iast hx hb hW hV iM35.1 (fun f => iM35.2 E f _) e_μ73 dX7_again_214 (fun H locs hW hV => ?_)
        refine lv_aload_n hx hb dX7_again_215 rfl (lv_at hl 0 rfl) ?_
        refine gf_RX7_79 hx hb hB hown hW dX7_again_216 ?_
        refine lv_iload_n hx hb dX7_again_219 rfl (lv_at hl 2 rfl) ?_
        refine lv_aload_n hx hb dX7_again_220 rfl (lv_at hl 1 rfl) ?_
        refine lv_bipush (v := (112 : Int32)) hx hb dX7_again_221 (by decide) ?_
        refine lv_iload_n hx hb dX7_again_223 rfl (lv_at hl 2 rfl) ?_
        refine lv_iadd hx hb dX7_again_224 ?_
        obtain ⟨v74, e_v74, hf⟩ := op_none hf
        refine w_iald hx hb hW h1.1 (h1.2 E _ _) e_v74 dX7_again_225 ?_
        obtain ⟨μ75, e_μ75, hf⟩ := op_none hf
        refine w_iast hx hb hW hV iM36.1 (fun f => iM36.2 E f _) e_μ75 dX7_again_226 (fun H locs hW hV => ?_)
        obtain ⟨v76, e_v76, hf⟩ := op_none hf
        refine lv_iinc (v := v76) (lv' := [(2, .int v76), (0, .ref (ead E 2000)), (1, .ref (ead E k1))]) hx hb dX7_again_227 hl (k := 2) rfl (by rw [← Option.some.inj e_v76]; rfl) (by decide) rfl (fun ls hl => ?_)
        refine lv_goto (tgt := 197) hx hb dX7_again_230 (by decide) ?_
        exact ih_197 μ75 v76 hf H locs ls hW hV (lv_sub hl [1, 2, 0] rfl)
  have c_159 : ∀ (n_159 : Nat) (μ_159 : Mem) (b2_159 : Int32) , f_X7_again_159 k1 n_159 μ_159 b2_159 = some μ' → ∀ (H : Heap) (locs : List Loc) (ls : Array Slot), Wd E μ_159 s H → va_S (eA E) s.heap H locs → lv_has ls 3 [(0, .ref (ead E 2000)), (1, .ref (ead E k1)), (2, .int b2_159)] → W p l e (headSpec (.code yX7_again cX7_again 3 none :: BIG) ({ frames := 0, cells := 0, slots := 0, locals := 0 })).room s m ([.ref (ead E 2000), .ref (ead E k1)] : List Value).toArray below meth c H locs 0 0 (MQ below (QV E μ') ([.ref (ead E 2000), .ref (ead E k1)] : List Value).toArray s 0 0 (eA E)) (F0 m 159 ls []) := by
    intro n_159
    induction n_159 with
    | zero =>
      intro μ_159 b2_159 hf H locs ls hW hV hl
      cases hf
    | succ n_159 ih_159 =>
      intro μ_159 b2_159 hf H locs ls hW hV hl
      rw [f_X7_again_159] at hf
      refine lv_iload_n hx hb dX7_again_159 rfl (lv_at hl 2 rfl) ?_
      refine lv_bipush (v := (10 : Int32)) hx hb dX7_again_160 (by decide) ?_
      refine lv_icmp_ge (tgt := 195) hx hb dX7_again_162 (by decide) (fun y77 => ?_) (fun y77 => ?_)
      · have hf := op_t y77 hf
        refine lv_iconst (v := (0 : Int32)) hx hb dX7_again_195 (by decide) ?_
        refine lv_istore_n (i := 2) (lv' := [(2, .int (0 : Int32)), (0, .ref (ead E 2000)), (1, .ref (ead E k1))]) hx hb dX7_again_196 rfl hl (by decide) rfl (fun ls hl => ?_)
        exact c_197 FU μ_159 (0 : Int32) hf H locs ls hW hV (lv_sub hl [1, 2, 0] rfl)
      · have hf := op_f y77 hf
        refine lv_aload_n hx hb dX7_again_165 rfl (lv_at hl 0 rfl) ?_
        refine gf_RX7_70 hx hb hB hown hW dX7_again_166 ?_
        refine lv_iload_n hx hb dX7_again_169 rfl (lv_at hl 2 rfl) ?_
        refine lv_aload_n hx hb dX7_again_170 rfl (lv_at hl 1 rfl) ?_
        refine lv_bipush (v := (84 : Int32)) hx hb dX7_again_171 (by decide) ?_
        refine lv_iload_n hx hb dX7_again_173 rfl (lv_at hl 2 rfl) ?_
        refine lv_iadd hx hb dX7_again_174 ?_
        obtain ⟨v78, e_v78, hf⟩ := op_none hf
        refine w_iald hx hb hW h1.1 (h1.2 E _ _) e_v78 dX7_again_175 ?_
        obtain ⟨μ79, e_μ79, hf⟩ := op_none hf
        refine w_iast hx hb hW hV iM32.1 (fun f => iM32.2 E f _) e_μ79 dX7_again_176 (fun H locs hW hV => ?_)
        refine lv_aload_n hx hb dX7_again_177 rfl (lv_at hl 0 rfl) ?_
        refine gf_RX7_73 hx hb hB hown hW dX7_again_178 ?_
        refine lv_iload_n hx hb dX7_again_181 rfl (lv_at hl 2 rfl) ?_
        refine lv_aload_n hx hb dX7_again_182 rfl (lv_at hl 1 rfl) ?_
        refine lv_bipush (v := (94 : Int32)) hx hb dX7_again_183 (by decide) ?_
        refine lv_iload_n hx hb dX7_again_185 rfl (lv_at hl 2 rfl) ?_
        refine lv_iadd hx hb dX7_again_186 ?_
        obtain ⟨v80, e_v80, hf⟩ := op_none hf
        refine w_iald hx hb hW h1.1 (h1.2 E _ _) e_v80 dX7_again_187 ?_
        obtain ⟨μ81, e_μ81, hf⟩ := op_none hf
        refine w_iast hx hb hW hV iM33.1 (fun f => iM33.2 E f _) e_μ81 dX7_again_188 (fun H locs hW hV => ?_)
        obtain ⟨v82, e_v82, hf⟩ := op_none hf
        refine lv_iinc (v := v82) (lv' := [(2, .int v82), (0, .ref (ead E 2000)), (1, .ref (ead E k1))]) hx hb dX7_again_189 hl (k := 2) rfl (by rw [← Option.some.inj e_v82]; rfl) (by decide) rfl (fun ls hl => ?_)
        refine lv_goto (tgt := 159) hx hb dX7_again_192 (by decide) ?_
        exact ih_159 μ81 v82 hf H locs ls hW hV (lv_sub hl [1, 2, 0] rfl)
  have c_133 : ∀ (n_133 : Nat) (μ_133 : Mem) (b2_133 : Int32) , f_X7_again_133 k1 n_133 μ_133 b2_133 = some μ' → ∀ (H : Heap) (locs : List Loc) (ls : Array Slot), Wd E μ_133 s H → va_S (eA E) s.heap H locs → lv_has ls 3 [(0, .ref (ead E 2000)), (1, .ref (ead E k1)), (2, .int b2_133)] → W p l e (headSpec (.code yX7_again cX7_again 3 none :: BIG) ({ frames := 0, cells := 0, slots := 0, locals := 0 })).room s m ([.ref (ead E 2000), .ref (ead E k1)] : List Value).toArray below meth c H locs 0 0 (MQ below (QV E μ') ([.ref (ead E 2000), .ref (ead E k1)] : List Value).toArray s 0 0 (eA E)) (F0 m 133 ls []) := by
    intro n_133
    induction n_133 with
    | zero =>
      intro μ_133 b2_133 hf H locs ls hW hV hl
      cases hf
    | succ n_133 ih_133 =>
      intro μ_133 b2_133 hf H locs ls hW hV hl
      rw [f_X7_again_133] at hf
      refine lv_iload_n hx hb dX7_again_133 rfl (lv_at hl 2 rfl) ?_
      refine lv_bipush (v := (24 : Int32)) hx hb dX7_again_134 (by decide) ?_
      refine lv_icmp_ge (tgt := 157) hx hb dX7_again_136 (by decide) (fun y83 => ?_) (fun y83 => ?_)
      · have hf := op_t y83 hf
        refine lv_iconst (v := (0 : Int32)) hx hb dX7_again_157 (by decide) ?_
        refine lv_istore_n (i := 2) (lv' := [(2, .int (0 : Int32)), (0, .ref (ead E 2000)), (1, .ref (ead E k1))]) hx hb dX7_again_158 rfl hl (by decide) rfl (fun ls hl => ?_)
        exact c_159 FU μ_133 (0 : Int32) hf H locs ls hW hV (lv_sub hl [1, 2, 0] rfl)
      · have hf := op_f y83 hf
        refine lv_aload_n hx hb dX7_again_139 rfl (lv_at hl 0 rfl) ?_
        refine gf_RX7_33 hx hb hB hown hW dX7_again_140 ?_
        refine lv_iload_n hx hb dX7_again_143 rfl (lv_at hl 2 rfl) ?_
        refine lv_aload_n hx hb dX7_again_144 rfl (lv_at hl 1 rfl) ?_
        refine lv_bipush (v := (60 : Int32)) hx hb dX7_again_145 (by decide) ?_
        refine lv_iload_n hx hb dX7_again_147 rfl (lv_at hl 2 rfl) ?_
        refine lv_iadd hx hb dX7_again_148 ?_
        obtain ⟨v84, e_v84, hf⟩ := op_none hf
        refine w_iald hx hb hW h1.1 (h1.2 E _ _) e_v84 dX7_again_149 ?_
        obtain ⟨μ85, e_μ85, hf⟩ := op_none hf
        refine w_iast hx hb hW hV iM8.1 (fun f => iM8.2 E f _) e_μ85 dX7_again_150 (fun H locs hW hV => ?_)
        obtain ⟨v86, e_v86, hf⟩ := op_none hf
        refine lv_iinc (v := v86) (lv' := [(2, .int v86), (0, .ref (ead E 2000)), (1, .ref (ead E k1))]) hx hb dX7_again_151 hl (k := 2) rfl (by rw [← Option.some.inj e_v86]; rfl) (by decide) rfl (fun ls hl => ?_)
        refine lv_goto (tgt := 133) hx hb dX7_again_154 (by decide) ?_
        exact ih_133 μ85 v86 hf H locs ls hW hV (lv_sub hl [1, 2, 0] rfl)
  have c_2 : ∀ (n_2 : Nat) (μ_2 : Mem) (b2_2 : Int32) , f_X7_again_2 k1 n_2 μ_2 b2_2 = some μ' → ∀ (H : Heap) (locs : List Loc) (ls : Array Slot), Wd E μ_2 s H → va_S (eA E) s.heap H locs → lv_has ls 3 [(0, .ref (ead E 2000)), (1, .ref (ead E k1)), (2, .int b2_2)] → W p l e (headSpec (.code yX7_again cX7_again 3 none :: BIG) ({ frames := 0, cells := 0, slots := 0, locals := 0 })).room s m ([.ref (ead E 2000), .ref (ead E k1)] : List Value).toArray below meth c H locs 0 0 (MQ below (QV E μ') ([.ref (ead E 2000), .ref (ead E k1)] : List Value).toArray s 0 0 (eA E)) (F0 m 2 ls []) := by
    intro n_2
    induction n_2 with
    | zero =>
      intro μ_2 b2_2 hf H locs ls hW hV hl
      cases hf
    | succ n_2 ih_2 =>
      intro μ_2 b2_2 hf H locs ls hW hV hl
      rw [f_X7_again_2] at hf
      refine lv_iload_n hx hb dX7_again_2 rfl (lv_at hl 2 rfl) ?_
      refine lv_bipush (v := (6 : Int32)) hx hb dX7_again_3 (by decide) ?_
      refine lv_icmp_ge (tgt := 131) hx hb dX7_again_5 (by decide) (fun y87 => ?_) (fun y87 => ?_)
      · have hf := op_t y87 hf
        refine lv_iconst (v := (0 : Int32)) hx hb dX7_again_131 (by decide) ?_
        refine lv_istore_n (i := 2) (lv' := [(2, .int (0 : Int32)), (0, .ref (ead E 2000)), (1, .ref (ead E k1))]) hx hb dX7_again_132 rfl hl (by decide) rfl (fun ls hl => ?_)
        exact c_133 FU μ_2 (0 : Int32) hf H locs ls hW hV (lv_sub hl [1, 2, 0] rfl)
      · have hf := op_f y87 hf
        refine lv_aload_n hx hb dX7_again_8 rfl (lv_at hl 0 rfl) ?_
        refine gf_RX7_9 hx hb hB hown hW dX7_again_9 ?_
        refine lv_iload_n hx hb dX7_again_12 rfl (lv_at hl 2 rfl) ?_
        refine lv_aload_n hx hb dX7_again_13 rfl (lv_at hl 1 rfl) ?_
        refine lv_iload_n hx hb dX7_again_14 rfl (lv_at hl 2 rfl) ?_
        obtain ⟨v88, e_v88, hf⟩ := op_none hf
        refine w_iald hx hb hW h1.1 (h1.2 E _ _) e_v88 dX7_again_15 ?_
        obtain ⟨μ89, e_μ89, hf⟩ := op_none hf
        refine w_iast hx hb hW hV iM1.1 (fun f => iM1.2 E f _) e_μ89 dX7_again_16 (fun H locs hW hV => ?_)
        refine lv_aload_n hx hb dX7_again_17 rfl (lv_at hl 0 rfl) ?_
        refine gf_RX7_15 hx hb hB hown hW dX7_again_18 ?_
        refine lv_iload_n hx hb dX7_again_21 rfl (lv_at hl 2 rfl) ?_
        refine lv_aload_n hx hb dX7_again_22 rfl (lv_at hl 1 rfl) ?_
        refine lv_bipush (v := (6 : Int32)) hx hb dX7_again_23 (by decide) ?_
        refine lv_iload_n hx hb dX7_again_25 rfl (lv_at hl 2 rfl) ?_
        refine lv_iadd hx hb dX7_again_26 ?_
        obtain ⟨v90, e_v90, hf⟩ := op_none hf
        refine w_iald hx hb hW h1.1 (h1.2 E _ _) e_v90 dX7_again_27 ?_
        obtain ⟨μ91, e_μ91, hf⟩ := op_none hf
        refine w_iast hx hb hW hV iM2.1 (fun f => iM2.2 E f _) e_μ91 dX7_again_28 (fun H locs hW hV => ?_)
        refine lv_aload_n hx hb dX7_again_29 rfl (lv_at hl 0 rfl) ?_
        refine gf_RX7_18 hx hb hB hown hW dX7_again_30 ?_
        refine lv_iload_n hx hb dX7_again_33 rfl (lv_at hl 2 rfl) ?_
        refine lv_aload_n hx hb dX7_again_34 rfl (lv_at hl 1 rfl) ?_
        refine lv_bipush (v := (12 : Int32)) hx hb dX7_again_35 (by decide) ?_
        refine lv_iload_n hx hb dX7_again_37 rfl (lv_at hl 2 rfl) ?_
        refine lv_iadd hx hb dX7_again_38 ?_
        obtain ⟨v92, e_v92, hf⟩ := op_none hf
        refine w_iald hx hb hW h1.1 (h1.2 E _ _) e_v92 dX7_again_39 ?_
        obtain ⟨μ93, e_μ93, hf⟩ := op_none hf
        refine w_iast hx hb hW hV iM3.1 (fun f => iM3.2 E f _) e_μ93 dX7_again_40 (fun H locs hW hV => ?_)
        refine lv_aload_n hx hb dX7_again_41 rfl (lv_at hl 0 rfl) ?_
        refine gf_RX7_21 hx hb hB hown hW dX7_again_42 ?_
        refine lv_iload_n hx hb dX7_again_45 rfl (lv_at hl 2 rfl) ?_
        refine lv_aload_n hx hb dX7_again_46 rfl (lv_at hl 1 rfl) ?_
        refine lv_bipush (v := (18 : Int32)) hx hb dX7_again_47 (by decide) ?_
        refine lv_iload_n hx hb dX7_again_49 rfl (lv_at hl 2 rfl) ?_
        refine lv_iadd hx hb dX7_again_50 ?_
        obtain ⟨v94, e_v94, hf⟩ := op_none hf
        refine w_iald hx hb hW h1.1 (h1.2 E _ _) e_v94 dX7_again_51 ?_
        obtain ⟨μ95, e_μ95, hf⟩ := op_none hf
        refine w_iast hx hb hW hV iM4.1 (fun f => iM4.2 E f _) e_μ95 dX7_again_52 (fun H locs hW hV => ?_)
        refine lv_aload_n hx hb dX7_again_53 rfl (lv_at hl 0 rfl) ?_
        refine gf_RX7_24 hx hb hB hown hW dX7_again_54 ?_
        refine lv_iload_n hx hb dX7_again_57 rfl (lv_at hl 2 rfl) ?_
        refine lv_aload_n hx hb dX7_again_58 rfl (lv_at hl 1 rfl) ?_
        refine lv_bipush (v := (24 : Int32)) hx hb dX7_again_59 (by decide) ?_
        refine lv_iload_n hx hb dX7_again_61 rfl (lv_at hl 2 rfl) ?_
        refine lv_iadd hx hb dX7_again_62 ?_
        obtain ⟨v96, e_v96, hf⟩ := op_none hf
        refine w_iald hx hb hW h1.1 (h1.2 E _ _) e_v96 dX7_again_63 ?_
        obtain ⟨μ97, e_μ97, hf⟩ := op_none hf
        refine w_iast hx hb hW hV iM5.1 (fun f => iM5.2 E f _) e_μ97 dX7_again_64 (fun H locs hW hV => ?_)
        refine lv_aload_n hx hb dX7_again_65 rfl (lv_at hl 0 rfl) ?_
        refine gf_RX7_27 hx hb hB hown hW dX7_again_66 ?_
        refine lv_iload_n hx hb dX7_again_69 rfl (lv_at hl 2 rfl) ?_
        refine lv_aload_n hx hb dX7_again_70 rfl (lv_at hl 1 rfl) ?_
        refine lv_bipush (v := (30 : Int32)) hx hb dX7_again_71 (by decide) ?_
        refine lv_iload_n hx hb dX7_again_73 rfl (lv_at hl 2 rfl) ?_
        refine lv_iadd hx hb dX7_again_74 ?_
        obtain ⟨v98, e_v98, hf⟩ := op_none hf
        refine w_iald hx hb hW h1.1 (h1.2 E _ _) e_v98 dX7_again_75 ?_
        obtain ⟨μ99, e_μ99, hf⟩ := op_none hf
        refine w_iast hx hb hW hV iM6.1 (fun f => iM6.2 E f _) e_μ99 dX7_again_76 (fun H locs hW hV => ?_)
        refine lv_aload_n hx hb dX7_again_77 rfl (lv_at hl 0 rfl) ?_
        refine gf_RX7_30 hx hb hB hown hW dX7_again_78 ?_
        refine lv_iload_n hx hb dX7_again_81 rfl (lv_at hl 2 rfl) ?_
        refine lv_aload_n hx hb dX7_again_82 rfl (lv_at hl 1 rfl) ?_
        refine lv_bipush (v := (36 : Int32)) hx hb dX7_again_83 (by decide) ?_
        refine lv_iload_n hx hb dX7_again_85 rfl (lv_at hl 2 rfl) ?_
        refine lv_iadd hx hb dX7_again_86 ?_
        obtain ⟨v100, e_v100, hf⟩ := op_none hf
        refine w_iald hx hb hW h1.1 (h1.2 E _ _) e_v100 dX7_again_87 ?_
        obtain ⟨μ101, e_μ101, hf⟩ := op_none hf
        refine w_iast hx hb hW hV iM7.1 (fun f => iM7.2 E f _) e_μ101 dX7_again_88 (fun H locs hW hV => ?_)
        refine lv_aload_n hx hb dX7_again_89 rfl (lv_at hl 0 rfl) ?_
        refine gf_RX7_61 hx hb hB hown hW dX7_again_90 ?_
        refine lv_iload_n hx hb dX7_again_93 rfl (lv_at hl 2 rfl) ?_
        refine lv_aload_n hx hb dX7_again_94 rfl (lv_at hl 1 rfl) ?_
        refine lv_bipush (v := (42 : Int32)) hx hb dX7_again_95 (by decide) ?_
        refine lv_iload_n hx hb dX7_again_97 rfl (lv_at hl 2 rfl) ?_
        refine lv_iadd hx hb dX7_again_98 ?_
        obtain ⟨v102, e_v102, hf⟩ := op_none hf
        refine w_iald hx hb hW h1.1 (h1.2 E _ _) e_v102 dX7_again_99 ?_
        obtain ⟨μ103, e_μ103, hf⟩ := op_none hf
        refine w_iast hx hb hW hV iM28.1 (fun f => iM28.2 E f _) e_μ103 dX7_again_100 (fun H locs hW hV => ?_)
        refine lv_aload_n hx hb dX7_again_101 rfl (lv_at hl 0 rfl) ?_
        refine gf_RX7_64 hx hb hB hown hW dX7_again_102 ?_
        refine lv_iload_n hx hb dX7_again_105 rfl (lv_at hl 2 rfl) ?_
        refine lv_aload_n hx hb dX7_again_106 rfl (lv_at hl 1 rfl) ?_
        refine lv_bipush (v := (48 : Int32)) hx hb dX7_again_107 (by decide) ?_
        refine lv_iload_n hx hb dX7_again_109 rfl (lv_at hl 2 rfl) ?_
        refine lv_iadd hx hb dX7_again_110 ?_
        obtain ⟨v104, e_v104, hf⟩ := op_none hf
        refine w_iald hx hb hW h1.1 (h1.2 E _ _) e_v104 dX7_again_111 ?_
        obtain ⟨μ105, e_μ105, hf⟩ := op_none hf
        refine w_iast hx hb hW hV iM29.1 (fun f => iM29.2 E f _) e_μ105 dX7_again_112 (fun H locs hW hV => ?_)
        refine lv_aload_n hx hb dX7_again_113 rfl (lv_at hl 0 rfl) ?_
        refine gf_RX7_67 hx hb hB hown hW dX7_again_114 ?_
        refine lv_iload_n hx hb dX7_again_117 rfl (lv_at hl 2 rfl) ?_
        refine lv_aload_n hx hb dX7_again_118 rfl (lv_at hl 1 rfl) ?_
        refine lv_bipush (v := (54 : Int32)) hx hb dX7_again_119 (by decide) ?_
        refine lv_iload_n hx hb dX7_again_121 rfl (lv_at hl 2 rfl) ?_
        refine lv_iadd hx hb dX7_again_122 ?_
        obtain ⟨v106, e_v106, hf⟩ := op_none hf
        refine w_iald hx hb hW h1.1 (h1.2 E _ _) e_v106 dX7_again_123 ?_
        obtain ⟨μ107, e_μ107, hf⟩ := op_none hf
        refine w_iast hx hb hW hV iM30.1 (fun f => iM30.2 E f _) e_μ107 dX7_again_124 (fun H locs hW hV => ?_)
        obtain ⟨v108, e_v108, hf⟩ := op_none hf
        refine lv_iinc (v := v108) (lv' := [(2, .int v108), (0, .ref (ead E 2000)), (1, .ref (ead E k1))]) hx hb dX7_again_125 hl (k := 2) rfl (by rw [← Option.some.inj e_v108]; rfl) (by decide) rfl (fun ls hl => ?_)
        refine lv_goto (tgt := 2) hx hb dX7_again_128 (by decide) ?_
        exact ih_2 μ107 v108 hf H locs ls hW hV (lv_sub hl [1, 2, 0] rfl)
  obtain ⟨H, hH⟩ : ∃ H : Heap, H = s.heap := ⟨_, rfl⟩
  obtain ⟨locs, hlocs⟩ : ∃ locs : List Loc, locs = [] := ⟨_, rfl⟩
  rw [show (W p l e (headSpec (.code yX7_again cX7_again 3 none :: BIG) ({ frames := 0, cells := 0, slots := 0, locals := 0 })).room s m ([.ref (ead E 2000), .ref (ead E k1)] : List Value).toArray below meth c s.heap [] 0 0) = W p l e (headSpec (.code yX7_again cX7_again 3 none :: BIG) ({ frames := 0, cells := 0, slots := 0, locals := 0 })).room s m ([.ref (ead E 2000), .ref (ead E k1)] : List Value).toArray below meth c H locs 0 0 by rw [hH, hlocs]]
  have hV : va_S (eA E) s.heap H locs := by rw [hH, hlocs]; exact hV
  have hW : Wd E μ s H := by rw [hH]; exact hW
  unfold f_X7_again at hf
  refine lv_iconst (v := (0 : Int32)) hx hb dX7_again_0 (by decide) ?_
  refine lv_istore_n (i := 2) (lv' := [(2, .int (0 : Int32)), (0, .ref (ead E 2000)), (1, .ref (ead E k1))]) hx hb dX7_again_1 rfl hl (by decide) rfl (fun ls hl => ?_)
  exact c_2 FU μ (0 : Int32) hf H locs ls hW hV (lv_sub hl [1, 2, 0] rfl)
set_option maxHeartbeats 8000000 in
set_option maxRecDepth 100000 in
theorem k_X7_on (l : Launch) (E : WE) (μ : Mem) (a1 : Int32) (a2 : Int32) (r : Int32) (μ' : Mem) (hf : f_X7_on μ a1 a2 = some (r, μ')) : Met l yX7_on (.code yX7_on cX7_on 4 (some .int) :: BIG) ({ frames := 8, cells := 0, slots := 0, locals := 186 }) (PW E μ [.ref (ead E 2000), .int a1, .int a2]) (QI E r μ') 0 0 (eA E) := by
  refine Met.ofW (cc := cX7_on) (maxL := 4) (ret := (some .int)) (by decide) rfl ?_
  intro p e s m args below meth c s₁ B hml hv
  obtain ⟨rfl, hW, hZ⟩ := hv
  have hx := B.exec
  have hb := B.bytes
  have hr := B.returns
  have hB : ∀ w ∈ BIG, w.before _ s = true := fun w h => atoms_spec (ws := (.code yX7_on cX7_on 4 (some .int) :: BIG)) B.pre w (List.mem_cons_of_mem _ h)
  have hown : s.vm.findClass RX7 = some m.cls := findClass_of_methodNamed B.named
  have hlocks := B.notSynchronized
  have hV : va_S (eA E) s.heap s.heap [] := va_S.rf
  have hl := lv_entry ([.ref (ead E 2000), .int a1, .int a2]) (n := 4) (Nat.le_of_ble_eq_true rfl)
  rw [lg_entry_eq]
  generalize (lg_sl ([.ref (ead E 2000), .int a1, .int a2]) ++ List.replicate (4 - (lg_sl ([.ref (ead E 2000), .int a1, .int a2])).length) Slot.unset).toArray = ls at hl ⊢
  have hl : lv_has ls 4 [(0, .ref (ead E 2000)), (1, .int a1), (2, .int a2)] := hl
  have c_108 : ∀ (μ_108 : Mem) (s0_108 : Int32) , f_X7_on_108 μ_108 s0_108 = some (r, μ') → ∀ (H : Heap) (locs : List Loc) (ls : Array Slot), Wd E μ_108 s H → va_S (eA E) s.heap H locs → lv_has ls 4 [(0, .ref (ead E 2000))] → W p l e (headSpec (.code yX7_on cX7_on 4 (some .int) :: BIG) ({ frames := 8, cells := 0, slots := 0, locals := 186 })).room s m ([.ref (ead E 2000), .int a1, .int a2] : List Value).toArray below meth c H locs 0 0 (MQ below (QI E r μ') ([.ref (ead E 2000), .int a1, .int a2] : List Value).toArray s 0 0 (eA E)) (F0 m 108 ls [.int s0_108]) := by
    intro μ_108 s0_108 hf H locs ls hW hV hl
    unfold f_X7_on_108 at hf
    refine lv_istore_n (i := 3) (lv' := [(3, .int s0_108), (0, .ref (ead E 2000))]) hx hb dX7_on_108 rfl hl (by decide) rfl (fun ls hl => ?_)
    refine lv_aload_n hx hb dX7_on_109 rfl (lv_at hl 1 rfl) ?_
    refine lv_aload_n hx hb dX7_on_110 rfl (lv_at hl 1 rfl) ?_
    refine gf_RX7_88 hx hb hB hown hW dX7_on_111 ?_
    obtain ⟨μ30, e_31, hf⟩ := op_none hf
    refine w_callV (rn_RX7_261 (As := [.ref (ead E 2041)]) hx hb hml hown hB hW hZ hV (k_X7_again l E _ 2041 iM41 μ30 e_31) rfl rfl ⟨(Nat.le_of_ble_eq_true rfl), (Nat.le_of_ble_eq_true rfl)⟩ (w_rec hW oM.1 (oM.2 E _ _) rfl) rfl hl.1 rfl (Nat.le_of_ble_eq_true rfl) dX7_on_114 ⟨Nat.le_refl _, Nat.le_refl _⟩) hV (fun H locs hW hV => ?_)
    refine lv_iload_n hx hb dX7_on_117 rfl (lv_at hl 0 rfl) ?_
    exact w_retI hx hb hr hlocks hW hV (Prod.mk.inj (Option.some.inj hf)).1 (Prod.mk.inj (Option.some.inj hf)).2 dX7_on_118
  have c_45 : ∀ (n_45 : Nat) (μ_45 : Mem) (b1_45 : Int32) (b2_45 : Int32) (b3_45 : Int32) , f_X7_on_45 n_45 μ_45 b1_45 b2_45 b3_45 = some (r, μ') → ∀ (H : Heap) (locs : List Loc) (ls : Array Slot), Wd E μ_45 s H → va_S (eA E) s.heap H locs → lv_has ls 4 [(0, .ref (ead E 2000)), (1, .int b1_45), (2, .int b2_45), (3, .int b3_45)] → W p l e (headSpec (.code yX7_on cX7_on 4 (some .int) :: BIG) ({ frames := 8, cells := 0, slots := 0, locals := 186 })).room s m ([.ref (ead E 2000), .int a1, .int a2] : List Value).toArray below meth c H locs 0 0 (MQ below (QI E r μ') ([.ref (ead E 2000), .int a1, .int a2] : List Value).toArray s 0 0 (eA E)) (F0 m 45 ls []) := by
    intro n_45
    induction n_45 with
    | zero =>
      intro μ_45 b1_45 b2_45 b3_45 hf H locs ls hW hV hl
      cases hf
    | succ n_45 ih_45 =>
      intro μ_45 b1_45 b2_45 b3_45 hf H locs ls hW hV hl
      rw [f_X7_on_45] at hf
      refine lv_iload_n hx hb dX7_on_45 rfl (lv_at hl 3 rfl) ?_
      refine lv_iload_n hx hb dX7_on_46 rfl (lv_at hl 1 rfl) ?_
      refine lv_icmp_ge (tgt := 60) hx hb dX7_on_47 (by decide) (fun y32 => ?_) (fun y32 => ?_)
      · have hf := op_t y32 hf
        refine lv_iload_n hx hb dX7_on_60 rfl (lv_at hl 2 rfl) ?_
        refine lv_if_ne (tgt := 75) hx hb dX7_on_61 (by decide) (fun y33 => ?_) (fun y33 => ?_)
        · have hf := op_f y33 hf
          refine lv_iload_n hx hb dX7_on_75 rfl (lv_at hl 2 rfl) ?_
          refine lv_iconst (v := (1 : Int32)) hx hb dX7_on_76 (by decide) ?_
          refine lv_icmp_ne (tgt := 87) hx hb dX7_on_77 (by decide) (fun y34 => ?_) (fun y34 => ?_)
          · have hf := op_f y34 hf
            refine lv_iload_n hx hb dX7_on_87 rfl (lv_at hl 2 rfl) ?_
            refine lv_iconst (v := (2 : Int32)) hx hb dX7_on_88 (by decide) ?_
            refine lv_icmp_ne (tgt := 99) hx hb dX7_on_89 (by decide) (fun y35 => ?_) (fun y35 => ?_)
            · have hf := op_f y35 hf
              refine lv_aload_n hx hb dX7_on_99 rfl (lv_at hl 0 rfl) ?_
              refine gf_RX7_27 hx hb hB hown hW dX7_on_100 ?_
              refine lv_iload_n hx hb dX7_on_103 rfl (lv_at hl 2 rfl) ?_
              refine lv_bipush (v := (10 : Int32)) hx hb dX7_on_104 (by decide) ?_
              refine lv_isub hx hb dX7_on_106 ?_
              obtain ⟨v36, e_v36, hf⟩ := op_none hf
              refine w_iald hx hb hW iM6.1 (iM6.2 E _ _) e_v36 dX7_on_107 ?_
              exact c_108 μ_45 v36 hf H locs ls hW hV (lv_sub hl [0] rfl)
            · have hf := op_t y35 hf
              refine lv_aload_n hx hb dX7_on_92 rfl (lv_at hl 0 rfl) ?_
              obtain ⟨v37, e_38, hf⟩ := op_none hf
              refine w_callI (rn_RX7_247 (As := []) hx hb hml hown hB hW hZ hV (k_X7_allMissed l E _ v37 e_38) rfl rfl ⟨(Nat.le_of_ble_eq_true rfl), (Nat.le_of_ble_eq_true rfl)⟩ (w_rec hW oM.1 (oM.2 E _ _) rfl) rfl hl.1 rfl (Nat.le_of_ble_eq_true rfl) dX7_on_93 ⟨Nat.le_refl _, Nat.le_refl _⟩) hV (fun H locs hW hV => ?_)
              refine lv_goto (tgt := 108) hx hb dX7_on_96 (by decide) ?_
              exact c_108 μ_45 v37 hf H locs ls hW hV (lv_sub hl [0] rfl)
          · have hf := op_t y34 hf
            refine lv_aload_n hx hb dX7_on_80 rfl (lv_at hl 0 rfl) ?_
            obtain ⟨v39, e_40, hf⟩ := op_none hf
            refine w_callI (rn_RX7_244 (As := []) hx hb hml hown hB hW hZ hV (k_X7_allWent l E _ v39 e_40) rfl rfl ⟨(Nat.le_of_ble_eq_true rfl), (Nat.le_of_ble_eq_true rfl)⟩ (w_rec hW oM.1 (oM.2 E _ _) rfl) rfl hl.1 rfl (Nat.le_of_ble_eq_true rfl) dX7_on_81 ⟨Nat.le_refl _, Nat.le_refl _⟩) hV (fun H locs hW hV => ?_)
            refine lv_goto (tgt := 108) hx hb dX7_on_84 (by decide) ?_
            exact c_108 μ_45 v39 hf H locs ls hW hV (lv_sub hl [0] rfl)
        · have hf := op_t y33 hf
          refine lv_aload_n hx hb dX7_on_64 rfl (lv_at hl 0 rfl) ?_
          refine lv_aload_n hx hb dX7_on_65 rfl (lv_at hl 0 rfl) ?_
          refine gf_RX7_229 hx hb hB hown hW dX7_on_66 ?_
          obtain ⟨p44, e_43, hf⟩ := op_none hf
          refine w_callI (rn_RX7_235 (As := [.int (gI μ_45 2000 10)]) hx hb hml hown hB hW hZ hV (k_X7_goOff l E _ (gI μ_45 2000 10) p44.1 p44.2 e_43) rfl rfl ⟨(Nat.le_of_ble_eq_true rfl), (Nat.le_of_ble_eq_true rfl)⟩ (w_rec hW oM.1 (oM.2 E _ _) rfl) rfl hl.1 rfl (Nat.le_of_ble_eq_true rfl) dX7_on_69 ⟨Nat.le_refl _, Nat.le_refl _⟩) hV (fun H locs hW hV => ?_)
          refine lv_goto (tgt := 108) hx hb dX7_on_72 (by decide) ?_
          exact c_108 p44.2 p44.1 hf H locs ls hW hV (lv_sub hl [0] rfl)
      · have hf := op_f y32 hf
        refine lv_aload_n hx hb dX7_on_50 rfl (lv_at hl 0 rfl) ?_
        obtain ⟨μ45, e_46, hf⟩ := op_none hf
        refine w_callV (rn_RX7_251 (As := []) hx hb hml hown hB hW hZ hV (k_X7_goesDay l E _ μ45 e_46) rfl rfl ⟨(Nat.le_of_ble_eq_true rfl), (Nat.le_of_ble_eq_true rfl)⟩ (w_rec hW oM.1 (oM.2 E _ _) rfl) rfl hl.1 rfl (Nat.le_of_ble_eq_true rfl) dX7_on_51 ⟨Nat.le_refl _, Nat.le_refl _⟩) hV (fun H locs hW hV => ?_)
        obtain ⟨v47, e_v47, hf⟩ := op_none hf
        refine lv_iinc (v := v47) (lv' := [(3, .int v47), (0, .ref (ead E 2000)), (1, .int b1_45), (2, .int b2_45)]) hx hb dX7_on_54 hl (k := 3) rfl (by rw [← Option.some.inj e_v47]; rfl) (by decide) rfl (fun ls hl => ?_)
        refine lv_goto (tgt := 45) hx hb dX7_on_57 (by decide) ?_
        exact ih_45 μ45 b1_45 b2_45 v47 hf H locs ls hW hV (lv_sub hl [1, 2, 3, 0] rfl)
  have c_22 : ∀ (μ_22 : Mem) (b1_22 : Int32) (b2_22 : Int32) , f_X7_on_22 μ_22 b1_22 b2_22 = some (r, μ') → ∀ (H : Heap) (locs : List Loc) (ls : Array Slot), Wd E μ_22 s H → va_S (eA E) s.heap H locs → lv_has ls 4 [(0, .ref (ead E 2000)), (1, .int b1_22), (2, .int b2_22)] → W p l e (headSpec (.code yX7_on cX7_on 4 (some .int) :: BIG) ({ frames := 8, cells := 0, slots := 0, locals := 186 })).room s m ([.ref (ead E 2000), .int a1, .int a2] : List Value).toArray below meth c H locs 0 0 (MQ below (QI E r μ') ([.ref (ead E 2000), .int a1, .int a2] : List Value).toArray s 0 0 (eA E)) (F0 m 22 ls []) := by
    intro μ_22 b1_22 b2_22 hf H locs ls hW hV hl
    unfold f_X7_on_22 at hf
    refine lv_iload_n hx hb dX7_on_22 rfl (lv_at hl 1 rfl) ?_
    refine lv_iconst (v := (0 : Int32)) hx hb dX7_on_23 (by decide) ?_
    refine lv_bipush (v := (60 : Int32)) hx hb dX7_on_24 (by decide) ?_
    obtain ⟨v48, e_49, hf⟩ := op_none hf
    refine w_callN (rn_RX7_111 (As := [.int b1_22, .int (0 : Int32), .int (60 : Int32)]) hx hb hml hown hB hW hZ hV (k_X7_within l E _ b1_22 (0 : Int32) (60 : Int32) v48 e_49) rfl rfl ⟨(Nat.le_of_ble_eq_true rfl), (Nat.le_of_ble_eq_true rfl)⟩ rfl hl.1 rfl (Nat.le_of_ble_eq_true rfl) dX7_on_26 ⟨Nat.le_refl _, Nat.le_refl _⟩) hV (fun H locs hn_v48 hW hV => ?_)
    refine lv_if_ne (tgt := 35) hx hb dX7_on_29 (by decide) (fun y50 => ?_) (fun y50 => ?_)
    · have hf := op_f y50 hf
      refine lv_aload_n hx hb dX7_on_35 rfl (lv_at hl 0 rfl) ?_
      refine lv_aload_n hx hb dX7_on_36 rfl (lv_at hl 0 rfl) ?_
      refine gf_RX7_88 hx hb hB hown hW dX7_on_37 ?_
      obtain ⟨μ51, e_52, hf⟩ := op_none hf
      refine w_callV (rn_RX7_257 (As := [.ref (ead E 2041)]) hx hb hml hown hB hW hZ hV (k_X7_keep l E _ 2041 iM41 μ51 e_52) rfl rfl ⟨(Nat.le_of_ble_eq_true rfl), (Nat.le_of_ble_eq_true rfl)⟩ (w_rec hW oM.1 (oM.2 E _ _) rfl) rfl hl.1 rfl (Nat.le_of_ble_eq_true rfl) dX7_on_40 ⟨Nat.le_refl _, Nat.le_refl _⟩) hV (fun H locs hW hV => ?_)
      refine lv_iconst (v := (0 : Int32)) hx hb dX7_on_43 (by decide) ?_
      refine lv_istore_n (i := 3) (lv' := [(3, .int (0 : Int32)), (0, .ref (ead E 2000)), (1, .int b1_22), (2, .int b2_22)]) hx hb dX7_on_44 rfl hl (by decide) rfl (fun ls hl => ?_)
      exact c_45 FU μ51 b1_22 b2_22 (0 : Int32) hf H locs ls hW hV (lv_sub hl [1, 2, 3, 0] rfl)
    · have hf := op_t y50 hf
      refine lv_bipush (v := (-2 : Int32)) hx hb dX7_on_32 (by decide) ?_
      exact w_retI hx hb hr hlocks hW hV (Prod.mk.inj (Option.some.inj hf)).1 (Prod.mk.inj (Option.some.inj hf)).2 dX7_on_34
  obtain ⟨H, hH⟩ : ∃ H : Heap, H = s.heap := ⟨_, rfl⟩
  obtain ⟨locs, hlocs⟩ : ∃ locs : List Loc, locs = [] := ⟨_, rfl⟩
  rw [show (W p l e (headSpec (.code yX7_on cX7_on 4 (some .int) :: BIG) ({ frames := 8, cells := 0, slots := 0, locals := 186 })).room s m ([.ref (ead E 2000), .int a1, .int a2] : List Value).toArray below meth c s.heap [] 0 0) = W p l e (headSpec (.code yX7_on cX7_on 4 (some .int) :: BIG) ({ frames := 8, cells := 0, slots := 0, locals := 186 })).room s m ([.ref (ead E 2000), .int a1, .int a2] : List Value).toArray below meth c H locs 0 0 by rw [hH, hlocs]]
  have hV : va_S (eA E) s.heap H locs := by rw [hH, hlocs]; exact hV
  have hW : Wd E μ s H := by rw [hH]; exact hW
  unfold f_X7_on at hf
  refine lv_iload_n hx hb dX7_on_0 rfl (lv_at hl 2 rfl) ?_
  refine lv_iconst (v := (0 : Int32)) hx hb dX7_on_1 (by decide) ?_
  refine lv_iconst (v := (2 : Int32)) hx hb dX7_on_2 (by decide) ?_
  obtain ⟨v53, e_54, hf⟩ := op_none hf
  refine w_callN (rn_RX7_111 (As := [.int a2, .int (0 : Int32), .int (2 : Int32)]) hx hb hml hown hB hW hZ hV (k_X7_within l E _ a2 (0 : Int32) (2 : Int32) v53 e_54) rfl rfl ⟨(Nat.le_of_ble_eq_true rfl), (Nat.le_of_ble_eq_true rfl)⟩ rfl hl.1 rfl (Nat.le_of_ble_eq_true rfl) dX7_on_3 ⟨Nat.le_refl _, Nat.le_refl _⟩) hV (fun H locs hn_v53 hW hV => ?_)
  refine lv_if_ne (tgt := 22) hx hb dX7_on_6 (by decide) (fun y55 => ?_) (fun y55 => ?_)
  · have hf := op_f y55 hf
    exact c_22 μ a1 a2 hf H locs ls hW hV (lv_sub hl [0, 1, 2] rfl)
  · have hf := op_t y55 hf
    refine lv_aload_n hx hb dX7_on_9 rfl (lv_at hl 0 rfl) ?_
    refine lv_iload_n hx hb dX7_on_10 rfl (lv_at hl 2 rfl) ?_
    refine lv_bipush (v := (10 : Int32)) hx hb dX7_on_11 (by decide) ?_
    refine lv_isub hx hb dX7_on_13 ?_
    obtain ⟨v56, e_57, hf⟩ := op_none hf
    refine w_callN (rn_RX7_115 (As := [.int (a2 - (10 : Int32))]) hx hb hml hown hB hW hZ hV (k_X7_isOne l E _ (a2 - (10 : Int32)) v56 e_57) rfl rfl ⟨(Nat.le_of_ble_eq_true rfl), (Nat.le_of_ble_eq_true rfl)⟩ (w_rec hW oM.1 (oM.2 E _ _) rfl) rfl hl.1 rfl (Nat.le_of_ble_eq_true rfl) dX7_on_14 ⟨Nat.le_refl _, Nat.le_refl _⟩) hV (fun H locs hn_v56 hW hV => ?_)
    refine lv_if_ne (tgt := 22) hx hb dX7_on_17 (by decide) (fun y58 => ?_) (fun y58 => ?_)
    · have hf := op_f y58 hf
      exact c_22 μ a1 a2 hf H locs ls hW hV (lv_sub hl [0, 1, 2] rfl)
    · have hf := op_t y58 hf
      refine lv_iconst (v := (-1 : Int32)) hx hb dX7_on_20 (by decide) ?_
      exact w_retI hx hb hr hlocks hW hV (Prod.mk.inj (Option.some.inj hf)).1 (Prod.mk.inj (Option.some.inj hf)).2 dX7_on_21
