set_option maxHeartbeats 8000000 in
set_option maxRecDepth 100000 in
theorem k_X3_readTest (l : Launch) (E : WE) (μ : Mem) (k0 : Nat) (h0 : isSo k0) (r : Int32) (μ' : Mem) (hf : f_X3_readTest μ k0 = some (r, μ')) : Met l yX3_readTest (.code yX3_readTest cX3_readTest 5 (some .boolean) :: BIG) ({ frames := 6, cells := 0, slots := 0, locals := 151 }) (PW E μ [.ref (ead E k0), .ref (ead E 2)]) (QN E .boolean r μ') 0 0 (eA E) := by
  refine Met.ofW (cc := cX3_readTest) (maxL := 5) (ret := (some .boolean)) (by decide) rfl ?_
  intro p e s m args below meth c s₁ B hml hv
  obtain ⟨rfl, hW, hZ⟩ := hv
  have hx := B.exec
  have hb := B.bytes
  have hr := B.returns
  have hB : ∀ w ∈ BIG, w.before _ s = true := fun w h => atoms_spec (ws := (.code yX3_readTest cX3_readTest 5 (some .boolean) :: BIG)) B.pre w (List.mem_cons_of_mem _ h)
  have hown : s.vm.findClass RX3 = some m.cls := findClass_of_methodNamed B.named
  have hlocks := B.notSynchronized
  have hV : va_S (eA E) s.heap s.heap [] := va_S.rf
  have hl := lv_entry ([.ref (ead E k0), .ref (ead E 2)]) (n := 5) (Nat.le_of_ble_eq_true rfl)
  rw [lg_entry_eq]
  generalize (lg_sl ([.ref (ead E k0), .ref (ead E 2)]) ++ List.replicate (5 - (lg_sl ([.ref (ead E k0), .ref (ead E 2)])).length) Slot.unset).toArray = ls at hl ⊢
  have hl : lv_has ls 5 [(0, .ref (ead E k0)), (1, .ref (ead E 2))] := hl
  obtain ⟨H, hH⟩ : ∃ H : Heap, H = s.heap := ⟨_, rfl⟩
  obtain ⟨locs, hlocs⟩ : ∃ locs : List Loc, locs = [] := ⟨_, rfl⟩
  rw [show (W p l e (headSpec (.code yX3_readTest cX3_readTest 5 (some .boolean) :: BIG) ({ frames := 6, cells := 0, slots := 0, locals := 151 })).room s m ([.ref (ead E k0), .ref (ead E 2)] : List Value).toArray below meth c s.heap [] 0 0) = W p l e (headSpec (.code yX3_readTest cX3_readTest 5 (some .boolean) :: BIG) ({ frames := 6, cells := 0, slots := 0, locals := 151 })).room s m ([.ref (ead E k0), .ref (ead E 2)] : List Value).toArray below meth c H locs 0 0 by rw [hH, hlocs]]
  have hV : va_S (eA E) s.heap H locs := by rw [hH, hlocs]; exact hV
  have hW : Wd E μ s H := by rw [hH]; exact hW
  unfold f_X3_readTest at hf
  refine lv_aload_n hx hb dX3_readTest_0 rfl (lv_at hl 1 rfl) ?_
  refine w_ldcS hx hb hown hZ (List.mem_of_getElem? (i := 4) rfl) dX3_readTest_1 ?_
  obtain ⟨p21, e_20, hf⟩ := op_none hf
  refine w_callI (rn_RX3_76 (As := [.ref (adS E 4)]) hx hb hml hown hB hW hZ hV (k_X5_takeOneOf l E _ 4 (by decide) p21.1 p21.2 e_20) rfl rfl ⟨(Nat.le_of_ble_eq_true rfl), (Nat.le_of_ble_eq_true rfl)⟩ (w_rec hW oTx.1 (oTx.2 E _ _) rfl) rfl hl.1 rfl (Nat.le_of_ble_eq_true rfl) dX3_readTest_3 ⟨Nat.le_refl _, Nat.le_refl _⟩) hV (fun H locs hW hV => ?_)
  refine lv_istore_n (i := 2) (lv' := [(2, .int p21.1), (0, .ref (ead E k0)), (1, .ref (ead E 2))]) hx hb dX3_readTest_6 rfl hl (by decide) rfl (fun ls hl => ?_)
  refine lv_iload_n hx hb dX3_readTest_7 rfl (lv_at hl 0 rfl) ?_
  refine lv_if_ge (tgt := 13) hx hb dX3_readTest_8 (by decide) (fun y22 => ?_) (fun y22 => ?_)
  · have hf := op_t y22 hf
    refine lv_aload_n hx hb dX3_readTest_13 rfl (lv_at hl 2 rfl) ?_
    refine w_ldcS hx hb hown hZ (List.mem_of_getElem? (i := 5) rfl) dX3_readTest_14 ?_
    obtain ⟨p26, e_25, hf⟩ := op_none hf
    refine w_callI (rn_RX3_76 (As := [.ref (adS E 5)]) hx hb hml hown hB hW hZ hV (k_X5_takeOneOf l E _ 5 (by decide) p26.1 p26.2 e_25) rfl rfl ⟨(Nat.le_of_ble_eq_true rfl), (Nat.le_of_ble_eq_true rfl)⟩ (w_rec hW oTx.1 (oTx.2 E _ _) rfl) rfl hl.1 rfl (Nat.le_of_ble_eq_true rfl) dX3_readTest_16 ⟨Nat.le_refl _, Nat.le_refl _⟩) hV (fun H locs hW hV => ?_)
    refine lv_istore_n (i := 3) (lv' := [(3, .int p26.1), (2, .int p21.1), (0, .ref (ead E k0)), (1, .ref (ead E 2))]) hx hb dX3_readTest_19 rfl hl (by decide) rfl (fun ls hl => ?_)
    refine lv_iload_n hx hb dX3_readTest_20 rfl (lv_at hl 0 rfl) ?_
    refine lv_if_ge (tgt := 26) hx hb dX3_readTest_21 (by decide) (fun y27 => ?_) (fun y27 => ?_)
    · have hf := op_t y27 hf
      refine lv_aload_n hx hb dX3_readTest_26 rfl (lv_at hl 3 rfl) ?_
      obtain ⟨p31, e_30, hf⟩ := op_none hf
      refine w_callI (rn_RX3_57 (As := []) hx hb hml hown hB hW hZ hV (k_X5_takeNumber l E _ p31.1 p31.2 e_30) rfl rfl ⟨(Nat.le_of_ble_eq_true rfl), (Nat.le_of_ble_eq_true rfl)⟩ (w_rec hW oTx.1 (oTx.2 E _ _) rfl) rfl hl.1 rfl (Nat.le_of_ble_eq_true rfl) dX3_readTest_27 ⟨Nat.le_refl _, Nat.le_refl _⟩) hV (fun H locs hW hV => ?_)
      refine lv_istore (i := 4) (lv' := [(4, .int p31.1), (3, .int p26.1), (2, .int p21.1), (0, .ref (ead E k0)), (1, .ref (ead E 2))]) hx hb dX3_readTest_30 hl (by decide) rfl (fun ls hl => ?_)
      refine lv_iload hx hb dX3_readTest_32 (lv_at hl 0 rfl) ?_
      refine lv_if_ge (tgt := 39) hx hb dX3_readTest_34 (by decide) (fun y32 => ?_) (fun y32 => ?_)
      · have hf := op_t y32 hf
        refine lv_aload_n hx hb dX3_readTest_39 rfl (lv_at hl 3 rfl) ?_
        refine lv_iload_n hx hb dX3_readTest_40 rfl (lv_at hl 2 rfl) ?_
        refine lv_sipush (v := (1000 : Int32)) hx hb dX3_readTest_41 (by decide) ?_
        refine lv_imul hx hb dX3_readTest_44 ?_
        refine lv_iload_n hx hb dX3_readTest_45 rfl (lv_at hl 1 rfl) ?_
        refine lv_bipush (v := (100 : Int32)) hx hb dX3_readTest_46 (by decide) ?_
        refine lv_imul hx hb dX3_readTest_48 ?_
        refine lv_iadd hx hb dX3_readTest_49 ?_
        refine lv_iload hx hb dX3_readTest_50 (lv_at hl 0 rfl) ?_
        refine lv_iadd hx hb dX3_readTest_52 ?_
        obtain ⟨μ33, e_34, hf⟩ := op_none hf
        refine w_callV (rn_RX3_67 (As := [.int (((p21.1 * (1000 : Int32)) + (p26.1 * (100 : Int32))) + p31.1)]) hx hb hml hown hB hW hZ hV (k_X3_keep l E _ k0 (((p21.1 * (1000 : Int32)) + (p26.1 * (100 : Int32))) + p31.1) h0 μ33 e_34) rfl rfl ⟨(Nat.le_of_ble_eq_true rfl), (Nat.le_of_ble_eq_true rfl)⟩ (w_rec hW (oSo h0).1 ((oSo h0).2 E _ _) rfl) rfl hl.1 rfl (Nat.le_of_ble_eq_true rfl) dX3_readTest_53 ⟨Nat.le_refl _, Nat.le_refl _⟩) hV (fun H locs hW hV => ?_)
        refine lv_iconst (v := (1 : Int32)) hx hb dX3_readTest_56 (by decide) ?_
        exact w_retN hx hb hr hlocks hW hV (by decide) (Prod.mk.inj (Option.some.inj hf)).1 (Prod.mk.inj (Option.some.inj hf)).2 dX3_readTest_57
      · have hf := op_f y32 hf
        refine lv_iconst (v := (0 : Int32)) hx hb dX3_readTest_37 (by decide) ?_
        exact w_retN hx hb hr hlocks hW hV (by decide) (Prod.mk.inj (Option.some.inj hf)).1 (Prod.mk.inj (Option.some.inj hf)).2 dX3_readTest_38
    · have hf := op_f y27 hf
      refine lv_iconst (v := (0 : Int32)) hx hb dX3_readTest_24 (by decide) ?_
      exact w_retN hx hb hr hlocks hW hV (by decide) (Prod.mk.inj (Option.some.inj hf)).1 (Prod.mk.inj (Option.some.inj hf)).2 dX3_readTest_25
  · have hf := op_f y22 hf
    refine lv_iconst (v := (0 : Int32)) hx hb dX3_readTest_11 (by decide) ?_
    exact w_retN hx hb hr hlocks hW hV (by decide) (Prod.mk.inj (Option.some.inj hf)).1 (Prod.mk.inj (Option.some.inj hf)).2 dX3_readTest_12
set_option maxHeartbeats 8000000 in
set_option maxRecDepth 100000 in
theorem kg_read (l : Launch) (E : WE) : ∀ d : Nat, (∀ (μ : Mem) (k0 : Nat) (a2 : Int32) (h0 : isSo k0) (r : Int32) (μ' : Mem) , (G_read d).1 μ k0 a2 = some (r, μ') → Met l yX3_readAny (.code yX3_readAny cX3_readAny 5 (some .boolean) :: BIG) ({ frames := 7 + d, cells := 0, slots := 0, locals := 175 + d * 24 }) (PW E μ [.ref (ead E k0), .ref (ead E 2), .int a2]) (QN E .boolean r μ') 0 0 (eA E)) ∧ (∀ (μ : Mem) (k0 : Nat) (a2 : Int32) (h0 : isSo k0) (r : Int32) (μ' : Mem) , (G_read d).2 μ k0 a2 = some (r, μ') → Met l yX3_readOne (.code yX3_readOne cX3_readOne 4 (some .boolean) :: BIG) ({ frames := 7 + d, cells := 0, slots := 0, locals := 175 + d * 24 }) (PW E μ [.ref (ead E k0), .ref (ead E 2), .int a2]) (QN E .boolean r μ') 0 0 (eA E)) := by
  intro d
  induction d with
  | zero =>
    refine ⟨?_, ?_⟩
    · intro μ k0 a2 h0 r μ' hf
      cases hf
    · intro μ k0 a2 h0 r μ' hf
      cases hf
  | succ d ih =>
    obtain ⟨G, hG⟩ : ∃ G : (Mem → Nat → Int32 → Option (Int32 × Mem)) × (Mem → Nat → Int32 → Option (Int32 × Mem)), G = G_read d := ⟨_, rfl⟩
    rw [← hG] at ih
    refine ⟨?_, ?_⟩
    · intro μ k0 a2 h0 r μ' hf
      have hf : b_X3_readAny G μ k0 a2 = some (r, μ') := by rw [hG]; exact hf
      unfold b_X3_readAny at hf
      refine Met.ofW (cc := cX3_readAny) (maxL := 5) (ret := (some .boolean)) (by decide) rfl ?_
      intro p e s m args below meth c s₁ B hml hv
      obtain ⟨rfl, hW, hZ⟩ := hv
      have hx := B.exec
      have hb := B.bytes
      have hr := B.returns
      have hB : ∀ w ∈ BIG, w.before _ s = true := fun w h => atoms_spec (ws := (.code yX3_readAny cX3_readAny 5 (some .boolean) :: BIG)) B.pre w (List.mem_cons_of_mem _ h)
      have hown : s.vm.findClass RX3 = some m.cls := findClass_of_methodNamed B.named
      have hlocks := B.notSynchronized
      have hV : va_S (eA E) s.heap s.heap [] := va_S.rf
      have hl := lv_entry ([.ref (ead E k0), .ref (ead E 2), .int a2]) (n := 5) (Nat.le_of_ble_eq_true rfl)
      rw [lg_entry_eq]
      generalize (lg_sl ([.ref (ead E k0), .ref (ead E 2), .int a2]) ++ List.replicate (5 - (lg_sl ([.ref (ead E k0), .ref (ead E 2), .int a2])).length) Slot.unset).toArray = ls at hl ⊢
      have hl : lv_has ls 5 [(0, .ref (ead E k0)), (1, .ref (ead E 2)), (2, .int a2)] := hl
      have c_2 : ∀ (n_2 : Nat) (μ_2 : Mem) (b2_2 : Int32) (b3_2 : Int32) , f_X3_readAny_2 G k0 n_2 μ_2 b2_2 b3_2 = some (r, μ') → ∀ (H : Heap) (locs : List Loc) (ls : Array Slot), Wd E μ_2 s H → va_S (eA E) s.heap H locs → lv_has ls 5 [(0, .ref (ead E k0)), (1, .ref (ead E 2)), (2, .int b2_2), (3, .int b3_2)] → W p l e (headSpec (.code yX3_readAny cX3_readAny 5 (some .boolean) :: BIG) ({ frames := 7 + (d + 1), cells := 0, slots := 0, locals := 175 + (d + 1) * 24 })).room s m ([.ref (ead E k0), .ref (ead E 2), .int a2] : List Value).toArray below meth c H locs 0 0 (MQ below (QN E .boolean r μ') ([.ref (ead E k0), .ref (ead E 2), .int a2] : List Value).toArray s 0 0 (eA E)) (F0 m 2 ls []) := by
        intro n_2
        induction n_2 with
        | zero =>
          intro μ_2 b2_2 b3_2 hf H locs ls hW hV hl
          cases hf
        | succ n_2 ih_2 =>
          have c_71 : ∀ (μ_71 : Mem) (b2_71 : Int32) (b3_71 : Int32) , f_X3_readAny_71 G k0 (fun μ z0 z1 => f_X3_readAny_2 G k0 n_2 μ z0 z1) μ_71 b2_71 b3_71 = some (r, μ') → ∀ (H : Heap) (locs : List Loc) (ls : Array Slot), Wd E μ_71 s H → va_S (eA E) s.heap H locs → lv_has ls 5 [(0, .ref (ead E k0)), (1, .ref (ead E 2)), (2, .int b2_71), (3, .int b3_71)] → W p l e (headSpec (.code yX3_readAny cX3_readAny 5 (some .boolean) :: BIG) ({ frames := 7 + (d + 1), cells := 0, slots := 0, locals := 175 + (d + 1) * 24 })).room s m ([.ref (ead E k0), .ref (ead E 2), .int a2] : List Value).toArray below meth c H locs 0 0 (MQ below (QN E .boolean r μ') ([.ref (ead E k0), .ref (ead E 2), .int a2] : List Value).toArray s 0 0 (eA E)) (F0 m 71 ls []) := by
            intro μ_71 b2_71 b3_71 hf H locs ls hW hV hl
            unfold f_X3_readAny_71 at hf
            refine lv_aload_n hx hb dX3_readAny_71 rfl (lv_at hl 1 rfl) ?_
            refine lv_bipush (v := (124 : Int32)) hx hb dX3_readAny_72 (by decide) ?_
            obtain ⟨p33, e_32, hf⟩ := op_none hf
            refine w_callN (rn_RX3_44 (As := [.int (124 : Int32)]) hx hb hml hown hB hW hZ hV (k_X5_takeSign l E _ (124 : Int32) p33.1 p33.2 e_32) rfl rfl ⟨(by dsimp only [headSpec]; omega), (by dsimp only [headSpec]; omega)⟩ (w_rec hW oTx.1 (oTx.2 E _ _) rfl) rfl hl.1 rfl (Nat.le_of_ble_eq_true rfl) dX3_readAny_74 ⟨Nat.le_refl _, Nat.le_refl _⟩) hV (fun H locs hn_p33_1 hW hV => ?_)
            refine lv_if_ne (tgt := 82) hx hb dX3_readAny_77 (by decide) (fun y34 => ?_) (fun y34 => ?_)
            · have hf := op_f y34 hf
              obtain ⟨v35, e_v35, hf⟩ := op_none hf
              refine lv_iinc (v := v35) (lv' := [(3, .int v35), (0, .ref (ead E k0)), (1, .ref (ead E 2)), (2, .int b2_71)]) hx hb dX3_readAny_82 hl (k := 3) rfl (by rw [← Option.some.inj e_v35]; rfl) (by decide) rfl (fun ls hl => ?_)
              refine lv_goto (tgt := 2) hx hb dX3_readAny_85 (by decide) ?_
              exact ih_2 p33.2 b2_71 v35 hf H locs ls hW hV (lv_sub hl [1, 2, 3, 0] rfl)
            · have hf := op_t y34 hf
              refine lv_iconst (v := (1 : Int32)) hx hb dX3_readAny_80 (by decide) ?_
              exact w_retN hx hb hr hlocks hW hV (by decide) (Prod.mk.inj (Option.some.inj hf)).1 (Prod.mk.inj (Option.some.inj hf)).2 dX3_readAny_81
          have c_61 : ∀ (μ_61 : Mem) (b2_61 : Int32) (b3_61 : Int32) , f_X3_readAny_61 G k0 (fun μ z0 z1 => f_X3_readAny_2 G k0 n_2 μ z0 z1) μ_61 b2_61 b3_61 = some (r, μ') → ∀ (H : Heap) (locs : List Loc) (ls : Array Slot), Wd E μ_61 s H → va_S (eA E) s.heap H locs → lv_has ls 5 [(0, .ref (ead E k0)), (1, .ref (ead E 2)), (2, .int b2_61), (3, .int b3_61)] → W p l e (headSpec (.code yX3_readAny cX3_readAny 5 (some .boolean) :: BIG) ({ frames := 7 + (d + 1), cells := 0, slots := 0, locals := 175 + (d + 1) * 24 })).room s m ([.ref (ead E k0), .ref (ead E 2), .int a2] : List Value).toArray below meth c H locs 0 0 (MQ below (QN E .boolean r μ') ([.ref (ead E k0), .ref (ead E 2), .int a2] : List Value).toArray s 0 0 (eA E)) (F0 m 61 ls []) := by
            intro μ_61 b2_61 b3_61 hf H locs ls hW hV hl
            unfold f_X3_readAny_61 at hf
            refine lv_iload_n hx hb dX3_readAny_61 rfl (lv_at hl 3 rfl) ?_
            refine lv_if_le (tgt := 71) hx hb dX3_readAny_62 (by decide) (fun y36 => ?_) (fun y36 => ?_)
            · have hf := op_t y36 hf
              exact c_71 μ_61 b2_61 b3_61 hf H locs ls hW hV (lv_sub hl [0, 1, 2, 3] rfl)
            · have hf := op_f y36 hf
              refine lv_aload_n hx hb dX3_readAny_65 rfl (lv_at hl 0 rfl) ?_
              refine lv_bipush (v := (-3 : Int32)) hx hb dX3_readAny_66 (by decide) ?_
              obtain ⟨μ37, e_38, hf⟩ := op_none hf
              refine w_callV (rn_RX3_67 (As := [.int (-3 : Int32)]) hx hb hml hown hB hW hZ hV (k_X3_keep l E _ k0 (-3 : Int32) h0 μ37 e_38) rfl rfl ⟨(by dsimp only [headSpec]; omega), (by dsimp only [headSpec]; omega)⟩ (w_rec hW (oSo h0).1 ((oSo h0).2 E _ _) rfl) rfl hl.1 rfl (Nat.le_of_ble_eq_true rfl) dX3_readAny_68 ⟨Nat.le_refl _, Nat.le_refl _⟩) hV (fun H locs hW hV => ?_)
              exact c_71 μ37 b2_61 b3_61 hf H locs ls hW hV (lv_sub hl [0, 1, 2, 3] rfl)
          have c_22 : ∀ (n_22 : Nat) (μ_22 : Mem) (b2_22 : Int32) (b3_22 : Int32) (b4_22 : Int32) , f_X3_readAny_22 G k0 (fun μ z0 z1 => f_X3_readAny_2 G k0 n_2 μ z0 z1) n_22 μ_22 b2_22 b3_22 b4_22 = some (r, μ') → ∀ (H : Heap) (locs : List Loc) (ls : Array Slot), Wd E μ_22 s H → va_S (eA E) s.heap H locs → lv_has ls 5 [(0, .ref (ead E k0)), (1, .ref (ead E 2)), (2, .int b2_22), (3, .int b3_22), (4, .int b4_22)] → W p l e (headSpec (.code yX3_readAny cX3_readAny 5 (some .boolean) :: BIG) ({ frames := 7 + (d + 1), cells := 0, slots := 0, locals := 175 + (d + 1) * 24 })).room s m ([.ref (ead E k0), .ref (ead E 2), .int a2] : List Value).toArray below meth c H locs 0 0 (MQ below (QN E .boolean r μ') ([.ref (ead E k0), .ref (ead E 2), .int a2] : List Value).toArray s 0 0 (eA E)) (F0 m 22 ls []) := by
            intro n_22
            induction n_22 with
            | zero =>
              intro μ_22 b2_22 b3_22 b4_22 hf H locs ls hW hV hl
              cases hf
            | succ n_22 ih_22 =>
              intro μ_22 b2_22 b3_22 b4_22 hf H locs ls hW hV hl
              rw [f_X3_readAny_22] at hf
              refine lv_iload hx hb dX3_readAny_22 (lv_at hl 4 rfl) ?_
              refine lv_bipush (v := (100 : Int32)) hx hb dX3_readAny_24 (by decide) ?_
              refine lv_icmp_ge (tgt := 61) hx hb dX3_readAny_26 (by decide) (fun y39 => ?_) (fun y39 => ?_)
              · have hf := op_t y39 hf
                exact c_61 μ_22 b2_22 b3_22 hf H locs ls hW hV (lv_sub hl [0, 1, 2, 3] rfl)
              · have hf := op_f y39 hf
                refine lv_aload_n hx hb dX3_readAny_29 rfl (lv_at hl 1 rfl) ?_
                refine lv_bipush (v := (38 : Int32)) hx hb dX3_readAny_30 (by decide) ?_
                obtain ⟨p43, e_42, hf⟩ := op_none hf
                refine w_callN (rn_RX3_44 (As := [.int (38 : Int32)]) hx hb hml hown hB hW hZ hV (k_X5_takeSign l E _ (38 : Int32) p43.1 p43.2 e_42) rfl rfl ⟨(by dsimp only [headSpec]; omega), (by dsimp only [headSpec]; omega)⟩ (w_rec hW oTx.1 (oTx.2 E _ _) rfl) rfl hl.1 rfl (Nat.le_of_ble_eq_true rfl) dX3_readAny_32 ⟨Nat.le_refl _, Nat.le_refl _⟩) hV (fun H locs hn_p43_1 hW hV => ?_)
                refine lv_if_eq (tgt := 61) hx hb dX3_readAny_35 (by decide) (fun y44 => ?_) (fun y44 => ?_)
                · have hf := op_t y44 hf
                  exact c_61 p43.2 b2_22 b3_22 hf H locs ls hW hV (lv_sub hl [0, 1, 2, 3] rfl)
                · have hf := op_f y44 hf
                  refine lv_aload_n hx hb dX3_readAny_38 rfl (lv_at hl 0 rfl) ?_
                  refine lv_aload_n hx hb dX3_readAny_39 rfl (lv_at hl 1 rfl) ?_
                  refine lv_iload_n hx hb dX3_readAny_40 rfl (lv_at hl 2 rfl) ?_
                  obtain ⟨p48, e_47, hf⟩ := op_none hf
                  refine w_callN (rn_RX3_64 (As := [.ref (ead E 2), .int b2_22]) hx hb hml hown hB hW hZ hV (ih.2 _ k0 b2_22 h0 p48.1 p48.2 e_47) rfl rfl ⟨(by dsimp only [headSpec]; omega), (by dsimp only [headSpec]; omega)⟩ (w_rec hW (oSo h0).1 ((oSo h0).2 E _ _) rfl) rfl hl.1 rfl (Nat.le_of_ble_eq_true rfl) dX3_readAny_41 ⟨Nat.le_refl _, Nat.le_refl _⟩) hV (fun H locs hn_p48_1 hW hV => ?_)
                  refine lv_if_ne (tgt := 49) hx hb dX3_readAny_44 (by decide) (fun y49 => ?_) (fun y49 => ?_)
                  · have hf := op_f y49 hf
                    refine lv_aload_n hx hb dX3_readAny_49 rfl (lv_at hl 0 rfl) ?_
                    refine lv_bipush (v := (-2 : Int32)) hx hb dX3_readAny_50 (by decide) ?_
                    obtain ⟨μ50, e_51, hf⟩ := op_none hf
                    refine w_callV (rn_RX3_67 (As := [.int (-2 : Int32)]) hx hb hml hown hB hW hZ hV (k_X3_keep l E _ k0 (-2 : Int32) h0 μ50 e_51) rfl rfl ⟨(by dsimp only [headSpec]; omega), (by dsimp only [headSpec]; omega)⟩ (w_rec hW (oSo h0).1 ((oSo h0).2 E _ _) rfl) rfl hl.1 rfl (Nat.le_of_ble_eq_true rfl) dX3_readAny_52 ⟨Nat.le_refl _, Nat.le_refl _⟩) hV (fun H locs hW hV => ?_)
                    obtain ⟨v52, e_v52, hf⟩ := op_none hf
                    refine lv_iinc (v := v52) (lv' := [(4, .int v52), (0, .ref (ead E k0)), (1, .ref (ead E 2)), (2, .int b2_22), (3, .int b3_22)]) hx hb dX3_readAny_55 hl (k := 4) rfl (by rw [← Option.some.inj e_v52]; rfl) (by decide) rfl (fun ls hl => ?_)
                    refine lv_goto (tgt := 22) hx hb dX3_readAny_58 (by decide) ?_
                    exact ih_22 μ50 b2_22 b3_22 v52 hf H locs ls hW hV (lv_sub hl [1, 2, 3, 4, 0] rfl)
                  · have hf := op_t y49 hf
                    refine lv_iconst (v := (0 : Int32)) hx hb dX3_readAny_47 (by decide) ?_
                    exact w_retN hx hb hr hlocks hW hV (by decide) (Prod.mk.inj (Option.some.inj hf)).1 (Prod.mk.inj (Option.some.inj hf)).2 dX3_readAny_48
          intro μ_2 b2_2 b3_2 hf H locs ls hW hV hl
          rw [f_X3_readAny_2] at hf
          refine lv_iload_n hx hb dX3_readAny_2 rfl (lv_at hl 3 rfl) ?_
          refine lv_bipush (v := (100 : Int32)) hx hb dX3_readAny_3 (by decide) ?_
          refine lv_icmp_ge (tgt := 88) hx hb dX3_readAny_5 (by decide) (fun y53 => ?_) (fun y53 => ?_)
          · have hf := op_t y53 hf
            refine lv_iconst (v := (0 : Int32)) hx hb dX3_readAny_88 (by decide) ?_
            exact w_retN hx hb hr hlocks hW hV (by decide) (Prod.mk.inj (Option.some.inj hf)).1 (Prod.mk.inj (Option.some.inj hf)).2 dX3_readAny_89
          · have hf := op_f y53 hf
            refine lv_aload_n hx hb dX3_readAny_8 rfl (lv_at hl 0 rfl) ?_
            refine lv_aload_n hx hb dX3_readAny_9 rfl (lv_at hl 1 rfl) ?_
            refine lv_iload_n hx hb dX3_readAny_10 rfl (lv_at hl 2 rfl) ?_
            obtain ⟨p57, e_56, hf⟩ := op_none hf
            refine w_callN (rn_RX3_64 (As := [.ref (ead E 2), .int b2_2]) hx hb hml hown hB hW hZ hV (ih.2 _ k0 b2_2 h0 p57.1 p57.2 e_56) rfl rfl ⟨(by dsimp only [headSpec]; omega), (by dsimp only [headSpec]; omega)⟩ (w_rec hW (oSo h0).1 ((oSo h0).2 E _ _) rfl) rfl hl.1 rfl (Nat.le_of_ble_eq_true rfl) dX3_readAny_11 ⟨Nat.le_refl _, Nat.le_refl _⟩) hV (fun H locs hn_p57_1 hW hV => ?_)
            refine lv_if_ne (tgt := 19) hx hb dX3_readAny_14 (by decide) (fun y58 => ?_) (fun y58 => ?_)
            · have hf := op_f y58 hf
              refine lv_iconst (v := (0 : Int32)) hx hb dX3_readAny_19 (by decide) ?_
              refine lv_istore (i := 4) (lv' := [(4, .int (0 : Int32)), (0, .ref (ead E k0)), (1, .ref (ead E 2)), (2, .int b2_2), (3, .int b3_2)]) hx hb dX3_readAny_20 hl (by decide) rfl (fun ls hl => ?_)
              exact c_22 FU p57.2 b2_2 b3_2 (0 : Int32) hf H locs ls hW hV (lv_sub hl [1, 2, 3, 4, 0] rfl)
            · have hf := op_t y58 hf
              refine lv_iconst (v := (0 : Int32)) hx hb dX3_readAny_17 (by decide) ?_
              exact w_retN hx hb hr hlocks hW hV (by decide) (Prod.mk.inj (Option.some.inj hf)).1 (Prod.mk.inj (Option.some.inj hf)).2 dX3_readAny_18
      obtain ⟨H, hH⟩ : ∃ H : Heap, H = s.heap := ⟨_, rfl⟩
      obtain ⟨locs, hlocs⟩ : ∃ locs : List Loc, locs = [] := ⟨_, rfl⟩
      rw [show (W p l e (headSpec (.code yX3_readAny cX3_readAny 5 (some .boolean) :: BIG) ({ frames := 7 + (d + 1), cells := 0, slots := 0, locals := 175 + (d + 1) * 24 })).room s m ([.ref (ead E k0), .ref (ead E 2), .int a2] : List Value).toArray below meth c s.heap [] 0 0) = W p l e (headSpec (.code yX3_readAny cX3_readAny 5 (some .boolean) :: BIG) ({ frames := 7 + (d + 1), cells := 0, slots := 0, locals := 175 + (d + 1) * 24 })).room s m ([.ref (ead E k0), .ref (ead E 2), .int a2] : List Value).toArray below meth c H locs 0 0 by rw [hH, hlocs]]
      have hV : va_S (eA E) s.heap H locs := by rw [hH, hlocs]; exact hV
      have hW : Wd E μ s H := by rw [hH]; exact hW
      refine lv_iconst (v := (0 : Int32)) hx hb dX3_readAny_0 (by decide) ?_
      refine lv_istore_n (i := 3) (lv' := [(3, .int (0 : Int32)), (0, .ref (ead E k0)), (1, .ref (ead E 2)), (2, .int a2)]) hx hb dX3_readAny_1 rfl hl (by decide) rfl (fun ls hl => ?_)
      exact c_2 FU μ a2 (0 : Int32) hf H locs ls hW hV (lv_sub hl [1, 2, 3, 0] rfl)
    · intro μ k0 a2 h0 r μ' hf
      have hf : b_X3_readOne G μ k0 a2 = some (r, μ') := by rw [hG]; exact hf
      unfold b_X3_readOne at hf
      refine Met.ofW (cc := cX3_readOne) (maxL := 4) (ret := (some .boolean)) (by decide) rfl ?_
      intro p e s m args below meth c s₁ B hml hv
      obtain ⟨rfl, hW, hZ⟩ := hv
      have hx := B.exec
      have hb := B.bytes
      have hr := B.returns
      have hB : ∀ w ∈ BIG, w.before _ s = true := fun w h => atoms_spec (ws := (.code yX3_readOne cX3_readOne 4 (some .boolean) :: BIG)) B.pre w (List.mem_cons_of_mem _ h)
      have hown : s.vm.findClass RX3 = some m.cls := findClass_of_methodNamed B.named
      have hlocks := B.notSynchronized
      have hV : va_S (eA E) s.heap s.heap [] := va_S.rf
      have hl := lv_entry ([.ref (ead E k0), .ref (ead E 2), .int a2]) (n := 4) (Nat.le_of_ble_eq_true rfl)
      rw [lg_entry_eq]
      generalize (lg_sl ([.ref (ead E k0), .ref (ead E 2), .int a2]) ++ List.replicate (4 - (lg_sl ([.ref (ead E k0), .ref (ead E 2), .int a2])).length) Slot.unset).toArray = ls at hl ⊢
      have hl : lv_has ls 4 [(0, .ref (ead E k0)), (1, .ref (ead E 2)), (2, .int a2)] := hl
      have c_23 : ∀ (μ_23 : Mem) (b2_23 : Int32) (b3_23 : Int32) , f_X3_readOne_23 G k0 μ_23 b2_23 b3_23 = some (r, μ') → ∀ (H : Heap) (locs : List Loc) (ls : Array Slot), Wd E μ_23 s H → va_S (eA E) s.heap H locs → lv_has ls 4 [(0, .ref (ead E k0)), (1, .ref (ead E 2)), (2, .int b2_23), (3, .int b3_23)] → W p l e (headSpec (.code yX3_readOne cX3_readOne 4 (some .boolean) :: BIG) ({ frames := 7 + (d + 1), cells := 0, slots := 0, locals := 175 + (d + 1) * 24 })).room s m ([.ref (ead E k0), .ref (ead E 2), .int a2] : List Value).toArray below meth c H locs 0 0 (MQ below (QN E .boolean r μ') ([.ref (ead E k0), .ref (ead E 2), .int a2] : List Value).toArray s 0 0 (eA E)) (F0 m 23 ls []) := by
        intro μ_23 b2_23 b3_23 hf H locs ls hW hV hl
        unfold f_X3_readOne_23 at hf
        refine lv_iload_n hx hb dX3_readOne_23 rfl (lv_at hl 2 rfl) ?_
        refine lv_iconst (v := (4 : Int32)) hx hb dX3_readOne_24 (by decide) ?_
        refine lv_icmp_ge (tgt := 36) hx hb dX3_readOne_25 (by decide) (fun y33 => ?_) (fun y33 => ?_)
        · have hf := op_t y33 hf
          refine lv_iconst (v := (0 : Int32)) hx hb dX3_readOne_36 (by decide) ?_
          exact w_retN hx hb hr hlocks hW hV (by decide) (Prod.mk.inj (Option.some.inj hf)).1 (Prod.mk.inj (Option.some.inj hf)).2 dX3_readOne_37
        · have hf := op_f y33 hf
          refine lv_aload_n hx hb dX3_readOne_28 rfl (lv_at hl 1 rfl) ?_
          refine lv_iload_n hx hb dX3_readOne_29 rfl (lv_at hl 3 rfl) ?_
          obtain ⟨p37, e_36, hf⟩ := op_none hf
          refine w_callN (rn_RX3_44 (As := [.int b3_23]) hx hb hml hown hB hW hZ hV (k_X5_takeSign l E _ b3_23 p37.1 p37.2 e_36) rfl rfl ⟨(by dsimp only [headSpec]; omega), (by dsimp only [headSpec]; omega)⟩ (w_rec hW oTx.1 (oTx.2 E _ _) rfl) rfl hl.1 rfl (Nat.le_of_ble_eq_true rfl) dX3_readOne_30 ⟨Nat.le_refl _, Nat.le_refl _⟩) hV (fun H locs hn_p37_1 hW hV => ?_)
          refine lv_if_ne (tgt := 38) hx hb dX3_readOne_33 (by decide) (fun y38 => ?_) (fun y38 => ?_)
          · have hf := op_f y38 hf
            refine lv_iload_n hx hb dX3_readOne_38 rfl (lv_at hl 3 rfl) ?_
            refine lv_bipush (v := (40 : Int32)) hx hb dX3_readOne_39 (by decide) ?_
            refine lv_icmp_ne (tgt := 70) hx hb dX3_readOne_41 (by decide) (fun y39 => ?_) (fun y39 => ?_)
            · have hf := op_f y39 hf
              refine lv_aload_n hx hb dX3_readOne_70 rfl (lv_at hl 0 rfl) ?_
              refine lv_aload_n hx hb dX3_readOne_71 rfl (lv_at hl 1 rfl) ?_
              refine lv_iload_n hx hb dX3_readOne_72 rfl (lv_at hl 2 rfl) ?_
              refine lv_iconst (v := (1 : Int32)) hx hb dX3_readOne_73 (by decide) ?_
              refine lv_iadd hx hb dX3_readOne_74 ?_
              obtain ⟨p43, e_42, hf⟩ := op_none hf
              refine w_callN (rn_RX3_64 (As := [.ref (ead E 2), .int (b2_23 + (1 : Int32))]) hx hb hml hown hB hW hZ hV (ih.2 _ k0 (b2_23 + (1 : Int32)) h0 p43.1 p43.2 e_42) rfl rfl ⟨(by dsimp only [headSpec]; omega), (by dsimp only [headSpec]; omega)⟩ (w_rec hW (oSo h0).1 ((oSo h0).2 E _ _) rfl) rfl hl.1 rfl (Nat.le_of_ble_eq_true rfl) dX3_readOne_75 ⟨Nat.le_refl _, Nat.le_refl _⟩) hV (fun H locs hn_p43_1 hW hV => ?_)
              refine lv_if_ne (tgt := 83) hx hb dX3_readOne_78 (by decide) (fun y44 => ?_) (fun y44 => ?_)
              · have hf := op_f y44 hf
                refine lv_aload_n hx hb dX3_readOne_83 rfl (lv_at hl 0 rfl) ?_
                refine lv_iconst (v := (-1 : Int32)) hx hb dX3_readOne_84 (by decide) ?_
                obtain ⟨μ45, e_46, hf⟩ := op_none hf
                refine w_callV (rn_RX3_67 (As := [.int (-1 : Int32)]) hx hb hml hown hB hW hZ hV (k_X3_keep l E _ k0 (-1 : Int32) h0 μ45 e_46) rfl rfl ⟨(by dsimp only [headSpec]; omega), (by dsimp only [headSpec]; omega)⟩ (w_rec hW (oSo h0).1 ((oSo h0).2 E _ _) rfl) rfl hl.1 rfl (Nat.le_of_ble_eq_true rfl) dX3_readOne_85 ⟨Nat.le_refl _, Nat.le_refl _⟩) hV (fun H locs hW hV => ?_)
                refine lv_iconst (v := (1 : Int32)) hx hb dX3_readOne_88 (by decide) ?_
                exact w_retN hx hb hr hlocks hW hV (by decide) (Prod.mk.inj (Option.some.inj hf)).1 (Prod.mk.inj (Option.some.inj hf)).2 dX3_readOne_89
              · have hf := op_t y44 hf
                refine lv_iconst (v := (0 : Int32)) hx hb dX3_readOne_81 (by decide) ?_
                exact w_retN hx hb hr hlocks hW hV (by decide) (Prod.mk.inj (Option.some.inj hf)).1 (Prod.mk.inj (Option.some.inj hf)).2 dX3_readOne_82
            · have hf := op_t y39 hf
              refine lv_aload_n hx hb dX3_readOne_44 rfl (lv_at hl 0 rfl) ?_
              refine lv_aload_n hx hb dX3_readOne_45 rfl (lv_at hl 1 rfl) ?_
              refine lv_iload_n hx hb dX3_readOne_46 rfl (lv_at hl 2 rfl) ?_
              refine lv_iconst (v := (1 : Int32)) hx hb dX3_readOne_47 (by decide) ?_
              refine lv_iadd hx hb dX3_readOne_48 ?_
              obtain ⟨p50, e_49, hf⟩ := op_none hf
              refine w_callN (rn_RX3_60 (As := [.ref (ead E 2), .int (b2_23 + (1 : Int32))]) hx hb hml hown hB hW hZ hV (ih.1 _ k0 (b2_23 + (1 : Int32)) h0 p50.1 p50.2 e_49) rfl rfl ⟨(by dsimp only [headSpec]; omega), (by dsimp only [headSpec]; omega)⟩ (w_rec hW (oSo h0).1 ((oSo h0).2 E _ _) rfl) rfl hl.1 rfl (Nat.le_of_ble_eq_true rfl) dX3_readOne_49 ⟨Nat.le_refl _, Nat.le_refl _⟩) hV (fun H locs hn_p50_1 hW hV => ?_)
              refine lv_if_eq (tgt := 68) hx hb dX3_readOne_52 (by decide) (fun y51 => ?_) (fun y51 => ?_)
              · have hf := op_t y51 hf
                refine lv_iconst (v := (0 : Int32)) hx hb dX3_readOne_68 (by decide) ?_
                exact w_retN hx hb hr hlocks hW hV (by decide) (Prod.mk.inj (Option.some.inj hf)).1 (Prod.mk.inj (Option.some.inj hf)).2 dX3_readOne_69
              · have hf := op_f y51 hf
                refine lv_aload_n hx hb dX3_readOne_55 rfl (lv_at hl 1 rfl) ?_
                refine lv_bipush (v := (41 : Int32)) hx hb dX3_readOne_56 (by decide) ?_
                obtain ⟨p55, e_54, hf⟩ := op_none hf
                refine w_callN (rn_RX3_44 (As := [.int (41 : Int32)]) hx hb hml hown hB hW hZ hV (k_X5_takeSign l E _ (41 : Int32) p55.1 p55.2 e_54) rfl rfl ⟨(by dsimp only [headSpec]; omega), (by dsimp only [headSpec]; omega)⟩ (w_rec hW oTx.1 (oTx.2 E _ _) rfl) rfl hl.1 rfl (Nat.le_of_ble_eq_true rfl) dX3_readOne_58 ⟨Nat.le_refl _, Nat.le_refl _⟩) hV (fun H locs hn_p55_1 hW hV => ?_)
                refine lv_if_eq (tgt := 68) hx hb dX3_readOne_61 (by decide) (fun y56 => ?_) (fun y56 => ?_)
                · have hf := op_t y56 hf
                  refine lv_iconst (v := (0 : Int32)) hx hb dX3_readOne_68 (by decide) ?_
                  exact w_retN hx hb hr hlocks hW hV (by decide) (Prod.mk.inj (Option.some.inj hf)).1 (Prod.mk.inj (Option.some.inj hf)).2 dX3_readOne_69
                · have hf := op_f y56 hf
                  refine lv_iconst (v := (1 : Int32)) hx hb dX3_readOne_64 (by decide) ?_
                  refine lv_goto (tgt := 69) hx hb dX3_readOne_65 (by decide) ?_
                  exact w_retN hx hb hr hlocks hW hV (by decide) (Prod.mk.inj (Option.some.inj hf)).1 (Prod.mk.inj (Option.some.inj hf)).2 dX3_readOne_69
          · have hf := op_t y38 hf
            refine lv_iconst (v := (0 : Int32)) hx hb dX3_readOne_36 (by decide) ?_
            exact w_retN hx hb hr hlocks hW hV (by decide) (Prod.mk.inj (Option.some.inj hf)).1 (Prod.mk.inj (Option.some.inj hf)).2 dX3_readOne_37
      obtain ⟨H, hH⟩ : ∃ H : Heap, H = s.heap := ⟨_, rfl⟩
      obtain ⟨locs, hlocs⟩ : ∃ locs : List Loc, locs = [] := ⟨_, rfl⟩
      rw [show (W p l e (headSpec (.code yX3_readOne cX3_readOne 4 (some .boolean) :: BIG) ({ frames := 7 + (d + 1), cells := 0, slots := 0, locals := 175 + (d + 1) * 24 })).room s m ([.ref (ead E k0), .ref (ead E 2), .int a2] : List Value).toArray below meth c s.heap [] 0 0) = W p l e (headSpec (.code yX3_readOne cX3_readOne 4 (some .boolean) :: BIG) ({ frames := 7 + (d + 1), cells := 0, slots := 0, locals := 175 + (d + 1) * 24 })).room s m ([.ref (ead E k0), .ref (ead E 2), .int a2] : List Value).toArray below meth c H locs 0 0 by rw [hH, hlocs]]
      have hV : va_S (eA E) s.heap H locs := by rw [hH, hlocs]; exact hV
      have hW : Wd E μ s H := by rw [hH]; exact hW
      refine lv_aload_n hx hb dX3_readOne_0 rfl (lv_at hl 1 rfl) ?_
      obtain ⟨v57, e_58, hf⟩ := op_none hf
      refine w_callI (rn_RX3_40 (As := []) hx hb hml hown hB hW hZ hV (k_X5_next l E _ v57 e_58) rfl rfl ⟨(by dsimp only [headSpec]; omega), (by dsimp only [headSpec]; omega)⟩ (w_rec hW oTx.1 (oTx.2 E _ _) rfl) rfl hl.1 rfl (Nat.le_of_ble_eq_true rfl) dX3_readOne_1 ⟨Nat.le_refl _, Nat.le_refl _⟩) hV (fun H locs hW hV => ?_)
      refine lv_istore_n (i := 3) (lv' := [(3, .int v57), (0, .ref (ead E k0)), (1, .ref (ead E 2)), (2, .int a2)]) hx hb dX3_readOne_4 rfl hl (by decide) rfl (fun ls hl => ?_)
      refine lv_iload_n hx hb dX3_readOne_5 rfl (lv_at hl 0 rfl) ?_
      refine lv_bipush (v := (33 : Int32)) hx hb dX3_readOne_6 (by decide) ?_
      refine lv_icmp_eq (tgt := 23) hx hb dX3_readOne_8 (by decide) (fun y59 => ?_) (fun y59 => ?_)
      · have hf := op_t y59 hf
        exact c_23 μ a2 v57 hf H locs ls hW hV (lv_sub hl [1, 2, 3, 0] rfl)
      · have hf := op_f y59 hf
        refine lv_iload_n hx hb dX3_readOne_11 rfl (lv_at hl 0 rfl) ?_
        refine lv_bipush (v := (40 : Int32)) hx hb dX3_readOne_12 (by decide) ?_
        refine lv_icmp_eq (tgt := 23) hx hb dX3_readOne_14 (by decide) (fun y60 => ?_) (fun y60 => ?_)
        · have hf := op_t y60 hf
          exact c_23 μ a2 v57 hf H locs ls hW hV (lv_sub hl [1, 2, 3, 0] rfl)
        · have hf := op_f y60 hf
          refine lv_aload_n hx hb dX3_readOne_17 rfl (lv_at hl 1 rfl) ?_
          refine lv_aload_n hx hb dX3_readOne_18 rfl (lv_at hl 2 rfl) ?_
          obtain ⟨p64, e_63, hf⟩ := op_none hf
          refine w_callN (rn_RX3_71 (As := [.ref (ead E 2)]) hx hb hml hown hB hW hZ hV (k_X3_readTest l E _ k0 h0 p64.1 p64.2 e_63) rfl rfl ⟨(by dsimp only [headSpec]; omega), (by dsimp only [headSpec]; omega)⟩ (w_rec hW (oSo h0).1 ((oSo h0).2 E _ _) rfl) rfl hl.1 rfl (Nat.le_of_ble_eq_true rfl) dX3_readOne_19 ⟨Nat.le_refl _, Nat.le_refl _⟩) hV (fun H locs hn_p64_1 hW hV => ?_)
          exact w_retN hx hb hr hlocks hW hV hn_p64_1 (Prod.mk.inj (Option.some.inj hf)).1 (Prod.mk.inj (Option.some.inj hf)).2 dX3_readOne_22
theorem k_X3_readAny (l : Launch) (E : WE) (μ : Mem) (k0 : Nat) (a2 : Int32) (h0 : isSo k0) (r : Int32) (μ' : Mem) (hf : f_X3_readAny μ k0 a2 = some (r, μ')) : Met l yX3_readAny (.code yX3_readAny cX3_readAny 5 (some .boolean) :: BIG) ({ frames := 23, cells := 0, slots := 0, locals := 559 }) (PW E μ [.ref (ead E k0), .ref (ead E 2), .int a2]) (QN E .boolean r μ') 0 0 (eA E) := (kg_read l E 16).1 μ k0 a2 h0 r μ' hf
theorem k_X3_readOne (l : Launch) (E : WE) (μ : Mem) (k0 : Nat) (a2 : Int32) (h0 : isSo k0) (r : Int32) (μ' : Mem) (hf : f_X3_readOne μ k0 a2 = some (r, μ')) : Met l yX3_readOne (.code yX3_readOne cX3_readOne 4 (some .boolean) :: BIG) ({ frames := 23, cells := 0, slots := 0, locals := 559 }) (PW E μ [.ref (ead E k0), .ref (ead E 2), .int a2]) (QN E .boolean r μ') 0 0 (eA E) := (kg_read l E 16).2 μ k0 a2 h0 r μ' hf
set_option maxHeartbeats 8000000 in
set_option maxRecDepth 100000 in
theorem k_X3_readClause (l : Launch) (E : WE) (μ : Mem) (k0 : Nat) (h0 : isSo k0) (r : Int32) (μ' : Mem) (hf : f_X3_readClause μ k0 = some (r, μ')) : Met l yX3_readClause (.code yX3_readClause cX3_readClause 5 (some .boolean) :: BIG) ({ frames := 24, cells := 0, slots := 0, locals := 583 }) (PW E μ [.ref (ead E k0), .ref (ead E 2)]) (QN E .boolean r μ') 0 0 (eA E) := by
  refine Met.ofW (cc := cX3_readClause) (maxL := 5) (ret := (some .boolean)) (by decide) rfl ?_
  intro p e s m args below meth c s₁ B hml hv
  obtain ⟨rfl, hW, hZ⟩ := hv
  have hx := B.exec
  have hb := B.bytes
  have hr := B.returns
  have hB : ∀ w ∈ BIG, w.before _ s = true := fun w h => atoms_spec (ws := (.code yX3_readClause cX3_readClause 5 (some .boolean) :: BIG)) B.pre w (List.mem_cons_of_mem _ h)
  have hown : s.vm.findClass RX3 = some m.cls := findClass_of_methodNamed B.named
  have hlocks := B.notSynchronized
  have hV : va_S (eA E) s.heap s.heap [] := va_S.rf
  have hl := lv_entry ([.ref (ead E k0), .ref (ead E 2)]) (n := 5) (Nat.le_of_ble_eq_true rfl)
  rw [lg_entry_eq]
  generalize (lg_sl ([.ref (ead E k0), .ref (ead E 2)]) ++ List.replicate (5 - (lg_sl ([.ref (ead E k0), .ref (ead E 2)])).length) Slot.unset).toArray = ls at hl ⊢
  have hl : lv_has ls 5 [(0, .ref (ead E k0)), (1, .ref (ead E 2))] := hl
  have c_127 : ∀ (μ_127 : Mem) (s0_127 : Int32) (s1_127 : Int32) , f_X3_readClause_127 k0 μ_127 s0_127 s1_127 = some (r, μ') → ∀ (H : Heap) (locs : List Loc) (ls : Array Slot), Wd E μ_127 s H → va_S (eA E) s.heap H locs → lv_has ls 5 [(0, .ref (ead E k0))] → W p l e (headSpec (.code yX3_readClause cX3_readClause 5 (some .boolean) :: BIG) ({ frames := 24, cells := 0, slots := 0, locals := 583 })).room s m ([.ref (ead E k0), .ref (ead E 2)] : List Value).toArray below meth c H locs 0 0 (MQ below (QN E .boolean r μ') ([.ref (ead E k0), .ref (ead E 2)] : List Value).toArray s 0 0 (eA E)) (F0 m 127 ls [.int s0_127, .int s1_127, .ref (ead E (k0 + 1))]) := by
    intro μ_127 s0_127 s1_127 hf H locs ls hW hV hl
    unfold f_X3_readClause_127 at hf
    obtain ⟨μ41, e_μ41, hf⟩ := op_none hf
    refine w_iast hx hb hW hV (iSo1 h0).1 (fun f => (iSo1 h0).2 E f _) e_μ41 dX3_readClause_127 (fun H locs hW hV => ?_)
    refine lv_aload_n hx hb dX3_readClause_128 rfl (lv_at hl 0 rfl) ?_
    refine gf_RX3_22 hx hb hB hown hW h0 dX3_readClause_129 ?_
    refine lv_aload_n hx hb dX3_readClause_132 rfl (lv_at hl 0 rfl) ?_
    refine gf_RX3_15 hx hb hB hown hW h0 dX3_readClause_133 ?_
    refine lv_aload_n hx hb dX3_readClause_136 rfl (lv_at hl 0 rfl) ?_
    refine gf_RX3_28 hx hb hB hown hW h0 dX3_readClause_137 ?_
    obtain ⟨μ42, e_μ42, hf⟩ := op_none hf
    refine w_iast hx hb hW hV (iSo2 h0).1 (fun f => (iSo2 h0).2 E f _) e_μ42 dX3_readClause_140 (fun H locs hW hV => ?_)
    refine lv_aload_n hx hb dX3_readClause_141 rfl (lv_at hl 0 rfl) ?_
    refine lv_dup hx hb dX3_readClause_142 rfl ?_
    refine gf_RX3_15 hx hb hB hown hW h0 dX3_readClause_143 ?_
    refine lv_iconst (v := (1 : Int32)) hx hb dX3_readClause_146 (by decide) ?_
    refine lv_iadd hx hb dX3_readClause_147 ?_
    obtain ⟨μ43, e_μ43, hf⟩ := op_none hf
    refine pf_RX3_15 hx hb hB hown hW h0 hV dX3_readClause_148 (fun H locs hW hV => ?_)
    rw [Option.some.inj e_μ43] at hW
    refine lv_iconst (v := (1 : Int32)) hx hb dX3_readClause_151 (by decide) ?_
    exact w_retN hx hb hr hlocks hW hV (by decide) (Prod.mk.inj (Option.some.inj hf)).1 (Prod.mk.inj (Option.some.inj hf)).2 dX3_readClause_152
  have c_29 : ∀ (μ_29 : Mem) (b2_29 : Int32) (s0_29 : Nat) (hs0_29 : s0_29 < 9) , f_X3_readClause_29 k0 μ_29 b2_29 s0_29 = some (r, μ') → ∀ (H : Heap) (locs : List Loc) (ls : Array Slot), Wd E μ_29 s H → va_S (eA E) s.heap H locs → lv_has ls 5 [(0, .ref (ead E k0)), (1, .ref (ead E 2)), (2, .int b2_29)] → W p l e (headSpec (.code yX3_readClause cX3_readClause 5 (some .boolean) :: BIG) ({ frames := 24, cells := 0, slots := 0, locals := 583 })).room s m ([.ref (ead E k0), .ref (ead E 2)] : List Value).toArray below meth c H locs 0 0 (MQ below (QN E .boolean r μ') ([.ref (ead E k0), .ref (ead E 2)] : List Value).toArray s 0 0 (eA E)) (F0 m 29 ls [.ref (adS E s0_29)]) := by
    intro μ_29 b2_29 s0_29 hs0_29 hf H locs ls hW hV hl
    unfold f_X3_readClause_29 at hf
    refine lv_astore_n (i := 3) (lv' := [(3, .ref (adS E s0_29)), (0, .ref (ead E k0)), (1, .ref (ead E 2)), (2, .int b2_29)]) hx hb dX3_readClause_29 rfl hl (by decide) rfl (fun ls hl => ?_)
    refine lv_aload_n hx hb dX3_readClause_30 rfl (lv_at hl 2 rfl) ?_
    refine lv_aload_n hx hb dX3_readClause_31 rfl (lv_at hl 0 rfl) ?_
    obtain ⟨p47, e_46, hf⟩ := op_none hf
    refine w_callN (rn_RX3_53 (As := [.ref (adS E s0_29)]) hx hb hml hown hB hW hZ hV (k_X5_takeWord l E _ s0_29 hs0_29 p47.1 p47.2 e_46) rfl rfl ⟨(Nat.le_of_ble_eq_true rfl), (Nat.le_of_ble_eq_true rfl)⟩ (w_rec hW oTx.1 (oTx.2 E _ _) rfl) rfl hl.1 rfl (Nat.le_of_ble_eq_true rfl) dX3_readClause_32 ⟨Nat.le_refl _, Nat.le_refl _⟩) hV (fun H locs hn_p47_1 hW hV => ?_)
    refine lv_if_eq (tgt := 47) hx hb dX3_readClause_35 (by decide) (fun y48 => ?_) (fun y48 => ?_)
    · have hf := op_t y48 hf
      refine lv_iconst (v := (0 : Int32)) hx hb dX3_readClause_47 (by decide) ?_
      exact w_retN hx hb hr hlocks hW hV (by decide) (Prod.mk.inj (Option.some.inj hf)).1 (Prod.mk.inj (Option.some.inj hf)).2 dX3_readClause_48
    · have hf := op_f y48 hf
      refine lv_aload_n hx hb dX3_readClause_38 rfl (lv_at hl 2 rfl) ?_
      refine lv_bipush (v := (32 : Int32)) hx hb dX3_readClause_39 (by decide) ?_
      obtain ⟨p52, e_51, hf⟩ := op_none hf
      refine w_callN (rn_RX3_44 (As := [.int (32 : Int32)]) hx hb hml hown hB hW hZ hV (k_X5_takeSign l E _ (32 : Int32) p52.1 p52.2 e_51) rfl rfl ⟨(Nat.le_of_ble_eq_true rfl), (Nat.le_of_ble_eq_true rfl)⟩ (w_rec hW oTx.1 (oTx.2 E _ _) rfl) rfl hl.1 rfl (Nat.le_of_ble_eq_true rfl) dX3_readClause_41 ⟨Nat.le_refl _, Nat.le_refl _⟩) hV (fun H locs hn_p52_1 hW hV => ?_)
      refine lv_if_ne (tgt := 49) hx hb dX3_readClause_44 (by decide) (fun y53 => ?_) (fun y53 => ?_)
      · have hf := op_f y53 hf
        refine lv_aload_n hx hb dX3_readClause_49 rfl (lv_at hl 2 rfl) ?_
        obtain ⟨p57, e_56, hf⟩ := op_none hf
        refine w_callI (rn_RX3_57 (As := []) hx hb hml hown hB hW hZ hV (k_X5_takeNumber l E _ p57.1 p57.2 e_56) rfl rfl ⟨(Nat.le_of_ble_eq_true rfl), (Nat.le_of_ble_eq_true rfl)⟩ (w_rec hW oTx.1 (oTx.2 E _ _) rfl) rfl hl.1 rfl (Nat.le_of_ble_eq_true rfl) dX3_readClause_50 ⟨Nat.le_refl _, Nat.le_refl _⟩) hV (fun H locs hW hV => ?_)
        refine lv_istore (i := 4) (lv' := [(4, .int p57.1), (3, .ref (adS E s0_29)), (0, .ref (ead E k0)), (1, .ref (ead E 2)), (2, .int b2_29)]) hx hb dX3_readClause_53 hl (by decide) rfl (fun ls hl => ?_)
        refine lv_iload hx hb dX3_readClause_55 (lv_at hl 0 rfl) ?_
        refine lv_if_ge (tgt := 62) hx hb dX3_readClause_57 (by decide) (fun y58 => ?_) (fun y58 => ?_)
        · have hf := op_t y58 hf
          refine lv_iload_n hx hb dX3_readClause_62 rfl (lv_at hl 4 rfl) ?_
          refine lv_bipush (v := (97 : Int32)) hx hb dX3_readClause_63 (by decide) ?_
          refine lv_icmp_ne (tgt := 76) hx hb dX3_readClause_65 (by decide) (fun y59 => ?_) (fun y59 => ?_)
          · have hf := op_f y59 hf
            refine lv_aload_n hx hb dX3_readClause_76 rfl (lv_at hl 3 rfl) ?_
            refine lv_bipush (v := (32 : Int32)) hx hb dX3_readClause_77 (by decide) ?_
            obtain ⟨p63, e_62, hf⟩ := op_none hf
            refine w_callN (rn_RX3_44 (As := [.int (32 : Int32)]) hx hb hml hown hB hW hZ hV (k_X5_takeSign l E _ (32 : Int32) p63.1 p63.2 e_62) rfl rfl ⟨(Nat.le_of_ble_eq_true rfl), (Nat.le_of_ble_eq_true rfl)⟩ (w_rec hW oTx.1 (oTx.2 E _ _) rfl) rfl hl.1 rfl (Nat.le_of_ble_eq_true rfl) dX3_readClause_79 ⟨Nat.le_refl _, Nat.le_refl _⟩) hV (fun H locs hn_p63_1 hW hV => ?_)
            refine lv_if_eq (tgt := 103) hx hb dX3_readClause_82 (by decide) (fun y64 => ?_) (fun y64 => ?_)
            · have hf := op_t y64 hf
              refine lv_iconst (v := (0 : Int32)) hx hb dX3_readClause_103 (by decide) ?_
              exact w_retN hx hb hr hlocks hW hV (by decide) (Prod.mk.inj (Option.some.inj hf)).1 (Prod.mk.inj (Option.some.inj hf)).2 dX3_readClause_104
            · have hf := op_f y64 hf
              refine lv_aload_n hx hb dX3_readClause_85 rfl (lv_at hl 2 rfl) ?_
              refine lv_aload_n hx hb dX3_readClause_86 rfl (lv_at hl 3 rfl) ?_
              refine lv_iconst (v := (0 : Int32)) hx hb dX3_readClause_87 (by decide) ?_
              obtain ⟨p68, e_67, hf⟩ := op_none hf
              refine w_callN (rn_RX3_60 (As := [.ref (ead E 2), .int (0 : Int32)]) hx hb hml hown hB hW hZ hV (k_X3_readAny l E _ k0 (0 : Int32) h0 p68.1 p68.2 e_67) rfl rfl ⟨(Nat.le_of_ble_eq_true rfl), (Nat.le_of_ble_eq_true rfl)⟩ (w_rec hW (oSo h0).1 ((oSo h0).2 E _ _) rfl) rfl hl.1 rfl (Nat.le_of_ble_eq_true rfl) dX3_readClause_88 ⟨Nat.le_refl _, Nat.le_refl _⟩) hV (fun H locs hn_p68_1 hW hV => ?_)
              refine lv_if_eq (tgt := 103) hx hb dX3_readClause_91 (by decide) (fun y69 => ?_) (fun y69 => ?_)
              · have hf := op_t y69 hf
                refine lv_iconst (v := (0 : Int32)) hx hb dX3_readClause_103 (by decide) ?_
                exact w_retN hx hb hr hlocks hW hV (by decide) (Prod.mk.inj (Option.some.inj hf)).1 (Prod.mk.inj (Option.some.inj hf)).2 dX3_readClause_104
              · have hf := op_f y69 hf
                refine lv_aload_n hx hb dX3_readClause_94 rfl (lv_at hl 2 rfl) ?_
                refine gf_RX3_15 hx hb hB hown hW h0 dX3_readClause_95 ?_
                refine lv_bipush (v := (10 : Int32)) hx hb dX3_readClause_98 (by decide) ?_
                refine lv_icmp_lt (tgt := 105) hx hb dX3_readClause_100 (by decide) (fun y70 => ?_) (fun y70 => ?_)
                · have hf := op_t y70 hf
                  refine lv_aload_n hx hb dX3_readClause_105 rfl (lv_at hl 2 rfl) ?_
                  refine gf_RX3_18 hx hb hB hown hW h0 dX3_readClause_106 ?_
                  refine lv_aload_n hx hb dX3_readClause_109 rfl (lv_at hl 2 rfl) ?_
                  refine gf_RX3_15 hx hb hB hown hW h0 dX3_readClause_110 ?_
                  refine lv_iload_n hx hb dX3_readClause_113 rfl (lv_at hl 4 rfl) ?_
                  refine lv_bipush (v := (108 : Int32)) hx hb dX3_readClause_114 (by decide) ?_
                  refine lv_icmp_ne (tgt := 124) hx hb dX3_readClause_116 (by decide) (fun y71 => ?_) (fun y71 => ?_)
                  · have hf := op_f y71 hf
                    refine lv_iload hx hb dX3_readClause_124 (lv_at hl 0 rfl) ?_
                    refine lv_ineg hx hb dX3_readClause_126 ?_
                    exact c_127 p68.2 (-p57.1) (gI p68.2 k0 1) hf H locs ls hW hV (lv_sub hl [2] rfl)
                  · have hf := op_t y71 hf
                    refine lv_iload hx hb dX3_readClause_119 (lv_at hl 0 rfl) ?_
                    refine lv_goto (tgt := 127) hx hb dX3_readClause_121 (by decide) ?_
                    exact c_127 p68.2 p57.1 (gI p68.2 k0 1) hf H locs ls hW hV (lv_sub hl [2] rfl)
                · have hf := op_f y70 hf
                  refine lv_iconst (v := (0 : Int32)) hx hb dX3_readClause_103 (by decide) ?_
                  exact w_retN hx hb hr hlocks hW hV (by decide) (Prod.mk.inj (Option.some.inj hf)).1 (Prod.mk.inj (Option.some.inj hf)).2 dX3_readClause_104
          · have hf := op_t y59 hf
            refine lv_aload_n hx hb dX3_readClause_68 rfl (lv_at hl 2 rfl) ?_
            refine lv_iload hx hb dX3_readClause_69 (lv_at hl 0 rfl) ?_
            obtain ⟨μ72, e_μ72, hf⟩ := op_none hf
            refine pf_RX3_9 hx hb hB hown hW h0 hV dX3_readClause_71 (fun H locs hW hV => ?_)
            rw [Option.some.inj e_μ72] at hW
            refine lv_iconst (v := (1 : Int32)) hx hb dX3_readClause_74 (by decide) ?_
            exact w_retN hx hb hr hlocks hW hV (by decide) (Prod.mk.inj (Option.some.inj hf)).1 (Prod.mk.inj (Option.some.inj hf)).2 dX3_readClause_75
        · have hf := op_f y58 hf
          refine lv_iconst (v := (0 : Int32)) hx hb dX3_readClause_60 (by decide) ?_
          exact w_retN hx hb hr hlocks hW hV (by decide) (Prod.mk.inj (Option.some.inj hf)).1 (Prod.mk.inj (Option.some.inj hf)).2 dX3_readClause_61
      · have hf := op_t y53 hf
        refine lv_iconst (v := (0 : Int32)) hx hb dX3_readClause_47 (by decide) ?_
        exact w_retN hx hb hr hlocks hW hV (by decide) (Prod.mk.inj (Option.some.inj hf)).1 (Prod.mk.inj (Option.some.inj hf)).2 dX3_readClause_48
  obtain ⟨H, hH⟩ : ∃ H : Heap, H = s.heap := ⟨_, rfl⟩
  obtain ⟨locs, hlocs⟩ : ∃ locs : List Loc, locs = [] := ⟨_, rfl⟩
  rw [show (W p l e (headSpec (.code yX3_readClause cX3_readClause 5 (some .boolean) :: BIG) ({ frames := 24, cells := 0, slots := 0, locals := 583 })).room s m ([.ref (ead E k0), .ref (ead E 2)] : List Value).toArray below meth c s.heap [] 0 0) = W p l e (headSpec (.code yX3_readClause cX3_readClause 5 (some .boolean) :: BIG) ({ frames := 24, cells := 0, slots := 0, locals := 583 })).room s m ([.ref (ead E k0), .ref (ead E 2)] : List Value).toArray below meth c H locs 0 0 by rw [hH, hlocs]]
  have hV : va_S (eA E) s.heap H locs := by rw [hH, hlocs]; exact hV
  have hW : Wd E μ s H := by rw [hH]; exact hW
  unfold f_X3_readClause at hf
  refine lv_aload_n hx hb dX3_readClause_0 rfl (lv_at hl 1 rfl) ?_
  obtain ⟨v73, e_74, hf⟩ := op_none hf
  refine w_callI (rn_RX3_40 (As := []) hx hb hml hown hB hW hZ hV (k_X5_next l E _ v73 e_74) rfl rfl ⟨(Nat.le_of_ble_eq_true rfl), (Nat.le_of_ble_eq_true rfl)⟩ (w_rec hW oTx.1 (oTx.2 E _ _) rfl) rfl hl.1 rfl (Nat.le_of_ble_eq_true rfl) dX3_readClause_1 ⟨Nat.le_refl _, Nat.le_refl _⟩) hV (fun H locs hW hV => ?_)
  refine lv_istore_n (i := 2) (lv' := [(2, .int v73), (0, .ref (ead E k0)), (1, .ref (ead E 2))]) hx hb dX3_readClause_4 rfl hl (by decide) rfl (fun ls hl => ?_)
  refine lv_iload_n hx hb dX3_readClause_5 rfl (lv_at hl 0 rfl) ?_
  refine lv_bipush (v := (108 : Int32)) hx hb dX3_readClause_6 (by decide) ?_
  refine lv_icmp_ne (tgt := 16) hx hb dX3_readClause_8 (by decide) (fun y75 => ?_) (fun y75 => ?_)
  · have hf := op_f y75 hf
    refine lv_iload_n hx hb dX3_readClause_16 rfl (lv_at hl 0 rfl) ?_
    refine lv_bipush (v := (101 : Int32)) hx hb dX3_readClause_17 (by decide) ?_
    refine lv_icmp_ne (tgt := 27) hx hb dX3_readClause_19 (by decide) (fun y76 => ?_) (fun y76 => ?_)
    · have hf := op_f y76 hf
      refine w_ldcS hx hb hown hZ (List.mem_of_getElem? (i := 2) rfl) dX3_readClause_27 ?_
      exact c_29 μ v73 2 (by decide) hf H locs ls hW hV (lv_sub hl [1, 2, 0] rfl)
    · have hf := op_t y76 hf
      refine w_ldcS hx hb hown hZ (List.mem_of_getElem? (i := 1) rfl) dX3_readClause_22 ?_
      refine lv_goto (tgt := 29) hx hb dX3_readClause_24 (by decide) ?_
      exact c_29 μ v73 1 (by decide) hf H locs ls hW hV (lv_sub hl [1, 2, 0] rfl)
  · have hf := op_t y75 hf
    refine w_ldcS hx hb hown hZ (List.mem_of_getElem? (i := 0) rfl) dX3_readClause_11 ?_
    refine lv_goto (tgt := 29) hx hb dX3_readClause_13 (by decide) ?_
    exact c_29 μ v73 0 (by decide) hf H locs ls hW hV (lv_sub hl [1, 2, 0] rfl)
set_option maxHeartbeats 8000000 in
set_option maxRecDepth 100000 in
theorem k_X3_understands (l : Launch) (E : WE) (μ : Mem) (k0 : Nat) (h0 : isSo k0) (r : Int32) (μ' : Mem) (hf : f_X3_understands μ k0 = some (r, μ')) : Met l yX3_understands (.code yX3_understands cX3_understands 3 (some .boolean) :: BIG) ({ frames := 25, cells := 0, slots := 0, locals := 607 }) (PW E μ [.ref (ead E k0), .ref (ead E 2)]) (QN E .boolean r μ') 0 0 (eA E) := by
  refine Met.ofW (cc := cX3_understands) (maxL := 3) (ret := (some .boolean)) (by decide) rfl ?_
  intro p e s m args below meth c s₁ B hml hv
  obtain ⟨rfl, hW, hZ⟩ := hv
  have hx := B.exec
  have hb := B.bytes
  have hr := B.returns
  have hB : ∀ w ∈ BIG, w.before _ s = true := fun w h => atoms_spec (ws := (.code yX3_understands cX3_understands 3 (some .boolean) :: BIG)) B.pre w (List.mem_cons_of_mem _ h)
  have hown : s.vm.findClass RX3 = some m.cls := findClass_of_methodNamed B.named
  have hlocks := B.notSynchronized
  have hV : va_S (eA E) s.heap s.heap [] := va_S.rf
  have hl := lv_entry ([.ref (ead E k0), .ref (ead E 2)]) (n := 3) (Nat.le_of_ble_eq_true rfl)
  rw [lg_entry_eq]
  generalize (lg_sl ([.ref (ead E k0), .ref (ead E 2)]) ++ List.replicate (3 - (lg_sl ([.ref (ead E k0), .ref (ead E 2)])).length) Slot.unset).toArray = ls at hl ⊢
  have hl : lv_has ls 3 [(0, .ref (ead E k0)), (1, .ref (ead E 2))] := hl
  have c_22 : ∀ (n_22 : Nat) (μ_22 : Mem) (b2_22 : Int32) , f_X3_understands_22 k0 n_22 μ_22 b2_22 = some (r, μ') → ∀ (H : Heap) (locs : List Loc) (ls : Array Slot), Wd E μ_22 s H → va_S (eA E) s.heap H locs → lv_has ls 3 [(0, .ref (ead E k0)), (1, .ref (ead E 2)), (2, .int b2_22)] → W p l e (headSpec (.code yX3_understands cX3_understands 3 (some .boolean) :: BIG) ({ frames := 25, cells := 0, slots := 0, locals := 607 })).room s m ([.ref (ead E k0), .ref (ead E 2)] : List Value).toArray below meth c H locs 0 0 (MQ below (QN E .boolean r μ') ([.ref (ead E k0), .ref (ead E 2)] : List Value).toArray s 0 0 (eA E)) (F0 m 22 ls []) := by
    intro n_22
    induction n_22 with
    | zero =>
      intro μ_22 b2_22 hf H locs ls hW hV hl
      cases hf
    | succ n_22 ih_22 =>
      intro μ_22 b2_22 hf H locs ls hW hV hl
      rw [f_X3_understands_22] at hf
      refine lv_iload_n hx hb dX3_understands_22 rfl (lv_at hl 2 rfl) ?_
      refine lv_bipush (v := (10 : Int32)) hx hb dX3_understands_23 (by decide) ?_
      refine lv_icmp_gt (tgt := 70) hx hb dX3_understands_25 (by decide) (fun y21 => ?_) (fun y21 => ?_)
      · have hf := op_t y21 hf
        refine lv_iconst (v := (0 : Int32)) hx hb dX3_understands_70 (by decide) ?_
        exact w_retN hx hb hr hlocks hW hV (by decide) (Prod.mk.inj (Option.some.inj hf)).1 (Prod.mk.inj (Option.some.inj hf)).2 dX3_understands_71
      · have hf := op_f y21 hf
        refine lv_aload_n hx hb dX3_understands_28 rfl (lv_at hl 0 rfl) ?_
        refine lv_aload_n hx hb dX3_understands_29 rfl (lv_at hl 1 rfl) ?_
        obtain ⟨p25, e_24, hf⟩ := op_none hf
        refine w_callN (rn_RX3_36 (As := [.ref (ead E 2)]) hx hb hml hown hB hW hZ hV (k_X3_readClause l E _ k0 h0 p25.1 p25.2 e_24) rfl rfl ⟨(Nat.le_of_ble_eq_true rfl), (Nat.le_of_ble_eq_true rfl)⟩ (w_rec hW (oSo h0).1 ((oSo h0).2 E _ _) rfl) rfl hl.1 rfl (Nat.le_of_ble_eq_true rfl) dX3_understands_30 ⟨Nat.le_refl _, Nat.le_refl _⟩) hV (fun H locs hn_p25_1 hW hV => ?_)
        refine lv_if_ne (tgt := 38) hx hb dX3_understands_33 (by decide) (fun y26 => ?_) (fun y26 => ?_)
        · have hf := op_f y26 hf
          refine lv_aload_n hx hb dX3_understands_38 rfl (lv_at hl 1 rfl) ?_
          obtain ⟨v27, e_28, hf⟩ := op_none hf
          refine w_callI (rn_RX3_40 (As := []) hx hb hml hown hB hW hZ hV (k_X5_next l E _ v27 e_28) rfl rfl ⟨(Nat.le_of_ble_eq_true rfl), (Nat.le_of_ble_eq_true rfl)⟩ (w_rec hW oTx.1 (oTx.2 E _ _) rfl) rfl hl.1 rfl (Nat.le_of_ble_eq_true rfl) dX3_understands_39 ⟨Nat.le_refl _, Nat.le_refl _⟩) hV (fun H locs hW hV => ?_)
          refine lv_if_ge (tgt := 47) hx hb dX3_understands_42 (by decide) (fun y29 => ?_) (fun y29 => ?_)
          · have hf := op_t y29 hf
            refine lv_iload_n hx hb dX3_understands_47 rfl (lv_at hl 2 rfl) ?_
            refine lv_bipush (v := (10 : Int32)) hx hb dX3_understands_48 (by decide) ?_
            refine lv_icmp_eq (tgt := 62) hx hb dX3_understands_50 (by decide) (fun y30 => ?_) (fun y30 => ?_)
            · have hf := op_t y30 hf
              refine lv_iconst (v := (0 : Int32)) hx hb dX3_understands_62 (by decide) ?_
              exact w_retN hx hb hr hlocks hW hV (by decide) (Prod.mk.inj (Option.some.inj hf)).1 (Prod.mk.inj (Option.some.inj hf)).2 dX3_understands_63
            · have hf := op_f y30 hf
              refine lv_aload_n hx hb dX3_understands_53 rfl (lv_at hl 1 rfl) ?_
              refine lv_bipush (v := (59 : Int32)) hx hb dX3_understands_54 (by decide) ?_
              obtain ⟨p34, e_33, hf⟩ := op_none hf
              refine w_callN (rn_RX3_44 (As := [.int (59 : Int32)]) hx hb hml hown hB hW hZ hV (k_X5_takeSign l E _ (59 : Int32) p34.1 p34.2 e_33) rfl rfl ⟨(Nat.le_of_ble_eq_true rfl), (Nat.le_of_ble_eq_true rfl)⟩ (w_rec hW oTx.1 (oTx.2 E _ _) rfl) rfl hl.1 rfl (Nat.le_of_ble_eq_true rfl) dX3_understands_56 ⟨Nat.le_refl _, Nat.le_refl _⟩) hV (fun H locs hn_p34_1 hW hV => ?_)
              refine lv_if_ne (tgt := 64) hx hb dX3_understands_59 (by decide) (fun y35 => ?_) (fun y35 => ?_)
              · have hf := op_f y35 hf
                obtain ⟨v36, e_v36, hf⟩ := op_none hf
                refine lv_iinc (v := v36) (lv' := [(2, .int v36), (0, .ref (ead E k0)), (1, .ref (ead E 2))]) hx hb dX3_understands_64 hl (k := 2) rfl (by rw [← Option.some.inj e_v36]; rfl) (by decide) rfl (fun ls hl => ?_)
                refine lv_goto (tgt := 22) hx hb dX3_understands_67 (by decide) ?_
                exact ih_22 p34.2 v36 hf H locs ls hW hV (lv_sub hl [1, 2, 0] rfl)
              · have hf := op_t y35 hf
                refine lv_iconst (v := (0 : Int32)) hx hb dX3_understands_62 (by decide) ?_
                exact w_retN hx hb hr hlocks hW hV (by decide) (Prod.mk.inj (Option.some.inj hf)).1 (Prod.mk.inj (Option.some.inj hf)).2 dX3_understands_63
          · have hf := op_f y29 hf
            refine lv_iconst (v := (1 : Int32)) hx hb dX3_understands_45 (by decide) ?_
            exact w_retN hx hb hr hlocks hW hV (by decide) (Prod.mk.inj (Option.some.inj hf)).1 (Prod.mk.inj (Option.some.inj hf)).2 dX3_understands_46
        · have hf := op_t y26 hf
          refine lv_iconst (v := (0 : Int32)) hx hb dX3_understands_36 (by decide) ?_
          exact w_retN hx hb hr hlocks hW hV (by decide) (Prod.mk.inj (Option.some.inj hf)).1 (Prod.mk.inj (Option.some.inj hf)).2 dX3_understands_37
  obtain ⟨H, hH⟩ : ∃ H : Heap, H = s.heap := ⟨_, rfl⟩
  obtain ⟨locs, hlocs⟩ : ∃ locs : List Loc, locs = [] := ⟨_, rfl⟩
  rw [show (W p l e (headSpec (.code yX3_understands cX3_understands 3 (some .boolean) :: BIG) ({ frames := 25, cells := 0, slots := 0, locals := 607 })).room s m ([.ref (ead E k0), .ref (ead E 2)] : List Value).toArray below meth c s.heap [] 0 0) = W p l e (headSpec (.code yX3_understands cX3_understands 3 (some .boolean) :: BIG) ({ frames := 25, cells := 0, slots := 0, locals := 607 })).room s m ([.ref (ead E k0), .ref (ead E 2)] : List Value).toArray below meth c H locs 0 0 by rw [hH, hlocs]]
  have hV : va_S (eA E) s.heap H locs := by rw [hH, hlocs]; exact hV
  have hW : Wd E μ s H := by rw [hH]; exact hW
  unfold f_X3_understands at hf
  refine lv_aload_n hx hb dX3_understands_0 rfl (lv_at hl 1 rfl) ?_
  refine lv_iconst (v := (0 : Int32)) hx hb dX3_understands_1 (by decide) ?_
  obtain ⟨μ37, e_μ37, hf⟩ := op_none hf
  refine pf_RX3_31 hx hb hB hown hW hV dX3_understands_2 (fun H locs hW hV => ?_)
  rw [Option.some.inj e_μ37] at hW
  refine lv_aload_n hx hb dX3_understands_5 rfl (lv_at hl 0 rfl) ?_
  refine lv_iconst (v := (0 : Int32)) hx hb dX3_understands_6 (by decide) ?_
  obtain ⟨μ38, e_μ38, hf⟩ := op_none hf
  refine pf_RX3_9 hx hb hB hown hW h0 hV dX3_understands_7 (fun H locs hW hV => ?_)
  rw [Option.some.inj e_μ38] at hW
  refine lv_aload_n hx hb dX3_understands_10 rfl (lv_at hl 0 rfl) ?_
  refine lv_iconst (v := (0 : Int32)) hx hb dX3_understands_11 (by decide) ?_
  obtain ⟨μ39, e_μ39, hf⟩ := op_none hf
  refine pf_RX3_15 hx hb hB hown hW h0 hV dX3_understands_12 (fun H locs hW hV => ?_)
  rw [Option.some.inj e_μ39] at hW
  refine lv_aload_n hx hb dX3_understands_15 rfl (lv_at hl 0 rfl) ?_
  refine lv_iconst (v := (0 : Int32)) hx hb dX3_understands_16 (by decide) ?_
  obtain ⟨μ40, e_μ40, hf⟩ := op_none hf
  refine pf_RX3_28 hx hb hB hown hW h0 hV dX3_understands_17 (fun H locs hW hV => ?_)
  rw [Option.some.inj e_μ40] at hW
  refine lv_iconst (v := (1 : Int32)) hx hb dX3_understands_20 (by decide) ?_
  refine lv_istore_n (i := 2) (lv' := [(2, .int (1 : Int32)), (0, .ref (ead E k0)), (1, .ref (ead E 2))]) hx hb dX3_understands_21 rfl hl (by decide) rfl (fun ls hl => ?_)
  exact c_22 FU μ40 (1 : Int32) hf H locs ls hW hV (lv_sub hl [1, 2, 0] rfl)
set_option maxHeartbeats 8000000 in
set_option maxRecDepth 100000 in
theorem k_X5_empty (l : Launch) (E : WE) (μ : Mem) (μ' : Mem) (hf : f_X5_empty μ = some μ') : Met l yX5_empty (.code yX5_empty cX5_empty 1 none :: BIG) ({ frames := 0, cells := 0, slots := 0, locals := 0 }) (PW E μ [.ref (ead E 2)]) (QV E μ') 0 0 (eA E) := by
  refine Met.ofW (cc := cX5_empty) (maxL := 1) (ret := none) (by decide) rfl ?_
  intro p e s m args below meth c s₁ B hml hv
  obtain ⟨rfl, hW, hZ⟩ := hv
  have hx := B.exec
  have hb := B.bytes
  have hr := B.returns
  have hB : ∀ w ∈ BIG, w.before _ s = true := fun w h => atoms_spec (ws := (.code yX5_empty cX5_empty 1 none :: BIG)) B.pre w (List.mem_cons_of_mem _ h)
  have hown : s.vm.findClass RX5 = some m.cls := findClass_of_methodNamed B.named
  have hlocks := B.notSynchronized
  have hV : va_S (eA E) s.heap s.heap [] := va_S.rf
  have hl := lv_entry ([.ref (ead E 2)]) (n := 1) (Nat.le_of_ble_eq_true rfl)
  rw [lg_entry_eq]
  generalize (lg_sl ([.ref (ead E 2)]) ++ List.replicate (1 - (lg_sl ([.ref (ead E 2)])).length) Slot.unset).toArray = ls at hl ⊢
  have hl : lv_has ls 1 [(0, .ref (ead E 2))] := hl
  obtain ⟨H, hH⟩ : ∃ H : Heap, H = s.heap := ⟨_, rfl⟩
  obtain ⟨locs, hlocs⟩ : ∃ locs : List Loc, locs = [] := ⟨_, rfl⟩
  rw [show (W p l e (headSpec (.code yX5_empty cX5_empty 1 none :: BIG) ({ frames := 0, cells := 0, slots := 0, locals := 0 })).room s m ([.ref (ead E 2)] : List Value).toArray below meth c s.heap [] 0 0) = W p l e (headSpec (.code yX5_empty cX5_empty 1 none :: BIG) ({ frames := 0, cells := 0, slots := 0, locals := 0 })).room s m ([.ref (ead E 2)] : List Value).toArray below meth c H locs 0 0 by rw [hH, hlocs]]
  have hV : va_S (eA E) s.heap H locs := by rw [hH, hlocs]; exact hV
  have hW : Wd E μ s H := by rw [hH]; exact hW
  unfold f_X5_empty at hf
  refine lv_aload_n hx hb dX5_empty_0 rfl (lv_at hl 0 rfl) ?_
  refine lv_iconst (v := (0 : Int32)) hx hb dX5_empty_1 (by decide) ?_
  obtain ⟨μ2, e_μ2, hf⟩ := op_none hf
  refine pf_RX5_15 hx hb hB hown hW hV dX5_empty_2 (fun H locs hW hV => ?_)
  rw [Option.some.inj e_μ2] at hW
  exact w_retV hx hb hr hlocks hW hV (Option.some.inj hf) dX5_empty_5
set_option maxHeartbeats 8000000 in
set_option maxRecDepth 100000 in
theorem k_X6_store (l : Launch) (E : WE) (μ : Mem) (r : Int32) (μ' : Mem) (hf : f_X6_store μ = some (r, μ')) : Met l yX6_store (.code yX6_store cX6_store 3 (some .int) :: BIG) ({ frames := 26, cells := 0, slots := 0, locals := 629 }) (PW E μ [.ref (ead E 1)]) (QI E r μ') 0 0 (eA E) := by
  refine Met.ofW (cc := cX6_store) (maxL := 3) (ret := (some .int)) (by decide) rfl ?_
  intro p e s m args below meth c s₁ B hml hv
  obtain ⟨rfl, hW, hZ⟩ := hv
  have hx := B.exec
  have hb := B.bytes
  have hr := B.returns
  have hB : ∀ w ∈ BIG, w.before _ s = true := fun w h => atoms_spec (ws := (.code yX6_store cX6_store 3 (some .int) :: BIG)) B.pre w (List.mem_cons_of_mem _ h)
  have hown : s.vm.findClass RX6 = some m.cls := findClass_of_methodNamed B.named
  have hlocks := B.notSynchronized
  have hV : va_S (eA E) s.heap s.heap [] := va_S.rf
  have hl := lv_entry ([.ref (ead E 1)]) (n := 3) (Nat.le_of_ble_eq_true rfl)
  rw [lg_entry_eq]
  generalize (lg_sl ([.ref (ead E 1)]) ++ List.replicate (3 - (lg_sl ([.ref (ead E 1)])).length) Slot.unset).toArray = ls at hl ⊢
  have hl : lv_has ls 3 [(0, .ref (ead E 1))] := hl
  obtain ⟨H, hH⟩ : ∃ H : Heap, H = s.heap := ⟨_, rfl⟩
  obtain ⟨locs, hlocs⟩ : ∃ locs : List Loc, locs = [] := ⟨_, rfl⟩
  rw [show (W p l e (headSpec (.code yX6_store cX6_store 3 (some .int) :: BIG) ({ frames := 26, cells := 0, slots := 0, locals := 629 })).room s m ([.ref (ead E 1)] : List Value).toArray below meth c s.heap [] 0 0) = W p l e (headSpec (.code yX6_store cX6_store 3 (some .int) :: BIG) ({ frames := 26, cells := 0, slots := 0, locals := 629 })).room s m ([.ref (ead E 1)] : List Value).toArray below meth c H locs 0 0 by rw [hH, hlocs]]
  have hV : va_S (eA E) s.heap H locs := by rw [hH, hlocs]; exact hV
  have hW : Wd E μ s H := by rw [hH]; exact hW
  unfold f_X6_store at hf
  refine lv_aload_n hx hb dX6_store_0 rfl (lv_at hl 0 rfl) ?_
  refine gf_RX6_41 hx hb hB hown hW dX6_store_1 ?_
  refine lv_bipush (v := (6 : Int32)) hx hb dX6_store_4 (by decide) ?_
  refine lv_icmp_lt (tgt := 12) hx hb dX6_store_6 (by decide) (fun y14 => ?_) (fun y14 => ?_)
  · have hf := op_t y14 hf
    refine lv_aload_n hx hb dX6_store_12 rfl (lv_at hl 0 rfl) ?_
    refine gf_RX6_37 hx hb hB hown hW dX6_store_13 ?_
    refine lv_aload_n hx hb dX6_store_16 rfl (lv_at hl 0 rfl) ?_
    refine gf_RX6_41 hx hb hB hown hW dX6_store_17 ?_
    obtain ⟨j15, e_j15, hf⟩ := op_none hf
    refine w_aald (j := 5) hx hb hW r4.1 (r4.2 E _ _) rfl rfl e_j15 dX6_store_20 ?_
    refine lv_aload_n hx hb dX6_store_21 rfl (lv_at hl 0 rfl) ?_
    refine gf_RX6_31 hx hb hB hown hW dX6_store_22 ?_
    obtain ⟨p19, e_18, hf⟩ := op_none hf
    refine w_callN (rn_RX6_108 (As := [.ref (ead E 2)]) hx hb hml hown hB hW hZ hV (k_X3_understands l E _ (1000 + 10 * j15) (soI (aix_lt e_j15)) p19.1 p19.2 e_18) rfl rfl ⟨(Nat.le_of_ble_eq_true rfl), (Nat.le_of_ble_eq_true rfl)⟩ (w_rec hW (oSo (soI (aix_lt e_j15))).1 ((oSo (soI (aix_lt e_j15))).2 E _ _) rfl) rfl hl.1 rfl (Nat.le_of_ble_eq_true rfl) dX6_store_25 ⟨Nat.le_refl _, Nat.le_refl _⟩) hV (fun H locs hn_p19_1 hW hV => ?_)
    refine lv_istore_n (i := 1) (lv' := [(1, .int p19.1), (0, .ref (ead E 1))]) hx hb dX6_store_28 rfl hl (by decide) rfl (fun ls hl => ?_)
    refine lv_aload_n hx hb dX6_store_29 rfl (lv_at hl 1 rfl) ?_
    refine gf_RX6_31 hx hb hB hown hW dX6_store_30 ?_
    refine gf_RX6_112 hx hb hB hown hW dX6_store_33 ?_
    obtain ⟨v20, e_v20, hf⟩ := op_none hf
    refine lv_top' (Option.some.inj e_v20) ?_
    refine lv_istore_n (i := 2) (lv' := [(2, .int v20), (1, .int p19.1), (0, .ref (ead E 1))]) hx hb dX6_store_36 rfl hl (by decide) rfl (fun ls hl => ?_)
    refine lv_aload_n hx hb dX6_store_37 rfl (lv_at hl 2 rfl) ?_
    refine gf_RX6_31 hx hb hB hown hW dX6_store_38 ?_
    obtain ⟨μ21, e_22, hf⟩ := op_none hf
    refine w_callV (rn_RX6_115 (As := []) hx hb hml hown hB hW hZ hV (k_X5_empty l E _ μ21 e_22) rfl rfl ⟨(Nat.le_of_ble_eq_true rfl), (Nat.le_of_ble_eq_true rfl)⟩ (w_rec hW oTx.1 (oTx.2 E _ _) rfl) rfl hl.1 rfl (Nat.le_of_ble_eq_true rfl) dX6_store_41 ⟨Nat.le_refl _, Nat.le_refl _⟩) hV (fun H locs hW hV => ?_)
    refine lv_iload_n hx hb dX6_store_44 rfl (lv_at hl 1 rfl) ?_
    refine lv_if_ne (tgt := 53) hx hb dX6_store_45 (by decide) (fun y23 => ?_) (fun y23 => ?_)
    · have hf := op_f y23 hf
      refine lv_aload_n hx hb dX6_store_53 rfl (lv_at hl 2 rfl) ?_
      refine gf_RX6_12 hx hb hB hown hW dX6_store_54 ?_
      refine lv_aload_n hx hb dX6_store_57 rfl (lv_at hl 2 rfl) ?_
      refine gf_RX6_41 hx hb hB hown hW dX6_store_58 ?_
      obtain ⟨μ24, e_μ24, hf⟩ := op_none hf
      refine pf_RX6_118 hx hb hB hown hW st1 hV dX6_store_61 (fun H locs hW hV => ?_)
      rw [Option.some.inj e_μ24] at hW
      refine lv_aload_n hx hb dX6_store_64 rfl (lv_at hl 2 rfl) ?_
      refine lv_dup hx hb dX6_store_65 rfl ?_
      refine gf_RX6_41 hx hb hB hown hW dX6_store_66 ?_
      obtain ⟨v25, e_v25, hf⟩ := op_none hf
      refine lv_top' (Option.some.inj e_v25) ?_
      refine lv_dup_x1 hx hb dX6_store_69 rfl rfl ?_
      refine lv_iconst (v := (1 : Int32)) hx hb dX6_store_70 (by decide) ?_
      refine lv_iadd hx hb dX6_store_71 ?_
      obtain ⟨μ26, e_μ26, hf⟩ := op_none hf
      refine pf_RX6_41 hx hb hB hown hW hV dX6_store_72 (fun H locs hW hV => ?_)
      rw [Option.some.inj e_μ26] at hW
      exact w_retI hx hb hr hlocks hW hV (Prod.mk.inj (Option.some.inj hf)).1 (Prod.mk.inj (Option.some.inj hf)).2 dX6_store_75
    · have hf := op_t y23 hf
      refine lv_bipush (v := (-10 : Int32)) hx hb dX6_store_48 (by decide) ?_
      refine lv_iload_n hx hb dX6_store_50 rfl (lv_at hl 0 rfl) ?_
      refine lv_isub hx hb dX6_store_51 ?_
      exact w_retI hx hb hr hlocks hW hV (Prod.mk.inj (Option.some.inj hf)).1 (Prod.mk.inj (Option.some.inj hf)).2 dX6_store_52
  · have hf := op_f y14 hf
    refine lv_bipush (v := (-4 : Int32)) hx hb dX6_store_9 (by decide) ?_
    exact w_retI hx hb hr hlocks hW hV (Prod.mk.inj (Option.some.inj hf)).1 (Prod.mk.inj (Option.some.inj hf)).2 dX6_store_11
set_option maxHeartbeats 8000000 in
set_option maxRecDepth 100000 in
theorem k_X2_isDue (l : Launch) (E : WE) (μ : Mem) (k0 : Nat) (a1 : Int32) (a2 : Int32) (h0 : isSt k0) (r : Int32) (hf : f_X2_isDue μ k0 a1 a2 = some r) : Met l yX2_isDue (.code yX2_isDue cX2_isDue 4 (some .boolean) :: BIG) ({ frames := 0, cells := 0, slots := 0, locals := 0 }) (PW E μ [.ref (ead E k0), .int a1, .int a2]) (QN E .boolean r μ) 0 0 (eA E) := by
  refine Met.ofW (cc := cX2_isDue) (maxL := 4) (ret := (some .boolean)) (by decide) rfl ?_
  intro p e s m args below meth c s₁ B hml hv
  obtain ⟨rfl, hW, hZ⟩ := hv
  have hx := B.exec
  have hb := B.bytes
  have hr := B.returns
  have hB : ∀ w ∈ BIG, w.before _ s = true := fun w h => atoms_spec (ws := (.code yX2_isDue cX2_isDue 4 (some .boolean) :: BIG)) B.pre w (List.mem_cons_of_mem _ h)
  have hown : s.vm.findClass RX2 = some m.cls := findClass_of_methodNamed B.named
  have hlocks := B.notSynchronized
  have hV : va_S (eA E) s.heap s.heap [] := va_S.rf
  have hl := lv_entry ([.ref (ead E k0), .int a1, .int a2]) (n := 4) (Nat.le_of_ble_eq_true rfl)
  rw [lg_entry_eq]
  generalize (lg_sl ([.ref (ead E k0), .int a1, .int a2]) ++ List.replicate (4 - (lg_sl ([.ref (ead E k0), .int a1, .int a2])).length) Slot.unset).toArray = ls at hl ⊢
  have hl : lv_has ls 4 [(0, .ref (ead E k0)), (1, .int a1), (2, .int a2)] := hl
  obtain ⟨H, hH⟩ : ∃ H : Heap, H = s.heap := ⟨_, rfl⟩
  obtain ⟨locs, hlocs⟩ : ∃ locs : List Loc, locs = [] := ⟨_, rfl⟩
  rw [show (W p l e (headSpec (.code yX2_isDue cX2_isDue 4 (some .boolean) :: BIG) ({ frames := 0, cells := 0, slots := 0, locals := 0 })).room s m ([.ref (ead E k0), .int a1, .int a2] : List Value).toArray below meth c s.heap [] 0 0) = W p l e (headSpec (.code yX2_isDue cX2_isDue 4 (some .boolean) :: BIG) ({ frames := 0, cells := 0, slots := 0, locals := 0 })).room s m ([.ref (ead E k0), .int a1, .int a2] : List Value).toArray below meth c H locs 0 0 by rw [hH, hlocs]]
  have hV : va_S (eA E) s.heap H locs := by rw [hH, hlocs]; exact hV
  have hW : Wd E μ s H := by rw [hH]; exact hW
  unfold f_X2_isDue at hf
  refine lv_aload_n hx hb dX2_isDue_0 rfl (lv_at hl 0 rfl) ?_
  refine gf_RX2_17 hx hb hB hown hW h0 dX2_isDue_1 ?_
  refine lv_iload_n hx hb dX2_isDue_4 rfl (lv_at hl 1 rfl) ?_
  obtain ⟨j8, e_j8, hf⟩ := op_none hf
  refine w_aald (j := 4) hx hb hW (rSt h0).1 ((rSt h0).2 E _ _) rfl rfl e_j8 dX2_isDue_5 ?_
  refine lv_bipush (v := (7 : Int32)) hx hb dX2_isDue_6 (by decide) ?_
  obtain ⟨v9, e_v9, hf⟩ := op_none hf
  refine w_iald hx hb hW (iEg h0 (aix_lt e_j8)).1 ((iEg h0 (aix_lt e_j8)).2 E _ _) e_v9 dX2_isDue_8 ?_
  refine lv_istore_n (i := 3) (lv' := [(3, .int v9), (0, .ref (ead E k0)), (1, .int a1), (2, .int a2)]) hx hb dX2_isDue_9 rfl hl (by decide) rfl (fun ls hl => ?_)
  refine lv_iload_n hx hb dX2_isDue_10 rfl (lv_at hl 0 rfl) ?_
  refine lv_if_le (tgt := 34) hx hb dX2_isDue_11 (by decide) (fun y10 => ?_) (fun y10 => ?_)
  · have hf := op_t y10 hf
    refine lv_iconst (v := (0 : Int32)) hx hb dX2_isDue_34 (by decide) ?_
    exact w_retN hx hb hr hlocks hW hV (by decide) (Option.some.inj hf) rfl dX2_isDue_35
  · have hf := op_f y10 hf
    refine lv_iload_n hx hb dX2_isDue_14 rfl (lv_at hl 3 rfl) ?_
    refine lv_aload_n hx hb dX2_isDue_15 rfl (lv_at hl 1 rfl) ?_
    refine gf_RX2_17 hx hb hB hown hW h0 dX2_isDue_16 ?_
    refine lv_iload_n hx hb dX2_isDue_19 rfl (lv_at hl 2 rfl) ?_
    obtain ⟨j11, e_j11, hf⟩ := op_none hf
    refine w_aald (j := 4) hx hb hW (rSt h0).1 ((rSt h0).2 E _ _) rfl rfl e_j11 dX2_isDue_20 ?_
    refine lv_bipush (v := (8 : Int32)) hx hb dX2_isDue_21 (by decide) ?_
    obtain ⟨v12, e_v12, hf⟩ := op_none hf
    refine w_iald hx hb hW (iEg h0 (aix_lt e_j11)).1 ((iEg h0 (aix_lt e_j11)).2 E _ _) e_v12 dX2_isDue_23 ?_
    refine lv_isub hx hb dX2_isDue_24 ?_
    refine lv_iload_n hx hb dX2_isDue_25 rfl (lv_at hl 0 rfl) ?_
    obtain ⟨v13, e_v13, hf⟩ := op_none hf
    refine w_irem hx hb e_v13 dX2_isDue_26 ?_
    refine lv_if_ne (tgt := 34) hx hb dX2_isDue_27 (by decide) (fun y14 => ?_) (fun y14 => ?_)
    · have hf := op_f y14 hf
      refine lv_iconst (v := (0 : Int32)) hx hb dX2_isDue_34 (by decide) ?_
      exact w_retN hx hb hr hlocks hW hV (by decide) (Option.some.inj hf) rfl dX2_isDue_35
    · have hf := op_t y14 hf
      refine lv_iconst (v := (1 : Int32)) hx hb dX2_isDue_30 (by decide) ?_
      refine lv_goto (tgt := 35) hx hb dX2_isDue_31 (by decide) ?_
      exact w_retN hx hb hr hlocks hW hV (by decide) (Option.some.inj hf) rfl dX2_isDue_35
set_option maxHeartbeats 8000000 in
set_option maxRecDepth 100000 in
theorem k_X2_goingOff (l : Launch) (E : WE) (μ : Mem) (k0 : Nat) (a1 : Int32) (h0 : isSt k0) (r : Int32) (hf : f_X2_goingOff μ k0 a1 = some r) : Met l yX2_goingOff (.code yX2_goingOff cX2_goingOff 4 (some .int) :: BIG) ({ frames := 1, cells := 0, slots := 0, locals := 23 }) (PW E μ [.ref (ead E k0), .int a1]) (QI E r μ) 0 0 (eA E) := by
  refine Met.ofW (cc := cX2_goingOff) (maxL := 4) (ret := (some .int)) (by decide) rfl ?_
  intro p e s m args below meth c s₁ B hml hv
  obtain ⟨rfl, hW, hZ⟩ := hv
  have hx := B.exec
  have hb := B.bytes
  have hr := B.returns
  have hB : ∀ w ∈ BIG, w.before _ s = true := fun w h => atoms_spec (ws := (.code yX2_goingOff cX2_goingOff 4 (some .int) :: BIG)) B.pre w (List.mem_cons_of_mem _ h)
  have hown : s.vm.findClass RX2 = some m.cls := findClass_of_methodNamed B.named
  have hlocks := B.notSynchronized
  have hV : va_S (eA E) s.heap s.heap [] := va_S.rf
  have hl := lv_entry ([.ref (ead E k0), .int a1]) (n := 4) (Nat.le_of_ble_eq_true rfl)
  rw [lg_entry_eq]
  generalize (lg_sl ([.ref (ead E k0), .int a1]) ++ List.replicate (4 - (lg_sl ([.ref (ead E k0), .int a1])).length) Slot.unset).toArray = ls at hl ⊢
  have hl : lv_has ls 4 [(0, .ref (ead E k0)), (1, .int a1)] := hl
  have c_4 : ∀ (n_4 : Nat) (b1_4 : Int32) (b2_4 : Int32) (b3_4 : Int32) , f_X2_goingOff_4 μ k0 n_4 b1_4 b2_4 b3_4 = some r → ∀ (H : Heap) (locs : List Loc) (ls : Array Slot), Wd E μ s H → va_S (eA E) s.heap H locs → lv_has ls 4 [(0, .ref (ead E k0)), (1, .int b1_4), (2, .int b2_4), (3, .int b3_4)] → W p l e (headSpec (.code yX2_goingOff cX2_goingOff 4 (some .int) :: BIG) ({ frames := 1, cells := 0, slots := 0, locals := 23 })).room s m ([.ref (ead E k0), .int a1] : List Value).toArray below meth c H locs 0 0 (MQ below (QI E r μ) ([.ref (ead E k0), .int a1] : List Value).toArray s 0 0 (eA E)) (F0 m 4 ls []) := by
    intro n_4
    induction n_4 with
    | zero =>
      intro b1_4 b2_4 b3_4 hf H locs ls hW hV hl
      cases hf
    | succ n_4 ih_4 =>
      have c_38 : ∀ (b1_38 : Int32) (b2_38 : Int32) (b3_38 : Int32) , f_X2_goingOff_38 μ k0 (fun z0 z1 z2 => f_X2_goingOff_4 μ k0 n_4 z0 z1 z2) b1_38 b2_38 b3_38 = some r → ∀ (H : Heap) (locs : List Loc) (ls : Array Slot), Wd E μ s H → va_S (eA E) s.heap H locs → lv_has ls 4 [(0, .ref (ead E k0)), (1, .int b1_38), (2, .int b2_38), (3, .int b3_38)] → W p l e (headSpec (.code yX2_goingOff cX2_goingOff 4 (some .int) :: BIG) ({ frames := 1, cells := 0, slots := 0, locals := 23 })).room s m ([.ref (ead E k0), .int a1] : List Value).toArray below meth c H locs 0 0 (MQ below (QI E r μ) ([.ref (ead E k0), .int a1] : List Value).toArray s 0 0 (eA E)) (F0 m 38 ls []) := by
        intro b1_38 b2_38 b3_38 hf H locs ls hW hV hl
        unfold f_X2_goingOff_38 at hf
        obtain ⟨v10, e_v10, hf⟩ := op_none hf
        refine lv_iinc (v := v10) (lv' := [(3, .int v10), (0, .ref (ead E k0)), (1, .int b1_38), (2, .int b2_38)]) hx hb dX2_goingOff_38 hl (k := 3) rfl (by rw [← Option.some.inj e_v10]; rfl) (by decide) rfl (fun ls hl => ?_)
        refine lv_goto (tgt := 4) hx hb dX2_goingOff_41 (by decide) ?_
        exact ih_4 b1_38 b2_38 v10 hf H locs ls hW hV (lv_sub hl [1, 2, 3, 0] rfl)
      intro b1_4 b2_4 b3_4 hf H locs ls hW hV hl
      rw [f_X2_goingOff_4] at hf
      refine lv_iload_n hx hb dX2_goingOff_4 rfl (lv_at hl 3 rfl) ?_
      refine lv_aload_n hx hb dX2_goingOff_5 rfl (lv_at hl 0 rfl) ?_
      refine gf_RX2_9 hx hb hB hown hW h0 dX2_goingOff_6 ?_
      refine lv_icmp_ge (tgt := 44) hx hb dX2_goingOff_9 (by decide) (fun y11 => ?_) (fun y11 => ?_)
      · have hf := op_t y11 hf
        refine lv_iload_n hx hb dX2_goingOff_44 rfl (lv_at hl 2 rfl) ?_
        exact w_retI hx hb hr hlocks hW hV (Option.some.inj hf) rfl dX2_goingOff_45
      · have hf := op_f y11 hf
        refine lv_aload_n hx hb dX2_goingOff_12 rfl (lv_at hl 0 rfl) ?_
        refine gf_RX2_17 hx hb hB hown hW h0 dX2_goingOff_13 ?_
        refine lv_iload_n hx hb dX2_goingOff_16 rfl (lv_at hl 3 rfl) ?_
        obtain ⟨j12, e_j12, hf⟩ := op_none hf
        refine w_aald (j := 4) hx hb hW (rSt h0).1 ((rSt h0).2 E _ _) rfl rfl e_j12 dX2_goingOff_17 ?_
        refine lv_iconst (v := (4 : Int32)) hx hb dX2_goingOff_18 (by decide) ?_
        obtain ⟨v13, e_v13, hf⟩ := op_none hf
        refine w_iald hx hb hW (iEg h0 (aix_lt e_j12)).1 ((iEg h0 (aix_lt e_j12)).2 E _ _) e_v13 dX2_goingOff_19 ?_
        refine lv_if_ne (tgt := 38) hx hb dX2_goingOff_20 (by decide) (fun y14 => ?_) (fun y14 => ?_)
        · have hf := op_f y14 hf
          exact c_38 b1_4 b2_4 b3_4 hf H locs ls hW hV (lv_sub hl [0, 1, 2, 3] rfl)
        · have hf := op_t y14 hf
          refine lv_aload_n hx hb dX2_goingOff_23 rfl (lv_at hl 0 rfl) ?_
          refine lv_iload_n hx hb dX2_goingOff_24 rfl (lv_at hl 3 rfl) ?_
          refine lv_iload_n hx hb dX2_goingOff_25 rfl (lv_at hl 1 rfl) ?_
          obtain ⟨v15, e_16, hf⟩ := op_none hf
          refine w_callN (rn_RX2_78 (As := [.int b3_4, .int b1_4]) hx hb hml hown hB hW hZ hV (k_X2_isDue l E _ k0 b3_4 b1_4 h0 v15 e_16) rfl rfl ⟨(Nat.le_of_ble_eq_true rfl), (Nat.le_of_ble_eq_true rfl)⟩ (w_rec hW (oSt h0).1 ((oSt h0).2 E _ _) rfl) rfl hl.1 rfl (Nat.le_of_ble_eq_true rfl) dX2_goingOff_26 ⟨Nat.le_refl _, Nat.le_refl _⟩) hV (fun H locs hn_v15 hW hV => ?_)
          refine lv_if_eq (tgt := 38) hx hb dX2_goingOff_29 (by decide) (fun y17 => ?_) (fun y17 => ?_)
          · have hf := op_t y17 hf
            exact c_38 b1_4 b2_4 b3_4 hf H locs ls hW hV (lv_sub hl [0, 1, 2, 3] rfl)
          · have hf := op_f y17 hf
            refine lv_iload_n hx hb dX2_goingOff_32 rfl (lv_at hl 2 rfl) ?_
            refine lv_iconst (v := (1 : Int32)) hx hb dX2_goingOff_33 (by decide) ?_
            refine lv_iload_n hx hb dX2_goingOff_34 rfl (lv_at hl 3 rfl) ?_
            refine lv_ishl hx hb dX2_goingOff_35 ?_
            refine lv_ior hx hb dX2_goingOff_36 ?_
            obtain ⟨v18, e_v18, hf⟩ := op_none hf
            refine lv_top' (Option.some.inj e_v18) ?_
            refine lv_istore_n (i := 2) (lv' := [(2, .int v18), (0, .ref (ead E k0)), (1, .int b1_4), (3, .int b3_4)]) hx hb dX2_goingOff_37 rfl hl (by decide) rfl (fun ls hl => ?_)
            exact c_38 b1_4 v18 b3_4 hf H locs ls hW hV (lv_sub hl [1, 2, 0, 3] rfl)
  obtain ⟨H, hH⟩ : ∃ H : Heap, H = s.heap := ⟨_, rfl⟩
  obtain ⟨locs, hlocs⟩ : ∃ locs : List Loc, locs = [] := ⟨_, rfl⟩
  rw [show (W p l e (headSpec (.code yX2_goingOff cX2_goingOff 4 (some .int) :: BIG) ({ frames := 1, cells := 0, slots := 0, locals := 23 })).room s m ([.ref (ead E k0), .int a1] : List Value).toArray below meth c s.heap [] 0 0) = W p l e (headSpec (.code yX2_goingOff cX2_goingOff 4 (some .int) :: BIG) ({ frames := 1, cells := 0, slots := 0, locals := 23 })).room s m ([.ref (ead E k0), .int a1] : List Value).toArray below meth c H locs 0 0 by rw [hH, hlocs]]
  have hV : va_S (eA E) s.heap H locs := by rw [hH, hlocs]; exact hV
  have hW : Wd E μ s H := by rw [hH]; exact hW
  unfold f_X2_goingOff at hf
  refine lv_iconst (v := (0 : Int32)) hx hb dX2_goingOff_0 (by decide) ?_
  refine lv_istore_n (i := 2) (lv' := [(2, .int (0 : Int32)), (0, .ref (ead E k0)), (1, .int a1)]) hx hb dX2_goingOff_1 rfl hl (by decide) rfl (fun ls hl => ?_)
  refine lv_iconst (v := (0 : Int32)) hx hb dX2_goingOff_2 (by decide) ?_
  refine lv_istore_n (i := 3) (lv' := [(3, .int (0 : Int32)), (2, .int (0 : Int32)), (0, .ref (ead E k0)), (1, .int a1)]) hx hb dX2_goingOff_3 rfl hl (by decide) rfl (fun ls hl => ?_)
  exact c_4 FU a1 (0 : Int32) (0 : Int32) hf H locs ls hW hV (lv_sub hl [2, 3, 1, 0] rfl)
set_option maxHeartbeats 8000000 in
set_option maxRecDepth 100000 in
theorem k_X2_firstQuiet (l : Launch) (E : WE) (μ : Mem) (k0 : Nat) (h0 : isSt k0) (r : Int32) (hf : f_X2_firstQuiet μ k0 = some r) : Met l yX2_firstQuiet (.code yX2_firstQuiet cX2_firstQuiet 2 (some .int) :: BIG) ({ frames := 2, cells := 0, slots := 0, locals := 46 }) (PW E μ [.ref (ead E k0)]) (QI E r μ) 0 0 (eA E) := by
  refine Met.ofW (cc := cX2_firstQuiet) (maxL := 2) (ret := (some .int)) (by decide) rfl ?_
  intro p e s m args below meth c s₁ B hml hv
  obtain ⟨rfl, hW, hZ⟩ := hv
  have hx := B.exec
  have hb := B.bytes
  have hr := B.returns
  have hB : ∀ w ∈ BIG, w.before _ s = true := fun w h => atoms_spec (ws := (.code yX2_firstQuiet cX2_firstQuiet 2 (some .int) :: BIG)) B.pre w (List.mem_cons_of_mem _ h)
  have hown : s.vm.findClass RX2 = some m.cls := findClass_of_methodNamed B.named
  have hlocks := B.notSynchronized
  have hV : va_S (eA E) s.heap s.heap [] := va_S.rf
  have hl := lv_entry ([.ref (ead E k0)]) (n := 2) (Nat.le_of_ble_eq_true rfl)
  rw [lg_entry_eq]
  generalize (lg_sl ([.ref (ead E k0)]) ++ List.replicate (2 - (lg_sl ([.ref (ead E k0)])).length) Slot.unset).toArray = ls at hl ⊢
  have hl : lv_has ls 2 [(0, .ref (ead E k0))] := hl
  have c_2 : ∀ (n_2 : Nat) (b1_2 : Int32) , f_X2_firstQuiet_2 μ k0 n_2 b1_2 = some r → ∀ (H : Heap) (locs : List Loc) (ls : Array Slot), Wd E μ s H → va_S (eA E) s.heap H locs → lv_has ls 2 [(0, .ref (ead E k0)), (1, .int b1_2)] → W p l e (headSpec (.code yX2_firstQuiet cX2_firstQuiet 2 (some .int) :: BIG) ({ frames := 2, cells := 0, slots := 0, locals := 46 })).room s m ([.ref (ead E k0)] : List Value).toArray below meth c H locs 0 0 (MQ below (QI E r μ) ([.ref (ead E k0)] : List Value).toArray s 0 0 (eA E)) (F0 m 2 ls []) := by
    intro n_2
    induction n_2 with
    | zero =>
      intro b1_2 hf H locs ls hW hV hl
      cases hf
    | succ n_2 ih_2 =>
      intro b1_2 hf H locs ls hW hV hl
      rw [f_X2_firstQuiet_2] at hf
      refine lv_iload_n hx hb dX2_firstQuiet_2 rfl (lv_at hl 1 rfl) ?_
      refine lv_sipush (v := (1000 : Int32)) hx hb dX2_firstQuiet_3 (by decide) ?_
      refine lv_icmp_gt (tgt := 30) hx hb dX2_firstQuiet_6 (by decide) (fun y6 => ?_) (fun y6 => ?_)
      · have hf := op_t y6 hf
        refine lv_bipush (v := (-5 : Int32)) hx hb dX2_firstQuiet_30 (by decide) ?_
        exact w_retI hx hb hr hlocks hW hV (Option.some.inj hf) rfl dX2_firstQuiet_32
      · have hf := op_f y6 hf
        refine lv_aload_n hx hb dX2_firstQuiet_9 rfl (lv_at hl 0 rfl) ?_
        refine lv_aload_n hx hb dX2_firstQuiet_10 rfl (lv_at hl 0 rfl) ?_
        refine gf_RX2_23 hx hb hB hown hW h0 dX2_firstQuiet_11 ?_
        refine lv_iload_n hx hb dX2_firstQuiet_14 rfl (lv_at hl 1 rfl) ?_
        refine lv_iadd hx hb dX2_firstQuiet_15 ?_
        obtain ⟨v7, e_8, hf⟩ := op_none hf
        refine w_callI (rn_RX2_82 (As := [.int ((gI μ k0 3) + b1_2)]) hx hb hml hown hB hW hZ hV (k_X2_goingOff l E _ k0 ((gI μ k0 3) + b1_2) h0 v7 e_8) rfl rfl ⟨(Nat.le_of_ble_eq_true rfl), (Nat.le_of_ble_eq_true rfl)⟩ (w_rec hW (oSt h0).1 ((oSt h0).2 E _ _) rfl) rfl hl.1 rfl (Nat.le_of_ble_eq_true rfl) dX2_firstQuiet_16 ⟨Nat.le_refl _, Nat.le_refl _⟩) hV (fun H locs hW hV => ?_)
        refine lv_if_ne (tgt := 24) hx hb dX2_firstQuiet_19 (by decide) (fun y9 => ?_) (fun y9 => ?_)
        · have hf := op_f y9 hf
          obtain ⟨v10, e_v10, hf⟩ := op_none hf
          refine lv_iinc (v := v10) (lv' := [(1, .int v10), (0, .ref (ead E k0))]) hx hb dX2_firstQuiet_24 hl (k := 1) rfl (by rw [← Option.some.inj e_v10]; rfl) (by decide) rfl (fun ls hl => ?_)
          refine lv_goto (tgt := 2) hx hb dX2_firstQuiet_27 (by decide) ?_
          exact ih_2 v10 hf H locs ls hW hV (lv_sub hl [1, 0] rfl)
        · have hf := op_t y9 hf
          refine lv_iload_n hx hb dX2_firstQuiet_22 rfl (lv_at hl 1 rfl) ?_
          exact w_retI hx hb hr hlocks hW hV (Option.some.inj hf) rfl dX2_firstQuiet_23
  obtain ⟨H, hH⟩ : ∃ H : Heap, H = s.heap := ⟨_, rfl⟩
  obtain ⟨locs, hlocs⟩ : ∃ locs : List Loc, locs = [] := ⟨_, rfl⟩
  rw [show (W p l e (headSpec (.code yX2_firstQuiet cX2_firstQuiet 2 (some .int) :: BIG) ({ frames := 2, cells := 0, slots := 0, locals := 46 })).room s m ([.ref (ead E k0)] : List Value).toArray below meth c s.heap [] 0 0) = W p l e (headSpec (.code yX2_firstQuiet cX2_firstQuiet 2 (some .int) :: BIG) ({ frames := 2, cells := 0, slots := 0, locals := 46 })).room s m ([.ref (ead E k0)] : List Value).toArray below meth c H locs 0 0 by rw [hH, hlocs]]
  have hV : va_S (eA E) s.heap H locs := by rw [hH, hlocs]; exact hV
  have hW : Wd E μ s H := by rw [hH]; exact hW
  unfold f_X2_firstQuiet at hf
  refine lv_iconst (v := (0 : Int32)) hx hb dX2_firstQuiet_0 (by decide) ?_
  refine lv_istore_n (i := 1) (lv' := [(1, .int (0 : Int32)), (0, .ref (ead E k0))]) hx hb dX2_firstQuiet_1 rfl hl (by decide) rfl (fun ls hl => ?_)
  exact c_2 FU (0 : Int32) hf H locs ls hW hV (lv_sub hl [1, 0] rfl)
set_option maxHeartbeats 8000000 in
set_option maxRecDepth 100000 in
theorem k_X2_total (l : Launch) (E : WE) (μ : Mem) (k0 : Nat) (a1 : Int32) (h0 : isSt k0) (r : Int32) (hf : f_X2_total μ k0 a1 = some r) : Met l yX2_total (.code yX2_total cX2_total 4 (some .int) :: BIG) ({ frames := 0, cells := 0, slots := 0, locals := 0 }) (PW E μ [.ref (ead E k0), .int a1]) (QI E r μ) 0 0 (eA E) := by
  refine Met.ofW (cc := cX2_total) (maxL := 4) (ret := (some .int)) (by decide) rfl ?_
  intro p e s m args below meth c s₁ B hml hv
  obtain ⟨rfl, hW, hZ⟩ := hv
  have hx := B.exec
  have hb := B.bytes
  have hr := B.returns
  have hB : ∀ w ∈ BIG, w.before _ s = true := fun w h => atoms_spec (ws := (.code yX2_total cX2_total 4 (some .int) :: BIG)) B.pre w (List.mem_cons_of_mem _ h)
  have hown : s.vm.findClass RX2 = some m.cls := findClass_of_methodNamed B.named
  have hlocks := B.notSynchronized
  have hV : va_S (eA E) s.heap s.heap [] := va_S.rf
  have hl := lv_entry ([.ref (ead E k0), .int a1]) (n := 4) (Nat.le_of_ble_eq_true rfl)
  rw [lg_entry_eq]
  generalize (lg_sl ([.ref (ead E k0), .int a1]) ++ List.replicate (4 - (lg_sl ([.ref (ead E k0), .int a1])).length) Slot.unset).toArray = ls at hl ⊢
  have hl : lv_has ls 4 [(0, .ref (ead E k0)), (1, .int a1)] := hl
  have c_4 : ∀ (n_4 : Nat) (b1_4 : Int32) (b2_4 : Int32) (b3_4 : Int32) , f_X2_total_4 μ k0 n_4 b1_4 b2_4 b3_4 = some r → ∀ (H : Heap) (locs : List Loc) (ls : Array Slot), Wd E μ s H → va_S (eA E) s.heap H locs → lv_has ls 4 [(0, .ref (ead E k0)), (1, .int b1_4), (2, .int b2_4), (3, .int b3_4)] → W p l e (headSpec (.code yX2_total cX2_total 4 (some .int) :: BIG) ({ frames := 0, cells := 0, slots := 0, locals := 0 })).room s m ([.ref (ead E k0), .int a1] : List Value).toArray below meth c H locs 0 0 (MQ below (QI E r μ) ([.ref (ead E k0), .int a1] : List Value).toArray s 0 0 (eA E)) (F0 m 4 ls []) := by
    intro n_4
    induction n_4 with
    | zero =>
      intro b1_4 b2_4 b3_4 hf H locs ls hW hV hl
      cases hf
    | succ n_4 ih_4 =>
      intro b1_4 b2_4 b3_4 hf H locs ls hW hV hl
      rw [f_X2_total_4] at hf
      refine lv_iload_n hx hb dX2_total_4 rfl (lv_at hl 3 rfl) ?_
      refine lv_aload_n hx hb dX2_total_5 rfl (lv_at hl 0 rfl) ?_
      refine gf_RX2_9 hx hb hB hown hW h0 dX2_total_6 ?_
      refine lv_icmp_ge (tgt := 29) hx hb dX2_total_9 (by decide) (fun y6 => ?_) (fun y6 => ?_)
      · have hf := op_t y6 hf
        refine lv_iload_n hx hb dX2_total_29 rfl (lv_at hl 2 rfl) ?_
        exact w_retI hx hb hr hlocks hW hV (Option.some.inj hf) rfl dX2_total_30
      · have hf := op_f y6 hf
        refine lv_iload_n hx hb dX2_total_12 rfl (lv_at hl 2 rfl) ?_
        refine lv_aload_n hx hb dX2_total_13 rfl (lv_at hl 0 rfl) ?_
        refine gf_RX2_17 hx hb hB hown hW h0 dX2_total_14 ?_
        refine lv_iload_n hx hb dX2_total_17 rfl (lv_at hl 3 rfl) ?_
        obtain ⟨j7, e_j7, hf⟩ := op_none hf
        refine w_aald (j := 4) hx hb hW (rSt h0).1 ((rSt h0).2 E _ _) rfl rfl e_j7 dX2_total_18 ?_
        refine lv_iload_n hx hb dX2_total_19 rfl (lv_at hl 1 rfl) ?_
        obtain ⟨v8, e_v8, hf⟩ := op_none hf
        refine w_iald hx hb hW (iEg h0 (aix_lt e_j7)).1 ((iEg h0 (aix_lt e_j7)).2 E _ _) e_v8 dX2_total_20 ?_
        refine lv_iadd hx hb dX2_total_21 ?_
        obtain ⟨v9, e_v9, hf⟩ := op_none hf
        refine lv_top' (Option.some.inj e_v9) ?_
        refine lv_istore_n (i := 2) (lv' := [(2, .int v9), (0, .ref (ead E k0)), (1, .int b1_4), (3, .int b3_4)]) hx hb dX2_total_22 rfl hl (by decide) rfl (fun ls hl => ?_)
        obtain ⟨v10, e_v10, hf⟩ := op_none hf
        refine lv_iinc (v := v10) (lv' := [(3, .int v10), (2, .int v9), (0, .ref (ead E k0)), (1, .int b1_4)]) hx hb dX2_total_23 hl (k := 3) rfl (by rw [← Option.some.inj e_v10]; rfl) (by decide) rfl (fun ls hl => ?_)
        refine lv_goto (tgt := 4) hx hb dX2_total_26 (by decide) ?_
        exact ih_4 b1_4 v9 v10 hf H locs ls hW hV (lv_sub hl [2, 3, 1, 0] rfl)
  obtain ⟨H, hH⟩ : ∃ H : Heap, H = s.heap := ⟨_, rfl⟩
  obtain ⟨locs, hlocs⟩ : ∃ locs : List Loc, locs = [] := ⟨_, rfl⟩
  rw [show (W p l e (headSpec (.code yX2_total cX2_total 4 (some .int) :: BIG) ({ frames := 0, cells := 0, slots := 0, locals := 0 })).room s m ([.ref (ead E k0), .int a1] : List Value).toArray below meth c s.heap [] 0 0) = W p l e (headSpec (.code yX2_total cX2_total 4 (some .int) :: BIG) ({ frames := 0, cells := 0, slots := 0, locals := 0 })).room s m ([.ref (ead E k0), .int a1] : List Value).toArray below meth c H locs 0 0 by rw [hH, hlocs]]
  have hV : va_S (eA E) s.heap H locs := by rw [hH, hlocs]; exact hV
  have hW : Wd E μ s H := by rw [hH]; exact hW
  unfold f_X2_total at hf
  refine lv_iconst (v := (0 : Int32)) hx hb dX2_total_0 (by decide) ?_
  refine lv_istore_n (i := 2) (lv' := [(2, .int (0 : Int32)), (0, .ref (ead E k0)), (1, .int a1)]) hx hb dX2_total_1 rfl hl (by decide) rfl (fun ls hl => ?_)
  refine lv_iconst (v := (0 : Int32)) hx hb dX2_total_2 (by decide) ?_
  refine lv_istore_n (i := 3) (lv' := [(3, .int (0 : Int32)), (2, .int (0 : Int32)), (0, .ref (ead E k0)), (1, .int a1)]) hx hb dX2_total_3 rfl hl (by decide) rfl (fun ls hl => ?_)
  exact c_4 FU a1 (0 : Int32) (0 : Int32) hf H locs ls hW hV (lv_sub hl [2, 3, 1, 0] rfl)
set_option maxHeartbeats 8000000 in
set_option maxRecDepth 100000 in
theorem k_X6_told (l : Launch) (E : WE) (μ : Mem) (a1 : Int32) (r : Int32) (μ' : Mem) (hf : f_X6_told μ a1 = some (r, μ')) : Met l yX6_told (.code yX6_told cX6_told 3 (some .int) :: BIG) ({ frames := 6, cells := 0, slots := 0, locals := 145 }) (PW E μ [.ref (ead E 1), .int a1]) (QI E r μ') 0 0 (eA E) := by
  refine Met.ofW (cc := cX6_told) (maxL := 3) (ret := (some .int)) (by decide) rfl ?_
  intro p e s m args below meth c s₁ B hml hv
  obtain ⟨rfl, hW, hZ⟩ := hv
  have hx := B.exec
  have hb := B.bytes
  have hr := B.returns
  have hB : ∀ w ∈ BIG, w.before _ s = true := fun w h => atoms_spec (ws := (.code yX6_told cX6_told 3 (some .int) :: BIG)) B.pre w (List.mem_cons_of_mem _ h)
  have hown : s.vm.findClass RX6 = some m.cls := findClass_of_methodNamed B.named
  have hlocks := B.notSynchronized
  have hV : va_S (eA E) s.heap s.heap [] := va_S.rf
  have hl := lv_entry ([.ref (ead E 1), .int a1]) (n := 3) (Nat.le_of_ble_eq_true rfl)
  rw [lg_entry_eq]
  generalize (lg_sl ([.ref (ead E 1), .int a1]) ++ List.replicate (3 - (lg_sl ([.ref (ead E 1), .int a1])).length) Slot.unset).toArray = ls at hl ⊢
  have hl : lv_has ls 3 [(0, .ref (ead E 1)), (1, .int a1)] := hl
  obtain ⟨H, hH⟩ : ∃ H : Heap, H = s.heap := ⟨_, rfl⟩
  obtain ⟨locs, hlocs⟩ : ∃ locs : List Loc, locs = [] := ⟨_, rfl⟩
  rw [show (W p l e (headSpec (.code yX6_told cX6_told 3 (some .int) :: BIG) ({ frames := 6, cells := 0, slots := 0, locals := 145 })).room s m ([.ref (ead E 1), .int a1] : List Value).toArray below meth c s.heap [] 0 0) = W p l e (headSpec (.code yX6_told cX6_told 3 (some .int) :: BIG) ({ frames := 6, cells := 0, slots := 0, locals := 145 })).room s m ([.ref (ead E 1), .int a1] : List Value).toArray below meth c H locs 0 0 by rw [hH, hlocs]]
  have hV : va_S (eA E) s.heap H locs := by rw [hH, hlocs]; exact hV
  have hW : Wd E μ s H := by rw [hH]; exact hW
  unfold f_X6_told at hf
  refine lv_aload_n hx hb dX6_told_0 rfl (lv_at hl 0 rfl) ?_
  refine lv_aload_n hx hb dX6_told_1 rfl (lv_at hl 0 rfl) ?_
  refine gf_RX6_12 hx hb hB hown hW dX6_told_2 ?_
  obtain ⟨μ21, e_22, hf⟩ := op_none hf
  refine w_callV (rn_RX6_89 (As := [.ref (ead E 100)]) hx hb hml hown hB hW hZ hV (k_X6_reckon l E _ 100 st1 μ21 e_22) rfl rfl ⟨(Nat.le_of_ble_eq_true rfl), (Nat.le_of_ble_eq_true rfl)⟩ (w_rec hW oX.1 (oX.2 E _ _) rfl) rfl hl.1 rfl (Nat.le_of_ble_eq_true rfl) dX6_told_5 ⟨Nat.le_refl _, Nat.le_refl _⟩) hV (fun H locs hW hV => ?_)
  refine lv_iload_n hx hb dX6_told_8 rfl (lv_at hl 1 rfl) ?_
  by_cases y23 : a1 = (0 : Int32)
  · have hf := op_t y23 hf
    refine lv_tableIn (tgt := 52) (off := 43) hx hb dX6_told_9 (by rw [y23]; decide) (by rw [y23]; decide) (by rw [y23]; rfl) (by decide) ?_
    refine lv_aload_n hx hb dX6_told_52 rfl (lv_at hl 0 rfl) ?_
    refine gf_RX6_12 hx hb hB hown hW dX6_told_53 ?_
    refine gf_RX6_121 hx hb hB hown hW st1 dX6_told_56 ?_
    exact w_retI hx hb hr hlocks hW hV (Prod.mk.inj (Option.some.inj hf)).1 (Prod.mk.inj (Option.some.inj hf)).2 dX6_told_59
  have hf := op_f y23 hf
  by_cases y24 : a1 = (1 : Int32)
  · have hf := op_t y24 hf
    refine lv_tableIn (tgt := 60) (off := 51) hx hb dX6_told_9 (by rw [y24]; decide) (by rw [y24]; decide) (by rw [y24]; rfl) (by decide) ?_
    refine lv_aload_n hx hb dX6_told_60 rfl (lv_at hl 0 rfl) ?_
    refine lv_aload_n hx hb dX6_told_61 rfl (lv_at hl 0 rfl) ?_
    refine gf_RX6_12 hx hb hB hown hW dX6_told_62 ?_
    obtain ⟨v25, e_26, hf⟩ := op_none hf
    refine w_callR (rn_RX6_124 (As := [.ref (ead E 100)]) hx hb hml hown hB hW hZ hV (k_X6_holding l E _ 100 st1 v25 e_26) rfl rfl ⟨(Nat.le_of_ble_eq_true rfl), (Nat.le_of_ble_eq_true rfl)⟩ (w_rec hW oX.1 (oX.2 E _ _) rfl) rfl hl.1 rfl (Nat.le_of_ble_eq_true rfl) dX6_told_65 ⟨Nat.le_refl _, Nat.le_refl _⟩) hV (fun H locs hW hV => ?_)
    have hq_v25 := p_X6_holding e_26
    refine w_astoreQ_n (i := 2) (lv' := [(2, rv E v25), (0, .ref (ead E 1)), (1, .int a1)]) hx hb dX6_told_68 rfl hl (by decide) rfl (fun ls hl => ?_)
    refine w_aloadQ_n hx hb dX6_told_69 rfl (lv_at hl 0 rfl) ?_
    refine w_ifnonnullQ (tgt := 77) hx hb dX6_told_70 (by decide) (fun y27 => ?_) (fun y27 => ?_)
    · have hf := op_f y27 hf
      rw [rv_n E y27] at hl
      refine lv_aload_n hx hb dX6_told_77 rfl (lv_at hl 0 rfl) ?_
      refine gf_RX6_128 hx hb hB hown hW (hq_v25.resolve_left y27) dX6_told_78 ?_
      exact w_retI hx hb hr hlocks hW hV (Prod.mk.inj (Option.some.inj hf)).1 (Prod.mk.inj (Option.some.inj hf)).2 dX6_told_81
    · have hf := op_t y27 hf
      refine lv_iconst (v := (0 : Int32)) hx hb dX6_told_73 (by decide) ?_
      refine lv_goto (tgt := 81) hx hb dX6_told_74 (by decide) ?_
      exact w_retI hx hb hr hlocks hW hV (Prod.mk.inj (Option.some.inj hf)).1 (Prod.mk.inj (Option.some.inj hf)).2 dX6_told_81
  have hf := op_f y24 hf
  by_cases y28 : a1 = (2 : Int32)
  · have hf := op_t y28 hf
    refine lv_tableIn (tgt := 82) (off := 73) hx hb dX6_told_9 (by rw [y28]; decide) (by rw [y28]; decide) (by rw [y28]; rfl) (by decide) ?_
    refine lv_aload_n hx hb dX6_told_82 rfl (lv_at hl 0 rfl) ?_
    refine gf_RX6_12 hx hb hB hown hW dX6_told_83 ?_
    refine gf_RX6_99 hx hb hB hown hW st1 dX6_told_86 ?_
    exact w_retI hx hb hr hlocks hW hV (Prod.mk.inj (Option.some.inj hf)).1 (Prod.mk.inj (Option.some.inj hf)).2 dX6_told_89
  have hf := op_f y28 hf
  by_cases y29 : a1 = (3 : Int32)
  · have hf := op_t y29 hf
    refine lv_tableIn (tgt := 90) (off := 81) hx hb dX6_told_9 (by rw [y29]; decide) (by rw [y29]; decide) (by rw [y29]; rfl) (by decide) ?_
    refine lv_aload_n hx hb dX6_told_90 rfl (lv_at hl 0 rfl) ?_
    refine gf_RX6_12 hx hb hB hown hW dX6_told_91 ?_
    refine lv_aload_n hx hb dX6_told_94 rfl (lv_at hl 0 rfl) ?_
    refine gf_RX6_12 hx hb hB hown hW dX6_told_95 ?_
    refine gf_RX6_121 hx hb hB hown hW st1 dX6_told_98 ?_
    obtain ⟨v30, e_31, hf⟩ := op_none hf
    refine w_callI (rn_RX6_131 (As := [.int (gI μ21 100 3)]) hx hb hml hown hB hW hZ hV (k_X2_goingOff l E _ 100 (gI μ21 100 3) st1 v30 e_31) rfl rfl ⟨(Nat.le_of_ble_eq_true rfl), (Nat.le_of_ble_eq_true rfl)⟩ (w_rec hW (oSt st1).1 ((oSt st1).2 E _ _) rfl) rfl hl.1 rfl (Nat.le_of_ble_eq_true rfl) dX6_told_101 ⟨Nat.le_refl _, Nat.le_refl _⟩) hV (fun H locs hW hV => ?_)
    exact w_retI hx hb hr hlocks hW hV (Prod.mk.inj (Option.some.inj hf)).1 (Prod.mk.inj (Option.some.inj hf)).2 dX6_told_104
  have hf := op_f y29 hf
  by_cases y32 : a1 = (4 : Int32)
  · have hf := op_t y32 hf
    refine lv_tableIn (tgt := 105) (off := 96) hx hb dX6_told_9 (by rw [y32]; decide) (by rw [y32]; decide) (by rw [y32]; rfl) (by decide) ?_
    refine lv_aload_n hx hb dX6_told_105 rfl (lv_at hl 0 rfl) ?_
    refine gf_RX6_12 hx hb hB hown hW dX6_told_106 ?_
    obtain ⟨v33, e_34, hf⟩ := op_none hf
    refine w_callI (rn_RX6_134 (As := []) hx hb hml hown hB hW hZ hV (k_X2_firstQuiet l E _ 100 st1 v33 e_34) rfl rfl ⟨(Nat.le_of_ble_eq_true rfl), (Nat.le_of_ble_eq_true rfl)⟩ (w_rec hW (oSt st1).1 ((oSt st1).2 E _ _) rfl) rfl hl.1 rfl (Nat.le_of_ble_eq_true rfl) dX6_told_109 ⟨Nat.le_refl _, Nat.le_refl _⟩) hV (fun H locs hW hV => ?_)
    exact w_retI hx hb hr hlocks hW hV (Prod.mk.inj (Option.some.inj hf)).1 (Prod.mk.inj (Option.some.inj hf)).2 dX6_told_112
  have hf := op_f y32 hf
  by_cases y35 : a1 = (5 : Int32)
  · have hf := op_t y35 hf
    refine lv_tableIn (tgt := 113) (off := 104) hx hb dX6_told_9 (by rw [y35]; decide) (by rw [y35]; decide) (by rw [y35]; rfl) (by decide) ?_
    refine lv_aload_n hx hb dX6_told_113 rfl (lv_at hl 0 rfl) ?_
    refine gf_RX6_12 hx hb hB hown hW dX6_told_114 ?_
    refine lv_iconst (v := (5 : Int32)) hx hb dX6_told_117 (by decide) ?_
    obtain ⟨v36, e_37, hf⟩ := op_none hf
    refine w_callI (rn_RX6_138 (As := [.int (5 : Int32)]) hx hb hml hown hB hW hZ hV (k_X2_total l E _ 100 (5 : Int32) st1 v36 e_37) rfl rfl ⟨(Nat.le_of_ble_eq_true rfl), (Nat.le_of_ble_eq_true rfl)⟩ (w_rec hW (oSt st1).1 ((oSt st1).2 E _ _) rfl) rfl hl.1 rfl (Nat.le_of_ble_eq_true rfl) dX6_told_118 ⟨Nat.le_refl _, Nat.le_refl _⟩) hV (fun H locs hW hV => ?_)
    exact w_retI hx hb hr hlocks hW hV (Prod.mk.inj (Option.some.inj hf)).1 (Prod.mk.inj (Option.some.inj hf)).2 dX6_told_121
  have hf := op_f y35 hf
  by_cases y38 : a1 = (6 : Int32)
  · have hf := op_t y38 hf
    refine lv_tableIn (tgt := 122) (off := 113) hx hb dX6_told_9 (by rw [y38]; decide) (by rw [y38]; decide) (by rw [y38]; rfl) (by decide) ?_
    refine lv_aload_n hx hb dX6_told_122 rfl (lv_at hl 0 rfl) ?_
    refine gf_RX6_12 hx hb hB hown hW dX6_told_123 ?_
    refine lv_bipush (v := (6 : Int32)) hx hb dX6_told_126 (by decide) ?_
    obtain ⟨v39, e_40, hf⟩ := op_none hf
    refine w_callI (rn_RX6_138 (As := [.int (6 : Int32)]) hx hb hml hown hB hW hZ hV (k_X2_total l E _ 100 (6 : Int32) st1 v39 e_40) rfl rfl ⟨(Nat.le_of_ble_eq_true rfl), (Nat.le_of_ble_eq_true rfl)⟩ (w_rec hW (oSt st1).1 ((oSt st1).2 E _ _) rfl) rfl hl.1 rfl (Nat.le_of_ble_eq_true rfl) dX6_told_128 ⟨Nat.le_refl _, Nat.le_refl _⟩) hV (fun H locs hW hV => ?_)
    exact w_retI hx hb hr hlocks hW hV (Prod.mk.inj (Option.some.inj hf)).1 (Prod.mk.inj (Option.some.inj hf)).2 dX6_told_131
  have hf := op_f y38 hf
  refine lv_tableOut (tgt := 132) hx hb dX6_told_9 (by have a_y23 := lv_neT (a := 0) y23 (by decide); have a_y24 := lv_neT (a := 1) y24 (by decide); have a_y28 := lv_neT (a := 2) y28 (by decide); have a_y29 := lv_neT (a := 3) y29 (by decide); have a_y32 := lv_neT (a := 4) y32 (by decide); have a_y35 := lv_neT (a := 5) y35 (by decide); have a_y38 := lv_neT (a := 6) y38 (by decide); omega) (by decide) ?_
  refine lv_iconst (v := (-1 : Int32)) hx hb dX6_told_132 (by decide) ?_
  exact w_retI hx hb hr hlocks hW hV (Prod.mk.inj (Option.some.inj hf)).1 (Prod.mk.inj (Option.some.inj hf)).2 dX6_told_133
set_option maxHeartbeats 8000000 in
set_option maxRecDepth 100000 in
theorem k_X2_go (l : Launch) (E : WE) (μ : Mem) (k0 : Nat) (a1 : Int32) (a2 : Int32) (h0 : isSt k0) (μ' : Mem) (hf : f_X2_go μ k0 a1 a2 = some μ') : Met l yX2_go (.code yX2_go cX2_go 7 none :: BIG) ({ frames := 2, cells := 0, slots := 0, locals := 46 }) (PW E μ [.ref (ead E k0), .int a1, .int a2]) (QV E μ') 0 0 (eA E) := by
  refine Met.ofW (cc := cX2_go) (maxL := 7) (ret := none) (by decide) rfl ?_
  intro p e s m args below meth c s₁ B hml hv
  obtain ⟨rfl, hW, hZ⟩ := hv
  have hx := B.exec
  have hb := B.bytes
  have hr := B.returns
  have hB : ∀ w ∈ BIG, w.before _ s = true := fun w h => atoms_spec (ws := (.code yX2_go cX2_go 7 none :: BIG)) B.pre w (List.mem_cons_of_mem _ h)
  have hown : s.vm.findClass RX2 = some m.cls := findClass_of_methodNamed B.named
  have hlocks := B.notSynchronized
  have hV : va_S (eA E) s.heap s.heap [] := va_S.rf
  have hl := lv_entry ([.ref (ead E k0), .int a1, .int a2]) (n := 7) (Nat.le_of_ble_eq_true rfl)
  rw [lg_entry_eq]
  generalize (lg_sl ([.ref (ead E k0), .int a1, .int a2]) ++ List.replicate (7 - (lg_sl ([.ref (ead E k0), .int a1, .int a2])).length) Slot.unset).toArray = ls at hl ⊢
  have hl : lv_has ls 7 [(0, .ref (ead E k0)), (1, .int a1), (2, .int a2)] := hl
  have c_2 : ∀ (n_2 : Nat) (μ_2 : Mem) (b1_2 : Int32) (b2_2 : Int32) (b3_2 : Int32) , f_X2_go_2 k0 n_2 μ_2 b1_2 b2_2 b3_2 = some μ' → ∀ (H : Heap) (locs : List Loc) (ls : Array Slot), Wd E μ_2 s H → va_S (eA E) s.heap H locs → lv_has ls 7 [(0, .ref (ead E k0)), (1, .int b1_2), (2, .int b2_2), (3, .int b3_2)] → W p l e (headSpec (.code yX2_go cX2_go 7 none :: BIG) ({ frames := 2, cells := 0, slots := 0, locals := 46 })).room s m ([.ref (ead E k0), .int a1, .int a2] : List Value).toArray below meth c H locs 0 0 (MQ below (QV E μ') ([.ref (ead E k0), .int a1, .int a2] : List Value).toArray s 0 0 (eA E)) (F0 m 2 ls []) := by
    intro n_2
    induction n_2 with
    | zero =>
      intro μ_2 b1_2 b2_2 b3_2 hf H locs ls hW hV hl
      cases hf
    | succ n_2 ih_2 =>
      have c_44 : ∀ (n_44 : Nat) (μ_44 : Mem) (b1_44 : Int32) (b2_44 : Int32) (b3_44 : Int32) (b4_44 : Int32) (b5_44 : Int32) (b6_44 : Int32) , f_X2_go_44 k0 (fun μ z0 z1 z2 => f_X2_go_2 k0 n_2 μ z0 z1 z2) n_44 μ_44 b1_44 b2_44 b3_44 b4_44 b5_44 b6_44 = some μ' → ∀ (H : Heap) (locs : List Loc) (ls : Array Slot), Wd E μ_44 s H → va_S (eA E) s.heap H locs → lv_has ls 7 [(0, .ref (ead E k0)), (1, .int b1_44), (2, .int b2_44), (3, .int b3_44), (4, .int b4_44), (5, .int b5_44), (6, .int b6_44)] → W p l e (headSpec (.code yX2_go cX2_go 7 none :: BIG) ({ frames := 2, cells := 0, slots := 0, locals := 46 })).room s m ([.ref (ead E k0), .int a1, .int a2] : List Value).toArray below meth c H locs 0 0 (MQ below (QV E μ') ([.ref (ead E k0), .int a1, .int a2] : List Value).toArray s 0 0 (eA E)) (F0 m 44 ls []) := by
        intro n_44
        induction n_44 with
        | zero =>
          intro μ_44 b1_44 b2_44 b3_44 b4_44 b5_44 b6_44 hf H locs ls hW hV hl
          cases hf
        | succ n_44 ih_44 =>
          have c_123 : ∀ (μ_123 : Mem) (b1_123 : Int32) (b2_123 : Int32) (b3_123 : Int32) (b4_123 : Int32) (b5_123 : Int32) (b6_123 : Int32) , f_X2_go_123 k0 (fun μ z0 z1 z2 => f_X2_go_2 k0 n_2 μ z0 z1 z2) (fun μ z0 z1 z2 z3 z4 z5 => f_X2_go_44 k0 (fun μ z0 z1 z2 => f_X2_go_2 k0 n_2 μ z0 z1 z2) n_44 μ z0 z1 z2 z3 z4 z5) μ_123 b1_123 b2_123 b3_123 b4_123 b5_123 b6_123 = some μ' → ∀ (H : Heap) (locs : List Loc) (ls : Array Slot), Wd E μ_123 s H → va_S (eA E) s.heap H locs → lv_has ls 7 [(0, .ref (ead E k0)), (1, .int b1_123), (2, .int b2_123), (3, .int b3_123), (4, .int b4_123), (5, .int b5_123), (6, .int b6_123)] → W p l e (headSpec (.code yX2_go cX2_go 7 none :: BIG) ({ frames := 2, cells := 0, slots := 0, locals := 46 })).room s m ([.ref (ead E k0), .int a1, .int a2] : List Value).toArray below meth c H locs 0 0 (MQ below (QV E μ') ([.ref (ead E k0), .int a1, .int a2] : List Value).toArray s 0 0 (eA E)) (F0 m 123 ls []) := by
            intro μ_123 b1_123 b2_123 b3_123 b4_123 b5_123 b6_123 hf H locs ls hW hV hl
            unfold f_X2_go_123 at hf
            obtain ⟨v20, e_v20, hf⟩ := op_none hf
            refine lv_iinc (v := v20) (lv' := [(6, .int v20), (0, .ref (ead E k0)), (1, .int b1_123), (2, .int b2_123), (3, .int b3_123), (4, .int b4_123), (5, .int b5_123)]) hx hb dX2_go_123 hl (k := 6) rfl (by rw [← Option.some.inj e_v20]; rfl) (by decide) rfl (fun ls hl => ?_)
            refine lv_goto (tgt := 44) hx hb dX2_go_126 (by decide) ?_
            exact ih_44 μ_123 b1_123 b2_123 b3_123 b4_123 b5_123 v20 hf H locs ls hW hV (lv_sub hl [1, 2, 3, 4, 5, 6, 0] rfl)
          have c_117 : ∀ (μ_117 : Mem) (b1_117 : Int32) (b2_117 : Int32) (b3_117 : Int32) (b4_117 : Int32) (b5_117 : Int32) (b6_117 : Int32) (s0_117 : Int32) (s1_117 : Int32) (s2_117 : Int32) (s3_117 : Nat) (hs3_117 : isI s3_117 14) , f_X2_go_117 k0 (fun μ z0 z1 z2 => f_X2_go_2 k0 n_2 μ z0 z1 z2) (fun μ z0 z1 z2 z3 z4 z5 => f_X2_go_44 k0 (fun μ z0 z1 z2 => f_X2_go_2 k0 n_2 μ z0 z1 z2) n_44 μ z0 z1 z2 z3 z4 z5) μ_117 b1_117 b2_117 b3_117 b4_117 b5_117 b6_117 s0_117 s1_117 s2_117 s3_117 = some μ' → ∀ (H : Heap) (locs : List Loc) (ls : Array Slot), Wd E μ_117 s H → va_S (eA E) s.heap H locs → lv_has ls 7 [(0, .ref (ead E k0)), (1, .int b1_117), (2, .int b2_117), (3, .int b3_117), (4, .int b4_117), (5, .int b5_117), (6, .int b6_117)] → W p l e (headSpec (.code yX2_go cX2_go 7 none :: BIG) ({ frames := 2, cells := 0, slots := 0, locals := 46 })).room s m ([.ref (ead E k0), .int a1, .int a2] : List Value).toArray below meth c H locs 0 0 (MQ below (QV E μ') ([.ref (ead E k0), .int a1, .int a2] : List Value).toArray s 0 0 (eA E)) (F0 m 117 ls [.int s0_117, .int s1_117, .int s2_117, .ref (ead E s3_117)]) := by
            intro μ_117 b1_117 b2_117 b3_117 b4_117 b5_117 b6_117 s0_117 s1_117 s2_117 s3_117 hs3_117 hf H locs ls hW hV hl
            unfold f_X2_go_117 at hf
            refine lv_iadd hx hb dX2_go_117 ?_
            refine lv_iload_n hx hb dX2_go_118 rfl (lv_at hl 2 rfl) ?_
            refine va_mmin hx hb (hml.trans hl.1.symm) hown (hB _ q_598bd21e) (hB _ q_6443835c) (hB _ q_544deca7) (hB _ q_4cca8523) (Nat.le_of_ble_eq_true rfl) (Nat.le_of_ble_eq_true rfl) (Nat.le_of_ble_eq_true rfl) (Nat.le_of_ble_eq_true rfl) dX2_go_119 ?_
            obtain ⟨μ21, e_μ21, hf⟩ := op_none hf
            refine w_iast hx hb hW hV hs3_117.1 (fun f => hs3_117.2 E f _) e_μ21 dX2_go_122 (fun H locs hW hV => ?_)
            exact c_123 μ21 b1_117 b2_117 b3_117 b4_117 b5_117 b6_117 hf H locs ls hW hV (lv_sub hl [0, 1, 2, 3, 4, 5, 6] rfl)
          intro μ_44 b1_44 b2_44 b3_44 b4_44 b5_44 b6_44 hf H locs ls hW hV hl
          rw [f_X2_go_44] at hf
          refine lv_iload hx hb dX2_go_44 (lv_at hl 6 rfl) ?_
          refine lv_aload_n hx hb dX2_go_46 rfl (lv_at hl 0 rfl) ?_
          refine gf_RX2_9 hx hb hB hown hW h0 dX2_go_47 ?_
          refine lv_icmp_ge (tgt := 129) hx hb dX2_go_50 (by decide) (fun y22 => ?_) (fun y22 => ?_)
          · have hf := op_t y22 hf
            refine lv_aload_n hx hb dX2_go_129 rfl (lv_at hl 0 rfl) ?_
            refine lv_dup hx hb dX2_go_130 rfl ?_
            refine gf_RX2_23 hx hb hB hown hW h0 dX2_go_131 ?_
            refine lv_iconst (v := (1 : Int32)) hx hb dX2_go_134 (by decide) ?_
            refine lv_iadd hx hb dX2_go_135 ?_
            obtain ⟨μ23, e_μ23, hf⟩ := op_none hf
            refine pf_RX2_23 hx hb hB hown hW h0 hV dX2_go_136 (fun H locs hW hV => ?_)
            rw [Option.some.inj e_μ23] at hW
            obtain ⟨v24, e_v24, hf⟩ := op_none hf
            refine lv_iinc (v := v24) (lv' := [(3, .int v24), (0, .ref (ead E k0)), (1, .int b1_44), (2, .int b2_44), (4, .int b4_44), (5, .int b5_44), (6, .int b6_44)]) hx hb dX2_go_139 hl (k := 3) rfl (by rw [← Option.some.inj e_v24]; rfl) (by decide) rfl (fun ls hl => ?_)
            refine lv_goto (tgt := 2) hx hb dX2_go_142 (by decide) ?_
            exact ih_2 μ23 b1_44 b2_44 v24 hf H locs ls hW hV (lv_sub hl [1, 2, 3, 0] rfl)
          · have hf := op_f y22 hf
            refine lv_iload hx hb dX2_go_53 (lv_at hl 4 rfl) ?_
            refine lv_iload hx hb dX2_go_55 (lv_at hl 6 rfl) ?_
            refine lv_ishr hx hb dX2_go_57 ?_
            refine lv_iconst (v := (1 : Int32)) hx hb dX2_go_58 (by decide) ?_
            refine lv_iand hx hb dX2_go_59 ?_
            refine lv_iconst (v := (1 : Int32)) hx hb dX2_go_60 (by decide) ?_
            refine lv_icmp_ne (tgt := 123) hx hb dX2_go_61 (by decide) (fun y25 => ?_) (fun y25 => ?_)
            · have hf := op_f y25 hf
              exact c_123 μ_44 b1_44 b2_44 b3_44 b4_44 b5_44 b6_44 hf H locs ls hW hV (lv_sub hl [0, 1, 2, 3, 4, 5, 6] rfl)
            · have hf := op_t y25 hf
              refine lv_aload_n hx hb dX2_go_64 rfl (lv_at hl 0 rfl) ?_
              refine gf_RX2_17 hx hb hB hown hW h0 dX2_go_65 ?_
              refine lv_iload hx hb dX2_go_68 (lv_at hl 6 rfl) ?_
              obtain ⟨j26, e_j26, hf⟩ := op_none hf
              refine w_aald (j := 4) hx hb hW (rSt h0).1 ((rSt h0).2 E _ _) rfl rfl e_j26 dX2_go_70 ?_
              refine lv_iconst (v := (5 : Int32)) hx hb dX2_go_71 (by decide) ?_
              refine lv_aload_n hx hb dX2_go_72 rfl (lv_at hl 0 rfl) ?_
              refine gf_RX2_17 hx hb hB hown hW h0 dX2_go_73 ?_
              refine lv_iload hx hb dX2_go_76 (lv_at hl 6 rfl) ?_
              obtain ⟨j27, e_j27, hf⟩ := op_none hf
              refine w_aald (j := 4) hx hb hW (rSt h0).1 ((rSt h0).2 E _ _) rfl rfl e_j27 dX2_go_78 ?_
              refine lv_iconst (v := (5 : Int32)) hx hb dX2_go_79 (by decide) ?_
              obtain ⟨v28, e_v28, hf⟩ := op_none hf
              refine w_iald hx hb hW (iEg h0 (aix_lt e_j27)).1 ((iEg h0 (aix_lt e_j27)).2 E _ _) e_v28 dX2_go_80 ?_
              refine lv_iconst (v := (1 : Int32)) hx hb dX2_go_81 (by decide) ?_
              refine lv_iadd hx hb dX2_go_82 ?_
              refine lv_iload_n hx hb dX2_go_83 rfl (lv_at hl 2 rfl) ?_
              refine va_mmin hx hb (hml.trans hl.1.symm) hown (hB _ q_598bd21e) (hB _ q_6443835c) (hB _ q_544deca7) (hB _ q_4cca8523) (Nat.le_of_ble_eq_true rfl) (Nat.le_of_ble_eq_true rfl) (Nat.le_of_ble_eq_true rfl) (Nat.le_of_ble_eq_true rfl) dX2_go_84 ?_
              obtain ⟨μ29, e_μ29, hf⟩ := op_none hf
              refine w_iast hx hb hW hV (iEg h0 (aix_lt e_j26)).1 (fun f => (iEg h0 (aix_lt e_j26)).2 E f _) e_μ29 dX2_go_87 (fun H locs hW hV => ?_)
              refine lv_aload_n hx hb dX2_go_88 rfl (lv_at hl 0 rfl) ?_
              refine gf_RX2_17 hx hb hB hown hW h0 dX2_go_89 ?_
              refine lv_iload hx hb dX2_go_92 (lv_at hl 6 rfl) ?_
              obtain ⟨j30, e_j30, hf⟩ := op_none hf
              refine w_aald (j := 4) hx hb hW (rSt h0).1 ((rSt h0).2 E _ _) rfl rfl e_j30 dX2_go_94 ?_
              refine lv_bipush (v := (6 : Int32)) hx hb dX2_go_95 (by decide) ?_
              refine lv_aload_n hx hb dX2_go_97 rfl (lv_at hl 0 rfl) ?_
              refine gf_RX2_17 hx hb hB hown hW h0 dX2_go_98 ?_
              refine lv_iload hx hb dX2_go_101 (lv_at hl 6 rfl) ?_
              obtain ⟨j31, e_j31, hf⟩ := op_none hf
              refine w_aald (j := 4) hx hb hW (rSt h0).1 ((rSt h0).2 E _ _) rfl rfl e_j31 dX2_go_103 ?_
              refine lv_bipush (v := (6 : Int32)) hx hb dX2_go_104 (by decide) ?_
              obtain ⟨v32, e_v32, hf⟩ := op_none hf
              refine w_iald hx hb hW (iEg h0 (aix_lt e_j31)).1 ((iEg h0 (aix_lt e_j31)).2 E _ _) e_v32 dX2_go_106 ?_
              refine lv_iload hx hb dX2_go_107 (lv_at hl 5 rfl) ?_
              refine lv_if_eq (tgt := 116) hx hb dX2_go_109 (by decide) (fun y33 => ?_) (fun y33 => ?_)
              · have hf := op_t y33 hf
                refine lv_iconst (v := (0 : Int32)) hx hb dX2_go_116 (by decide) ?_
                exact c_117 μ29 b1_44 b2_44 b3_44 b4_44 b5_44 b6_44 (0 : Int32) v32 (6 : Int32) (k0 + 1 + 1 + j30) (iEg h0 (aix_lt e_j30)) hf H locs ls hW hV (lv_sub hl [0, 1, 2, 3, 4, 5, 6] rfl)
              · have hf := op_f y33 hf
                refine lv_iconst (v := (1 : Int32)) hx hb dX2_go_112 (by decide) ?_
                refine lv_goto (tgt := 117) hx hb dX2_go_113 (by decide) ?_
                exact c_117 μ29 b1_44 b2_44 b3_44 b4_44 b5_44 b6_44 (1 : Int32) v32 (6 : Int32) (k0 + 1 + 1 + j30) (iEg h0 (aix_lt e_j30)) hf H locs ls hW hV (lv_sub hl [0, 1, 2, 3, 4, 5, 6] rfl)
      have c_39 : ∀ (μ_39 : Mem) (b1_39 : Int32) (b2_39 : Int32) (b3_39 : Int32) (b4_39 : Int32) (s0_39 : Int32) , f_X2_go_39 k0 (fun μ z0 z1 z2 => f_X2_go_2 k0 n_2 μ z0 z1 z2) μ_39 b1_39 b2_39 b3_39 b4_39 s0_39 = some μ' → ∀ (H : Heap) (locs : List Loc) (ls : Array Slot), Wd E μ_39 s H → va_S (eA E) s.heap H locs → lv_has ls 7 [(0, .ref (ead E k0)), (1, .int b1_39), (2, .int b2_39), (3, .int b3_39), (4, .int b4_39)] → W p l e (headSpec (.code yX2_go cX2_go 7 none :: BIG) ({ frames := 2, cells := 0, slots := 0, locals := 46 })).room s m ([.ref (ead E k0), .int a1, .int a2] : List Value).toArray below meth c H locs 0 0 (MQ below (QV E μ') ([.ref (ead E k0), .int a1, .int a2] : List Value).toArray s 0 0 (eA E)) (F0 m 39 ls [.int s0_39]) := by
        intro μ_39 b1_39 b2_39 b3_39 b4_39 s0_39 hf H locs ls hW hV hl
        unfold f_X2_go_39 at hf
        refine lv_istore (i := 5) (lv' := [(5, .int s0_39), (0, .ref (ead E k0)), (1, .int b1_39), (2, .int b2_39), (3, .int b3_39), (4, .int b4_39)]) hx hb dX2_go_39 hl (by decide) rfl (fun ls hl => ?_)
        refine lv_iconst (v := (0 : Int32)) hx hb dX2_go_41 (by decide) ?_
        refine lv_istore (i := 6) (lv' := [(6, .int (0 : Int32)), (5, .int s0_39), (0, .ref (ead E k0)), (1, .int b1_39), (2, .int b2_39), (3, .int b3_39), (4, .int b4_39)]) hx hb dX2_go_42 hl (by decide) rfl (fun ls hl => ?_)
        exact c_44 FU μ_39 b1_39 b2_39 b3_39 b4_39 s0_39 (0 : Int32) hf H locs ls hW hV (lv_sub hl [2, 3, 4, 5, 6, 1, 0] rfl)
      intro μ_2 b1_2 b2_2 b3_2 hf H locs ls hW hV hl
      rw [f_X2_go_2] at hf
      refine lv_iload_n hx hb dX2_go_2 rfl (lv_at hl 3 rfl) ?_
      refine lv_iload_n hx hb dX2_go_3 rfl (lv_at hl 1 rfl) ?_
      refine lv_icmp_ge (tgt := 145) hx hb dX2_go_4 (by decide) (fun y34 => ?_) (fun y34 => ?_)
      · have hf := op_t y34 hf
        exact w_retV hx hb hr hlocks hW hV (Option.some.inj hf) dX2_go_145
      · have hf := op_f y34 hf
        refine lv_aload_n hx hb dX2_go_7 rfl (lv_at hl 0 rfl) ?_
        refine lv_aload_n hx hb dX2_go_8 rfl (lv_at hl 0 rfl) ?_
        refine gf_RX2_23 hx hb hB hown hW h0 dX2_go_9 ?_
        obtain ⟨v35, e_36, hf⟩ := op_none hf
        refine w_callI (rn_RX2_82 (As := [.int (gI μ_2 k0 3)]) hx hb hml hown hB hW hZ hV (k_X2_goingOff l E _ k0 (gI μ_2 k0 3) h0 v35 e_36) rfl rfl ⟨(Nat.le_of_ble_eq_true rfl), (Nat.le_of_ble_eq_true rfl)⟩ (w_rec hW (oSt h0).1 ((oSt h0).2 E _ _) rfl) rfl hl.1 rfl (Nat.le_of_ble_eq_true rfl) dX2_go_12 ⟨Nat.le_refl _, Nat.le_refl _⟩) hV (fun H locs hW hV => ?_)
        refine lv_istore (i := 4) (lv' := [(4, .int v35), (0, .ref (ead E k0)), (1, .int b1_2), (2, .int b2_2), (3, .int b3_2)]) hx hb dX2_go_15 hl (by decide) rfl (fun ls hl => ?_)
        refine lv_aload_n hx hb dX2_go_17 rfl (lv_at hl 1 rfl) ?_
        refine gf_RX2_20 hx hb hB hown hW h0 dX2_go_18 ?_
        refine lv_aload_n hx hb dX2_go_21 rfl (lv_at hl 1 rfl) ?_
        refine gf_RX2_23 hx hb hB hown hW h0 dX2_go_22 ?_
        refine lv_bipush (v := (7 : Int32)) hx hb dX2_go_25 (by decide) ?_
        obtain ⟨v37, e_v37, hf⟩ := op_none hf
        refine w_irem hx hb e_v37 dX2_go_27 ?_
        refine lv_ishr hx hb dX2_go_28 ?_
        refine lv_iconst (v := (1 : Int32)) hx hb dX2_go_29 (by decide) ?_
        refine lv_iand hx hb dX2_go_30 ?_
        refine lv_if_ne (tgt := 38) hx hb dX2_go_31 (by decide) (fun y38 => ?_) (fun y38 => ?_)
        · have hf := op_f y38 hf
          refine lv_iconst (v := (0 : Int32)) hx hb dX2_go_38 (by decide) ?_
          exact c_39 μ_2 b1_2 b2_2 b3_2 v35 (0 : Int32) hf H locs ls hW hV (lv_sub hl [1, 2, 3, 4, 0] rfl)
        · have hf := op_t y38 hf
          refine lv_iconst (v := (1 : Int32)) hx hb dX2_go_34 (by decide) ?_
          refine lv_goto (tgt := 39) hx hb dX2_go_35 (by decide) ?_
          exact c_39 μ_2 b1_2 b2_2 b3_2 v35 (1 : Int32) hf H locs ls hW hV (lv_sub hl [1, 2, 3, 4, 0] rfl)
  obtain ⟨H, hH⟩ : ∃ H : Heap, H = s.heap := ⟨_, rfl⟩
  obtain ⟨locs, hlocs⟩ : ∃ locs : List Loc, locs = [] := ⟨_, rfl⟩
  rw [show (W p l e (headSpec (.code yX2_go cX2_go 7 none :: BIG) ({ frames := 2, cells := 0, slots := 0, locals := 46 })).room s m ([.ref (ead E k0), .int a1, .int a2] : List Value).toArray below meth c s.heap [] 0 0) = W p l e (headSpec (.code yX2_go cX2_go 7 none :: BIG) ({ frames := 2, cells := 0, slots := 0, locals := 46 })).room s m ([.ref (ead E k0), .int a1, .int a2] : List Value).toArray below meth c H locs 0 0 by rw [hH, hlocs]]
  have hV : va_S (eA E) s.heap H locs := by rw [hH, hlocs]; exact hV
  have hW : Wd E μ s H := by rw [hH]; exact hW
  unfold f_X2_go at hf
  refine lv_iconst (v := (0 : Int32)) hx hb dX2_go_0 (by decide) ?_
  refine lv_istore_n (i := 3) (lv' := [(3, .int (0 : Int32)), (0, .ref (ead E k0)), (1, .int a1), (2, .int a2)]) hx hb dX2_go_1 rfl hl (by decide) rfl (fun ls hl => ?_)
  exact c_2 FU μ a1 a2 (0 : Int32) hf H locs ls hW hV (lv_sub hl [1, 2, 3, 0] rfl)
