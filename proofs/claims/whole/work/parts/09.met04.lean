set_option maxHeartbeats 8000000 in
set_option maxRecDepth 100000 in
theorem k_X2_weekdays (l : Launch) (E : WE) (μ : Mem) (k0 : Nat) (a1 : Int32) (h0 : isSt k0) (r : Int32) (hf : f_X2_weekdays μ k0 a1 = some r) : Met l yX2_weekdays (.code yX2_weekdays cX2_weekdays 4 (some .int) :: BIG) ({ frames := 2, cells := 0, slots := 0, locals := 46 }) (PW E μ [.ref (ead E k0), .int a1]) (QI E r μ) 0 0 (eA E) := by
  refine Met.ofW (cc := cX2_weekdays) (maxL := 4) (ret := (some .int)) (by decide) rfl ?_
  intro p e s m args below meth c s₁ B hml hv
  obtain ⟨rfl, hW, hZ⟩ := hv
  have hx := B.exec
  have hb := B.bytes
  have hr := B.returns
  have hB : ∀ w ∈ BIG, w.before _ s = true := fun w h => atoms_spec (ws := (.code yX2_weekdays cX2_weekdays 4 (some .int) :: BIG)) B.pre w (List.mem_cons_of_mem _ h)
  have hown : s.vm.findClass RX2 = some m.cls := findClass_of_methodNamed B.named
  have hlocks := B.notSynchronized
  have hV : va_S (eA E) s.heap s.heap [] := va_S.rf
  have hl := lv_entry ([.ref (ead E k0), .int a1]) (n := 4) (Nat.le_of_ble_eq_true rfl)
  rw [lg_entry_eq]
  generalize (lg_sl ([.ref (ead E k0), .int a1]) ++ List.replicate (4 - (lg_sl ([.ref (ead E k0), .int a1])).length) Slot.unset).toArray = ls at hl ⊢
  have hl : lv_has ls 4 [(0, .ref (ead E k0)), (1, .int a1)] := hl
  have c_4 : ∀ (n_4 : Nat) (b1_4 : Int32) (b2_4 : Int32) (b3_4 : Int32) , f_X2_weekdays_4 μ k0 n_4 b1_4 b2_4 b3_4 = some r → ∀ (H : Heap) (locs : List Loc) (ls : Array Slot), Wd E μ s H → va_S (eA E) s.heap H locs → lv_has ls 4 [(0, .ref (ead E k0)), (1, .int b1_4), (2, .int b2_4), (3, .int b3_4)] → W p l e (headSpec (.code yX2_weekdays cX2_weekdays 4 (some .int) :: BIG) ({ frames := 2, cells := 0, slots := 0, locals := 46 })).room s m ([.ref (ead E k0), .int a1] : List Value).toArray below meth c H locs 0 0 (MQ below (QI E r μ) ([.ref (ead E k0), .int a1] : List Value).toArray s 0 0 (eA E)) (F0 m 4 ls []) := by
    intro n_4
    induction n_4 with
    | zero =>
      intro b1_4 b2_4 b3_4 hf H locs ls hW hV hl
      cases hf
    | succ n_4 ih_4 =>
      have c_36 : ∀ (b1_36 : Int32) (b2_36 : Int32) (b3_36 : Int32) , f_X2_weekdays_36 μ k0 (fun z0 z1 z2 => f_X2_weekdays_4 μ k0 n_4 z0 z1 z2) b1_36 b2_36 b3_36 = some r → ∀ (H : Heap) (locs : List Loc) (ls : Array Slot), Wd E μ s H → va_S (eA E) s.heap H locs → lv_has ls 4 [(0, .ref (ead E k0)), (1, .int b1_36), (2, .int b2_36), (3, .int b3_36)] → W p l e (headSpec (.code yX2_weekdays cX2_weekdays 4 (some .int) :: BIG) ({ frames := 2, cells := 0, slots := 0, locals := 46 })).room s m ([.ref (ead E k0), .int a1] : List Value).toArray below meth c H locs 0 0 (MQ below (QI E r μ) ([.ref (ead E k0), .int a1] : List Value).toArray s 0 0 (eA E)) (F0 m 36 ls []) := by
        intro b1_36 b2_36 b3_36 hf H locs ls hW hV hl
        unfold f_X2_weekdays_36 at hf
        obtain ⟨v8, e_v8, hf⟩ := op_none hf
        refine lv_iinc (v := v8) (lv' := [(3, .int v8), (0, .ref (ead E k0)), (1, .int b1_36), (2, .int b2_36)]) hx hb dX2_weekdays_36 hl (k := 3) rfl (by rw [← Option.some.inj e_v8]; rfl) (by decide) rfl (fun ls hl => ?_)
        refine lv_goto (tgt := 4) hx hb dX2_weekdays_39 (by decide) ?_
        exact ih_4 b1_36 b2_36 v8 hf H locs ls hW hV (lv_sub hl [1, 2, 3, 0] rfl)
      intro b1_4 b2_4 b3_4 hf H locs ls hW hV hl
      rw [f_X2_weekdays_4] at hf
      refine lv_iload_n hx hb dX2_weekdays_4 rfl (lv_at hl 3 rfl) ?_
      refine lv_iload_n hx hb dX2_weekdays_5 rfl (lv_at hl 1 rfl) ?_
      refine lv_icmp_ge (tgt := 42) hx hb dX2_weekdays_6 (by decide) (fun y9 => ?_) (fun y9 => ?_)
      · have hf := op_t y9 hf
        refine lv_iload_n hx hb dX2_weekdays_42 rfl (lv_at hl 2 rfl) ?_
        exact w_retI hx hb hr hlocks hW hV (Option.some.inj hf) rfl dX2_weekdays_43
      · have hf := op_f y9 hf
        refine lv_aload_n hx hb dX2_weekdays_9 rfl (lv_at hl 0 rfl) ?_
        refine lv_aload_n hx hb dX2_weekdays_10 rfl (lv_at hl 0 rfl) ?_
        refine gf_RX2_23 hx hb hB hown hW h0 dX2_weekdays_11 ?_
        refine lv_iload_n hx hb dX2_weekdays_14 rfl (lv_at hl 3 rfl) ?_
        refine lv_iadd hx hb dX2_weekdays_15 ?_
        obtain ⟨v10, e_11, hf⟩ := op_none hf
        refine w_callI (rn_RX2_82 (As := [.int ((gI μ k0 3) + b3_4)]) hx hb hml hown hB hW hZ hV (k_X2_goingOff l E _ k0 ((gI μ k0 3) + b3_4) h0 v10 e_11) rfl rfl ⟨(Nat.le_of_ble_eq_true rfl), (Nat.le_of_ble_eq_true rfl)⟩ (w_rec hW (oSt h0).1 ((oSt h0).2 E _ _) rfl) rfl hl.1 rfl (Nat.le_of_ble_eq_true rfl) dX2_weekdays_16 ⟨Nat.le_refl _, Nat.le_refl _⟩) hV (fun H locs hW hV => ?_)
        refine lv_if_eq (tgt := 36) hx hb dX2_weekdays_19 (by decide) (fun y12 => ?_) (fun y12 => ?_)
        · have hf := op_t y12 hf
          exact c_36 b1_4 b2_4 b3_4 hf H locs ls hW hV (lv_sub hl [0, 1, 2, 3] rfl)
        · have hf := op_f y12 hf
          refine lv_iload_n hx hb dX2_weekdays_22 rfl (lv_at hl 2 rfl) ?_
          refine lv_iconst (v := (1 : Int32)) hx hb dX2_weekdays_23 (by decide) ?_
          refine lv_aload_n hx hb dX2_weekdays_24 rfl (lv_at hl 0 rfl) ?_
          refine gf_RX2_23 hx hb hB hown hW h0 dX2_weekdays_25 ?_
          refine lv_iload_n hx hb dX2_weekdays_28 rfl (lv_at hl 3 rfl) ?_
          refine lv_iadd hx hb dX2_weekdays_29 ?_
          refine lv_bipush (v := (7 : Int32)) hx hb dX2_weekdays_30 (by decide) ?_
          obtain ⟨v13, e_v13, hf⟩ := op_none hf
          refine w_irem hx hb e_v13 dX2_weekdays_32 ?_
          refine lv_ishl hx hb dX2_weekdays_33 ?_
          refine lv_ior hx hb dX2_weekdays_34 ?_
          obtain ⟨v14, e_v14, hf⟩ := op_none hf
          refine lv_top' (Option.some.inj e_v14) ?_
          refine lv_istore_n (i := 2) (lv' := [(2, .int v14), (0, .ref (ead E k0)), (1, .int b1_4), (3, .int b3_4)]) hx hb dX2_weekdays_35 rfl hl (by decide) rfl (fun ls hl => ?_)
          exact c_36 b1_4 v14 b3_4 hf H locs ls hW hV (lv_sub hl [1, 2, 0, 3] rfl)
  obtain ⟨H, hH⟩ : ∃ H : Heap, H = s.heap := ⟨_, rfl⟩
  obtain ⟨locs, hlocs⟩ : ∃ locs : List Loc, locs = [] := ⟨_, rfl⟩
  rw [show (W p l e (headSpec (.code yX2_weekdays cX2_weekdays 4 (some .int) :: BIG) ({ frames := 2, cells := 0, slots := 0, locals := 46 })).room s m ([.ref (ead E k0), .int a1] : List Value).toArray below meth c s.heap [] 0 0) = W p l e (headSpec (.code yX2_weekdays cX2_weekdays 4 (some .int) :: BIG) ({ frames := 2, cells := 0, slots := 0, locals := 46 })).room s m ([.ref (ead E k0), .int a1] : List Value).toArray below meth c H locs 0 0 by rw [hH, hlocs]]
  have hV : va_S (eA E) s.heap H locs := by rw [hH, hlocs]; exact hV
  have hW : Wd E μ s H := by rw [hH]; exact hW
  unfold f_X2_weekdays at hf
  refine lv_iconst (v := (0 : Int32)) hx hb dX2_weekdays_0 (by decide) ?_
  refine lv_istore_n (i := 2) (lv' := [(2, .int (0 : Int32)), (0, .ref (ead E k0)), (1, .int a1)]) hx hb dX2_weekdays_1 rfl hl (by decide) rfl (fun ls hl => ?_)
  refine lv_iconst (v := (0 : Int32)) hx hb dX2_weekdays_2 (by decide) ?_
  refine lv_istore_n (i := 3) (lv' := [(3, .int (0 : Int32)), (2, .int (0 : Int32)), (0, .ref (ead E k0)), (1, .int a1)]) hx hb dX2_weekdays_3 rfl hl (by decide) rfl (fun ls hl => ?_)
  exact c_4 FU a1 (0 : Int32) (0 : Int32) hf H locs ls hW hV (lv_sub hl [2, 3, 1, 0] rfl)
set_option maxHeartbeats 8000000 in
set_option maxRecDepth 100000 in
theorem k_J6_bitCount_0f7a4 (l : Launch) (E : WE) (μ : Mem) (a0 : Int32) (r : Int32) (hf : f_J6_bitCount_0f7a4 μ a0 = some r) : Met l yJ6_bitCount_0f7a4 (.code yJ6_bitCount_0f7a4 cJ6_bitCount_0f7a4 1 (some .int) :: BIG) ({ frames := 0, cells := 0, slots := 0, locals := 0 }) (PW E μ [.int a0]) (QI E r μ) 0 0 (eA E) := by
  refine Met.ofW (cc := cJ6_bitCount_0f7a4) (maxL := 1) (ret := (some .int)) (by decide) rfl ?_
  intro p e s m args below meth c s₁ B hml hv
  obtain ⟨rfl, hW, hZ⟩ := hv
  have hx := B.exec
  have hb := B.bytes
  have hr := B.returns
  have hB : ∀ w ∈ BIG, w.before _ s = true := fun w h => atoms_spec (ws := (.code yJ6_bitCount_0f7a4 cJ6_bitCount_0f7a4 1 (some .int) :: BIG)) B.pre w (List.mem_cons_of_mem _ h)
  have hown : s.vm.findClass RJ6 = some m.cls := findClass_of_methodNamed B.named
  have hlocks := B.notSynchronized
  have hV : va_S (eA E) s.heap s.heap [] := va_S.rf
  have hl := lv_entry ([.int a0]) (n := 1) (Nat.le_of_ble_eq_true rfl)
  rw [lg_entry_eq]
  generalize (lg_sl ([.int a0]) ++ List.replicate (1 - (lg_sl ([.int a0])).length) Slot.unset).toArray = ls at hl ⊢
  have hl : lv_has ls 1 [(0, .int a0)] := hl
  obtain ⟨H, hH⟩ : ∃ H : Heap, H = s.heap := ⟨_, rfl⟩
  obtain ⟨locs, hlocs⟩ : ∃ locs : List Loc, locs = [] := ⟨_, rfl⟩
  rw [show (W p l e (headSpec (.code yJ6_bitCount_0f7a4 cJ6_bitCount_0f7a4 1 (some .int) :: BIG) ({ frames := 0, cells := 0, slots := 0, locals := 0 })).room s m ([.int a0] : List Value).toArray below meth c s.heap [] 0 0) = W p l e (headSpec (.code yJ6_bitCount_0f7a4 cJ6_bitCount_0f7a4 1 (some .int) :: BIG) ({ frames := 0, cells := 0, slots := 0, locals := 0 })).room s m ([.int a0] : List Value).toArray below meth c H locs 0 0 by rw [hH, hlocs]]
  have hV : va_S (eA E) s.heap H locs := by rw [hH, hlocs]; exact hV
  have hW : Wd E μ s H := by rw [hH]; exact hW
  unfold f_J6_bitCount_0f7a4 at hf
  refine lv_iload_n hx hb dJ6_bitCount_0f7a4_0 rfl (lv_at hl 0 rfl) ?_
  refine lv_iload_n hx hb dJ6_bitCount_0f7a4_1 rfl (lv_at hl 0 rfl) ?_
  refine lv_iconst (v := (1 : Int32)) hx hb dJ6_bitCount_0f7a4_2 (by decide) ?_
  refine lv_iushr hx hb dJ6_bitCount_0f7a4_3 rfl ?_
  refine lv_ldcw (v := (1431655765 : Int32)) hx hb hown (hB _ q_72a37177) dJ6_bitCount_0f7a4_4 ?_
  refine lv_iand hx hb dJ6_bitCount_0f7a4_7 ?_
  refine lv_isub hx hb dJ6_bitCount_0f7a4_8 ?_
  obtain ⟨v6, e_v6, hf⟩ := op_none hf
  refine lv_top' (Option.some.inj e_v6) ?_
  refine lv_istore_n (i := 0) (lv' := [(0, .int v6)]) hx hb dJ6_bitCount_0f7a4_9 rfl hl (by decide) rfl (fun ls hl => ?_)
  refine lv_iload_n hx hb dJ6_bitCount_0f7a4_10 rfl (lv_at hl 0 rfl) ?_
  refine lv_ldcw (v := (858993459 : Int32)) hx hb hown (hB _ q_09cd821e) dJ6_bitCount_0f7a4_11 ?_
  refine lv_iand hx hb dJ6_bitCount_0f7a4_14 ?_
  refine lv_iload_n hx hb dJ6_bitCount_0f7a4_15 rfl (lv_at hl 0 rfl) ?_
  refine lv_iconst (v := (2 : Int32)) hx hb dJ6_bitCount_0f7a4_16 (by decide) ?_
  refine lv_iushr hx hb dJ6_bitCount_0f7a4_17 rfl ?_
  refine lv_ldcw (v := (858993459 : Int32)) hx hb hown (hB _ q_09cd821e) dJ6_bitCount_0f7a4_18 ?_
  refine lv_iand hx hb dJ6_bitCount_0f7a4_21 ?_
  refine lv_iadd hx hb dJ6_bitCount_0f7a4_22 ?_
  obtain ⟨v7, e_v7, hf⟩ := op_none hf
  refine lv_top' (Option.some.inj e_v7) ?_
  refine lv_istore_n (i := 0) (lv' := [(0, .int v7)]) hx hb dJ6_bitCount_0f7a4_23 rfl hl (by decide) rfl (fun ls hl => ?_)
  refine lv_iload_n hx hb dJ6_bitCount_0f7a4_24 rfl (lv_at hl 0 rfl) ?_
  refine lv_iload_n hx hb dJ6_bitCount_0f7a4_25 rfl (lv_at hl 0 rfl) ?_
  refine lv_iconst (v := (4 : Int32)) hx hb dJ6_bitCount_0f7a4_26 (by decide) ?_
  refine lv_iushr hx hb dJ6_bitCount_0f7a4_27 rfl ?_
  refine lv_iadd hx hb dJ6_bitCount_0f7a4_28 ?_
  refine lv_ldcw (v := (252645135 : Int32)) hx hb hown (hB _ q_412cf73e) dJ6_bitCount_0f7a4_29 ?_
  refine lv_iand hx hb dJ6_bitCount_0f7a4_32 ?_
  obtain ⟨v8, e_v8, hf⟩ := op_none hf
  refine lv_top' (Option.some.inj e_v8) ?_
  refine lv_istore_n (i := 0) (lv' := [(0, .int v8)]) hx hb dJ6_bitCount_0f7a4_33 rfl hl (by decide) rfl (fun ls hl => ?_)
  refine lv_iload_n hx hb dJ6_bitCount_0f7a4_34 rfl (lv_at hl 0 rfl) ?_
  refine lv_iload_n hx hb dJ6_bitCount_0f7a4_35 rfl (lv_at hl 0 rfl) ?_
  refine lv_bipush (v := (8 : Int32)) hx hb dJ6_bitCount_0f7a4_36 (by decide) ?_
  refine lv_iushr hx hb dJ6_bitCount_0f7a4_38 rfl ?_
  refine lv_iadd hx hb dJ6_bitCount_0f7a4_39 ?_
  obtain ⟨v9, e_v9, hf⟩ := op_none hf
  refine lv_top' (Option.some.inj e_v9) ?_
  refine lv_istore_n (i := 0) (lv' := [(0, .int v9)]) hx hb dJ6_bitCount_0f7a4_40 rfl hl (by decide) rfl (fun ls hl => ?_)
  refine lv_iload_n hx hb dJ6_bitCount_0f7a4_41 rfl (lv_at hl 0 rfl) ?_
  refine lv_iload_n hx hb dJ6_bitCount_0f7a4_42 rfl (lv_at hl 0 rfl) ?_
  refine lv_bipush (v := (16 : Int32)) hx hb dJ6_bitCount_0f7a4_43 (by decide) ?_
  refine lv_iushr hx hb dJ6_bitCount_0f7a4_45 rfl ?_
  refine lv_iadd hx hb dJ6_bitCount_0f7a4_46 ?_
  obtain ⟨v10, e_v10, hf⟩ := op_none hf
  refine lv_top' (Option.some.inj e_v10) ?_
  refine lv_istore_n (i := 0) (lv' := [(0, .int v10)]) hx hb dJ6_bitCount_0f7a4_47 rfl hl (by decide) rfl (fun ls hl => ?_)
  refine lv_iload_n hx hb dJ6_bitCount_0f7a4_48 rfl (lv_at hl 0 rfl) ?_
  refine lv_bipush (v := (63 : Int32)) hx hb dJ6_bitCount_0f7a4_49 (by decide) ?_
  refine lv_iand hx hb dJ6_bitCount_0f7a4_51 ?_
  exact w_retI hx hb hr hlocks hW hV (Option.some.inj hf) rfl dJ6_bitCount_0f7a4_52
set_option maxHeartbeats 8000000 in
set_option maxRecDepth 100000 in
theorem k_X2_busiest (l : Launch) (E : WE) (μ : Mem) (k0 : Nat) (a1 : Int32) (a2 : Int32) (h0 : isSt k0) (r : Int32) (hf : f_X2_busiest μ k0 a1 a2 = some r) : Met l yX2_busiest (.code yX2_busiest cX2_busiest 7 (some .int) :: BIG) ({ frames := 2, cells := 0, slots := 0, locals := 46 }) (PW E μ [.ref (ead E k0), .int a1, .int a2]) (QI E r μ) 0 0 (eA E) := by
  refine Met.ofW (cc := cX2_busiest) (maxL := 7) (ret := (some .int)) (by decide) rfl ?_
  intro p e s m args below meth c s₁ B hml hv
  obtain ⟨rfl, hW, hZ⟩ := hv
  have hx := B.exec
  have hb := B.bytes
  have hr := B.returns
  have hB : ∀ w ∈ BIG, w.before _ s = true := fun w h => atoms_spec (ws := (.code yX2_busiest cX2_busiest 7 (some .int) :: BIG)) B.pre w (List.mem_cons_of_mem _ h)
  have hown : s.vm.findClass RX2 = some m.cls := findClass_of_methodNamed B.named
  have hlocks := B.notSynchronized
  have hV : va_S (eA E) s.heap s.heap [] := va_S.rf
  have hl := lv_entry ([.ref (ead E k0), .int a1, .int a2]) (n := 7) (Nat.le_of_ble_eq_true rfl)
  rw [lg_entry_eq]
  generalize (lg_sl ([.ref (ead E k0), .int a1, .int a2]) ++ List.replicate (7 - (lg_sl ([.ref (ead E k0), .int a1, .int a2])).length) Slot.unset).toArray = ls at hl ⊢
  have hl : lv_has ls 7 [(0, .ref (ead E k0)), (1, .int a1), (2, .int a2)] := hl
  have c_8 : ∀ (n_8 : Nat) (b1_8 : Int32) (b2_8 : Int32) (b3_8 : Int32) (b4_8 : Int32) (b5_8 : Int32) , f_X2_busiest_8 μ k0 n_8 b1_8 b2_8 b3_8 b4_8 b5_8 = some r → ∀ (H : Heap) (locs : List Loc) (ls : Array Slot), Wd E μ s H → va_S (eA E) s.heap H locs → lv_has ls 7 [(0, .ref (ead E k0)), (1, .int b1_8), (2, .int b2_8), (3, .int b3_8), (4, .int b4_8), (5, .int b5_8)] → W p l e (headSpec (.code yX2_busiest cX2_busiest 7 (some .int) :: BIG) ({ frames := 2, cells := 0, slots := 0, locals := 46 })).room s m ([.ref (ead E k0), .int a1, .int a2] : List Value).toArray below meth c H locs 0 0 (MQ below (QI E r μ) ([.ref (ead E k0), .int a1, .int a2] : List Value).toArray s 0 0 (eA E)) (F0 m 8 ls []) := by
    intro n_8
    induction n_8 with
    | zero =>
      intro b1_8 b2_8 b3_8 b4_8 b5_8 hf H locs ls hW hV hl
      cases hf
    | succ n_8 ih_8 =>
      have c_44 : ∀ (b1_44 : Int32) (b2_44 : Int32) (b3_44 : Int32) (b4_44 : Int32) (b5_44 : Int32) , f_X2_busiest_44 μ k0 (fun z0 z1 z2 z3 z4 => f_X2_busiest_8 μ k0 n_8 z0 z1 z2 z3 z4) b1_44 b2_44 b3_44 b4_44 b5_44 = some r → ∀ (H : Heap) (locs : List Loc) (ls : Array Slot), Wd E μ s H → va_S (eA E) s.heap H locs → lv_has ls 7 [(0, .ref (ead E k0)), (1, .int b1_44), (2, .int b2_44), (3, .int b3_44), (4, .int b4_44), (5, .int b5_44)] → W p l e (headSpec (.code yX2_busiest cX2_busiest 7 (some .int) :: BIG) ({ frames := 2, cells := 0, slots := 0, locals := 46 })).room s m ([.ref (ead E k0), .int a1, .int a2] : List Value).toArray below meth c H locs 0 0 (MQ below (QI E r μ) ([.ref (ead E k0), .int a1, .int a2] : List Value).toArray s 0 0 (eA E)) (F0 m 44 ls []) := by
        intro b1_44 b2_44 b3_44 b4_44 b5_44 hf H locs ls hW hV hl
        unfold f_X2_busiest_44 at hf
        obtain ⟨v9, e_v9, hf⟩ := op_none hf
        refine lv_iinc (v := v9) (lv' := [(5, .int v9), (0, .ref (ead E k0)), (1, .int b1_44), (2, .int b2_44), (3, .int b3_44), (4, .int b4_44)]) hx hb dX2_busiest_44 hl (k := 5) rfl (by rw [← Option.some.inj e_v9]; rfl) (by decide) rfl (fun ls hl => ?_)
        refine lv_goto (tgt := 8) hx hb dX2_busiest_47 (by decide) ?_
        exact ih_8 b1_44 b2_44 b3_44 b4_44 v9 hf H locs ls hW hV (lv_sub hl [1, 2, 3, 4, 5, 0] rfl)
      intro b1_8 b2_8 b3_8 b4_8 b5_8 hf H locs ls hW hV hl
      rw [f_X2_busiest_8] at hf
      refine lv_iload hx hb dX2_busiest_8 (lv_at hl 5 rfl) ?_
      refine lv_iload_n hx hb dX2_busiest_10 rfl (lv_at hl 1 rfl) ?_
      refine lv_icmp_ge (tgt := 50) hx hb dX2_busiest_11 (by decide) (fun y10 => ?_) (fun y10 => ?_)
      · have hf := op_t y10 hf
        refine lv_iload_n hx hb dX2_busiest_50 rfl (lv_at hl 2 rfl) ?_
        refine lv_if_eq (tgt := 59) hx hb dX2_busiest_51 (by decide) (fun y11 => ?_) (fun y11 => ?_)
        · have hf := op_t y11 hf
          refine lv_iload_n hx hb dX2_busiest_59 rfl (lv_at hl 3 rfl) ?_
          exact w_retI hx hb hr hlocks hW hV (Option.some.inj hf) rfl dX2_busiest_60
        · have hf := op_f y11 hf
          refine lv_iload hx hb dX2_busiest_54 (lv_at hl 4 rfl) ?_
          refine lv_goto (tgt := 60) hx hb dX2_busiest_56 (by decide) ?_
          exact w_retI hx hb hr hlocks hW hV (Option.some.inj hf) rfl dX2_busiest_60
      · have hf := op_f y10 hf
        refine lv_aload_n hx hb dX2_busiest_14 rfl (lv_at hl 0 rfl) ?_
        refine lv_aload_n hx hb dX2_busiest_15 rfl (lv_at hl 0 rfl) ?_
        refine gf_RX2_23 hx hb hB hown hW h0 dX2_busiest_16 ?_
        refine lv_iload hx hb dX2_busiest_19 (lv_at hl 5 rfl) ?_
        refine lv_iadd hx hb dX2_busiest_21 ?_
        obtain ⟨v12, e_13, hf⟩ := op_none hf
        refine w_callI (rn_RX2_82 (As := [.int ((gI μ k0 3) + b5_8)]) hx hb hml hown hB hW hZ hV (k_X2_goingOff l E _ k0 ((gI μ k0 3) + b5_8) h0 v12 e_13) rfl rfl ⟨(Nat.le_of_ble_eq_true rfl), (Nat.le_of_ble_eq_true rfl)⟩ (w_rec hW (oSt h0).1 ((oSt h0).2 E _ _) rfl) rfl hl.1 rfl (Nat.le_of_ble_eq_true rfl) dX2_busiest_22 ⟨Nat.le_refl _, Nat.le_refl _⟩) hV (fun H locs hW hV => ?_)
        obtain ⟨v14, e_15, hf⟩ := op_none hf
        refine w_callI (rn_RX2_92 (As := [.int v12]) hx hb hml hown hB hW hZ hV (k_J6_bitCount_0f7a4 l E _ v12 v14 e_15) rfl rfl ⟨(Nat.le_of_ble_eq_true rfl), (Nat.le_of_ble_eq_true rfl)⟩ rfl hl.1 rfl (Nat.le_of_ble_eq_true rfl) dX2_busiest_25 ⟨Nat.le_refl _, Nat.le_refl _⟩) hV (fun H locs hW hV => ?_)
        refine lv_istore (i := 6) (lv' := [(6, .int v14), (0, .ref (ead E k0)), (1, .int b1_8), (2, .int b2_8), (3, .int b3_8), (4, .int b4_8), (5, .int b5_8)]) hx hb dX2_busiest_28 hl (by decide) rfl (fun ls hl => ?_)
        refine lv_iload hx hb dX2_busiest_30 (lv_at hl 0 rfl) ?_
        refine lv_iload hx hb dX2_busiest_32 (lv_at hl 5 rfl) ?_
        refine lv_icmp_le (tgt := 44) hx hb dX2_busiest_34 (by decide) (fun y16 => ?_) (fun y16 => ?_)
        · have hf := op_t y16 hf
          exact c_44 b1_8 b2_8 b3_8 b4_8 b5_8 hf H locs ls hW hV (lv_sub hl [1, 2, 3, 4, 5, 6] rfl)
        · have hf := op_f y16 hf
          refine lv_iload hx hb dX2_busiest_37 (lv_at hl 0 rfl) ?_
          refine lv_istore (i := 4) (lv' := [(4, .int v14), (6, .int v14), (0, .ref (ead E k0)), (1, .int b1_8), (2, .int b2_8), (3, .int b3_8), (5, .int b5_8)]) hx hb dX2_busiest_39 hl (by decide) rfl (fun ls hl => ?_)
          refine lv_iload hx hb dX2_busiest_41 (lv_at hl 6 rfl) ?_
          refine lv_istore_n (i := 3) (lv' := [(3, .int b5_8), (4, .int v14), (6, .int v14), (0, .ref (ead E k0)), (1, .int b1_8), (2, .int b2_8), (5, .int b5_8)]) hx hb dX2_busiest_43 rfl hl (by decide) rfl (fun ls hl => ?_)
          exact c_44 b1_8 b2_8 b5_8 v14 b5_8 hf H locs ls hW hV (lv_sub hl [3, 4, 5, 0, 1, 6] rfl)
  obtain ⟨H, hH⟩ : ∃ H : Heap, H = s.heap := ⟨_, rfl⟩
  obtain ⟨locs, hlocs⟩ : ∃ locs : List Loc, locs = [] := ⟨_, rfl⟩
  rw [show (W p l e (headSpec (.code yX2_busiest cX2_busiest 7 (some .int) :: BIG) ({ frames := 2, cells := 0, slots := 0, locals := 46 })).room s m ([.ref (ead E k0), .int a1, .int a2] : List Value).toArray below meth c s.heap [] 0 0) = W p l e (headSpec (.code yX2_busiest cX2_busiest 7 (some .int) :: BIG) ({ frames := 2, cells := 0, slots := 0, locals := 46 })).room s m ([.ref (ead E k0), .int a1, .int a2] : List Value).toArray below meth c H locs 0 0 by rw [hH, hlocs]]
  have hV : va_S (eA E) s.heap H locs := by rw [hH, hlocs]; exact hV
  have hW : Wd E μ s H := by rw [hH]; exact hW
  unfold f_X2_busiest at hf
  refine lv_iconst (v := (0 : Int32)) hx hb dX2_busiest_0 (by decide) ?_
  refine lv_istore_n (i := 3) (lv' := [(3, .int (0 : Int32)), (0, .ref (ead E k0)), (1, .int a1), (2, .int a2)]) hx hb dX2_busiest_1 rfl hl (by decide) rfl (fun ls hl => ?_)
  refine lv_iconst (v := (0 : Int32)) hx hb dX2_busiest_2 (by decide) ?_
  refine lv_istore (i := 4) (lv' := [(4, .int (0 : Int32)), (3, .int (0 : Int32)), (0, .ref (ead E k0)), (1, .int a1), (2, .int a2)]) hx hb dX2_busiest_3 hl (by decide) rfl (fun ls hl => ?_)
  refine lv_iconst (v := (0 : Int32)) hx hb dX2_busiest_5 (by decide) ?_
  refine lv_istore (i := 5) (lv' := [(5, .int (0 : Int32)), (4, .int (0 : Int32)), (3, .int (0 : Int32)), (0, .ref (ead E k0)), (1, .int a1), (2, .int a2)]) hx hb dX2_busiest_6 hl (by decide) rfl (fun ls hl => ?_)
  exact c_8 FU a1 a2 (0 : Int32) (0 : Int32) (0 : Int32) hf H locs ls hW hV (lv_sub hl [3, 4, 5, 2, 1, 0] rfl)
set_option maxHeartbeats 8000000 in
set_option maxRecDepth 100000 in
theorem k_X6_busy (l : Launch) (E : WE) (μ : Mem) (a1 : Int32) (a2 : Int32) (r : Int32) (μ' : Mem) (hf : f_X6_busy μ a1 a2 = some (r, μ')) : Met l yX6_busy (.code yX6_busy cX6_busy 3 (some .int) :: BIG) ({ frames := 6, cells := 0, slots := 0, locals := 145 }) (PW E μ [.ref (ead E 1), .int a1, .int a2]) (QI E r μ') 0 0 (eA E) := by
  refine Met.ofW (cc := cX6_busy) (maxL := 3) (ret := (some .int)) (by decide) rfl ?_
  intro p e s m args below meth c s₁ B hml hv
  obtain ⟨rfl, hW, hZ⟩ := hv
  have hx := B.exec
  have hb := B.bytes
  have hr := B.returns
  have hB : ∀ w ∈ BIG, w.before _ s = true := fun w h => atoms_spec (ws := (.code yX6_busy cX6_busy 3 (some .int) :: BIG)) B.pre w (List.mem_cons_of_mem _ h)
  have hown : s.vm.findClass RX6 = some m.cls := findClass_of_methodNamed B.named
  have hlocks := B.notSynchronized
  have hV : va_S (eA E) s.heap s.heap [] := va_S.rf
  have hl := lv_entry ([.ref (ead E 1), .int a1, .int a2]) (n := 3) (Nat.le_of_ble_eq_true rfl)
  rw [lg_entry_eq]
  generalize (lg_sl ([.ref (ead E 1), .int a1, .int a2]) ++ List.replicate (3 - (lg_sl ([.ref (ead E 1), .int a1, .int a2])).length) Slot.unset).toArray = ls at hl ⊢
  have hl : lv_has ls 3 [(0, .ref (ead E 1)), (1, .int a1), (2, .int a2)] := hl
  have c_68 : ∀ (μ_68 : Mem) (s0_68 : Int32) (s1_68 : Int32) , f_X6_busy_68 μ_68 s0_68 s1_68 = some (r, μ') → ∀ (H : Heap) (locs : List Loc) (ls : Array Slot), Wd E μ_68 s H → va_S (eA E) s.heap H locs → lv_has ls 3 [] → W p l e (headSpec (.code yX6_busy cX6_busy 3 (some .int) :: BIG) ({ frames := 6, cells := 0, slots := 0, locals := 145 })).room s m ([.ref (ead E 1), .int a1, .int a2] : List Value).toArray below meth c H locs 0 0 (MQ below (QI E r μ') ([.ref (ead E 1), .int a1, .int a2] : List Value).toArray s 0 0 (eA E)) (F0 m 68 ls [.int s0_68, .int s1_68, .ref (ead E 100)]) := by
    intro μ_68 s0_68 s1_68 hf H locs ls hW hV hl
    unfold f_X6_busy_68 at hf
    obtain ⟨v15, e_16, hf⟩ := op_none hf
    refine w_callI (rn_RX6_165 (As := [.int s1_68, .int s0_68]) hx hb hml hown hB hW hZ hV (k_X2_busiest l E _ 100 s1_68 s0_68 st1 v15 e_16) rfl rfl ⟨(Nat.le_of_ble_eq_true rfl), (Nat.le_of_ble_eq_true rfl)⟩ (w_rec hW (oSt st1).1 ((oSt st1).2 E _ _) rfl) rfl hl.1 rfl (Nat.le_of_ble_eq_true rfl) dX6_busy_68 ⟨Nat.le_refl _, Nat.le_refl _⟩) hV (fun H locs hW hV => ?_)
    exact w_retI hx hb hr hlocks hW hV (Prod.mk.inj (Option.some.inj hf)).1 (Prod.mk.inj (Option.some.inj hf)).2 dX6_busy_71
  obtain ⟨H, hH⟩ : ∃ H : Heap, H = s.heap := ⟨_, rfl⟩
  obtain ⟨locs, hlocs⟩ : ∃ locs : List Loc, locs = [] := ⟨_, rfl⟩
  rw [show (W p l e (headSpec (.code yX6_busy cX6_busy 3 (some .int) :: BIG) ({ frames := 6, cells := 0, slots := 0, locals := 145 })).room s m ([.ref (ead E 1), .int a1, .int a2] : List Value).toArray below meth c s.heap [] 0 0) = W p l e (headSpec (.code yX6_busy cX6_busy 3 (some .int) :: BIG) ({ frames := 6, cells := 0, slots := 0, locals := 145 })).room s m ([.ref (ead E 1), .int a1, .int a2] : List Value).toArray below meth c H locs 0 0 by rw [hH, hlocs]]
  have hV : va_S (eA E) s.heap H locs := by rw [hH, hlocs]; exact hV
  have hW : Wd E μ s H := by rw [hH]; exact hW
  unfold f_X6_busy at hf
  refine lv_iload_n hx hb dX6_busy_0 rfl (lv_at hl 2 rfl) ?_
  refine lv_i2l hx hb dX6_busy_1 rfl ?_
  refine lv_lconst (v := (0 : Int64)) hx hb dX6_busy_2 (by decide) ?_
  refine lv_ldc2 (v := (2 : Int64)) hx hb hown (hB _ q_abd799f0) dX6_busy_3 ?_
  obtain ⟨v17, e_18, hf⟩ := op_none hf
  refine w_callN (rn_RX6_62 (As := [.long a2.toInt64, .long (0 : Int64), .long (2 : Int64)]) hx hb hml hown hB hW hZ hV (k_X6_within l E _ a2.toInt64 (0 : Int64) (2 : Int64) v17 e_18) rfl rfl ⟨(Nat.le_of_ble_eq_true rfl), (Nat.le_of_ble_eq_true rfl)⟩ rfl hl.1 rfl (Nat.le_of_ble_eq_true rfl) dX6_busy_6 ⟨Nat.le_refl _, Nat.le_refl _⟩) hV (fun H locs hn_v17 hW hV => ?_)
  refine lv_if_ne (tgt := 14) hx hb dX6_busy_9 (by decide) (fun y19 => ?_) (fun y19 => ?_)
  · have hf := op_f y19 hf
    refine lv_iload_n hx hb dX6_busy_14 rfl (lv_at hl 1 rfl) ?_
    refine lv_i2l hx hb dX6_busy_15 rfl ?_
    refine lv_lconst (v := (1 : Int64)) hx hb dX6_busy_16 (by decide) ?_
    refine lv_ldc2 (v := (60 : Int64)) hx hb hown (hB _ q_20c81cf4) dX6_busy_17 ?_
    obtain ⟨v20, e_21, hf⟩ := op_none hf
    refine w_callN (rn_RX6_62 (As := [.long a1.toInt64, .long (1 : Int64), .long (60 : Int64)]) hx hb hml hown hB hW hZ hV (k_X6_within l E _ a1.toInt64 (1 : Int64) (60 : Int64) v20 e_21) rfl rfl ⟨(Nat.le_of_ble_eq_true rfl), (Nat.le_of_ble_eq_true rfl)⟩ rfl hl.1 rfl (Nat.le_of_ble_eq_true rfl) dX6_busy_20 ⟨Nat.le_refl _, Nat.le_refl _⟩) hV (fun H locs hn_v20 hW hV => ?_)
    refine lv_if_ne (tgt := 29) hx hb dX6_busy_23 (by decide) (fun y22 => ?_) (fun y22 => ?_)
    · have hf := op_f y22 hf
      refine lv_aload_n hx hb dX6_busy_29 rfl (lv_at hl 0 rfl) ?_
      refine lv_aload_n hx hb dX6_busy_30 rfl (lv_at hl 0 rfl) ?_
      refine gf_RX6_12 hx hb hB hown hW dX6_busy_31 ?_
      obtain ⟨μ23, e_24, hf⟩ := op_none hf
      refine w_callV (rn_RX6_89 (As := [.ref (ead E 100)]) hx hb hml hown hB hW hZ hV (k_X6_reckon l E _ 100 st1 μ23 e_24) rfl rfl ⟨(Nat.le_of_ble_eq_true rfl), (Nat.le_of_ble_eq_true rfl)⟩ (w_rec hW oX.1 (oX.2 E _ _) rfl) rfl hl.1 rfl (Nat.le_of_ble_eq_true rfl) dX6_busy_34 ⟨Nat.le_refl _, Nat.le_refl _⟩) hV (fun H locs hW hV => ?_)
      refine lv_iload_n hx hb dX6_busy_37 rfl (lv_at hl 2 rfl) ?_
      refine lv_iconst (v := (2 : Int32)) hx hb dX6_busy_38 (by decide) ?_
      refine lv_icmp_ne (tgt := 53) hx hb dX6_busy_39 (by decide) (fun y25 => ?_) (fun y25 => ?_)
      · have hf := op_f y25 hf
        refine lv_aload_n hx hb dX6_busy_53 rfl (lv_at hl 0 rfl) ?_
        refine gf_RX6_12 hx hb hB hown hW dX6_busy_54 ?_
        refine lv_iload_n hx hb dX6_busy_57 rfl (lv_at hl 1 rfl) ?_
        refine lv_iload_n hx hb dX6_busy_58 rfl (lv_at hl 2 rfl) ?_
        refine lv_iconst (v := (1 : Int32)) hx hb dX6_busy_59 (by decide) ?_
        refine lv_icmp_ne (tgt := 67) hx hb dX6_busy_60 (by decide) (fun y26 => ?_) (fun y26 => ?_)
        · have hf := op_f y26 hf
          refine lv_iconst (v := (0 : Int32)) hx hb dX6_busy_67 (by decide) ?_
          exact c_68 μ23 (0 : Int32) a1 hf H locs ls hW hV (lv_sub hl [] rfl)
        · have hf := op_t y26 hf
          refine lv_iconst (v := (1 : Int32)) hx hb dX6_busy_63 (by decide) ?_
          refine lv_goto (tgt := 68) hx hb dX6_busy_64 (by decide) ?_
          exact c_68 μ23 (1 : Int32) a1 hf H locs ls hW hV (lv_sub hl [] rfl)
      · have hf := op_t y25 hf
        refine lv_aload_n hx hb dX6_busy_42 rfl (lv_at hl 0 rfl) ?_
        refine gf_RX6_12 hx hb hB hown hW dX6_busy_43 ?_
        refine lv_iload_n hx hb dX6_busy_46 rfl (lv_at hl 1 rfl) ?_
        obtain ⟨v27, e_28, hf⟩ := op_none hf
        refine w_callI (rn_RX6_162 (As := [.int a1]) hx hb hml hown hB hW hZ hV (k_X2_weekdays l E _ 100 a1 st1 v27 e_28) rfl rfl ⟨(Nat.le_of_ble_eq_true rfl), (Nat.le_of_ble_eq_true rfl)⟩ (w_rec hW (oSt st1).1 ((oSt st1).2 E _ _) rfl) rfl hl.1 rfl (Nat.le_of_ble_eq_true rfl) dX6_busy_47 ⟨Nat.le_refl _, Nat.le_refl _⟩) hV (fun H locs hW hV => ?_)
        refine lv_goto (tgt := 71) hx hb dX6_busy_50 (by decide) ?_
        exact w_retI hx hb hr hlocks hW hV (Prod.mk.inj (Option.some.inj hf)).1 (Prod.mk.inj (Option.some.inj hf)).2 dX6_busy_71
    · have hf := op_t y22 hf
      refine lv_bipush (v := (-2 : Int32)) hx hb dX6_busy_26 (by decide) ?_
      exact w_retI hx hb hr hlocks hW hV (Prod.mk.inj (Option.some.inj hf)).1 (Prod.mk.inj (Option.some.inj hf)).2 dX6_busy_28
  · have hf := op_t y19 hf
    refine lv_iconst (v := (-1 : Int32)) hx hb dX6_busy_12 (by decide) ?_
    exact w_retI hx hb hr hlocks hW hV (Prod.mk.inj (Option.some.inj hf)).1 (Prod.mk.inj (Option.some.inj hf)).2 dX6_busy_13
set_option maxHeartbeats 8000000 in
set_option maxRecDepth 100000 in
theorem k_X1_empty (l : Launch) (E : WE) (μ : Mem) (k0 : Nat) (n0 : Nat) (h0 : isRw k0 n0) (r : Int32) (μ' : Mem) (hf : f_X1_empty μ k0 n0 = some (r, μ')) : Met l yX1_empty (.code yX1_empty cX1_empty 1 (some .int) :: BIG) ({ frames := 0, cells := 0, slots := 0, locals := 0 }) (PW E μ [.ref (ead E k0)]) (QI E r μ') 0 0 (eA E) := by
  refine Met.ofW (cc := cX1_empty) (maxL := 1) (ret := (some .int)) (by decide) rfl ?_
  intro p e s m args below meth c s₁ B hml hv
  obtain ⟨rfl, hW, hZ⟩ := hv
  have hx := B.exec
  have hb := B.bytes
  have hr := B.returns
  have hB : ∀ w ∈ BIG, w.before _ s = true := fun w h => atoms_spec (ws := (.code yX1_empty cX1_empty 1 (some .int) :: BIG)) B.pre w (List.mem_cons_of_mem _ h)
  have hown : s.vm.findClass RX1 = some m.cls := findClass_of_methodNamed B.named
  have hlocks := B.notSynchronized
  have hV : va_S (eA E) s.heap s.heap [] := va_S.rf
  have hl := lv_entry ([.ref (ead E k0)]) (n := 1) (Nat.le_of_ble_eq_true rfl)
  rw [lg_entry_eq]
  generalize (lg_sl ([.ref (ead E k0)]) ++ List.replicate (1 - (lg_sl ([.ref (ead E k0)])).length) Slot.unset).toArray = ls at hl ⊢
  have hl : lv_has ls 1 [(0, .ref (ead E k0))] := hl
  obtain ⟨H, hH⟩ : ∃ H : Heap, H = s.heap := ⟨_, rfl⟩
  obtain ⟨locs, hlocs⟩ : ∃ locs : List Loc, locs = [] := ⟨_, rfl⟩
  rw [show (W p l e (headSpec (.code yX1_empty cX1_empty 1 (some .int) :: BIG) ({ frames := 0, cells := 0, slots := 0, locals := 0 })).room s m ([.ref (ead E k0)] : List Value).toArray below meth c s.heap [] 0 0) = W p l e (headSpec (.code yX1_empty cX1_empty 1 (some .int) :: BIG) ({ frames := 0, cells := 0, slots := 0, locals := 0 })).room s m ([.ref (ead E k0)] : List Value).toArray below meth c H locs 0 0 by rw [hH, hlocs]]
  have hV : va_S (eA E) s.heap H locs := by rw [hH, hlocs]; exact hV
  have hW : Wd E μ s H := by rw [hH]; exact hW
  unfold f_X1_empty at hf
  refine lv_aload_n hx hb dX1_empty_0 rfl (lv_at hl 0 rfl) ?_
  refine lv_iconst (v := (0 : Int32)) hx hb dX1_empty_1 (by decide) ?_
  obtain ⟨μ2, e_μ2, hf⟩ := op_none hf
  refine pf_RX1_9 hx hb hB hown hW h0 hV dX1_empty_2 (fun H locs hW hV => ?_)
  rw [Option.some.inj e_μ2] at hW
  refine lv_iconst (v := (0 : Int32)) hx hb dX1_empty_5 (by decide) ?_
  exact w_retI hx hb hr hlocks hW hV (Prod.mk.inj (Option.some.inj hf)).1 (Prod.mk.inj (Option.some.inj hf)).2 dX1_empty_6
set_option maxHeartbeats 8000000 in
set_option maxRecDepth 100000 in
theorem k_X6_hear (l : Launch) (E : WE) (μ : Mem) (a1 : Int32) (a2 : Int32) (a3 : Int32) (r : Int32) (μ' : Mem) (hf : f_X6_hear μ a1 a2 a3 = some (r, μ')) : Met l yX6_hear (.code yX6_hear cX6_hear 4 (some .int) :: BIG) ({ frames := 1, cells := 0, slots := 0, locals := 25 }) (PW E μ [.ref (ead E 1), .int a1, .int a2, .int a3]) (QI E r μ') 0 0 (eA E) := by
  refine Met.ofW (cc := cX6_hear) (maxL := 4) (ret := (some .int)) (by decide) rfl ?_
  intro p e s m args below meth c s₁ B hml hv
  obtain ⟨rfl, hW, hZ⟩ := hv
  have hx := B.exec
  have hb := B.bytes
  have hr := B.returns
  have hB : ∀ w ∈ BIG, w.before _ s = true := fun w h => atoms_spec (ws := (.code yX6_hear cX6_hear 4 (some .int) :: BIG)) B.pre w (List.mem_cons_of_mem _ h)
  have hown : s.vm.findClass RX6 = some m.cls := findClass_of_methodNamed B.named
  have hlocks := B.notSynchronized
  have hV : va_S (eA E) s.heap s.heap [] := va_S.rf
  have hl := lv_entry ([.ref (ead E 1), .int a1, .int a2, .int a3]) (n := 4) (Nat.le_of_ble_eq_true rfl)
  rw [lg_entry_eq]
  generalize (lg_sl ([.ref (ead E 1), .int a1, .int a2, .int a3]) ++ List.replicate (4 - (lg_sl ([.ref (ead E 1), .int a1, .int a2, .int a3])).length) Slot.unset).toArray = ls at hl ⊢
  have hl : lv_has ls 4 [(0, .ref (ead E 1)), (1, .int a1), (2, .int a2), (3, .int a3)] := hl
  have c_62 : ∀ (μ_62 : Mem) (s0_62 : Int32) (s1_62 : Int32) (s2_62 : Int32) , f_X6_hear_62 μ_62 s0_62 s1_62 s2_62 = some (r, μ') → ∀ (H : Heap) (locs : List Loc) (ls : Array Slot), Wd E μ_62 s H → va_S (eA E) s.heap H locs → lv_has ls 4 [] → W p l e (headSpec (.code yX6_hear cX6_hear 4 (some .int) :: BIG) ({ frames := 1, cells := 0, slots := 0, locals := 25 })).room s m ([.ref (ead E 1), .int a1, .int a2, .int a3] : List Value).toArray below meth c H locs 0 0 (MQ below (QI E r μ') ([.ref (ead E 1), .int a1, .int a2, .int a3] : List Value).toArray s 0 0 (eA E)) (F0 m 62 ls [.int s0_62, .int s1_62, .int s2_62, .ref (ead E (100 + 10))]) := by
    intro μ_62 s0_62 s1_62 s2_62 hf H locs ls hW hV hl
    unfold f_X6_hear_62 at hf
    obtain ⟨p20, e_19, hf⟩ := op_none hf
    refine w_callI (rn_RX6_177 (As := [.int s2_62, .int s1_62, .int s0_62]) hx hb hml hown hB hW hZ hV (k_X1_add l E _ (100 + 10) 6 s2_62 s1_62 s0_62 (rwH st1) p20.1 p20.2 e_19) rfl rfl ⟨(Nat.le_of_ble_eq_true rfl), (Nat.le_of_ble_eq_true rfl)⟩ (w_rec hW (oRw (rwH st1)).1 ((oRw (rwH st1)).2 E _ _) rfl) rfl hl.1 rfl (Nat.le_of_ble_eq_true rfl) dX6_hear_62 ⟨Nat.le_refl _, Nat.le_refl _⟩) hV (fun H locs hW hV => ?_)
    exact w_retI hx hb hr hlocks hW hV (Prod.mk.inj (Option.some.inj hf)).1 (Prod.mk.inj (Option.some.inj hf)).2 dX6_hear_65
  obtain ⟨H, hH⟩ : ∃ H : Heap, H = s.heap := ⟨_, rfl⟩
  obtain ⟨locs, hlocs⟩ : ∃ locs : List Loc, locs = [] := ⟨_, rfl⟩
  rw [show (W p l e (headSpec (.code yX6_hear cX6_hear 4 (some .int) :: BIG) ({ frames := 1, cells := 0, slots := 0, locals := 25 })).room s m ([.ref (ead E 1), .int a1, .int a2, .int a3] : List Value).toArray below meth c s.heap [] 0 0) = W p l e (headSpec (.code yX6_hear cX6_hear 4 (some .int) :: BIG) ({ frames := 1, cells := 0, slots := 0, locals := 25 })).room s m ([.ref (ead E 1), .int a1, .int a2, .int a3] : List Value).toArray below meth c H locs 0 0 by rw [hH, hlocs]]
  have hV : va_S (eA E) s.heap H locs := by rw [hH, hlocs]; exact hV
  have hW : Wd E μ s H := by rw [hH]; exact hW
  unfold f_X6_hear at hf
  refine lv_iload_n hx hb dX6_hear_0 rfl (lv_at hl 1 rfl) ?_
  refine lv_iconst (v := (-1 : Int32)) hx hb dX6_hear_1 (by decide) ?_
  refine lv_icmp_ne (tgt := 16) hx hb dX6_hear_2 (by decide) (fun y21 => ?_) (fun y21 => ?_)
  · have hf := op_f y21 hf
    refine lv_aload_n hx hb dX6_hear_16 rfl (lv_at hl 0 rfl) ?_
    refine gf_RX6_12 hx hb hB hown hW dX6_hear_17 ?_
    refine lv_iload_n hx hb dX6_hear_20 rfl (lv_at hl 1 rfl) ?_
    obtain ⟨v22, e_23, hf⟩ := op_none hf
    refine w_callN (rn_RX6_85 (As := [.int a1]) hx hb hml hown hB hW hZ hV (k_X2_has l E _ 100 a1 st1 v22 e_23) rfl rfl ⟨(Nat.le_of_ble_eq_true rfl), (Nat.le_of_ble_eq_true rfl)⟩ (w_rec hW (oSt st1).1 ((oSt st1).2 E _ _) rfl) rfl hl.1 rfl (Nat.le_of_ble_eq_true rfl) dX6_hear_21 ⟨Nat.le_refl _, Nat.le_refl _⟩) hV (fun H locs hn_v22 hW hV => ?_)
    refine lv_if_ne (tgt := 29) hx hb dX6_hear_24 (by decide) (fun y24 => ?_) (fun y24 => ?_)
    · have hf := op_f y24 hf
      refine lv_iload_n hx hb dX6_hear_29 rfl (lv_at hl 2 rfl) ?_
      refine lv_i2l hx hb dX6_hear_30 rfl ?_
      refine lv_lconst (v := (0 : Int64)) hx hb dX6_hear_31 (by decide) ?_
      refine lv_ldc2 (v := (60 : Int64)) hx hb hown (hB _ q_20c81cf4) dX6_hear_32 ?_
      obtain ⟨v25, e_26, hf⟩ := op_none hf
      refine w_callN (rn_RX6_62 (As := [.long a2.toInt64, .long (0 : Int64), .long (60 : Int64)]) hx hb hml hown hB hW hZ hV (k_X6_within l E _ a2.toInt64 (0 : Int64) (60 : Int64) v25 e_26) rfl rfl ⟨(Nat.le_of_ble_eq_true rfl), (Nat.le_of_ble_eq_true rfl)⟩ rfl hl.1 rfl (Nat.le_of_ble_eq_true rfl) dX6_hear_35 ⟨Nat.le_refl _, Nat.le_refl _⟩) hV (fun H locs hn_v25 hW hV => ?_)
      refine lv_if_ne (tgt := 44) hx hb dX6_hear_38 (by decide) (fun y27 => ?_) (fun y27 => ?_)
      · have hf := op_f y27 hf
        refine lv_aload_n hx hb dX6_hear_44 rfl (lv_at hl 0 rfl) ?_
        refine gf_RX6_12 hx hb hB hown hW dX6_hear_45 ?_
        refine gf_RX6_169 hx hb hB hown hW st1 dX6_hear_48 ?_
        refine lv_iload_n hx hb dX6_hear_51 rfl (lv_at hl 1 rfl) ?_
        refine lv_iload_n hx hb dX6_hear_52 rfl (lv_at hl 2 rfl) ?_
        refine lv_iload_n hx hb dX6_hear_53 rfl (lv_at hl 3 rfl) ?_
        refine lv_if_eq (tgt := 61) hx hb dX6_hear_54 (by decide) (fun y28 => ?_) (fun y28 => ?_)
        · have hf := op_t y28 hf
          refine lv_iconst (v := (0 : Int32)) hx hb dX6_hear_61 (by decide) ?_
          exact c_62 μ (0 : Int32) a2 a1 hf H locs ls hW hV (lv_sub hl [] rfl)
        · have hf := op_f y28 hf
          refine lv_iconst (v := (1 : Int32)) hx hb dX6_hear_57 (by decide) ?_
          refine lv_goto (tgt := 62) hx hb dX6_hear_58 (by decide) ?_
          exact c_62 μ (1 : Int32) a2 a1 hf H locs ls hW hV (lv_sub hl [] rfl)
      · have hf := op_t y27 hf
        refine lv_bipush (v := (-2 : Int32)) hx hb dX6_hear_41 (by decide) ?_
        exact w_retI hx hb hr hlocks hW hV (Prod.mk.inj (Option.some.inj hf)).1 (Prod.mk.inj (Option.some.inj hf)).2 dX6_hear_43
    · have hf := op_t y24 hf
      refine lv_iconst (v := (-1 : Int32)) hx hb dX6_hear_27 (by decide) ?_
      exact w_retI hx hb hr hlocks hW hV (Prod.mk.inj (Option.some.inj hf)).1 (Prod.mk.inj (Option.some.inj hf)).2 dX6_hear_28
  · have hf := op_t y21 hf
    refine lv_aload_n hx hb dX6_hear_5 rfl (lv_at hl 0 rfl) ?_
    refine gf_RX6_12 hx hb hB hown hW dX6_hear_6 ?_
    refine gf_RX6_169 hx hb hB hown hW st1 dX6_hear_9 ?_
    obtain ⟨p32, e_31, hf⟩ := op_none hf
    refine w_callI (rn_RX6_173 (As := []) hx hb hml hown hB hW hZ hV (k_X1_empty l E _ (100 + 10) 6 (rwH st1) p32.1 p32.2 e_31) rfl rfl ⟨(Nat.le_of_ble_eq_true rfl), (Nat.le_of_ble_eq_true rfl)⟩ (w_rec hW (oRw (rwH st1)).1 ((oRw (rwH st1)).2 E _ _) rfl) rfl hl.1 rfl (Nat.le_of_ble_eq_true rfl) dX6_hear_12 ⟨Nat.le_refl _, Nat.le_refl _⟩) hV (fun H locs hW hV => ?_)
    exact w_retI hx hb hr hlocks hW hV (Prod.mk.inj (Option.some.inj hf)).1 (Prod.mk.inj (Option.some.inj hf)).2 dX6_hear_15
set_option maxHeartbeats 8000000 in
set_option maxRecDepth 100000 in
theorem k_X2_agrees (l : Launch) (E : WE) (μ : Mem) (k0 : Nat) (a1 : Int32) (h0 : isSt k0) (r : Int32) (hf : f_X2_agrees μ k0 a1 = some r) : Met l yX2_agrees (.code yX2_agrees cX2_agrees 4 (some .boolean) :: BIG) ({ frames := 1, cells := 0, slots := 0, locals := 23 }) (PW E μ [.ref (ead E k0), .int a1]) (QN E .boolean r μ) 0 0 (eA E) := by
  refine Met.ofW (cc := cX2_agrees) (maxL := 4) (ret := (some .boolean)) (by decide) rfl ?_
  intro p e s m args below meth c s₁ B hml hv
  obtain ⟨rfl, hW, hZ⟩ := hv
  have hx := B.exec
  have hb := B.bytes
  have hr := B.returns
  have hB : ∀ w ∈ BIG, w.before _ s = true := fun w h => atoms_spec (ws := (.code yX2_agrees cX2_agrees 4 (some .boolean) :: BIG)) B.pre w (List.mem_cons_of_mem _ h)
  have hown : s.vm.findClass RX2 = some m.cls := findClass_of_methodNamed B.named
  have hlocks := B.notSynchronized
  have hV : va_S (eA E) s.heap s.heap [] := va_S.rf
  have hl := lv_entry ([.ref (ead E k0), .int a1]) (n := 4) (Nat.le_of_ble_eq_true rfl)
  rw [lg_entry_eq]
  generalize (lg_sl ([.ref (ead E k0), .int a1]) ++ List.replicate (4 - (lg_sl ([.ref (ead E k0), .int a1])).length) Slot.unset).toArray = ls at hl ⊢
  have hl : lv_has ls 4 [(0, .ref (ead E k0)), (1, .int a1)] := hl
  have c_2 : ∀ (n_2 : Nat) (b1_2 : Int32) (b2_2 : Int32) , f_X2_agrees_2 μ k0 n_2 b1_2 b2_2 = some r → ∀ (H : Heap) (locs : List Loc) (ls : Array Slot), Wd E μ s H → va_S (eA E) s.heap H locs → lv_has ls 4 [(0, .ref (ead E k0)), (1, .int b1_2), (2, .int b2_2)] → W p l e (headSpec (.code yX2_agrees cX2_agrees 4 (some .boolean) :: BIG) ({ frames := 1, cells := 0, slots := 0, locals := 23 })).room s m ([.ref (ead E k0), .int a1] : List Value).toArray below meth c H locs 0 0 (MQ below (QN E .boolean r μ) ([.ref (ead E k0), .int a1] : List Value).toArray s 0 0 (eA E)) (F0 m 2 ls []) := by
    intro n_2
    induction n_2 with
    | zero =>
      intro b1_2 b2_2 hf H locs ls hW hV hl
      cases hf
    | succ n_2 ih_2 =>
      have c_60 : ∀ (b1_60 : Int32) (b2_60 : Int32) , f_X2_agrees_60 μ k0 (fun z0 z1 => f_X2_agrees_2 μ k0 n_2 z0 z1) b1_60 b2_60 = some r → ∀ (H : Heap) (locs : List Loc) (ls : Array Slot), Wd E μ s H → va_S (eA E) s.heap H locs → lv_has ls 4 [(0, .ref (ead E k0)), (1, .int b1_60), (2, .int b2_60)] → W p l e (headSpec (.code yX2_agrees cX2_agrees 4 (some .boolean) :: BIG) ({ frames := 1, cells := 0, slots := 0, locals := 23 })).room s m ([.ref (ead E k0), .int a1] : List Value).toArray below meth c H locs 0 0 (MQ below (QN E .boolean r μ) ([.ref (ead E k0), .int a1] : List Value).toArray s 0 0 (eA E)) (F0 m 60 ls []) := by
        intro b1_60 b2_60 hf H locs ls hW hV hl
        unfold f_X2_agrees_60 at hf
        obtain ⟨v12, e_v12, hf⟩ := op_none hf
        refine lv_iinc (v := v12) (lv' := [(2, .int v12), (0, .ref (ead E k0)), (1, .int b1_60)]) hx hb dX2_agrees_60 hl (k := 2) rfl (by rw [← Option.some.inj e_v12]; rfl) (by decide) rfl (fun ls hl => ?_)
        refine lv_goto (tgt := 2) hx hb dX2_agrees_63 (by decide) ?_
        exact ih_2 b1_60 v12 hf H locs ls hW hV (lv_sub hl [1, 2, 0] rfl)
      have c_55 : ∀ (b1_55 : Int32) (b2_55 : Int32) (s0_55 : Int32) (s1_55 : Int32) , f_X2_agrees_55 μ k0 (fun z0 z1 => f_X2_agrees_2 μ k0 n_2 z0 z1) b1_55 b2_55 s0_55 s1_55 = some r → ∀ (H : Heap) (locs : List Loc) (ls : Array Slot), Wd E μ s H → va_S (eA E) s.heap H locs → lv_has ls 4 [(0, .ref (ead E k0)), (1, .int b1_55), (2, .int b2_55)] → W p l e (headSpec (.code yX2_agrees cX2_agrees 4 (some .boolean) :: BIG) ({ frames := 1, cells := 0, slots := 0, locals := 23 })).room s m ([.ref (ead E k0), .int a1] : List Value).toArray below meth c H locs 0 0 (MQ below (QN E .boolean r μ) ([.ref (ead E k0), .int a1] : List Value).toArray s 0 0 (eA E)) (F0 m 55 ls [.int s0_55, .int s1_55]) := by
        intro b1_55 b2_55 s0_55 s1_55 hf H locs ls hW hV hl
        unfold f_X2_agrees_55 at hf
        refine lv_icmp_eq (tgt := 60) hx hb dX2_agrees_55 (by decide) (fun y13 => ?_) (fun y13 => ?_)
        · have hf := op_t y13 hf
          exact c_60 b1_55 b2_55 hf H locs ls hW hV (lv_sub hl [0, 1, 2] rfl)
        · have hf := op_f y13 hf
          refine lv_iconst (v := (0 : Int32)) hx hb dX2_agrees_58 (by decide) ?_
          exact w_retN hx hb hr hlocks hW hV (by decide) (Option.some.inj hf) rfl dX2_agrees_59
      intro b1_2 b2_2 hf H locs ls hW hV hl
      rw [f_X2_agrees_2] at hf
      refine lv_iload_n hx hb dX2_agrees_2 rfl (lv_at hl 2 rfl) ?_
      refine lv_aload_n hx hb dX2_agrees_3 rfl (lv_at hl 0 rfl) ?_
      refine gf_RX2_34 hx hb hB hown hW h0 dX2_agrees_4 ?_
      refine gf_RX2_97 hx hb hB hown hW (rwH h0) dX2_agrees_7 ?_
      refine lv_icmp_ge (tgt := 66) hx hb dX2_agrees_10 (by decide) (fun y14 => ?_) (fun y14 => ?_)
      · have hf := op_t y14 hf
        refine lv_iconst (v := (1 : Int32)) hx hb dX2_agrees_66 (by decide) ?_
        exact w_retN hx hb hr hlocks hW hV (by decide) (Option.some.inj hf) rfl dX2_agrees_67
      · have hf := op_f y14 hf
        refine lv_aload_n hx hb dX2_agrees_13 rfl (lv_at hl 0 rfl) ?_
        refine gf_RX2_34 hx hb hB hown hW h0 dX2_agrees_14 ?_
        refine gf_RX2_100 hx hb hB hown hW (rwH h0) dX2_agrees_17 ?_
        refine lv_iload_n hx hb dX2_agrees_20 rfl (lv_at hl 2 rfl) ?_
        obtain ⟨j15, e_j15, hf⟩ := op_none hf
        refine w_aald (j := 4) hx hb hW (rRw (rwH h0)).1 ((rRw (rwH h0)).2 E _ _) rfl rfl e_j15 dX2_agrees_21 ?_
        refine lv_astore_n (i := 3) (lv' := [(3, .ref (ead E ((k0 + 10) + 1 + 1 + j15))), (0, .ref (ead E k0)), (1, .int b1_2), (2, .int b2_2)]) hx hb dX2_agrees_22 rfl hl (by decide) rfl (fun ls hl => ?_)
        refine lv_aload_n hx hb dX2_agrees_23 rfl (lv_at hl 0 rfl) ?_
        refine lv_iconst (v := (0 : Int32)) hx hb dX2_agrees_24 (by decide) ?_
        obtain ⟨v16, e_v16, hf⟩ := op_none hf
        refine w_iald hx hb hW (iRw (rwH h0) (aix_lt e_j15)).1 ((iRw (rwH h0) (aix_lt e_j15)).2 E _ _) e_v16 dX2_agrees_25 ?_
        refine lv_iload_n hx hb dX2_agrees_26 rfl (lv_at hl 2 rfl) ?_
        refine lv_icmp_ne (tgt := 60) hx hb dX2_agrees_27 (by decide) (fun y17 => ?_) (fun y17 => ?_)
        · have hf := op_f y17 hf
          exact c_60 b1_2 b2_2 hf H locs ls hW hV (lv_sub hl [1, 2, 3] rfl)
        · have hf := op_t y17 hf
          refine lv_aload_n hx hb dX2_agrees_30 rfl (lv_at hl 1 rfl) ?_
          refine lv_iload_n hx hb dX2_agrees_31 rfl (lv_at hl 2 rfl) ?_
          refine lv_aload_n hx hb dX2_agrees_32 rfl (lv_at hl 1 rfl) ?_
          refine gf_RX2_23 hx hb hB hown hW h0 dX2_agrees_33 ?_
          refine lv_aload_n hx hb dX2_agrees_36 rfl (lv_at hl 0 rfl) ?_
          refine lv_iconst (v := (1 : Int32)) hx hb dX2_agrees_37 (by decide) ?_
          obtain ⟨v18, e_v18, hf⟩ := op_none hf
          refine w_iald hx hb hW (iRw (rwH h0) (aix_lt e_j15)).1 ((iRw (rwH h0) (aix_lt e_j15)).2 E _ _) e_v18 dX2_agrees_38 ?_
          refine lv_iadd hx hb dX2_agrees_39 ?_
          obtain ⟨v19, e_20, hf⟩ := op_none hf
          refine w_callN (rn_RX2_78 (As := [.int b1_2, .int ((gI μ k0 3) + v18)]) hx hb hml hown hB hW hZ hV (k_X2_isDue l E _ k0 b1_2 ((gI μ k0 3) + v18) h0 v19 e_20) rfl rfl ⟨(Nat.le_of_ble_eq_true rfl), (Nat.le_of_ble_eq_true rfl)⟩ (w_rec hW (oSt h0).1 ((oSt h0).2 E _ _) rfl) rfl hl.1 rfl (Nat.le_of_ble_eq_true rfl) dX2_agrees_40 ⟨Nat.le_refl _, Nat.le_refl _⟩) hV (fun H locs hn_v19 hW hV => ?_)
          refine lv_aload_n hx hb dX2_agrees_43 rfl (lv_at hl 0 rfl) ?_
          refine lv_iconst (v := (2 : Int32)) hx hb dX2_agrees_44 (by decide) ?_
          obtain ⟨v21, e_v21, hf⟩ := op_none hf
          refine w_iald hx hb hW (iRw (rwH h0) (aix_lt e_j15)).1 ((iRw (rwH h0) (aix_lt e_j15)).2 E _ _) e_v21 dX2_agrees_45 ?_
          refine lv_iconst (v := (1 : Int32)) hx hb dX2_agrees_46 (by decide) ?_
          refine lv_icmp_ne (tgt := 54) hx hb dX2_agrees_47 (by decide) (fun y22 => ?_) (fun y22 => ?_)
          · have hf := op_f y22 hf
            refine lv_iconst (v := (0 : Int32)) hx hb dX2_agrees_54 (by decide) ?_
            exact c_55 b1_2 b2_2 (0 : Int32) v19 hf H locs ls hW hV (lv_sub hl [1, 2, 3] rfl)
          · have hf := op_t y22 hf
            refine lv_iconst (v := (1 : Int32)) hx hb dX2_agrees_50 (by decide) ?_
            refine lv_goto (tgt := 55) hx hb dX2_agrees_51 (by decide) ?_
            exact c_55 b1_2 b2_2 (1 : Int32) v19 hf H locs ls hW hV (lv_sub hl [1, 2, 3] rfl)
  obtain ⟨H, hH⟩ : ∃ H : Heap, H = s.heap := ⟨_, rfl⟩
  obtain ⟨locs, hlocs⟩ : ∃ locs : List Loc, locs = [] := ⟨_, rfl⟩
  rw [show (W p l e (headSpec (.code yX2_agrees cX2_agrees 4 (some .boolean) :: BIG) ({ frames := 1, cells := 0, slots := 0, locals := 23 })).room s m ([.ref (ead E k0), .int a1] : List Value).toArray below meth c s.heap [] 0 0) = W p l e (headSpec (.code yX2_agrees cX2_agrees 4 (some .boolean) :: BIG) ({ frames := 1, cells := 0, slots := 0, locals := 23 })).room s m ([.ref (ead E k0), .int a1] : List Value).toArray below meth c H locs 0 0 by rw [hH, hlocs]]
  have hV : va_S (eA E) s.heap H locs := by rw [hH, hlocs]; exact hV
  have hW : Wd E μ s H := by rw [hH]; exact hW
  unfold f_X2_agrees at hf
  refine lv_iconst (v := (0 : Int32)) hx hb dX2_agrees_0 (by decide) ?_
  refine lv_istore_n (i := 2) (lv' := [(2, .int (0 : Int32)), (0, .ref (ead E k0)), (1, .int a1)]) hx hb dX2_agrees_1 rfl hl (by decide) rfl (fun ls hl => ?_)
  exact c_2 FU a1 (0 : Int32) hf H locs ls hW hV (lv_sub hl [1, 2, 0] rfl)
set_option maxHeartbeats 8000000 in
set_option maxRecDepth 100000 in
theorem k_X6_fitting (l : Launch) (E : WE) (μ : Mem) (a1 : Int32) (a2 : Int32) (a3 : Int32) (a4 : Int32) (a5 : Int32) (r : Int32) (μ' : Mem) (hf : f_X6_fitting μ a1 a2 a3 a4 a5 = some (r, μ')) : Met l yX6_fitting (.code yX6_fitting cX6_fitting 9 (some .int) :: BIG) ({ frames := 4, cells := 0, slots := 0, locals := 102 }) (PW E μ [.ref (ead E 1), .int a1, .int a2, .int a3, .int a4, .int a5]) (QI E r μ') 0 0 (eA E) := by
  refine Met.ofW (cc := cX6_fitting) (maxL := 9) (ret := (some .int)) (by decide) rfl ?_
  intro p e s m args below meth c s₁ B hml hv
  obtain ⟨rfl, hW, hZ⟩ := hv
  have hx := B.exec
  have hb := B.bytes
  have hr := B.returns
  have hB : ∀ w ∈ BIG, w.before _ s = true := fun w h => atoms_spec (ws := (.code yX6_fitting cX6_fitting 9 (some .int) :: BIG)) B.pre w (List.mem_cons_of_mem _ h)
  have hown : s.vm.findClass RX6 = some m.cls := findClass_of_methodNamed B.named
  have hlocks := B.notSynchronized
  have hV : va_S (eA E) s.heap s.heap [] := va_S.rf
  have hl := lv_entry ([.ref (ead E 1), .int a1, .int a2, .int a3, .int a4, .int a5]) (n := 9) (Nat.le_of_ble_eq_true rfl)
  rw [lg_entry_eq]
  generalize (lg_sl ([.ref (ead E 1), .int a1, .int a2, .int a3, .int a4, .int a5]) ++ List.replicate (9 - (lg_sl ([.ref (ead E 1), .int a1, .int a2, .int a3, .int a4, .int a5])).length) Slot.unset).toArray = ls at hl ⊢
  have hl : lv_has ls 9 [(0, .ref (ead E 1)), (1, .int a1), (2, .int a2), (3, .int a3), (4, .int a4), (5, .int a5)] := hl
  have c_27 : ∀ (n_27 : Nat) (μ_27 : Mem) (b1_27 : Int32) (b2_27 : Int32) (b4_27 : Int32) (b5_27 : Int32) (b6_27 : Nat) (b7_27 : Int32) (b8_27 : Int32) (hb6_27 : b6_27 = 0 ∨ isSo b6_27) , f_X6_fitting_27 n_27 μ_27 b1_27 b2_27 b4_27 b5_27 b6_27 b7_27 b8_27 = some (r, μ') → ∀ (H : Heap) (locs : List Loc) (ls : Array Slot), Wd E μ_27 s H → va_S (eA E) s.heap H locs → lv_has ls 9 [(0, .ref (ead E 1)), (1, .int b1_27), (2, .int b2_27), (4, .int b4_27), (5, .int b5_27), (6, rv E b6_27), (7, .int b7_27), (8, .int b8_27)] → W p l e (headSpec (.code yX6_fitting cX6_fitting 9 (some .int) :: BIG) ({ frames := 4, cells := 0, slots := 0, locals := 102 })).room s m ([.ref (ead E 1), .int a1, .int a2, .int a3, .int a4, .int a5] : List Value).toArray below meth c H locs 0 0 (MQ below (QI E r μ') ([.ref (ead E 1), .int a1, .int a2, .int a3, .int a4, .int a5] : List Value).toArray s 0 0 (eA E)) (F0 m 27 ls []) := by
    intro n_27
    induction n_27 with
    | zero =>
      intro μ_27 b1_27 b2_27 b4_27 b5_27 b6_27 b7_27 b8_27 hb6_27 hf H locs ls hW hV hl
      cases hf
    | succ n_27 ih_27 =>
      have c_79 : ∀ (μ_79 : Mem) (b1_79 : Int32) (b2_79 : Int32) (b4_79 : Int32) (b5_79 : Int32) (b6_79 : Nat) (b7_79 : Int32) (b8_79 : Int32) (hb6_79 : b6_79 = 0 ∨ isSo b6_79) , f_X6_fitting_79 (fun μ z0 z1 z2 z3 z4 z5 z6 => f_X6_fitting_27 n_27 μ z0 z1 z2 z3 z4 z5 z6) μ_79 b1_79 b2_79 b4_79 b5_79 b6_79 b7_79 b8_79 = some (r, μ') → ∀ (H : Heap) (locs : List Loc) (ls : Array Slot), Wd E μ_79 s H → va_S (eA E) s.heap H locs → lv_has ls 9 [(0, .ref (ead E 1)), (1, .int b1_79), (2, .int b2_79), (4, .int b4_79), (5, .int b5_79), (6, rv E b6_79), (7, .int b7_79), (8, .int b8_79)] → W p l e (headSpec (.code yX6_fitting cX6_fitting 9 (some .int) :: BIG) ({ frames := 4, cells := 0, slots := 0, locals := 102 })).room s m ([.ref (ead E 1), .int a1, .int a2, .int a3, .int a4, .int a5] : List Value).toArray below meth c H locs 0 0 (MQ below (QI E r μ') ([.ref (ead E 1), .int a1, .int a2, .int a3, .int a4, .int a5] : List Value).toArray s 0 0 (eA E)) (F0 m 79 ls []) := by
        intro μ_79 b1_79 b2_79 b4_79 b5_79 b6_79 b7_79 b8_79 hb6_79 hf H locs ls hW hV hl
        unfold f_X6_fitting_79 at hf
        obtain ⟨v17, e_v17, hf⟩ := op_none hf
        refine lv_iinc (v := v17) (lv' := [(8, .int v17), (0, .ref (ead E 1)), (1, .int b1_79), (2, .int b2_79), (4, .int b4_79), (5, .int b5_79), (6, rv E b6_79), (7, .int b7_79)]) hx hb dX6_fitting_79 hl (k := 7) rfl (by rw [← Option.some.inj e_v17]; rfl) (by decide) (by first | (simp [List.filter, rv_cat]; done) | (simp [List.filter, rv_cat]; rfl)) (fun ls hl => ?_)
        refine lv_goto (tgt := 27) hx hb dX6_fitting_82 (by decide) ?_
        exact ih_27 μ_79 b1_79 b2_79 b4_79 b5_79 b6_79 b7_79 v17 hb6_79 hf H locs ls hW hV (lv_sub hl [1, 2, 3, 4, 5, 6, 7, 0] rfl)
      intro μ_27 b1_27 b2_27 b4_27 b5_27 b6_27 b7_27 b8_27 hb6_27 hf H locs ls hW hV hl
      rw [f_X6_fitting_27] at hf
      refine lv_iload hx hb dX6_fitting_27 (lv_at hl 7 rfl) ?_
      refine lv_iload hx hb dX6_fitting_29 (lv_at hl 3 rfl) ?_
      refine lv_icmp_gt (tgt := 85) hx hb dX6_fitting_31 (by decide) (fun y18 => ?_) (fun y18 => ?_)
      · have hf := op_t y18 hf
        refine lv_iload hx hb dX6_fitting_85 (lv_at hl 4 rfl) ?_
        refine lv_if_eq (tgt := 95) hx hb dX6_fitting_87 (by decide) (fun y19 => ?_) (fun y19 => ?_)
        · have hf := op_t y19 hf
          refine lv_bipush (v := (-5 : Int32)) hx hb dX6_fitting_95 (by decide) ?_
          exact w_retI hx hb hr hlocks hW hV (Prod.mk.inj (Option.some.inj hf)).1 (Prod.mk.inj (Option.some.inj hf)).2 dX6_fitting_97
        · have hf := op_f y19 hf
          refine lv_iload hx hb dX6_fitting_90 (lv_at hl 6 rfl) ?_
          refine lv_goto (tgt := 97) hx hb dX6_fitting_92 (by decide) ?_
          exact w_retI hx hb hr hlocks hW hV (Prod.mk.inj (Option.some.inj hf)).1 (Prod.mk.inj (Option.some.inj hf)).2 dX6_fitting_97
      · have hf := op_f y18 hf
        refine lv_aload_n hx hb dX6_fitting_34 rfl (lv_at hl 0 rfl) ?_
        refine gf_RX6_21 hx hb hB hown hW dX6_fitting_35 ?_
        refine gf_RX6_75 hx hb hB hown hW st3 dX6_fitting_38 ?_
        refine lv_iload_n hx hb dX6_fitting_41 rfl (lv_at hl 1 rfl) ?_
        obtain ⟨j20, e_j20, hf⟩ := op_none hf
        refine w_aald (j := 4) hx hb hW (rSt st3).1 ((rSt st3).2 E _ _) rfl rfl e_j20 dX6_fitting_42 ?_
        refine lv_iload_n hx hb dX6_fitting_43 rfl (lv_at hl 2 rfl) ?_
        refine lv_iload hx hb dX6_fitting_44 (lv_at hl 7 rfl) ?_
        obtain ⟨μ21, e_μ21, hf⟩ := op_none hf
        refine w_iast hx hb hW hV (iEg st3 (aix_lt e_j20)).1 (fun f => (iEg st3 (aix_lt e_j20)).2 E f _) e_μ21 dX6_fitting_46 (fun H locs hW hV => ?_)
        refine lv_aload_n hx hb dX6_fitting_47 rfl (lv_at hl 0 rfl) ?_
        refine gf_RX6_21 hx hb hB hown hW dX6_fitting_48 ?_
        refine lv_iload_n hx hb dX6_fitting_51 rfl (lv_at hl 1 rfl) ?_
        refine w_aloadQ hx hb dX6_fitting_52 (lv_at hl 5 rfl) ?_
        obtain ⟨μ22, e_23, hf⟩ := op_none hf
        refine w_callV (rn_RX6_275 (As := [.int b1_27, rv E b6_27]) hx hb hml hown hB hW hZ hV (k_X2_reckonOne l E _ 300 b1_27 b6_27 st3 hb6_27 μ22 e_23) rfl rfl ⟨(Nat.le_of_ble_eq_true rfl), (Nat.le_of_ble_eq_true rfl)⟩ (w_rec hW (oSt st3).1 ((oSt st3).2 E _ _) rfl) rfl hl.1 rfl (Nat.le_of_ble_eq_true rfl) dX6_fitting_54 ⟨Nat.le_refl _, Nat.le_refl _⟩) hV (fun H locs hW hV => ?_)
        refine lv_aload_n hx hb dX6_fitting_57 rfl (lv_at hl 0 rfl) ?_
        refine gf_RX6_21 hx hb hB hown hW dX6_fitting_58 ?_
        refine lv_iload_n hx hb dX6_fitting_61 rfl (lv_at hl 1 rfl) ?_
        obtain ⟨v24, e_25, hf⟩ := op_none hf
        refine w_callN (rn_RX6_279 (As := [.int b1_27]) hx hb hml hown hB hW hZ hV (k_X2_agrees l E _ 300 b1_27 st3 v24 e_25) rfl rfl ⟨(Nat.le_of_ble_eq_true rfl), (Nat.le_of_ble_eq_true rfl)⟩ (w_rec hW (oSt st3).1 ((oSt st3).2 E _ _) rfl) rfl hl.1 rfl (Nat.le_of_ble_eq_true rfl) dX6_fitting_62 ⟨Nat.le_refl _, Nat.le_refl _⟩) hV (fun H locs hn_v24 hW hV => ?_)
        refine lv_if_eq (tgt := 79) hx hb dX6_fitting_65 (by decide) (fun y26 => ?_) (fun y26 => ?_)
        · have hf := op_t y26 hf
          exact c_79 μ22 b1_27 b2_27 b4_27 b5_27 b6_27 b7_27 b8_27 hb6_27 hf H locs ls hW hV (lv_sub hl [0, 1, 2, 3, 4, 5, 6, 7] rfl)
        · have hf := op_f y26 hf
          refine lv_iload hx hb dX6_fitting_68 (lv_at hl 4 rfl) ?_
          refine lv_if_ne (tgt := 76) hx hb dX6_fitting_70 (by decide) (fun y27 => ?_) (fun y27 => ?_)
          · have hf := op_f y27 hf
            obtain ⟨v28, e_v28, hf⟩ := op_none hf
            refine lv_iinc (v := v28) (lv' := [(7, .int v28), (0, .ref (ead E 1)), (1, .int b1_27), (2, .int b2_27), (4, .int b4_27), (5, .int b5_27), (6, rv E b6_27), (8, .int b8_27)]) hx hb dX6_fitting_76 hl (k := 6) rfl (by rw [← Option.some.inj e_v28]; rfl) (by decide) (by first | (simp [List.filter, rv_cat]; done) | (simp [List.filter, rv_cat]; rfl)) (fun ls hl => ?_)
            exact c_79 μ22 b1_27 b2_27 b4_27 b5_27 b6_27 v28 b8_27 hb6_27 hf H locs ls hW hV (lv_sub hl [1, 2, 3, 4, 5, 6, 0, 7] rfl)
          · have hf := op_t y27 hf
            refine lv_iload hx hb dX6_fitting_73 (lv_at hl 7 rfl) ?_
            exact w_retI hx hb hr hlocks hW hV (Prod.mk.inj (Option.some.inj hf)).1 (Prod.mk.inj (Option.some.inj hf)).2 dX6_fitting_75
  obtain ⟨H, hH⟩ : ∃ H : Heap, H = s.heap := ⟨_, rfl⟩
  obtain ⟨locs, hlocs⟩ : ∃ locs : List Loc, locs = [] := ⟨_, rfl⟩
  rw [show (W p l e (headSpec (.code yX6_fitting cX6_fitting 9 (some .int) :: BIG) ({ frames := 4, cells := 0, slots := 0, locals := 102 })).room s m ([.ref (ead E 1), .int a1, .int a2, .int a3, .int a4, .int a5] : List Value).toArray below meth c s.heap [] 0 0) = W p l e (headSpec (.code yX6_fitting cX6_fitting 9 (some .int) :: BIG) ({ frames := 4, cells := 0, slots := 0, locals := 102 })).room s m ([.ref (ead E 1), .int a1, .int a2, .int a3, .int a4, .int a5] : List Value).toArray below meth c H locs 0 0 by rw [hH, hlocs]]
  have hV : va_S (eA E) s.heap H locs := by rw [hH, hlocs]; exact hV
  have hW : Wd E μ s H := by rw [hH]; exact hW
  unfold f_X6_fitting at hf
  refine lv_aload_n hx hb dX6_fitting_0 rfl (lv_at hl 0 rfl) ?_
  refine gf_RX6_21 hx hb hB hown hW dX6_fitting_1 ?_
  refine lv_aload_n hx hb dX6_fitting_4 rfl (lv_at hl 0 rfl) ?_
  refine gf_RX6_12 hx hb hB hown hW dX6_fitting_5 ?_
  obtain ⟨μ29, e_30, hf⟩ := op_none hf
  refine w_callV (rn_RX6_199 (As := [.ref (ead E 100)]) hx hb hml hown hB hW hZ hV (k_X2_becomes l E _ 300 100 st3 st1 μ29 e_30) rfl rfl ⟨(Nat.le_of_ble_eq_true rfl), (Nat.le_of_ble_eq_true rfl)⟩ (w_rec hW (oSt st3).1 ((oSt st3).2 E _ _) rfl) rfl hl.1 rfl (Nat.le_of_ble_eq_true rfl) dX6_fitting_8 ⟨Nat.le_refl _, Nat.le_refl _⟩) hV (fun H locs hW hV => ?_)
  refine lv_aload_n hx hb dX6_fitting_11 rfl (lv_at hl 0 rfl) ?_
  refine lv_aload_n hx hb dX6_fitting_12 rfl (lv_at hl 0 rfl) ?_
  refine gf_RX6_21 hx hb hB hown hW dX6_fitting_13 ?_
  obtain ⟨v31, e_32, hf⟩ := op_none hf
  refine w_callR (rn_RX6_124 (As := [.ref (ead E 300)]) hx hb hml hown hB hW hZ hV (k_X6_holding l E _ 300 st3 v31 e_32) rfl rfl ⟨(Nat.le_of_ble_eq_true rfl), (Nat.le_of_ble_eq_true rfl)⟩ (w_rec hW oX.1 (oX.2 E _ _) rfl) rfl hl.1 rfl (Nat.le_of_ble_eq_true rfl) dX6_fitting_16 ⟨Nat.le_refl _, Nat.le_refl _⟩) hV (fun H locs hW hV => ?_)
  have hq_v31 := p_X6_holding e_32
  refine w_astoreQ (i := 6) (lv' := [(6, rv E v31), (0, .ref (ead E 1)), (1, .int a1), (2, .int a2), (3, .int a3), (4, .int a4), (5, .int a5)]) hx hb dX6_fitting_19 hl (by decide) rfl (fun ls hl => ?_)
  refine lv_iconst (v := (0 : Int32)) hx hb dX6_fitting_21 (by decide) ?_
  refine lv_istore (i := 7) (lv' := [(7, .int (0 : Int32)), (6, rv E v31), (0, .ref (ead E 1)), (1, .int a1), (2, .int a2), (3, .int a3), (4, .int a4), (5, .int a5)]) hx hb dX6_fitting_22 hl (by decide) (by first | (simp [List.filter, rv_cat]; done) | (simp [List.filter, rv_cat]; rfl)) (fun ls hl => ?_)
  refine lv_iload_n hx hb dX6_fitting_24 rfl (lv_at hl 5 rfl) ?_
  refine lv_istore (i := 8) (lv' := [(8, .int a3), (7, .int (0 : Int32)), (6, rv E v31), (0, .ref (ead E 1)), (1, .int a1), (2, .int a2), (3, .int a3), (4, .int a4), (5, .int a5)]) hx hb dX6_fitting_25 hl (by decide) (by first | (simp [List.filter, rv_cat]; done) | (simp [List.filter, rv_cat]; rfl)) (fun ls hl => ?_)
  exact c_27 FU μ29 a1 a2 a4 a5 v31 (0 : Int32) a3 hq_v31 hf H locs ls hW hV (lv_sub hl [3, 4, 5, 7, 8, 2, 1, 0] rfl)
set_option maxHeartbeats 8000000 in
set_option maxRecDepth 100000 in
theorem k_X6_can (l : Launch) (E : WE) (μ : Mem) (a1 : Int32) (a2 : Int32) (a3 : Int32) (r : Int32) (μ' : Mem) (hf : f_X6_can μ a1 a2 a3 = some (r, μ')) : Met l yX6_can (.code yX6_can cX6_can 5 (some .int) :: BIG) ({ frames := 5, cells := 0, slots := 0, locals := 130 }) (PW E μ [.ref (ead E 1), .int a1, .int a2, .int a3]) (QI E r μ') 0 0 (eA E) := by
  refine Met.ofW (cc := cX6_can) (maxL := 5) (ret := (some .int)) (by decide) rfl ?_
  intro p e s m args below meth c s₁ B hml hv
  obtain ⟨rfl, hW, hZ⟩ := hv
  have hx := B.exec
  have hb := B.bytes
  have hr := B.returns
  have hB : ∀ w ∈ BIG, w.before _ s = true := fun w h => atoms_spec (ws := (.code yX6_can cX6_can 5 (some .int) :: BIG)) B.pre w (List.mem_cons_of_mem _ h)
  have hown : s.vm.findClass RX6 = some m.cls := findClass_of_methodNamed B.named
  have hlocks := B.notSynchronized
  have hV : va_S (eA E) s.heap s.heap [] := va_S.rf
  have hl := lv_entry ([.ref (ead E 1), .int a1, .int a2, .int a3]) (n := 5) (Nat.le_of_ble_eq_true rfl)
  rw [lg_entry_eq]
  generalize (lg_sl ([.ref (ead E 1), .int a1, .int a2, .int a3]) ++ List.replicate (5 - (lg_sl ([.ref (ead E 1), .int a1, .int a2, .int a3])).length) Slot.unset).toArray = ls at hl ⊢
  have hl : lv_has ls 5 [(0, .ref (ead E 1)), (1, .int a1), (2, .int a2), (3, .int a3)] := hl
  have c_44 : ∀ (μ_44 : Mem) (b1_44 : Int32) (b2_44 : Int32) (s0_44 : Int32) , f_X6_can_44 μ_44 b1_44 b2_44 s0_44 = some (r, μ') → ∀ (H : Heap) (locs : List Loc) (ls : Array Slot), Wd E μ_44 s H → va_S (eA E) s.heap H locs → lv_has ls 5 [(0, .ref (ead E 1)), (1, .int b1_44), (2, .int b2_44)] → W p l e (headSpec (.code yX6_can cX6_can 5 (some .int) :: BIG) ({ frames := 5, cells := 0, slots := 0, locals := 130 })).room s m ([.ref (ead E 1), .int a1, .int a2, .int a3] : List Value).toArray below meth c H locs 0 0 (MQ below (QI E r μ') ([.ref (ead E 1), .int a1, .int a2, .int a3] : List Value).toArray s 0 0 (eA E)) (F0 m 44 ls [.int s0_44]) := by
    intro μ_44 b1_44 b2_44 s0_44 hf H locs ls hW hV hl
    unfold f_X6_can_44 at hf
    refine lv_istore (i := 4) (lv' := [(4, .int s0_44), (0, .ref (ead E 1)), (1, .int b1_44), (2, .int b2_44)]) hx hb dX6_can_44 hl (by decide) rfl (fun ls hl => ?_)
    refine lv_iload_n hx hb dX6_can_46 rfl (lv_at hl 3 rfl) ?_
    by_cases y25 : b2_44 = (0 : Int32)
    · have hf := op_t y25 hf
      refine lv_lookup (tgt := 72) (off := 25) hx hb dX6_can_47 (by decide) (by rw [y25]; decide) (by decide) ?_
      refine lv_aload_n hx hb dX6_can_72 rfl (lv_at hl 1 rfl) ?_
      refine lv_iload_n hx hb dX6_can_73 rfl (lv_at hl 2 rfl) ?_
      refine lv_iconst (v := (3 : Int32)) hx hb dX6_can_74 (by decide) ?_
      refine lv_iconst (v := (0 : Int32)) hx hb dX6_can_75 (by decide) ?_
      refine lv_bipush (v := (29 : Int32)) hx hb dX6_can_76 (by decide) ?_
      refine lv_iload hx hb dX6_can_78 (lv_at hl 0 rfl) ?_
      obtain ⟨p29, e_28, hf⟩ := op_none hf
      refine w_callI (rn_RX6_180 (As := [.int b1_44, .int (3 : Int32), .int (0 : Int32), .int (29 : Int32), .int s0_44]) hx hb hml hown hB hW hZ hV (k_X6_fitting l E _ b1_44 (3 : Int32) (0 : Int32) (29 : Int32) s0_44 p29.1 p29.2 e_28) rfl rfl ⟨(Nat.le_of_ble_eq_true rfl), (Nat.le_of_ble_eq_true rfl)⟩ (w_rec hW oX.1 (oX.2 E _ _) rfl) rfl hl.1 rfl (Nat.le_of_ble_eq_true rfl) dX6_can_80 ⟨Nat.le_refl _, Nat.le_refl _⟩) hV (fun H locs hW hV => ?_)
      exact w_retI hx hb hr hlocks hW hV (Prod.mk.inj (Option.some.inj hf)).1 (Prod.mk.inj (Option.some.inj hf)).2 dX6_can_83
    have hf := op_f y25 hf
    by_cases y30 : b2_44 = (1 : Int32)
    · have hf := op_t y30 hf
      refine lv_lookup (tgt := 84) (off := 37) hx hb dX6_can_47 (by decide) (by rw [y30]; decide) (by decide) ?_
      refine lv_aload_n hx hb dX6_can_84 rfl (lv_at hl 1 rfl) ?_
      refine lv_iload_n hx hb dX6_can_85 rfl (lv_at hl 2 rfl) ?_
      refine lv_iconst (v := (2 : Int32)) hx hb dX6_can_86 (by decide) ?_
      refine lv_iconst (v := (1 : Int32)) hx hb dX6_can_87 (by decide) ?_
      refine lv_bipush (v := (30 : Int32)) hx hb dX6_can_88 (by decide) ?_
      refine lv_iload hx hb dX6_can_90 (lv_at hl 0 rfl) ?_
      obtain ⟨p34, e_33, hf⟩ := op_none hf
      refine w_callI (rn_RX6_180 (As := [.int b1_44, .int (2 : Int32), .int (1 : Int32), .int (30 : Int32), .int s0_44]) hx hb hml hown hB hW hZ hV (k_X6_fitting l E _ b1_44 (2 : Int32) (1 : Int32) (30 : Int32) s0_44 p34.1 p34.2 e_33) rfl rfl ⟨(Nat.le_of_ble_eq_true rfl), (Nat.le_of_ble_eq_true rfl)⟩ (w_rec hW oX.1 (oX.2 E _ _) rfl) rfl hl.1 rfl (Nat.le_of_ble_eq_true rfl) dX6_can_92 ⟨Nat.le_refl _, Nat.le_refl _⟩) hV (fun H locs hW hV => ?_)
      exact w_retI hx hb hr hlocks hW hV (Prod.mk.inj (Option.some.inj hf)).1 (Prod.mk.inj (Option.some.inj hf)).2 dX6_can_95
    have hf := op_f y30 hf
    refine lv_lookup (tgt := 96) (off := 49) hx hb dX6_can_47 (by decide) (by rw [lv_osw y25 (by decide)]; rw [lv_osw y30 (by decide)]; rfl) (by decide) ?_
    refine lv_aload_n hx hb dX6_can_96 rfl (lv_at hl 1 rfl) ?_
    refine lv_iload_n hx hb dX6_can_97 rfl (lv_at hl 2 rfl) ?_
    refine lv_iconst (v := (1 : Int32)) hx hb dX6_can_98 (by decide) ?_
    refine lv_iconst (v := (0 : Int32)) hx hb dX6_can_99 (by decide) ?_
    refine lv_bipush (v := (9 : Int32)) hx hb dX6_can_100 (by decide) ?_
    refine lv_iload hx hb dX6_can_102 (lv_at hl 0 rfl) ?_
    obtain ⟨p38, e_37, hf⟩ := op_none hf
    refine w_callI (rn_RX6_180 (As := [.int b1_44, .int (1 : Int32), .int (0 : Int32), .int (9 : Int32), .int s0_44]) hx hb hml hown hB hW hZ hV (k_X6_fitting l E _ b1_44 (1 : Int32) (0 : Int32) (9 : Int32) s0_44 p38.1 p38.2 e_37) rfl rfl ⟨(Nat.le_of_ble_eq_true rfl), (Nat.le_of_ble_eq_true rfl)⟩ (w_rec hW oX.1 (oX.2 E _ _) rfl) rfl hl.1 rfl (Nat.le_of_ble_eq_true rfl) dX6_can_104 ⟨Nat.le_refl _, Nat.le_refl _⟩) hV (fun H locs hW hV => ?_)
    exact w_retI hx hb hr hlocks hW hV (Prod.mk.inj (Option.some.inj hf)).1 (Prod.mk.inj (Option.some.inj hf)).2 dX6_can_107
  obtain ⟨H, hH⟩ : ∃ H : Heap, H = s.heap := ⟨_, rfl⟩
  obtain ⟨locs, hlocs⟩ : ∃ locs : List Loc, locs = [] := ⟨_, rfl⟩
  rw [show (W p l e (headSpec (.code yX6_can cX6_can 5 (some .int) :: BIG) ({ frames := 5, cells := 0, slots := 0, locals := 130 })).room s m ([.ref (ead E 1), .int a1, .int a2, .int a3] : List Value).toArray below meth c s.heap [] 0 0) = W p l e (headSpec (.code yX6_can cX6_can 5 (some .int) :: BIG) ({ frames := 5, cells := 0, slots := 0, locals := 130 })).room s m ([.ref (ead E 1), .int a1, .int a2, .int a3] : List Value).toArray below meth c H locs 0 0 by rw [hH, hlocs]]
  have hV : va_S (eA E) s.heap H locs := by rw [hH, hlocs]; exact hV
  have hW : Wd E μ s H := by rw [hH]; exact hW
  unfold f_X6_can at hf
  refine lv_aload_n hx hb dX6_can_0 rfl (lv_at hl 0 rfl) ?_
  refine gf_RX6_12 hx hb hB hown hW dX6_can_1 ?_
  refine lv_iload_n hx hb dX6_can_4 rfl (lv_at hl 1 rfl) ?_
  obtain ⟨v39, e_40, hf⟩ := op_none hf
  refine w_callN (rn_RX6_85 (As := [.int a1]) hx hb hml hown hB hW hZ hV (k_X2_has l E _ 100 a1 st1 v39 e_40) rfl rfl ⟨(Nat.le_of_ble_eq_true rfl), (Nat.le_of_ble_eq_true rfl)⟩ (w_rec hW (oSt st1).1 ((oSt st1).2 E _ _) rfl) rfl hl.1 rfl (Nat.le_of_ble_eq_true rfl) dX6_can_5 ⟨Nat.le_refl _, Nat.le_refl _⟩) hV (fun H locs hn_v39 hW hV => ?_)
  refine lv_if_eq (tgt := 33) hx hb dX6_can_8 (by decide) (fun y41 => ?_) (fun y41 => ?_)
  · have hf := op_t y41 hf
    refine lv_iconst (v := (-1 : Int32)) hx hb dX6_can_33 (by decide) ?_
    exact w_retI hx hb hr hlocks hW hV (Prod.mk.inj (Option.some.inj hf)).1 (Prod.mk.inj (Option.some.inj hf)).2 dX6_can_34
  · have hf := op_f y41 hf
    refine lv_iload_n hx hb dX6_can_11 rfl (lv_at hl 2 rfl) ?_
    refine lv_i2l hx hb dX6_can_12 rfl ?_
    refine lv_lconst (v := (0 : Int64)) hx hb dX6_can_13 (by decide) ?_
    refine lv_ldc2 (v := (2 : Int64)) hx hb hown (hB _ q_abd799f0) dX6_can_14 ?_
    obtain ⟨v42, e_43, hf⟩ := op_none hf
    refine w_callN (rn_RX6_62 (As := [.long a2.toInt64, .long (0 : Int64), .long (2 : Int64)]) hx hb hml hown hB hW hZ hV (k_X6_within l E _ a2.toInt64 (0 : Int64) (2 : Int64) v42 e_43) rfl rfl ⟨(Nat.le_of_ble_eq_true rfl), (Nat.le_of_ble_eq_true rfl)⟩ rfl hl.1 rfl (Nat.le_of_ble_eq_true rfl) dX6_can_17 ⟨Nat.le_refl _, Nat.le_refl _⟩) hV (fun H locs hn_v42 hW hV => ?_)
    refine lv_if_eq (tgt := 33) hx hb dX6_can_20 (by decide) (fun y44 => ?_) (fun y44 => ?_)
    · have hf := op_t y44 hf
      refine lv_iconst (v := (-1 : Int32)) hx hb dX6_can_33 (by decide) ?_
      exact w_retI hx hb hr hlocks hW hV (Prod.mk.inj (Option.some.inj hf)).1 (Prod.mk.inj (Option.some.inj hf)).2 dX6_can_34
    · have hf := op_f y44 hf
      refine lv_iload_n hx hb dX6_can_23 rfl (lv_at hl 3 rfl) ?_
      refine lv_i2l hx hb dX6_can_24 rfl ?_
      refine lv_lconst (v := (0 : Int64)) hx hb dX6_can_25 (by decide) ?_
      refine lv_lconst (v := (1 : Int64)) hx hb dX6_can_26 (by decide) ?_
      obtain ⟨v45, e_46, hf⟩ := op_none hf
      refine w_callN (rn_RX6_62 (As := [.long a3.toInt64, .long (0 : Int64), .long (1 : Int64)]) hx hb hml hown hB hW hZ hV (k_X6_within l E _ a3.toInt64 (0 : Int64) (1 : Int64) v45 e_46) rfl rfl ⟨(Nat.le_of_ble_eq_true rfl), (Nat.le_of_ble_eq_true rfl)⟩ rfl hl.1 rfl (Nat.le_of_ble_eq_true rfl) dX6_can_27 ⟨Nat.le_refl _, Nat.le_refl _⟩) hV (fun H locs hn_v45 hW hV => ?_)
      refine lv_if_ne (tgt := 35) hx hb dX6_can_30 (by decide) (fun y47 => ?_) (fun y47 => ?_)
      · have hf := op_f y47 hf
        refine lv_iload_n hx hb dX6_can_35 rfl (lv_at hl 3 rfl) ?_
        refine lv_if_ne (tgt := 43) hx hb dX6_can_36 (by decide) (fun y48 => ?_) (fun y48 => ?_)
        · have hf := op_f y48 hf
          refine lv_iconst (v := (0 : Int32)) hx hb dX6_can_43 (by decide) ?_
          exact c_44 μ a1 a2 (0 : Int32) hf H locs ls hW hV (lv_sub hl [0, 1, 2] rfl)
        · have hf := op_t y48 hf
          refine lv_iconst (v := (1 : Int32)) hx hb dX6_can_39 (by decide) ?_
          refine lv_goto (tgt := 44) hx hb dX6_can_40 (by decide) ?_
          exact c_44 μ a1 a2 (1 : Int32) hf H locs ls hW hV (lv_sub hl [0, 1, 2] rfl)
      · have hf := op_t y47 hf
        refine lv_iconst (v := (-1 : Int32)) hx hb dX6_can_33 (by decide) ?_
        exact w_retI hx hb hr hlocks hW hV (Prod.mk.inj (Option.some.inj hf)).1 (Prod.mk.inj (Option.some.inj hf)).2 dX6_can_34
set_option maxHeartbeats 8000000 in
set_option maxRecDepth 100000 in
theorem k_X2_round (l : Launch) (E : WE) (μ : Mem) (k0 : Nat) (h0 : isSt k0) (r : Int64) (hf : f_X2_round μ k0 = some r) : Met l yX2_round (.code yX2_round cX2_round 4 (some .long) :: BIG) ({ frames := 2, cells := 0, slots := 0, locals := 55 }) (PW E μ [.ref (ead E k0)]) (QL E r μ) 0 0 (eA E) := by
  refine Met.ofW (cc := cX2_round) (maxL := 4) (ret := (some .long)) (by decide) rfl ?_
  intro p e s m args below meth c s₁ B hml hv
  obtain ⟨rfl, hW, hZ⟩ := hv
  have hx := B.exec
  have hb := B.bytes
  have hr := B.returns
  have hB : ∀ w ∈ BIG, w.before _ s = true := fun w h => atoms_spec (ws := (.code yX2_round cX2_round 4 (some .long) :: BIG)) B.pre w (List.mem_cons_of_mem _ h)
  have hown : s.vm.findClass RX2 = some m.cls := findClass_of_methodNamed B.named
  have hlocks := B.notSynchronized
  have hV : va_S (eA E) s.heap s.heap [] := va_S.rf
  have hl := lv_entry ([.ref (ead E k0)]) (n := 4) (Nat.le_of_ble_eq_true rfl)
  rw [lg_entry_eq]
  generalize (lg_sl ([.ref (ead E k0)]) ++ List.replicate (4 - (lg_sl ([.ref (ead E k0)])).length) Slot.unset).toArray = ls at hl ⊢
  have hl : lv_has ls 4 [(0, .ref (ead E k0))] := hl
  have c_4 : ∀ (n_4 : Nat) (b1_4 : Int64) (b3_4 : Int32) , f_X2_round_4 μ k0 n_4 b1_4 b3_4 = some r → ∀ (H : Heap) (locs : List Loc) (ls : Array Slot), Wd E μ s H → va_S (eA E) s.heap H locs → lv_has ls 4 [(0, .ref (ead E k0)), (1, .long b1_4), (3, .int b3_4)] → W p l e (headSpec (.code yX2_round cX2_round 4 (some .long) :: BIG) ({ frames := 2, cells := 0, slots := 0, locals := 55 })).room s m ([.ref (ead E k0)] : List Value).toArray below meth c H locs 0 0 (MQ below (QL E r μ) ([.ref (ead E k0)] : List Value).toArray s 0 0 (eA E)) (F0 m 4 ls []) := by
    intro n_4
    induction n_4 with
    | zero =>
      intro b1_4 b3_4 hf H locs ls hW hV hl
      cases hf
    | succ n_4 ih_4 =>
      have c_38 : ∀ (b1_38 : Int64) (b3_38 : Int32) , f_X2_round_38 μ k0 (fun z0 z1 => f_X2_round_4 μ k0 n_4 z0 z1) b1_38 b3_38 = some r → ∀ (H : Heap) (locs : List Loc) (ls : Array Slot), Wd E μ s H → va_S (eA E) s.heap H locs → lv_has ls 4 [(0, .ref (ead E k0)), (1, .long b1_38), (3, .int b3_38)] → W p l e (headSpec (.code yX2_round cX2_round 4 (some .long) :: BIG) ({ frames := 2, cells := 0, slots := 0, locals := 55 })).room s m ([.ref (ead E k0)] : List Value).toArray below meth c H locs 0 0 (MQ below (QL E r μ) ([.ref (ead E k0)] : List Value).toArray s 0 0 (eA E)) (F0 m 38 ls []) := by
        intro b1_38 b3_38 hf H locs ls hW hV hl
        unfold f_X2_round_38 at hf
        obtain ⟨v10, e_v10, hf⟩ := op_none hf
        refine lv_iinc (v := v10) (lv' := [(3, .int v10), (0, .ref (ead E k0)), (1, .long b1_38)]) hx hb dX2_round_38 hl (k := 2) rfl (by rw [← Option.some.inj e_v10]; rfl) (by decide) rfl (fun ls hl => ?_)
        refine lv_goto (tgt := 4) hx hb dX2_round_41 (by decide) ?_
        exact ih_4 b1_38 v10 hf H locs ls hW hV (lv_sub hl [1, 2, 0] rfl)
      intro b1_4 b3_4 hf H locs ls hW hV hl
      rw [f_X2_round_4] at hf
      refine lv_iload_n hx hb dX2_round_4 rfl (lv_at hl 2 rfl) ?_
      refine lv_aload_n hx hb dX2_round_5 rfl (lv_at hl 0 rfl) ?_
      refine gf_RX2_9 hx hb hB hown hW h0 dX2_round_6 ?_
      refine lv_icmp_ge (tgt := 44) hx hb dX2_round_9 (by decide) (fun y11 => ?_) (fun y11 => ?_)
      · have hf := op_t y11 hf
        refine lv_lload_n hx hb dX2_round_44 rfl (lv_at hl 1 rfl) ?_
        exact w_retL hx hb hr hlocks hW hV (Option.some.inj hf) rfl dX2_round_45
      · have hf := op_f y11 hf
        refine lv_aload_n hx hb dX2_round_12 rfl (lv_at hl 0 rfl) ?_
        refine gf_RX2_17 hx hb hB hown hW h0 dX2_round_13 ?_
        refine lv_iload_n hx hb dX2_round_16 rfl (lv_at hl 2 rfl) ?_
        obtain ⟨j12, e_j12, hf⟩ := op_none hf
        refine w_aald (j := 4) hx hb hW (rSt h0).1 ((rSt h0).2 E _ _) rfl rfl e_j12 dX2_round_17 ?_
        refine lv_iconst (v := (4 : Int32)) hx hb dX2_round_18 (by decide) ?_
        obtain ⟨v13, e_v13, hf⟩ := op_none hf
        refine w_iald hx hb hW (iEg h0 (aix_lt e_j12)).1 ((iEg h0 (aix_lt e_j12)).2 E _ _) e_v13 dX2_round_19 ?_
        refine lv_if_ne (tgt := 38) hx hb dX2_round_20 (by decide) (fun y14 => ?_) (fun y14 => ?_)
        · have hf := op_f y14 hf
          exact c_38 b1_4 b3_4 hf H locs ls hW hV (lv_sub hl [0, 1, 2] rfl)
        · have hf := op_t y14 hf
          refine lv_lload_n hx hb dX2_round_23 rfl (lv_at hl 1 rfl) ?_
          refine lv_aload_n hx hb dX2_round_24 rfl (lv_at hl 0 rfl) ?_
          refine gf_RX2_17 hx hb hB hown hW h0 dX2_round_25 ?_
          refine lv_iload_n hx hb dX2_round_28 rfl (lv_at hl 2 rfl) ?_
          obtain ⟨j15, e_j15, hf⟩ := op_none hf
          refine w_aald (j := 4) hx hb hW (rSt h0).1 ((rSt h0).2 E _ _) rfl rfl e_j15 dX2_round_29 ?_
          refine lv_bipush (v := (7 : Int32)) hx hb dX2_round_30 (by decide) ?_
          obtain ⟨v16, e_v16, hf⟩ := op_none hf
          refine w_iald hx hb hW (iEg h0 (aix_lt e_j15)).1 ((iEg h0 (aix_lt e_j15)).2 E _ _) e_v16 dX2_round_32 ?_
          refine lv_i2l hx hb dX2_round_33 rfl ?_
          obtain ⟨v17, e_18, hf⟩ := op_none hf
          refine w_callL (rn_RX2_111 (As := [.long b1_4, .long v16.toInt64]) hx hb hml hown hB hW hZ hV (k_X6_commonMultiple l E _ b1_4 v16.toInt64 v17 e_18) rfl rfl ⟨(Nat.le_of_ble_eq_true rfl), (Nat.le_of_ble_eq_true rfl)⟩ rfl hl.1 rfl (Nat.le_of_ble_eq_true rfl) dX2_round_34 ⟨Nat.le_refl _, Nat.le_refl _⟩) hV (fun H locs hW hV => ?_)
          refine lv_lstore_n (i := 1) (lv' := [(1, .long v17), (0, .ref (ead E k0)), (3, .int b3_4)]) hx hb dX2_round_37 rfl hl (by decide) rfl (fun ls hl => ?_)
          exact c_38 v17 b3_4 hf H locs ls hW hV (lv_sub hl [1, 0, 2] rfl)
  obtain ⟨H, hH⟩ : ∃ H : Heap, H = s.heap := ⟨_, rfl⟩
  obtain ⟨locs, hlocs⟩ : ∃ locs : List Loc, locs = [] := ⟨_, rfl⟩
  rw [show (W p l e (headSpec (.code yX2_round cX2_round 4 (some .long) :: BIG) ({ frames := 2, cells := 0, slots := 0, locals := 55 })).room s m ([.ref (ead E k0)] : List Value).toArray below meth c s.heap [] 0 0) = W p l e (headSpec (.code yX2_round cX2_round 4 (some .long) :: BIG) ({ frames := 2, cells := 0, slots := 0, locals := 55 })).room s m ([.ref (ead E k0)] : List Value).toArray below meth c H locs 0 0 by rw [hH, hlocs]]
  have hV : va_S (eA E) s.heap H locs := by rw [hH, hlocs]; exact hV
  have hW : Wd E μ s H := by rw [hH]; exact hW
  unfold f_X2_round at hf
  refine lv_lconst (v := (1 : Int64)) hx hb dX2_round_0 (by decide) ?_
  refine lv_lstore_n (i := 1) (lv' := [(1, .long (1 : Int64)), (0, .ref (ead E k0))]) hx hb dX2_round_1 rfl hl (by decide) rfl (fun ls hl => ?_)
  refine lv_iconst (v := (0 : Int32)) hx hb dX2_round_2 (by decide) ?_
  refine lv_istore_n (i := 3) (lv' := [(3, .int (0 : Int32)), (1, .long (1 : Int64)), (0, .ref (ead E k0))]) hx hb dX2_round_3 rfl hl (by decide) rfl (fun ls hl => ?_)
  exact c_4 FU (1 : Int64) (0 : Int32) hf H locs ls hW hV (lv_sub hl [2, 1, 0] rfl)
set_option maxHeartbeats 8000000 in
set_option maxRecDepth 100000 in
theorem kg_quiet (l : Launch) (E : WE) : ∀ d : Nat, (∀ (μ : Mem) (k0 : Nat) (a1 : Int64) (a3 : Int32) (a4 : Int64) (a6 : Int64) (h0 : isSt k0) (r : Int64) , (G_quiet d) μ k0 a1 a3 a4 a6 = some r → Met l yX2_quietDays (.code yX2_quietDays cX2_quietDays 13 (some .long) :: BIG) ({ frames := 2 + d, cells := 0, slots := 0, locals := 55 + d * 32 }) (PW E μ [.ref (ead E k0), .long a1, .int a3, .long a4, .long a6]) (QL E r μ) 0 0 (eA E)) := by
  intro d
  induction d with
  | zero =>
    intro μ k0 a1 a3 a4 a6 h0 r hf
    cases hf
  | succ d ih =>
    obtain ⟨G, hG⟩ : ∃ G : (Mem → Nat → Int64 → Int32 → Int64 → Int64 → Option (Int64)), G = G_quiet d := ⟨_, rfl⟩
    rw [← hG] at ih
    intro μ k0 a1 a3 a4 a6 h0 r hf
    have hf : b_X2_quietDays G μ k0 a1 a3 a4 a6 = some r := by rw [hG]; exact hf
    unfold b_X2_quietDays at hf
    refine Met.ofW (cc := cX2_quietDays) (maxL := 13) (ret := (some .long)) (by decide) rfl ?_
    intro p e s m args below meth c s₁ B hml hv
    obtain ⟨rfl, hW, hZ⟩ := hv
    have hx := B.exec
    have hb := B.bytes
    have hr := B.returns
    have hB : ∀ w ∈ BIG, w.before _ s = true := fun w h => atoms_spec (ws := (.code yX2_quietDays cX2_quietDays 13 (some .long) :: BIG)) B.pre w (List.mem_cons_of_mem _ h)
    have hown : s.vm.findClass RX2 = some m.cls := findClass_of_methodNamed B.named
    have hlocks := B.notSynchronized
    have hV : va_S (eA E) s.heap s.heap [] := va_S.rf
    have hl := lv_entry ([.ref (ead E k0), .long a1, .int a3, .long a4, .long a6]) (n := 13) (Nat.le_of_ble_eq_true rfl)
    rw [lg_entry_eq]
    generalize (lg_sl ([.ref (ead E k0), .long a1, .int a3, .long a4, .long a6]) ++ List.replicate (13 - (lg_sl ([.ref (ead E k0), .long a1, .int a3, .long a4, .long a6])).length) Slot.unset).toArray = ls at hl ⊢
    have hl : lv_has ls 13 [(0, .ref (ead E k0)), (1, .long a1), (3, .int a3), (4, .long a4), (6, .long a6)] := hl
    obtain ⟨H, hH⟩ : ∃ H : Heap, H = s.heap := ⟨_, rfl⟩
    obtain ⟨locs, hlocs⟩ : ∃ locs : List Loc, locs = [] := ⟨_, rfl⟩
    rw [show (W p l e (headSpec (.code yX2_quietDays cX2_quietDays 13 (some .long) :: BIG) ({ frames := 2 + (d + 1), cells := 0, slots := 0, locals := 55 + (d + 1) * 32 })).room s m ([.ref (ead E k0), .long a1, .int a3, .long a4, .long a6] : List Value).toArray below meth c s.heap [] 0 0) = W p l e (headSpec (.code yX2_quietDays cX2_quietDays 13 (some .long) :: BIG) ({ frames := 2 + (d + 1), cells := 0, slots := 0, locals := 55 + (d + 1) * 32 })).room s m ([.ref (ead E k0), .long a1, .int a3, .long a4, .long a6] : List Value).toArray below meth c H locs 0 0 by rw [hH, hlocs]]
    have hV : va_S (eA E) s.heap H locs := by rw [hH, hlocs]; exact hV
    have hW : Wd E μ s H := by rw [hH]; exact hW
    refine lv_lload hx hb dX2_quietDays_0 (lv_at hl 4 rfl) ?_
    refine lv_lconst (v := (1 : Int64)) hx hb dX2_quietDays_2 (by decide) ?_
    refine W.lcmp hx hb dX2_quietDays_3 ?_
    refine lv_if_ge (tgt := 9) hx hb dX2_quietDays_4 (by decide) (fun y21 => ?_) (fun y21 => ?_)
    · have hf := op_t y21 hf
      refine lv_aload_n hx hb dX2_quietDays_9 rfl (lv_at hl 0 rfl) ?_
      refine lv_iload_n hx hb dX2_quietDays_10 rfl (lv_at hl 2 rfl) ?_
      obtain ⟨v22, e_23, hf⟩ := op_none hf
      refine w_callN (rn_RX2_114 (As := [.int a3]) hx hb hml hown hB hW hZ hV (k_X2_has l E _ k0 a3 h0 v22 e_23) rfl rfl ⟨(by dsimp only [headSpec]; omega), (by dsimp only [headSpec]; omega)⟩ (w_rec hW (oSt h0).1 ((oSt h0).2 E _ _) rfl) rfl hl.1 rfl (Nat.le_of_ble_eq_true rfl) dX2_quietDays_11 ⟨Nat.le_refl _, Nat.le_refl _⟩) hV (fun H locs hn_v22 hW hV => ?_)
      refine lv_if_ne (tgt := 22) hx hb dX2_quietDays_14 (by decide) (fun y24 => ?_) (fun y24 => ?_)
      · have hf := op_f y24 hf
        refine lv_aload_n hx hb dX2_quietDays_22 rfl (lv_at hl 0 rfl) ?_
        refine lv_lload_n hx hb dX2_quietDays_23 rfl (lv_at hl 1 rfl) ?_
        refine lv_iload_n hx hb dX2_quietDays_24 rfl (lv_at hl 2 rfl) ?_
        refine lv_iconst (v := (1 : Int32)) hx hb dX2_quietDays_25 (by decide) ?_
        refine lv_iadd hx hb dX2_quietDays_26 ?_
        refine lv_lload hx hb dX2_quietDays_27 (lv_at hl 3 rfl) ?_
        refine lv_lload hx hb dX2_quietDays_29 (lv_at hl 4 rfl) ?_
        obtain ⟨v25, e_26, hf⟩ := op_none hf
        refine w_callL (rn_RX2_118 (As := [.long a1, .int (a3 + (1 : Int32)), .long a4, .long a6]) hx hb hml hown hB hW hZ hV (ih _ k0 a1 (a3 + (1 : Int32)) a4 a6 h0 v25 e_26) rfl rfl ⟨(by dsimp only [headSpec]; omega), (by dsimp only [headSpec]; omega)⟩ (w_rec hW (oSt h0).1 ((oSt h0).2 E _ _) rfl) rfl hl.1 rfl (Nat.le_of_ble_eq_true rfl) dX2_quietDays_31 ⟨Nat.le_refl _, Nat.le_refl _⟩) hV (fun H locs hW hV => ?_)
        refine lv_lstore (i := 8) (lv' := [(8, .long v25), (0, .ref (ead E k0)), (1, .long a1), (3, .int a3), (4, .long a4), (6, .long a6)]) hx hb dX2_quietDays_34 hl (by decide) rfl (fun ls hl => ?_)
        refine lv_aload_n hx hb dX2_quietDays_36 rfl (lv_at hl 1 rfl) ?_
        refine gf_RX2_17 hx hb hB hown hW h0 dX2_quietDays_37 ?_
        refine lv_iload_n hx hb dX2_quietDays_40 rfl (lv_at hl 3 rfl) ?_
        obtain ⟨j27, e_j27, hf⟩ := op_none hf
        refine w_aald (j := 4) hx hb hW (rSt h0).1 ((rSt h0).2 E _ _) rfl rfl e_j27 dX2_quietDays_41 ?_
        refine lv_astore (i := 10) (lv' := [(10, .ref (ead E (k0 + 1 + 1 + j27))), (8, .long v25), (0, .ref (ead E k0)), (1, .long a1), (3, .int a3), (4, .long a4), (6, .long a6)]) hx hb dX2_quietDays_42 hl (by decide) rfl (fun ls hl => ?_)
        refine lv_aload hx hb dX2_quietDays_44 (lv_at hl 0 rfl) ?_
        refine lv_iconst (v := (4 : Int32)) hx hb dX2_quietDays_46 (by decide) ?_
        obtain ⟨v28, e_v28, hf⟩ := op_none hf
        refine w_iald hx hb hW (iEg h0 (aix_lt e_j27)).1 ((iEg h0 (aix_lt e_j27)).2 E _ _) e_v28 dX2_quietDays_47 ?_
        refine lv_iconst (v := (1 : Int32)) hx hb dX2_quietDays_48 (by decide) ?_
        refine lv_icmp_ne (tgt := 55) hx hb dX2_quietDays_49 (by decide) (fun y29 => ?_) (fun y29 => ?_)
        · have hf := op_f y29 hf
          refine lv_lload hx hb dX2_quietDays_55 (lv_at hl 5 rfl) ?_
          refine lv_lload hx hb dX2_quietDays_57 (lv_at hl 6 rfl) ?_
          refine lv_aload hx hb dX2_quietDays_59 (lv_at hl 0 rfl) ?_
          refine lv_bipush (v := (8 : Int32)) hx hb dX2_quietDays_61 (by decide) ?_
          obtain ⟨v30, e_v30, hf⟩ := op_none hf
          refine w_iald hx hb hW (iEg h0 (aix_lt e_j27)).1 ((iEg h0 (aix_lt e_j27)).2 E _ _) e_v30 dX2_quietDays_63 ?_
          refine lv_i2l hx hb dX2_quietDays_64 rfl ?_
          refine lv_aload hx hb dX2_quietDays_65 (lv_at hl 0 rfl) ?_
          refine lv_bipush (v := (7 : Int32)) hx hb dX2_quietDays_67 (by decide) ?_
          obtain ⟨v31, e_v31, hf⟩ := op_none hf
          refine w_iald hx hb hW (iEg h0 (aix_lt e_j27)).1 ((iEg h0 (aix_lt e_j27)).2 E _ _) e_v31 dX2_quietDays_69 ?_
          refine lv_i2l hx hb dX2_quietDays_70 rfl ?_
          obtain ⟨v32, e_33, hf⟩ := op_none hf
          refine w_callL (rn_RX2_105 (As := [.long a4, .long a6, .long v30.toInt64, .long v31.toInt64]) hx hb hml hown hB hW hZ hV (k_X6_commonRest l E _ a4 a6 v30.toInt64 v31.toInt64 v32 e_33) rfl rfl ⟨(by dsimp only [headSpec]; omega), (by dsimp only [headSpec]; omega)⟩ rfl hl.1 rfl (Nat.le_of_ble_eq_true rfl) dX2_quietDays_71 ⟨Nat.le_refl _, Nat.le_refl _⟩) hV (fun H locs hW hV => ?_)
          refine lv_lstore (i := 11) (lv' := [(11, .long v32), (10, .ref (ead E (k0 + 1 + 1 + j27))), (8, .long v25), (0, .ref (ead E k0)), (1, .long a1), (3, .int a3), (4, .long a4), (6, .long a6)]) hx hb dX2_quietDays_74 hl (by decide) rfl (fun ls hl => ?_)
          refine lv_lload hx hb dX2_quietDays_76 (lv_at hl 0 rfl) ?_
          refine lv_lconst (v := (0 : Int64)) hx hb dX2_quietDays_78 (by decide) ?_
          refine W.lcmp hx hb dX2_quietDays_79 ?_
          refine lv_if_ge (tgt := 86) hx hb dX2_quietDays_80 (by decide) (fun y34 => ?_) (fun y34 => ?_)
          · have hf := op_t y34 hf
            refine lv_lload hx hb dX2_quietDays_86 (lv_at hl 2 rfl) ?_
            refine lv_aload_n hx hb dX2_quietDays_88 rfl (lv_at hl 3 rfl) ?_
            refine lv_lload_n hx hb dX2_quietDays_89 rfl (lv_at hl 4 rfl) ?_
            refine lv_iload_n hx hb dX2_quietDays_90 rfl (lv_at hl 5 rfl) ?_
            refine lv_iconst (v := (1 : Int32)) hx hb dX2_quietDays_91 (by decide) ?_
            refine lv_iadd hx hb dX2_quietDays_92 ?_
            refine lv_lload hx hb dX2_quietDays_93 (lv_at hl 0 rfl) ?_
            refine lv_lload hx hb dX2_quietDays_95 (lv_at hl 7 rfl) ?_
            refine lv_aload hx hb dX2_quietDays_97 (lv_at hl 1 rfl) ?_
            refine lv_bipush (v := (7 : Int32)) hx hb dX2_quietDays_99 (by decide) ?_
            obtain ⟨v35, e_v35, hf⟩ := op_none hf
            refine w_iald hx hb hW (iEg h0 (aix_lt e_j27)).1 ((iEg h0 (aix_lt e_j27)).2 E _ _) e_v35 dX2_quietDays_101 ?_
            refine lv_i2l hx hb dX2_quietDays_102 rfl ?_
            obtain ⟨v36, e_37, hf⟩ := op_none hf
            refine w_callL (rn_RX2_111 (As := [.long a6, .long v35.toInt64]) hx hb hml hown hB hW hZ hV (k_X6_commonMultiple l E _ a6 v35.toInt64 v36 e_37) rfl rfl ⟨(by dsimp only [headSpec]; omega), (by dsimp only [headSpec]; omega)⟩ rfl hl.1 rfl (Nat.le_of_ble_eq_true rfl) dX2_quietDays_103 ⟨Nat.le_refl _, Nat.le_refl _⟩) hV (fun H locs hW hV => ?_)
            obtain ⟨v38, e_39, hf⟩ := op_none hf
            refine w_callL (rn_RX2_118 (As := [.long a1, .int (a3 + (1 : Int32)), .long v32, .long v36]) hx hb hml hown hB hW hZ hV (ih _ k0 a1 (a3 + (1 : Int32)) v32 v36 h0 v38 e_39) rfl rfl ⟨(by dsimp only [headSpec]; omega), (by dsimp only [headSpec]; omega)⟩ (w_rec hW (oSt h0).1 ((oSt h0).2 E _ _) rfl) rfl hl.1 rfl (Nat.le_of_ble_eq_true rfl) dX2_quietDays_106 ⟨Nat.le_refl _, Nat.le_refl _⟩) hV (fun H locs hW hV => ?_)
            refine lv_lsub hx hb dX2_quietDays_109 ?_
            exact w_retL hx hb hr hlocks hW hV (Option.some.inj hf) rfl dX2_quietDays_110
          · have hf := op_f y34 hf
            refine lv_lload hx hb dX2_quietDays_83 (lv_at hl 2 rfl) ?_
            exact w_retL hx hb hr hlocks hW hV (Option.some.inj hf) rfl dX2_quietDays_85
        · have hf := op_t y29 hf
          refine lv_lload hx hb dX2_quietDays_52 (lv_at hl 1 rfl) ?_
          exact w_retL hx hb hr hlocks hW hV (Option.some.inj hf) rfl dX2_quietDays_54
      · have hf := op_t y24 hf
        refine lv_lload_n hx hb dX2_quietDays_17 rfl (lv_at hl 1 rfl) ?_
        refine lv_lload hx hb dX2_quietDays_18 (lv_at hl 4 rfl) ?_
        obtain ⟨v40, e_v40, hf⟩ := op_none hf
        refine w_ldiv hx hb e_v40 dX2_quietDays_20 ?_
        exact w_retL hx hb hr hlocks hW hV (Option.some.inj hf) rfl dX2_quietDays_21
    · have hf := op_f y21 hf
      refine lv_lconst (v := (0 : Int64)) hx hb dX2_quietDays_7 (by decide) ?_
      exact w_retL hx hb hr hlocks hW hV (Option.some.inj hf) rfl dX2_quietDays_8
theorem k_X2_quietDays (l : Launch) (E : WE) (μ : Mem) (k0 : Nat) (a1 : Int64) (a3 : Int32) (a4 : Int64) (a6 : Int64) (h0 : isSt k0) (r : Int64) (hf : f_X2_quietDays μ k0 a1 a3 a4 a6 = some r) : Met l yX2_quietDays (.code yX2_quietDays cX2_quietDays 13 (some .long) :: BIG) ({ frames := 10, cells := 0, slots := 0, locals := 311 }) (PW E μ [.ref (ead E k0), .long a1, .int a3, .long a4, .long a6]) (QL E r μ) 0 0 (eA E) := (kg_quiet l E 8) μ k0 a1 a3 a4 a6 h0 r hf
set_option maxHeartbeats 8000000 in
set_option maxRecDepth 100000 in
theorem k_X6_inLowestTerms (l : Launch) (E : WE) (μ : Mem) (a0 : Int64) (a2 : Int64) (a4 : Int32) (r : Int64) (hf : f_X6_inLowestTerms μ a0 a2 a4 = some r) : Met l yX6_inLowestTerms (.code yX6_inLowestTerms cX6_inLowestTerms 7 (some .long) :: BIG) ({ frames := 1, cells := 0, slots := 0, locals := 30 }) (PW E μ [.long a0, .long a2, .int a4]) (QL E r μ) 0 0 (eA E) := by
  refine Met.ofW (cc := cX6_inLowestTerms) (maxL := 7) (ret := (some .long)) (by decide) rfl ?_
  intro p e s m args below meth c s₁ B hml hv
  obtain ⟨rfl, hW, hZ⟩ := hv
  have hx := B.exec
  have hb := B.bytes
  have hr := B.returns
  have hB : ∀ w ∈ BIG, w.before _ s = true := fun w h => atoms_spec (ws := (.code yX6_inLowestTerms cX6_inLowestTerms 7 (some .long) :: BIG)) B.pre w (List.mem_cons_of_mem _ h)
  have hown : s.vm.findClass RX6 = some m.cls := findClass_of_methodNamed B.named
  have hlocks := B.notSynchronized
  have hV : va_S (eA E) s.heap s.heap [] := va_S.rf
  have hl := lv_entry ([.long a0, .long a2, .int a4]) (n := 7) (Nat.le_of_ble_eq_true rfl)
  rw [lg_entry_eq]
  generalize (lg_sl ([.long a0, .long a2, .int a4]) ++ List.replicate (7 - (lg_sl ([.long a0, .long a2, .int a4])).length) Slot.unset).toArray = ls at hl ⊢
  have hl : lv_has ls 7 [(0, .long a0), (2, .long a2), (4, .int a4)] := hl
  obtain ⟨H, hH⟩ : ∃ H : Heap, H = s.heap := ⟨_, rfl⟩
  obtain ⟨locs, hlocs⟩ : ∃ locs : List Loc, locs = [] := ⟨_, rfl⟩
  rw [show (W p l e (headSpec (.code yX6_inLowestTerms cX6_inLowestTerms 7 (some .long) :: BIG) ({ frames := 1, cells := 0, slots := 0, locals := 30 })).room s m ([.long a0, .long a2, .int a4] : List Value).toArray below meth c s.heap [] 0 0) = W p l e (headSpec (.code yX6_inLowestTerms cX6_inLowestTerms 7 (some .long) :: BIG) ({ frames := 1, cells := 0, slots := 0, locals := 30 })).room s m ([.long a0, .long a2, .int a4] : List Value).toArray below meth c H locs 0 0 by rw [hH, hlocs]]
  have hV : va_S (eA E) s.heap H locs := by rw [hH, hlocs]; exact hV
  have hW : Wd E μ s H := by rw [hH]; exact hW
  unfold f_X6_inLowestTerms at hf
  refine lv_lload_n hx hb dX6_inLowestTerms_0 rfl (lv_at hl 0 rfl) ?_
  refine lv_lload_n hx hb dX6_inLowestTerms_1 rfl (lv_at hl 1 rfl) ?_
  obtain ⟨v7, e_8, hf⟩ := op_none hf
  refine w_callL (rn_RX6_289 (As := [.long a0, .long a2]) hx hb hml hown hB hW hZ hV (k_X6_commonDivisor l E _ a0 a2 v7 e_8) rfl rfl ⟨(Nat.le_of_ble_eq_true rfl), (Nat.le_of_ble_eq_true rfl)⟩ rfl hl.1 rfl (Nat.le_of_ble_eq_true rfl) dX6_inLowestTerms_2 ⟨Nat.le_refl _, Nat.le_refl _⟩) hV (fun H locs hW hV => ?_)
  refine lv_lstore (i := 5) (lv' := [(5, .long v7), (0, .long a0), (2, .long a2), (4, .int a4)]) hx hb dX6_inLowestTerms_5 hl (by decide) rfl (fun ls hl => ?_)
  refine lv_lload hx hb dX6_inLowestTerms_7 (lv_at hl 0 rfl) ?_
  refine lv_lconst (v := (1 : Int64)) hx hb dX6_inLowestTerms_9 (by decide) ?_
  refine W.lcmp hx hb dX6_inLowestTerms_10 ?_
  refine lv_if_ge (tgt := 16) hx hb dX6_inLowestTerms_11 (by decide) (fun y9 => ?_) (fun y9 => ?_)
  · have hf := op_t y9 hf
    refine lv_iload hx hb dX6_inLowestTerms_16 (lv_at hl 3 rfl) ?_
    refine lv_if_ne (tgt := 28) hx hb dX6_inLowestTerms_18 (by decide) (fun y10 => ?_) (fun y10 => ?_)
    · have hf := op_f y10 hf
      refine lv_lload_n hx hb dX6_inLowestTerms_28 rfl (lv_at hl 2 rfl) ?_
      refine lv_lload hx hb dX6_inLowestTerms_29 (lv_at hl 0 rfl) ?_
      obtain ⟨v11, e_v11, hf⟩ := op_none hf
      refine w_ldiv hx hb e_v11 dX6_inLowestTerms_31 ?_
      exact w_retL hx hb hr hlocks hW hV (Option.some.inj hf) rfl dX6_inLowestTerms_32
    · have hf := op_t y10 hf
      refine lv_lload_n hx hb dX6_inLowestTerms_21 rfl (lv_at hl 1 rfl) ?_
      refine lv_lload hx hb dX6_inLowestTerms_22 (lv_at hl 0 rfl) ?_
      obtain ⟨v12, e_v12, hf⟩ := op_none hf
      refine w_ldiv hx hb e_v12 dX6_inLowestTerms_24 ?_
      refine lv_goto (tgt := 32) hx hb dX6_inLowestTerms_25 (by decide) ?_
      exact w_retL hx hb hr hlocks hW hV (Option.some.inj hf) rfl dX6_inLowestTerms_32
  · have hf := op_f y9 hf
    refine lv_lconst (v := (0 : Int64)) hx hb dX6_inLowestTerms_14 (by decide) ?_
    exact w_retL hx hb hr hlocks hW hV (Option.some.inj hf) rfl dX6_inLowestTerms_15
set_option maxHeartbeats 8000000 in
set_option maxRecDepth 100000 in
theorem k_X6_odds (l : Launch) (E : WE) (μ : Mem) (a1 : Int32) (r : Int64) (μ' : Mem) (hf : f_X6_odds μ a1 = some (r, μ')) : Met l yX6_odds (.code yX6_odds cX6_odds 4 (some .long) :: BIG) ({ frames := 11, cells := 0, slots := 0, locals := 343 }) (PW E μ [.ref (ead E 1), .int a1]) (QL E r μ') 0 0 (eA E) := by
  refine Met.ofW (cc := cX6_odds) (maxL := 4) (ret := (some .long)) (by decide) rfl ?_
  intro p e s m args below meth c s₁ B hml hv
  obtain ⟨rfl, hW, hZ⟩ := hv
  have hx := B.exec
  have hb := B.bytes
  have hr := B.returns
  have hB : ∀ w ∈ BIG, w.before _ s = true := fun w h => atoms_spec (ws := (.code yX6_odds cX6_odds 4 (some .long) :: BIG)) B.pre w (List.mem_cons_of_mem _ h)
  have hown : s.vm.findClass RX6 = some m.cls := findClass_of_methodNamed B.named
  have hlocks := B.notSynchronized
  have hV : va_S (eA E) s.heap s.heap [] := va_S.rf
  have hl := lv_entry ([.ref (ead E 1), .int a1]) (n := 4) (Nat.le_of_ble_eq_true rfl)
  rw [lg_entry_eq]
  generalize (lg_sl ([.ref (ead E 1), .int a1]) ++ List.replicate (4 - (lg_sl ([.ref (ead E 1), .int a1])).length) Slot.unset).toArray = ls at hl ⊢
  have hl : lv_has ls 4 [(0, .ref (ead E 1)), (1, .int a1)] := hl
  obtain ⟨H, hH⟩ : ∃ H : Heap, H = s.heap := ⟨_, rfl⟩
  obtain ⟨locs, hlocs⟩ : ∃ locs : List Loc, locs = [] := ⟨_, rfl⟩
  rw [show (W p l e (headSpec (.code yX6_odds cX6_odds 4 (some .long) :: BIG) ({ frames := 11, cells := 0, slots := 0, locals := 343 })).room s m ([.ref (ead E 1), .int a1] : List Value).toArray below meth c s.heap [] 0 0) = W p l e (headSpec (.code yX6_odds cX6_odds 4 (some .long) :: BIG) ({ frames := 11, cells := 0, slots := 0, locals := 343 })).room s m ([.ref (ead E 1), .int a1] : List Value).toArray below meth c H locs 0 0 by rw [hH, hlocs]]
  have hV : va_S (eA E) s.heap H locs := by rw [hH, hlocs]; exact hV
  have hW : Wd E μ s H := by rw [hH]; exact hW
  unfold f_X6_odds at hf
  refine lv_iload_n hx hb dX6_odds_0 rfl (lv_at hl 1 rfl) ?_
  refine lv_i2l hx hb dX6_odds_1 rfl ?_
  refine lv_lconst (v := (0 : Int64)) hx hb dX6_odds_2 (by decide) ?_
  refine lv_lconst (v := (1 : Int64)) hx hb dX6_odds_3 (by decide) ?_
  obtain ⟨v12, e_13, hf⟩ := op_none hf
  refine w_callN (rn_RX6_62 (As := [.long a1.toInt64, .long (0 : Int64), .long (1 : Int64)]) hx hb hml hown hB hW hZ hV (k_X6_within l E _ a1.toInt64 (0 : Int64) (1 : Int64) v12 e_13) rfl rfl ⟨(Nat.le_of_ble_eq_true rfl), (Nat.le_of_ble_eq_true rfl)⟩ rfl hl.1 rfl (Nat.le_of_ble_eq_true rfl) dX6_odds_4 ⟨Nat.le_refl _, Nat.le_refl _⟩) hV (fun H locs hn_v12 hW hV => ?_)
  refine lv_if_ne (tgt := 14) hx hb dX6_odds_7 (by decide) (fun y14 => ?_) (fun y14 => ?_)
  · have hf := op_f y14 hf
    refine lv_aload_n hx hb dX6_odds_14 rfl (lv_at hl 0 rfl) ?_
    refine lv_aload_n hx hb dX6_odds_15 rfl (lv_at hl 0 rfl) ?_
    refine gf_RX6_12 hx hb hB hown hW dX6_odds_16 ?_
    obtain ⟨μ15, e_16, hf⟩ := op_none hf
    refine w_callV (rn_RX6_89 (As := [.ref (ead E 100)]) hx hb hml hown hB hW hZ hV (k_X6_reckon l E _ 100 st1 μ15 e_16) rfl rfl ⟨(Nat.le_of_ble_eq_true rfl), (Nat.le_of_ble_eq_true rfl)⟩ (w_rec hW oX.1 (oX.2 E _ _) rfl) rfl hl.1 rfl (Nat.le_of_ble_eq_true rfl) dX6_odds_19 ⟨Nat.le_refl _, Nat.le_refl _⟩) hV (fun H locs hW hV => ?_)
    refine lv_aload_n hx hb dX6_odds_22 rfl (lv_at hl 0 rfl) ?_
    refine gf_RX6_12 hx hb hB hown hW dX6_odds_23 ?_
    obtain ⟨v17, e_18, hf⟩ := op_none hf
    refine w_callL (rn_RX6_184 (As := []) hx hb hml hown hB hW hZ hV (k_X2_round l E _ 100 st1 v17 e_18) rfl rfl ⟨(Nat.le_of_ble_eq_true rfl), (Nat.le_of_ble_eq_true rfl)⟩ (w_rec hW (oSt st1).1 ((oSt st1).2 E _ _) rfl) rfl hl.1 rfl (Nat.le_of_ble_eq_true rfl) dX6_odds_26 ⟨Nat.le_refl _, Nat.le_refl _⟩) hV (fun H locs hW hV => ?_)
    refine lv_lstore_n (i := 2) (lv' := [(2, .long v17), (0, .ref (ead E 1)), (1, .int a1)]) hx hb dX6_odds_29 rfl hl (by decide) rfl (fun ls hl => ?_)
    refine lv_aload_n hx hb dX6_odds_30 rfl (lv_at hl 1 rfl) ?_
    refine gf_RX6_12 hx hb hB hown hW dX6_odds_31 ?_
    refine lv_lload_n hx hb dX6_odds_34 rfl (lv_at hl 0 rfl) ?_
    refine lv_iconst (v := (0 : Int32)) hx hb dX6_odds_35 (by decide) ?_
    refine lv_lconst (v := (0 : Int64)) hx hb dX6_odds_36 (by decide) ?_
    refine lv_lconst (v := (1 : Int64)) hx hb dX6_odds_37 (by decide) ?_
    obtain ⟨v19, e_20, hf⟩ := op_none hf
    refine w_callL (rn_RX6_188 (As := [.long v17, .int (0 : Int32), .long (0 : Int64), .long (1 : Int64)]) hx hb hml hown hB hW hZ hV (k_X2_quietDays l E _ 100 v17 (0 : Int32) (0 : Int64) (1 : Int64) st1 v19 e_20) rfl rfl ⟨(Nat.le_of_ble_eq_true rfl), (Nat.le_of_ble_eq_true rfl)⟩ (w_rec hW (oSt st1).1 ((oSt st1).2 E _ _) rfl) rfl hl.1 rfl (Nat.le_of_ble_eq_true rfl) dX6_odds_38 ⟨Nat.le_refl _, Nat.le_refl _⟩) hV (fun H locs hW hV => ?_)
    refine lv_lload_n hx hb dX6_odds_41 rfl (lv_at hl 0 rfl) ?_
    refine lv_iload_n hx hb dX6_odds_42 rfl (lv_at hl 2 rfl) ?_
    obtain ⟨v21, e_22, hf⟩ := op_none hf
    refine w_callL (rn_RX6_192 (As := [.long v19, .long v17, .int a1]) hx hb hml hown hB hW hZ hV (k_X6_inLowestTerms l E _ v19 v17 a1 v21 e_22) rfl rfl ⟨(Nat.le_of_ble_eq_true rfl), (Nat.le_of_ble_eq_true rfl)⟩ rfl hl.1 rfl (Nat.le_of_ble_eq_true rfl) dX6_odds_43 ⟨Nat.le_refl _, Nat.le_refl _⟩) hV (fun H locs hW hV => ?_)
    exact w_retL hx hb hr hlocks hW hV (Prod.mk.inj (Option.some.inj hf)).1 (Prod.mk.inj (Option.some.inj hf)).2 dX6_odds_46
  · have hf := op_t y14 hf
    refine lv_ldc2 (v := (-9223372036854775808 : Int64)) hx hb hown (hB _ q_23409f7e) dX6_odds_10 ?_
    exact w_retL hx hb hr hlocks hW hV (Prod.mk.inj (Option.some.inj hf)).1 (Prod.mk.inj (Option.some.inj hf)).2 dX6_odds_13
