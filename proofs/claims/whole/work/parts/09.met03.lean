set_option maxHeartbeats 8000000 in
set_option maxRecDepth 100000 in
theorem k_X6_pass (l : Launch) (E : WE) (μ : Mem) (a1 : Int32) (r : Int32) (μ' : Mem) (hf : f_X6_pass μ a1 = some (r, μ')) : Met l yX6_pass (.code yX6_pass cX6_pass 2 (some .int) :: BIG) ({ frames := 6, cells := 0, slots := 0, locals := 145 }) (PW E μ [.ref (ead E 1), .int a1]) (QI E r μ') 0 0 (eA E) := by
  refine Met.ofW (cc := cX6_pass) (maxL := 2) (ret := (some .int)) (by decide) rfl ?_
  intro p e s m args below meth c s₁ B hml hv
  obtain ⟨rfl, hW, hZ⟩ := hv
  have hx := B.exec
  have hb := B.bytes
  have hr := B.returns
  have hB : ∀ w ∈ BIG, w.before _ s = true := fun w h => atoms_spec (ws := (.code yX6_pass cX6_pass 2 (some .int) :: BIG)) B.pre w (List.mem_cons_of_mem _ h)
  have hown : s.vm.findClass RX6 = some m.cls := findClass_of_methodNamed B.named
  have hlocks := B.notSynchronized
  have hV : va_S (eA E) s.heap s.heap [] := va_S.rf
  have hl := lv_entry ([.ref (ead E 1), .int a1]) (n := 2) (Nat.le_of_ble_eq_true rfl)
  rw [lg_entry_eq]
  generalize (lg_sl ([.ref (ead E 1), .int a1]) ++ List.replicate (2 - (lg_sl ([.ref (ead E 1), .int a1])).length) Slot.unset).toArray = ls at hl ⊢
  have hl : lv_has ls 2 [(0, .ref (ead E 1)), (1, .int a1)] := hl
  obtain ⟨H, hH⟩ : ∃ H : Heap, H = s.heap := ⟨_, rfl⟩
  obtain ⟨locs, hlocs⟩ : ∃ locs : List Loc, locs = [] := ⟨_, rfl⟩
  rw [show (W p l e (headSpec (.code yX6_pass cX6_pass 2 (some .int) :: BIG) ({ frames := 6, cells := 0, slots := 0, locals := 145 })).room s m ([.ref (ead E 1), .int a1] : List Value).toArray below meth c s.heap [] 0 0) = W p l e (headSpec (.code yX6_pass cX6_pass 2 (some .int) :: BIG) ({ frames := 6, cells := 0, slots := 0, locals := 145 })).room s m ([.ref (ead E 1), .int a1] : List Value).toArray below meth c H locs 0 0 by rw [hH, hlocs]]
  have hV : va_S (eA E) s.heap H locs := by rw [hH, hlocs]; exact hV
  have hW : Wd E μ s H := by rw [hH]; exact hW
  unfold f_X6_pass at hf
  refine lv_iload_n hx hb dX6_pass_0 rfl (lv_at hl 1 rfl) ?_
  refine lv_i2l hx hb dX6_pass_1 rfl ?_
  refine lv_lconst (v := (0 : Int64)) hx hb dX6_pass_2 (by decide) ?_
  refine lv_ldc2 (v := (60 : Int64)) hx hb hown (hB _ q_20c81cf4) dX6_pass_3 ?_
  obtain ⟨v9, e_10, hf⟩ := op_none hf
  refine w_callN (rn_RX6_62 (As := [.long a1.toInt64, .long (0 : Int64), .long (60 : Int64)]) hx hb hml hown hB hW hZ hV (k_X6_within l E _ a1.toInt64 (0 : Int64) (60 : Int64) v9 e_10) rfl rfl ⟨(Nat.le_of_ble_eq_true rfl), (Nat.le_of_ble_eq_true rfl)⟩ rfl hl.1 rfl (Nat.le_of_ble_eq_true rfl) dX6_pass_6 ⟨Nat.le_refl _, Nat.le_refl _⟩) hV (fun H locs hn_v9 hW hV => ?_)
  refine lv_if_ne (tgt := 15) hx hb dX6_pass_9 (by decide) (fun y11 => ?_) (fun y11 => ?_)
  · have hf := op_f y11 hf
    refine lv_aload_n hx hb dX6_pass_15 rfl (lv_at hl 0 rfl) ?_
    refine gf_RX6_12 hx hb hB hown hW dX6_pass_16 ?_
    refine gf_RX6_121 hx hb hB hown hW st1 dX6_pass_19 ?_
    refine lv_iload_n hx hb dX6_pass_22 rfl (lv_at hl 1 rfl) ?_
    refine lv_iadd hx hb dX6_pass_23 ?_
    refine lv_ldc (v := (99999 : Int32)) hx hb hown (hB _ q_c5742fc6) dX6_pass_24 ?_
    refine lv_icmp_le (tgt := 32) hx hb dX6_pass_26 (by decide) (fun y12 => ?_) (fun y12 => ?_)
    · have hf := op_t y12 hf
      refine lv_aload_n hx hb dX6_pass_32 rfl (lv_at hl 0 rfl) ?_
      refine lv_aload_n hx hb dX6_pass_33 rfl (lv_at hl 0 rfl) ?_
      refine gf_RX6_12 hx hb hB hown hW dX6_pass_34 ?_
      obtain ⟨μ13, e_14, hf⟩ := op_none hf
      refine w_callV (rn_RX6_89 (As := [.ref (ead E 100)]) hx hb hml hown hB hW hZ hV (k_X6_reckon l E _ 100 st1 μ13 e_14) rfl rfl ⟨(Nat.le_of_ble_eq_true rfl), (Nat.le_of_ble_eq_true rfl)⟩ (w_rec hW oX.1 (oX.2 E _ _) rfl) rfl hl.1 rfl (Nat.le_of_ble_eq_true rfl) dX6_pass_37 ⟨Nat.le_refl _, Nat.le_refl _⟩) hV (fun H locs hW hV => ?_)
      refine lv_aload_n hx hb dX6_pass_40 rfl (lv_at hl 0 rfl) ?_
      refine gf_RX6_12 hx hb hB hown hW dX6_pass_41 ?_
      refine lv_iload_n hx hb dX6_pass_44 rfl (lv_at hl 1 rfl) ?_
      refine lv_sipush (v := (9999 : Int32)) hx hb dX6_pass_45 (by decide) ?_
      obtain ⟨μ15, e_16, hf⟩ := op_none hf
      refine w_callV (rn_RX6_144 (As := [.int a1, .int (9999 : Int32)]) hx hb hml hown hB hW hZ hV (k_X2_go l E _ 100 a1 (9999 : Int32) st1 μ15 e_16) rfl rfl ⟨(Nat.le_of_ble_eq_true rfl), (Nat.le_of_ble_eq_true rfl)⟩ (w_rec hW (oSt st1).1 ((oSt st1).2 E _ _) rfl) rfl hl.1 rfl (Nat.le_of_ble_eq_true rfl) dX6_pass_48 ⟨Nat.le_refl _, Nat.le_refl _⟩) hV (fun H locs hW hV => ?_)
      refine lv_aload_n hx hb dX6_pass_51 rfl (lv_at hl 0 rfl) ?_
      refine gf_RX6_12 hx hb hB hown hW dX6_pass_52 ?_
      refine gf_RX6_121 hx hb hB hown hW st1 dX6_pass_55 ?_
      exact w_retI hx hb hr hlocks hW hV (Prod.mk.inj (Option.some.inj hf)).1 (Prod.mk.inj (Option.some.inj hf)).2 dX6_pass_58
    · have hf := op_f y12 hf
      refine lv_bipush (v := (-3 : Int32)) hx hb dX6_pass_29 (by decide) ?_
      exact w_retI hx hb hr hlocks hW hV (Prod.mk.inj (Option.some.inj hf)).1 (Prod.mk.inj (Option.some.inj hf)).2 dX6_pass_31
  · have hf := op_t y11 hf
    refine lv_bipush (v := (-2 : Int32)) hx hb dX6_pass_12 (by decide) ?_
    exact w_retI hx hb hr hlocks hW hV (Prod.mk.inj (Option.some.inj hf)).1 (Prod.mk.inj (Option.some.inj hf)).2 dX6_pass_14
set_option maxHeartbeats 8000000 in
set_option maxRecDepth 100000 in
theorem k_X1_add (l : Launch) (E : WE) (μ : Mem) (k0 : Nat) (n0 : Nat) (a1 : Int32) (a2 : Int32) (a3 : Int32) (h0 : isRw k0 n0) (r : Int32) (μ' : Mem) (hf : f_X1_add μ k0 n0 a1 a2 a3 = some (r, μ')) : Met l yX1_add (.code yX1_add cX1_add 5 (some .int) :: BIG) ({ frames := 0, cells := 0, slots := 0, locals := 0 }) (PW E μ [.ref (ead E k0), .int a1, .int a2, .int a3]) (QI E r μ') 0 0 (eA E) := by
  refine Met.ofW (cc := cX1_add) (maxL := 5) (ret := (some .int)) (by decide) rfl ?_
  intro p e s m args below meth c s₁ B hml hv
  obtain ⟨rfl, hW, hZ⟩ := hv
  have hx := B.exec
  have hb := B.bytes
  have hr := B.returns
  have hB : ∀ w ∈ BIG, w.before _ s = true := fun w h => atoms_spec (ws := (.code yX1_add cX1_add 5 (some .int) :: BIG)) B.pre w (List.mem_cons_of_mem _ h)
  have hown : s.vm.findClass RX1 = some m.cls := findClass_of_methodNamed B.named
  have hlocks := B.notSynchronized
  have hV : va_S (eA E) s.heap s.heap [] := va_S.rf
  have hl := lv_entry ([.ref (ead E k0), .int a1, .int a2, .int a3]) (n := 5) (Nat.le_of_ble_eq_true rfl)
  rw [lg_entry_eq]
  generalize (lg_sl ([.ref (ead E k0), .int a1, .int a2, .int a3]) ++ List.replicate (5 - (lg_sl ([.ref (ead E k0), .int a1, .int a2, .int a3])).length) Slot.unset).toArray = ls at hl ⊢
  have hl : lv_has ls 5 [(0, .ref (ead E k0)), (1, .int a1), (2, .int a2), (3, .int a3)] := hl
  obtain ⟨H, hH⟩ : ∃ H : Heap, H = s.heap := ⟨_, rfl⟩
  obtain ⟨locs, hlocs⟩ : ∃ locs : List Loc, locs = [] := ⟨_, rfl⟩
  rw [show (W p l e (headSpec (.code yX1_add cX1_add 5 (some .int) :: BIG) ({ frames := 0, cells := 0, slots := 0, locals := 0 })).room s m ([.ref (ead E k0), .int a1, .int a2, .int a3] : List Value).toArray below meth c s.heap [] 0 0) = W p l e (headSpec (.code yX1_add cX1_add 5 (some .int) :: BIG) ({ frames := 0, cells := 0, slots := 0, locals := 0 })).room s m ([.ref (ead E k0), .int a1, .int a2, .int a3] : List Value).toArray below meth c H locs 0 0 by rw [hH, hlocs]]
  have hV : va_S (eA E) s.heap H locs := by rw [hH, hlocs]; exact hV
  have hW : Wd E μ s H := by rw [hH]; exact hW
  unfold f_X1_add at hf
  refine lv_aload_n hx hb dX1_add_0 rfl (lv_at hl 0 rfl) ?_
  refine gf_RX1_9 hx hb hB hown hW h0 dX1_add_1 ?_
  refine lv_aload_n hx hb dX1_add_4 rfl (lv_at hl 0 rfl) ?_
  refine gf_RX1_23 hx hb hB hown hW h0 dX1_add_5 ?_
  refine w_alen (j := 4) hx hb hW (rRw h0).1 ((rRw h0).2 E _ _) rfl rfl rfl dX1_add_8 ?_
  refine lv_icmp_lt (tgt := 15) hx hb dX1_add_9 (by decide) (fun y7 => ?_) (fun y7 => ?_)
  · have hf := op_t y7 hf
    refine lv_aload_n hx hb dX1_add_15 rfl (lv_at hl 0 rfl) ?_
    refine gf_RX1_23 hx hb hB hown hW h0 dX1_add_16 ?_
    refine lv_aload_n hx hb dX1_add_19 rfl (lv_at hl 0 rfl) ?_
    refine gf_RX1_9 hx hb hB hown hW h0 dX1_add_20 ?_
    obtain ⟨j8, e_j8, hf⟩ := op_none hf
    refine w_aald (j := 4) hx hb hW (rRw h0).1 ((rRw h0).2 E _ _) rfl rfl e_j8 dX1_add_23 ?_
    refine lv_astore (i := 4) (lv' := [(4, .ref (ead E (k0 + 1 + 1 + j8))), (0, .ref (ead E k0)), (1, .int a1), (2, .int a2), (3, .int a3)]) hx hb dX1_add_24 hl (by decide) rfl (fun ls hl => ?_)
    refine lv_aload hx hb dX1_add_26 (lv_at hl 0 rfl) ?_
    refine lv_iconst (v := (0 : Int32)) hx hb dX1_add_28 (by decide) ?_
    refine lv_iload_n hx hb dX1_add_29 rfl (lv_at hl 2 rfl) ?_
    obtain ⟨μ9, e_μ9, hf⟩ := op_none hf
    refine w_iast hx hb hW hV (iRw h0 (aix_lt e_j8)).1 (fun f => (iRw h0 (aix_lt e_j8)).2 E f _) e_μ9 dX1_add_30 (fun H locs hW hV => ?_)
    refine lv_aload hx hb dX1_add_31 (lv_at hl 0 rfl) ?_
    refine lv_iconst (v := (1 : Int32)) hx hb dX1_add_33 (by decide) ?_
    refine lv_iload_n hx hb dX1_add_34 rfl (lv_at hl 3 rfl) ?_
    obtain ⟨μ10, e_μ10, hf⟩ := op_none hf
    refine w_iast hx hb hW hV (iRw h0 (aix_lt e_j8)).1 (fun f => (iRw h0 (aix_lt e_j8)).2 E f _) e_μ10 dX1_add_35 (fun H locs hW hV => ?_)
    refine lv_aload hx hb dX1_add_36 (lv_at hl 0 rfl) ?_
    refine lv_iconst (v := (2 : Int32)) hx hb dX1_add_38 (by decide) ?_
    refine lv_iload_n hx hb dX1_add_39 rfl (lv_at hl 4 rfl) ?_
    obtain ⟨μ11, e_μ11, hf⟩ := op_none hf
    refine w_iast hx hb hW hV (iRw h0 (aix_lt e_j8)).1 (fun f => (iRw h0 (aix_lt e_j8)).2 E f _) e_μ11 dX1_add_40 (fun H locs hW hV => ?_)
    refine lv_aload_n hx hb dX1_add_41 rfl (lv_at hl 1 rfl) ?_
    refine lv_dup hx hb dX1_add_42 rfl ?_
    refine gf_RX1_9 hx hb hB hown hW h0 dX1_add_43 ?_
    refine lv_iconst (v := (1 : Int32)) hx hb dX1_add_46 (by decide) ?_
    refine lv_iadd hx hb dX1_add_47 ?_
    obtain ⟨μ12, e_μ12, hf⟩ := op_none hf
    refine pf_RX1_9 hx hb hB hown hW h0 hV dX1_add_48 (fun H locs hW hV => ?_)
    rw [Option.some.inj e_μ12] at hW
    refine lv_aload_n hx hb dX1_add_51 rfl (lv_at hl 1 rfl) ?_
    refine gf_RX1_9 hx hb hB hown hW h0 dX1_add_52 ?_
    exact w_retI hx hb hr hlocks hW hV (Prod.mk.inj (Option.some.inj hf)).1 (Prod.mk.inj (Option.some.inj hf)).2 dX1_add_55
  · have hf := op_f y7 hf
    refine lv_bipush (v := (-4 : Int32)) hx hb dX1_add_12 (by decide) ?_
    exact w_retI hx hb hr hlocks hW hV (Prod.mk.inj (Option.some.inj hf)).1 (Prod.mk.inj (Option.some.inj hf)).2 dX1_add_14
set_option maxHeartbeats 8000000 in
set_option maxRecDepth 100000 in
theorem k_X1_becomes (l : Launch) (E : WE) (μ : Mem) (k0 : Nat) (n0 : Nat) (k1 : Nat) (n1 : Nat) (h0 : isRw k0 n0) (h1 : isRw k1 n1) (μ' : Mem) (hf : f_X1_becomes μ k0 n0 k1 n1 = some μ') : Met l yX1_becomes (.code yX1_becomes cX1_becomes 4 none :: BIG) ({ frames := 1, cells := 0, slots := 0, locals := 24 }) (PW E μ [.ref (ead E k0), .ref (ead E k1)]) (QV E μ') 0 0 (eA E) := by
  refine Met.ofW (cc := cX1_becomes) (maxL := 4) (ret := none) (by decide) rfl ?_
  intro p e s m args below meth c s₁ B hml hv
  obtain ⟨rfl, hW, hZ⟩ := hv
  have hx := B.exec
  have hb := B.bytes
  have hr := B.returns
  have hB : ∀ w ∈ BIG, w.before _ s = true := fun w h => atoms_spec (ws := (.code yX1_becomes cX1_becomes 4 none :: BIG)) B.pre w (List.mem_cons_of_mem _ h)
  have hown : s.vm.findClass RX1 = some m.cls := findClass_of_methodNamed B.named
  have hlocks := B.notSynchronized
  have hV : va_S (eA E) s.heap s.heap [] := va_S.rf
  have hl := lv_entry ([.ref (ead E k0), .ref (ead E k1)]) (n := 4) (Nat.le_of_ble_eq_true rfl)
  rw [lg_entry_eq]
  generalize (lg_sl ([.ref (ead E k0), .ref (ead E k1)]) ++ List.replicate (4 - (lg_sl ([.ref (ead E k0), .ref (ead E k1)])).length) Slot.unset).toArray = ls at hl ⊢
  have hl : lv_has ls 4 [(0, .ref (ead E k0)), (1, .ref (ead E k1))] := hl
  have c_7 : ∀ (n_7 : Nat) (μ_7 : Mem) (b2_7 : Int32) , f_X1_becomes_7 k0 n0 k1 n1 n_7 μ_7 b2_7 = some μ' → ∀ (H : Heap) (locs : List Loc) (ls : Array Slot), Wd E μ_7 s H → va_S (eA E) s.heap H locs → lv_has ls 4 [(0, .ref (ead E k0)), (1, .ref (ead E k1)), (2, .int b2_7)] → W p l e (headSpec (.code yX1_becomes cX1_becomes 4 none :: BIG) ({ frames := 1, cells := 0, slots := 0, locals := 24 })).room s m ([.ref (ead E k0), .ref (ead E k1)] : List Value).toArray below meth c H locs 0 0 (MQ below (QV E μ') ([.ref (ead E k0), .ref (ead E k1)] : List Value).toArray s 0 0 (eA E)) (F0 m 7 ls []) := by
    intro n_7
    induction n_7 with
    | zero =>
      intro μ_7 b2_7 hf H locs ls hW hV hl
      cases hf
    | succ n_7 ih_7 =>
      intro μ_7 b2_7 hf H locs ls hW hV hl
      rw [f_X1_becomes_7] at hf
      refine lv_iload_n hx hb dX1_becomes_7 rfl (lv_at hl 2 rfl) ?_
      refine lv_aload_n hx hb dX1_becomes_8 rfl (lv_at hl 1 rfl) ?_
      refine gf_RX1_9 hx hb hB hown hW h1 dX1_becomes_9 ?_
      refine lv_icmp_ge (tgt := 42) hx hb dX1_becomes_12 (by decide) (fun y12 => ?_) (fun y12 => ?_)
      · have hf := op_t y12 hf
        exact w_retV hx hb hr hlocks hW hV (Option.some.inj hf) dX1_becomes_42
      · have hf := op_f y12 hf
        refine lv_aload_n hx hb dX1_becomes_15 rfl (lv_at hl 1 rfl) ?_
        refine gf_RX1_23 hx hb hB hown hW h1 dX1_becomes_16 ?_
        refine lv_iload_n hx hb dX1_becomes_19 rfl (lv_at hl 2 rfl) ?_
        obtain ⟨j13, e_j13, hf⟩ := op_none hf
        refine w_aald (j := 4) hx hb hW (rRw h1).1 ((rRw h1).2 E _ _) rfl rfl e_j13 dX1_becomes_20 ?_
        refine lv_astore_n (i := 3) (lv' := [(3, .ref (ead E (k1 + 1 + 1 + j13))), (0, .ref (ead E k0)), (1, .ref (ead E k1)), (2, .int b2_7)]) hx hb dX1_becomes_21 rfl hl (by decide) rfl (fun ls hl => ?_)
        refine lv_aload_n hx hb dX1_becomes_22 rfl (lv_at hl 1 rfl) ?_
        refine lv_aload_n hx hb dX1_becomes_23 rfl (lv_at hl 0 rfl) ?_
        refine lv_iconst (v := (0 : Int32)) hx hb dX1_becomes_24 (by decide) ?_
        obtain ⟨v14, e_v14, hf⟩ := op_none hf
        refine w_iald hx hb hW (iRw h1 (aix_lt e_j13)).1 ((iRw h1 (aix_lt e_j13)).2 E _ _) e_v14 dX1_becomes_25 ?_
        refine lv_aload_n hx hb dX1_becomes_26 rfl (lv_at hl 0 rfl) ?_
        refine lv_iconst (v := (1 : Int32)) hx hb dX1_becomes_27 (by decide) ?_
        obtain ⟨v15, e_v15, hf⟩ := op_none hf
        refine w_iald hx hb hW (iRw h1 (aix_lt e_j13)).1 ((iRw h1 (aix_lt e_j13)).2 E _ _) e_v15 dX1_becomes_28 ?_
        refine lv_aload_n hx hb dX1_becomes_29 rfl (lv_at hl 0 rfl) ?_
        refine lv_iconst (v := (2 : Int32)) hx hb dX1_becomes_30 (by decide) ?_
        obtain ⟨v16, e_v16, hf⟩ := op_none hf
        refine w_iald hx hb hW (iRw h1 (aix_lt e_j13)).1 ((iRw h1 (aix_lt e_j13)).2 E _ _) e_v16 dX1_becomes_31 ?_
        obtain ⟨p20, e_19, hf⟩ := op_none hf
        refine w_callI (rn_RX1_26 (As := [.int v14, .int v15, .int v16]) hx hb hml hown hB hW hZ hV (k_X1_add l E _ k0 n0 v14 v15 v16 h0 p20.1 p20.2 e_19) rfl rfl ⟨(Nat.le_of_ble_eq_true rfl), (Nat.le_of_ble_eq_true rfl)⟩ (w_rec hW (oRw h0).1 ((oRw h0).2 E _ _) rfl) rfl hl.1 rfl (Nat.le_of_ble_eq_true rfl) dX1_becomes_32 ⟨Nat.le_refl _, Nat.le_refl _⟩) hV (fun H locs hW hV => ?_)
        refine lv_pop hx hb dX1_becomes_35 rfl ?_
        obtain ⟨v21, e_v21, hf⟩ := op_none hf
        refine lv_iinc (v := v21) (lv' := [(2, .int v21), (3, .ref (ead E (k1 + 1 + 1 + j13))), (0, .ref (ead E k0)), (1, .ref (ead E k1))]) hx hb dX1_becomes_36 hl (k := 3) rfl (by rw [← Option.some.inj e_v21]; rfl) (by decide) rfl (fun ls hl => ?_)
        refine lv_goto (tgt := 7) hx hb dX1_becomes_39 (by decide) ?_
        exact ih_7 p20.2 v21 hf H locs ls hW hV (lv_sub hl [2, 3, 0] rfl)
  obtain ⟨H, hH⟩ : ∃ H : Heap, H = s.heap := ⟨_, rfl⟩
  obtain ⟨locs, hlocs⟩ : ∃ locs : List Loc, locs = [] := ⟨_, rfl⟩
  rw [show (W p l e (headSpec (.code yX1_becomes cX1_becomes 4 none :: BIG) ({ frames := 1, cells := 0, slots := 0, locals := 24 })).room s m ([.ref (ead E k0), .ref (ead E k1)] : List Value).toArray below meth c s.heap [] 0 0) = W p l e (headSpec (.code yX1_becomes cX1_becomes 4 none :: BIG) ({ frames := 1, cells := 0, slots := 0, locals := 24 })).room s m ([.ref (ead E k0), .ref (ead E k1)] : List Value).toArray below meth c H locs 0 0 by rw [hH, hlocs]]
  have hV : va_S (eA E) s.heap H locs := by rw [hH, hlocs]; exact hV
  have hW : Wd E μ s H := by rw [hH]; exact hW
  unfold f_X1_becomes at hf
  refine lv_aload_n hx hb dX1_becomes_0 rfl (lv_at hl 0 rfl) ?_
  refine lv_iconst (v := (0 : Int32)) hx hb dX1_becomes_1 (by decide) ?_
  obtain ⟨μ22, e_μ22, hf⟩ := op_none hf
  refine pf_RX1_9 hx hb hB hown hW h0 hV dX1_becomes_2 (fun H locs hW hV => ?_)
  rw [Option.some.inj e_μ22] at hW
  refine lv_iconst (v := (0 : Int32)) hx hb dX1_becomes_5 (by decide) ?_
  refine lv_istore_n (i := 2) (lv' := [(2, .int (0 : Int32)), (0, .ref (ead E k0)), (1, .ref (ead E k1))]) hx hb dX1_becomes_6 rfl hl (by decide) rfl (fun ls hl => ?_)
  exact c_7 FU μ22 (0 : Int32) hf H locs ls hW hV (lv_sub hl [1, 2, 0] rfl)
set_option maxHeartbeats 8000000 in
set_option maxRecDepth 100000 in
theorem k_X2_becomes (l : Launch) (E : WE) (μ : Mem) (k0 : Nat) (k1 : Nat) (h0 : isSt k0) (h1 : isSt k1) (μ' : Mem) (hf : f_X2_becomes μ k0 k1 = some μ') : Met l yX2_becomes (.code yX2_becomes cX2_becomes 3 none :: BIG) ({ frames := 2, cells := 0, slots := 0, locals := 47 }) (PW E μ [.ref (ead E k0), .ref (ead E k1)]) (QV E μ') 0 0 (eA E) := by
  refine Met.ofW (cc := cX2_becomes) (maxL := 3) (ret := none) (by decide) rfl ?_
  intro p e s m args below meth c s₁ B hml hv
  obtain ⟨rfl, hW, hZ⟩ := hv
  have hx := B.exec
  have hb := B.bytes
  have hr := B.returns
  have hB : ∀ w ∈ BIG, w.before _ s = true := fun w h => atoms_spec (ws := (.code yX2_becomes cX2_becomes 3 none :: BIG)) B.pre w (List.mem_cons_of_mem _ h)
  have hown : s.vm.findClass RX2 = some m.cls := findClass_of_methodNamed B.named
  have hlocks := B.notSynchronized
  have hV : va_S (eA E) s.heap s.heap [] := va_S.rf
  have hl := lv_entry ([.ref (ead E k0), .ref (ead E k1)]) (n := 3) (Nat.le_of_ble_eq_true rfl)
  rw [lg_entry_eq]
  generalize (lg_sl ([.ref (ead E k0), .ref (ead E k1)]) ++ List.replicate (3 - (lg_sl ([.ref (ead E k0), .ref (ead E k1)])).length) Slot.unset).toArray = ls at hl ⊢
  have hl : lv_has ls 3 [(0, .ref (ead E k0)), (1, .ref (ead E k1))] := hl
  have c_10 : ∀ (n_10 : Nat) (μ_10 : Mem) (b2_10 : Int32) , f_X2_becomes_10 k0 k1 n_10 μ_10 b2_10 = some μ' → ∀ (H : Heap) (locs : List Loc) (ls : Array Slot), Wd E μ_10 s H → va_S (eA E) s.heap H locs → lv_has ls 3 [(0, .ref (ead E k0)), (1, .ref (ead E k1)), (2, .int b2_10)] → W p l e (headSpec (.code yX2_becomes cX2_becomes 3 none :: BIG) ({ frames := 2, cells := 0, slots := 0, locals := 47 })).room s m ([.ref (ead E k0), .ref (ead E k1)] : List Value).toArray below meth c H locs 0 0 (MQ below (QV E μ') ([.ref (ead E k0), .ref (ead E k1)] : List Value).toArray s 0 0 (eA E)) (F0 m 10 ls []) := by
    intro n_10
    induction n_10 with
    | zero =>
      intro μ_10 b2_10 hf H locs ls hW hV hl
      cases hf
    | succ n_10 ih_10 =>
      intro μ_10 b2_10 hf H locs ls hW hV hl
      rw [f_X2_becomes_10] at hf
      refine lv_iload_n hx hb dX2_becomes_10 rfl (lv_at hl 2 rfl) ?_
      refine lv_aload_n hx hb dX2_becomes_11 rfl (lv_at hl 0 rfl) ?_
      refine gf_RX2_9 hx hb hB hown hW h0 dX2_becomes_12 ?_
      refine lv_icmp_ge (tgt := 43) hx hb dX2_becomes_15 (by decide) (fun y16 => ?_) (fun y16 => ?_)
      · have hf := op_t y16 hf
        refine lv_aload_n hx hb dX2_becomes_43 rfl (lv_at hl 0 rfl) ?_
        refine lv_aload_n hx hb dX2_becomes_44 rfl (lv_at hl 1 rfl) ?_
        refine gf_RX2_20 hx hb hB hown hW h1 dX2_becomes_45 ?_
        obtain ⟨μ17, e_μ17, hf⟩ := op_none hf
        refine pf_RX2_20 hx hb hB hown hW h0 hV dX2_becomes_48 (fun H locs hW hV => ?_)
        rw [Option.some.inj e_μ17] at hW
        refine lv_aload_n hx hb dX2_becomes_51 rfl (lv_at hl 0 rfl) ?_
        refine lv_aload_n hx hb dX2_becomes_52 rfl (lv_at hl 1 rfl) ?_
        refine gf_RX2_23 hx hb hB hown hW h1 dX2_becomes_53 ?_
        obtain ⟨μ18, e_μ18, hf⟩ := op_none hf
        refine pf_RX2_23 hx hb hB hown hW h0 hV dX2_becomes_56 (fun H locs hW hV => ?_)
        rw [Option.some.inj e_μ18] at hW
        refine lv_aload_n hx hb dX2_becomes_59 rfl (lv_at hl 0 rfl) ?_
        refine lv_aload_n hx hb dX2_becomes_60 rfl (lv_at hl 1 rfl) ?_
        refine gf_RX2_26 hx hb hB hown hW h1 dX2_becomes_61 ?_
        obtain ⟨μ19, e_μ19, hf⟩ := op_none hf
        refine pf_RX2_26 hx hb hB hown hW h0 hV dX2_becomes_64 (fun H locs hW hV => ?_)
        rw [Option.some.inj e_μ19] at hW
        refine lv_aload_n hx hb dX2_becomes_67 rfl (lv_at hl 0 rfl) ?_
        refine gf_RX2_34 hx hb hB hown hW h0 dX2_becomes_68 ?_
        refine lv_aload_n hx hb dX2_becomes_71 rfl (lv_at hl 1 rfl) ?_
        refine gf_RX2_34 hx hb hB hown hW h1 dX2_becomes_72 ?_
        obtain ⟨μ20, e_21, hf⟩ := op_none hf
        refine w_callV (rn_RX2_50 (As := [.ref (ead E (k1 + 10))]) hx hb hml hown hB hW hZ hV (k_X1_becomes l E _ (k0 + 10) 6 (k1 + 10) 6 (rwH h0) (rwH h1) μ20 e_21) rfl rfl ⟨(Nat.le_of_ble_eq_true rfl), (Nat.le_of_ble_eq_true rfl)⟩ (w_rec hW (oRw (rwH h0)).1 ((oRw (rwH h0)).2 E _ _) rfl) rfl hl.1 rfl (Nat.le_of_ble_eq_true rfl) dX2_becomes_75 ⟨Nat.le_refl _, Nat.le_refl _⟩) hV (fun H locs hW hV => ?_)
        refine lv_aload_n hx hb dX2_becomes_78 rfl (lv_at hl 0 rfl) ?_
        refine gf_RX2_38 hx hb hB hown hW h0 dX2_becomes_79 ?_
        refine lv_aload_n hx hb dX2_becomes_82 rfl (lv_at hl 1 rfl) ?_
        refine gf_RX2_38 hx hb hB hown hW h1 dX2_becomes_83 ?_
        obtain ⟨μ22, e_23, hf⟩ := op_none hf
        refine w_callV (rn_RX2_50 (As := [.ref (ead E (k1 + 30))]) hx hb hml hown hB hW hZ hV (k_X1_becomes l E _ (k0 + 30) 10 (k1 + 30) 10 (rwP h0) (rwP h1) μ22 e_23) rfl rfl ⟨(Nat.le_of_ble_eq_true rfl), (Nat.le_of_ble_eq_true rfl)⟩ (w_rec hW (oRw (rwP h0)).1 ((oRw (rwP h0)).2 E _ _) rfl) rfl hl.1 rfl (Nat.le_of_ble_eq_true rfl) dX2_becomes_86 ⟨Nat.le_refl _, Nat.le_refl _⟩) hV (fun H locs hW hV => ?_)
        refine lv_aload_n hx hb dX2_becomes_89 rfl (lv_at hl 0 rfl) ?_
        refine gf_RX2_41 hx hb hB hown hW h0 dX2_becomes_90 ?_
        refine lv_aload_n hx hb dX2_becomes_93 rfl (lv_at hl 1 rfl) ?_
        refine gf_RX2_41 hx hb hB hown hW h1 dX2_becomes_94 ?_
        obtain ⟨μ24, e_25, hf⟩ := op_none hf
        refine w_callV (rn_RX2_50 (As := [.ref (ead E (k1 + 50))]) hx hb hml hown hB hW hZ hV (k_X1_becomes l E _ (k0 + 50) 8 (k1 + 50) 8 (rwB h0) (rwB h1) μ24 e_25) rfl rfl ⟨(Nat.le_of_ble_eq_true rfl), (Nat.le_of_ble_eq_true rfl)⟩ (w_rec hW (oRw (rwB h0)).1 ((oRw (rwB h0)).2 E _ _) rfl) rfl hl.1 rfl (Nat.le_of_ble_eq_true rfl) dX2_becomes_97 ⟨Nat.le_refl _, Nat.le_refl _⟩) hV (fun H locs hW hV => ?_)
        exact w_retV hx hb hr hlocks hW hV (Option.some.inj hf) dX2_becomes_100
      · have hf := op_f y16 hf
        refine lv_aload_n hx hb dX2_becomes_18 rfl (lv_at hl 1 rfl) ?_
        refine gf_RX2_17 hx hb hB hown hW h1 dX2_becomes_19 ?_
        refine lv_iload_n hx hb dX2_becomes_22 rfl (lv_at hl 2 rfl) ?_
        obtain ⟨j26, e_j26, hf⟩ := op_none hf
        refine w_aald (j := 4) hx hb hW (rSt h1).1 ((rSt h1).2 E _ _) rfl rfl e_j26 dX2_becomes_23 ?_
        refine lv_iconst (v := (0 : Int32)) hx hb dX2_becomes_24 (by decide) ?_
        refine lv_aload_n hx hb dX2_becomes_25 rfl (lv_at hl 0 rfl) ?_
        refine gf_RX2_17 hx hb hB hown hW h0 dX2_becomes_26 ?_
        refine lv_iload_n hx hb dX2_becomes_29 rfl (lv_at hl 2 rfl) ?_
        obtain ⟨j27, e_j27, hf⟩ := op_none hf
        refine w_aald (j := 4) hx hb hW (rSt h0).1 ((rSt h0).2 E _ _) rfl rfl e_j27 dX2_becomes_30 ?_
        refine lv_iconst (v := (0 : Int32)) hx hb dX2_becomes_31 (by decide) ?_
        refine lv_bipush (v := (14 : Int32)) hx hb dX2_becomes_32 (by decide) ?_
        obtain ⟨μ28, e_μ28, hf⟩ := op_none hf
        refine w_cpI hx hb (hml.trans hl.1.symm) hown (hB _ q_1cdced95) (hB _ q_3d265588) (hB _ q_b29db291) (hB _ q_a5e0699f) hW hV (iEg h1 (aix_lt e_j26)) (iEg h0 (aix_lt e_j27)) e_μ28 (Nat.le_of_ble_eq_true rfl) (Nat.le_of_ble_eq_true rfl) dX2_becomes_34 (fun H locs hW hV => ?_)
        obtain ⟨v29, e_v29, hf⟩ := op_none hf
        refine lv_iinc (v := v29) (lv' := [(2, .int v29), (0, .ref (ead E k0)), (1, .ref (ead E k1))]) hx hb dX2_becomes_37 hl (k := 2) rfl (by rw [← Option.some.inj e_v29]; rfl) (by decide) rfl (fun ls hl => ?_)
        refine lv_goto (tgt := 10) hx hb dX2_becomes_40 (by decide) ?_
        exact ih_10 μ28 v29 hf H locs ls hW hV (lv_sub hl [1, 2, 0] rfl)
  obtain ⟨H, hH⟩ : ∃ H : Heap, H = s.heap := ⟨_, rfl⟩
  obtain ⟨locs, hlocs⟩ : ∃ locs : List Loc, locs = [] := ⟨_, rfl⟩
  rw [show (W p l e (headSpec (.code yX2_becomes cX2_becomes 3 none :: BIG) ({ frames := 2, cells := 0, slots := 0, locals := 47 })).room s m ([.ref (ead E k0), .ref (ead E k1)] : List Value).toArray below meth c s.heap [] 0 0) = W p l e (headSpec (.code yX2_becomes cX2_becomes 3 none :: BIG) ({ frames := 2, cells := 0, slots := 0, locals := 47 })).room s m ([.ref (ead E k0), .ref (ead E k1)] : List Value).toArray below meth c H locs 0 0 by rw [hH, hlocs]]
  have hV : va_S (eA E) s.heap H locs := by rw [hH, hlocs]; exact hV
  have hW : Wd E μ s H := by rw [hH]; exact hW
  unfold f_X2_becomes at hf
  refine lv_aload_n hx hb dX2_becomes_0 rfl (lv_at hl 0 rfl) ?_
  refine lv_aload_n hx hb dX2_becomes_1 rfl (lv_at hl 1 rfl) ?_
  refine gf_RX2_9 hx hb hB hown hW h1 dX2_becomes_2 ?_
  obtain ⟨μ30, e_μ30, hf⟩ := op_none hf
  refine pf_RX2_9 hx hb hB hown hW h0 hV dX2_becomes_5 (fun H locs hW hV => ?_)
  rw [Option.some.inj e_μ30] at hW
  refine lv_iconst (v := (0 : Int32)) hx hb dX2_becomes_8 (by decide) ?_
  refine lv_istore_n (i := 2) (lv' := [(2, .int (0 : Int32)), (0, .ref (ead E k0)), (1, .ref (ead E k1))]) hx hb dX2_becomes_9 rfl hl (by decide) rfl (fun ls hl => ?_)
  exact c_10 FU μ30 (0 : Int32) hf H locs ls hW hV (lv_sub hl [1, 2, 0] rfl)
set_option maxHeartbeats 8000000 in
set_option maxRecDepth 100000 in
theorem k_X6_tryDays (l : Launch) (E : WE) (μ : Mem) (a1 : Int32) (μ' : Mem) (hf : f_X6_tryDays μ a1 = some μ') : Met l yX6_tryDays (.code yX6_tryDays cX6_tryDays 2 none :: BIG) ({ frames := 6, cells := 0, slots := 0, locals := 145 }) (PW E μ [.ref (ead E 1), .int a1]) (QV E μ') 0 0 (eA E) := by
  refine Met.ofW (cc := cX6_tryDays) (maxL := 2) (ret := none) (by decide) rfl ?_
  intro p e s m args below meth c s₁ B hml hv
  obtain ⟨rfl, hW, hZ⟩ := hv
  have hx := B.exec
  have hb := B.bytes
  have hr := B.returns
  have hB : ∀ w ∈ BIG, w.before _ s = true := fun w h => atoms_spec (ws := (.code yX6_tryDays cX6_tryDays 2 none :: BIG)) B.pre w (List.mem_cons_of_mem _ h)
  have hown : s.vm.findClass RX6 = some m.cls := findClass_of_methodNamed B.named
  have hlocks := B.notSynchronized
  have hV : va_S (eA E) s.heap s.heap [] := va_S.rf
  have hl := lv_entry ([.ref (ead E 1), .int a1]) (n := 2) (Nat.le_of_ble_eq_true rfl)
  rw [lg_entry_eq]
  generalize (lg_sl ([.ref (ead E 1), .int a1]) ++ List.replicate (2 - (lg_sl ([.ref (ead E 1), .int a1])).length) Slot.unset).toArray = ls at hl ⊢
  have hl : lv_has ls 2 [(0, .ref (ead E 1)), (1, .int a1)] := hl
  obtain ⟨H, hH⟩ : ∃ H : Heap, H = s.heap := ⟨_, rfl⟩
  obtain ⟨locs, hlocs⟩ : ∃ locs : List Loc, locs = [] := ⟨_, rfl⟩
  rw [show (W p l e (headSpec (.code yX6_tryDays cX6_tryDays 2 none :: BIG) ({ frames := 6, cells := 0, slots := 0, locals := 145 })).room s m ([.ref (ead E 1), .int a1] : List Value).toArray below meth c s.heap [] 0 0) = W p l e (headSpec (.code yX6_tryDays cX6_tryDays 2 none :: BIG) ({ frames := 6, cells := 0, slots := 0, locals := 145 })).room s m ([.ref (ead E 1), .int a1] : List Value).toArray below meth c H locs 0 0 by rw [hH, hlocs]]
  have hV : va_S (eA E) s.heap H locs := by rw [hH, hlocs]; exact hV
  have hW : Wd E μ s H := by rw [hH]; exact hW
  unfold f_X6_tryDays at hf
  refine lv_aload_n hx hb dX6_tryDays_0 rfl (lv_at hl 0 rfl) ?_
  refine gf_RX6_21 hx hb hB hown hW dX6_tryDays_1 ?_
  refine lv_aload_n hx hb dX6_tryDays_4 rfl (lv_at hl 0 rfl) ?_
  refine gf_RX6_12 hx hb hB hown hW dX6_tryDays_5 ?_
  obtain ⟨μ7, e_8, hf⟩ := op_none hf
  refine w_callV (rn_RX6_199 (As := [.ref (ead E 100)]) hx hb hml hown hB hW hZ hV (k_X2_becomes l E _ 300 100 st3 st1 μ7 e_8) rfl rfl ⟨(Nat.le_of_ble_eq_true rfl), (Nat.le_of_ble_eq_true rfl)⟩ (w_rec hW (oSt st3).1 ((oSt st3).2 E _ _) rfl) rfl hl.1 rfl (Nat.le_of_ble_eq_true rfl) dX6_tryDays_8 ⟨Nat.le_refl _, Nat.le_refl _⟩) hV (fun H locs hW hV => ?_)
  refine lv_aload_n hx hb dX6_tryDays_11 rfl (lv_at hl 0 rfl) ?_
  refine lv_aload_n hx hb dX6_tryDays_12 rfl (lv_at hl 0 rfl) ?_
  refine gf_RX6_21 hx hb hB hown hW dX6_tryDays_13 ?_
  obtain ⟨μ9, e_10, hf⟩ := op_none hf
  refine w_callV (rn_RX6_89 (As := [.ref (ead E 300)]) hx hb hml hown hB hW hZ hV (k_X6_reckon l E _ 300 st3 μ9 e_10) rfl rfl ⟨(Nat.le_of_ble_eq_true rfl), (Nat.le_of_ble_eq_true rfl)⟩ (w_rec hW oX.1 (oX.2 E _ _) rfl) rfl hl.1 rfl (Nat.le_of_ble_eq_true rfl) dX6_tryDays_16 ⟨Nat.le_refl _, Nat.le_refl _⟩) hV (fun H locs hW hV => ?_)
  refine lv_aload_n hx hb dX6_tryDays_19 rfl (lv_at hl 0 rfl) ?_
  refine gf_RX6_21 hx hb hB hown hW dX6_tryDays_20 ?_
  refine lv_iload_n hx hb dX6_tryDays_23 rfl (lv_at hl 1 rfl) ?_
  refine lv_ldcw (v := (2147483647 : Int32)) hx hb hown (hB _ q_3e236384) dX6_tryDays_24 ?_
  obtain ⟨μ11, e_12, hf⟩ := op_none hf
  refine w_callV (rn_RX6_144 (As := [.int a1, .int (2147483647 : Int32)]) hx hb hml hown hB hW hZ hV (k_X2_go l E _ 300 a1 (2147483647 : Int32) st3 μ11 e_12) rfl rfl ⟨(Nat.le_of_ble_eq_true rfl), (Nat.le_of_ble_eq_true rfl)⟩ (w_rec hW (oSt st3).1 ((oSt st3).2 E _ _) rfl) rfl hl.1 rfl (Nat.le_of_ble_eq_true rfl) dX6_tryDays_27 ⟨Nat.le_refl _, Nat.le_refl _⟩) hV (fun H locs hW hV => ?_)
  exact w_retV hx hb hr hlocks hW hV (Option.some.inj hf) dX6_tryDays_30
set_option maxHeartbeats 8000000 in
set_option maxRecDepth 100000 in
theorem k_X6_on (l : Launch) (E : WE) (μ : Mem) (a1 : Int32) (a2 : Int32) (r : Int32) (μ' : Mem) (hf : f_X6_on μ a1 a2 = some (r, μ')) : Met l yX6_on (.code yX6_on cX6_on 3 (some .int) :: BIG) ({ frames := 7, cells := 0, slots := 0, locals := 166 }) (PW E μ [.ref (ead E 1), .int a1, .int a2]) (QI E r μ') 0 0 (eA E) := by
  refine Met.ofW (cc := cX6_on) (maxL := 3) (ret := (some .int)) (by decide) rfl ?_
  intro p e s m args below meth c s₁ B hml hv
  obtain ⟨rfl, hW, hZ⟩ := hv
  have hx := B.exec
  have hb := B.bytes
  have hr := B.returns
  have hB : ∀ w ∈ BIG, w.before _ s = true := fun w h => atoms_spec (ws := (.code yX6_on cX6_on 3 (some .int) :: BIG)) B.pre w (List.mem_cons_of_mem _ h)
  have hown : s.vm.findClass RX6 = some m.cls := findClass_of_methodNamed B.named
  have hlocks := B.notSynchronized
  have hV : va_S (eA E) s.heap s.heap [] := va_S.rf
  have hl := lv_entry ([.ref (ead E 1), .int a1, .int a2]) (n := 3) (Nat.le_of_ble_eq_true rfl)
  rw [lg_entry_eq]
  generalize (lg_sl ([.ref (ead E 1), .int a1, .int a2]) ++ List.replicate (3 - (lg_sl ([.ref (ead E 1), .int a1, .int a2])).length) Slot.unset).toArray = ls at hl ⊢
  have hl : lv_has ls 3 [(0, .ref (ead E 1)), (1, .int a1), (2, .int a2)] := hl
  have c_34 : ∀ (μ_34 : Mem) (b1_34 : Int32) (b2_34 : Int32) , f_X6_on_34 μ_34 b1_34 b2_34 = some (r, μ') → ∀ (H : Heap) (locs : List Loc) (ls : Array Slot), Wd E μ_34 s H → va_S (eA E) s.heap H locs → lv_has ls 3 [(0, .ref (ead E 1)), (1, .int b1_34), (2, .int b2_34)] → W p l e (headSpec (.code yX6_on cX6_on 3 (some .int) :: BIG) ({ frames := 7, cells := 0, slots := 0, locals := 166 })).room s m ([.ref (ead E 1), .int a1, .int a2] : List Value).toArray below meth c H locs 0 0 (MQ below (QI E r μ') ([.ref (ead E 1), .int a1, .int a2] : List Value).toArray s 0 0 (eA E)) (F0 m 34 ls []) := by
    intro μ_34 b1_34 b2_34 hf H locs ls hW hV hl
    unfold f_X6_on_34 at hf
    refine lv_iload_n hx hb dX6_on_34 rfl (lv_at hl 1 rfl) ?_
    refine lv_i2l hx hb dX6_on_35 rfl ?_
    refine lv_lconst (v := (0 : Int64)) hx hb dX6_on_36 (by decide) ?_
    refine lv_ldc2 (v := (60 : Int64)) hx hb hown (hB _ q_20c81cf4) dX6_on_37 ?_
    obtain ⟨v24, e_25, hf⟩ := op_none hf
    refine w_callN (rn_RX6_62 (As := [.long b1_34.toInt64, .long (0 : Int64), .long (60 : Int64)]) hx hb hml hown hB hW hZ hV (k_X6_within l E _ b1_34.toInt64 (0 : Int64) (60 : Int64) v24 e_25) rfl rfl ⟨(Nat.le_of_ble_eq_true rfl), (Nat.le_of_ble_eq_true rfl)⟩ rfl hl.1 rfl (Nat.le_of_ble_eq_true rfl) dX6_on_40 ⟨Nat.le_refl _, Nat.le_refl _⟩) hV (fun H locs hn_v24 hW hV => ?_)
    refine lv_if_ne (tgt := 49) hx hb dX6_on_43 (by decide) (fun y26 => ?_) (fun y26 => ?_)
    · have hf := op_f y26 hf
      refine lv_aload_n hx hb dX6_on_49 rfl (lv_at hl 0 rfl) ?_
      refine lv_iload_n hx hb dX6_on_50 rfl (lv_at hl 1 rfl) ?_
      obtain ⟨μ27, e_28, hf⟩ := op_none hf
      refine w_callV (rn_RX6_150 (As := [.int b1_34]) hx hb hml hown hB hW hZ hV (k_X6_tryDays l E _ b1_34 μ27 e_28) rfl rfl ⟨(Nat.le_of_ble_eq_true rfl), (Nat.le_of_ble_eq_true rfl)⟩ (w_rec hW oX.1 (oX.2 E _ _) rfl) rfl hl.1 rfl (Nat.le_of_ble_eq_true rfl) dX6_on_51 ⟨Nat.le_refl _, Nat.le_refl _⟩) hV (fun H locs hW hV => ?_)
      refine lv_iload_n hx hb dX6_on_54 rfl (lv_at hl 2 rfl) ?_
      by_cases y29 : b2_34 = (0 : Int32)
      · have hf := op_t y29 hf
        refine lv_tableIn (tgt := 80) (off := 25) hx hb dX6_on_55 (by rw [y29]; decide) (by rw [y29]; decide) (by rw [y29]; rfl) (by decide) ?_
        refine lv_aload_n hx hb dX6_on_80 rfl (lv_at hl 0 rfl) ?_
        refine gf_RX6_21 hx hb hB hown hW dX6_on_81 ?_
        refine lv_aload_n hx hb dX6_on_84 rfl (lv_at hl 0 rfl) ?_
        refine gf_RX6_21 hx hb hB hown hW dX6_on_85 ?_
        refine gf_RX6_121 hx hb hB hown hW st3 dX6_on_88 ?_
        obtain ⟨v30, e_31, hf⟩ := op_none hf
        refine w_callI (rn_RX6_131 (As := [.int (gI μ27 300 3)]) hx hb hml hown hB hW hZ hV (k_X2_goingOff l E _ 300 (gI μ27 300 3) st3 v30 e_31) rfl rfl ⟨(Nat.le_of_ble_eq_true rfl), (Nat.le_of_ble_eq_true rfl)⟩ (w_rec hW (oSt st3).1 ((oSt st3).2 E _ _) rfl) rfl hl.1 rfl (Nat.le_of_ble_eq_true rfl) dX6_on_91 ⟨Nat.le_refl _, Nat.le_refl _⟩) hV (fun H locs hW hV => ?_)
        exact w_retI hx hb hr hlocks hW hV (Prod.mk.inj (Option.some.inj hf)).1 (Prod.mk.inj (Option.some.inj hf)).2 dX6_on_94
      have hf := op_f y29 hf
      by_cases y32 : b2_34 = (1 : Int32)
      · have hf := op_t y32 hf
        refine lv_tableIn (tgt := 95) (off := 40) hx hb dX6_on_55 (by rw [y32]; decide) (by rw [y32]; decide) (by rw [y32]; rfl) (by decide) ?_
        refine lv_aload_n hx hb dX6_on_95 rfl (lv_at hl 0 rfl) ?_
        refine gf_RX6_21 hx hb hB hown hW dX6_on_96 ?_
        refine lv_iconst (v := (5 : Int32)) hx hb dX6_on_99 (by decide) ?_
        obtain ⟨v33, e_34, hf⟩ := op_none hf
        refine w_callI (rn_RX6_138 (As := [.int (5 : Int32)]) hx hb hml hown hB hW hZ hV (k_X2_total l E _ 300 (5 : Int32) st3 v33 e_34) rfl rfl ⟨(Nat.le_of_ble_eq_true rfl), (Nat.le_of_ble_eq_true rfl)⟩ (w_rec hW (oSt st3).1 ((oSt st3).2 E _ _) rfl) rfl hl.1 rfl (Nat.le_of_ble_eq_true rfl) dX6_on_100 ⟨Nat.le_refl _, Nat.le_refl _⟩) hV (fun H locs hW hV => ?_)
        exact w_retI hx hb hr hlocks hW hV (Prod.mk.inj (Option.some.inj hf)).1 (Prod.mk.inj (Option.some.inj hf)).2 dX6_on_103
      have hf := op_f y32 hf
      by_cases y35 : b2_34 = (2 : Int32)
      · have hf := op_t y35 hf
        refine lv_tableIn (tgt := 104) (off := 49) hx hb dX6_on_55 (by rw [y35]; decide) (by rw [y35]; decide) (by rw [y35]; rfl) (by decide) ?_
        refine lv_aload_n hx hb dX6_on_104 rfl (lv_at hl 0 rfl) ?_
        refine gf_RX6_21 hx hb hB hown hW dX6_on_105 ?_
        refine lv_bipush (v := (6 : Int32)) hx hb dX6_on_108 (by decide) ?_
        obtain ⟨v36, e_37, hf⟩ := op_none hf
        refine w_callI (rn_RX6_138 (As := [.int (6 : Int32)]) hx hb hml hown hB hW hZ hV (k_X2_total l E _ 300 (6 : Int32) st3 v36 e_37) rfl rfl ⟨(Nat.le_of_ble_eq_true rfl), (Nat.le_of_ble_eq_true rfl)⟩ (w_rec hW (oSt st3).1 ((oSt st3).2 E _ _) rfl) rfl hl.1 rfl (Nat.le_of_ble_eq_true rfl) dX6_on_110 ⟨Nat.le_refl _, Nat.le_refl _⟩) hV (fun H locs hW hV => ?_)
        exact w_retI hx hb hr hlocks hW hV (Prod.mk.inj (Option.some.inj hf)).1 (Prod.mk.inj (Option.some.inj hf)).2 dX6_on_113
      have hf := op_f y35 hf
      refine lv_tableOut (tgt := 114) hx hb dX6_on_55 (by have a_y29 := lv_neT (a := 0) y29 (by decide); have a_y32 := lv_neT (a := 1) y32 (by decide); have a_y35 := lv_neT (a := 2) y35 (by decide); omega) (by decide) ?_
      refine lv_aload_n hx hb dX6_on_114 rfl (lv_at hl 0 rfl) ?_
      refine gf_RX6_21 hx hb hB hown hW dX6_on_115 ?_
      refine gf_RX6_75 hx hb hB hown hW st3 dX6_on_118 ?_
      refine lv_iload_n hx hb dX6_on_121 rfl (lv_at hl 2 rfl) ?_
      refine lv_bipush (v := (10 : Int32)) hx hb dX6_on_122 (by decide) ?_
      refine lv_isub hx hb dX6_on_124 ?_
      obtain ⟨j38, e_j38, hf⟩ := op_none hf
      refine w_aald (j := 4) hx hb hW (rSt st3).1 ((rSt st3).2 E _ _) rfl rfl e_j38 dX6_on_125 ?_
      refine lv_iconst (v := (5 : Int32)) hx hb dX6_on_126 (by decide) ?_
      obtain ⟨v39, e_v39, hf⟩ := op_none hf
      refine w_iald hx hb hW (iEg st3 (aix_lt e_j38)).1 ((iEg st3 (aix_lt e_j38)).2 E _ _) e_v39 dX6_on_127 ?_
      exact w_retI hx hb hr hlocks hW hV (Prod.mk.inj (Option.some.inj hf)).1 (Prod.mk.inj (Option.some.inj hf)).2 dX6_on_128
    · have hf := op_t y26 hf
      refine lv_bipush (v := (-2 : Int32)) hx hb dX6_on_46 (by decide) ?_
      exact w_retI hx hb hr hlocks hW hV (Prod.mk.inj (Option.some.inj hf)).1 (Prod.mk.inj (Option.some.inj hf)).2 dX6_on_48
  obtain ⟨H, hH⟩ : ∃ H : Heap, H = s.heap := ⟨_, rfl⟩
  obtain ⟨locs, hlocs⟩ : ∃ locs : List Loc, locs = [] := ⟨_, rfl⟩
  rw [show (W p l e (headSpec (.code yX6_on cX6_on 3 (some .int) :: BIG) ({ frames := 7, cells := 0, slots := 0, locals := 166 })).room s m ([.ref (ead E 1), .int a1, .int a2] : List Value).toArray below meth c s.heap [] 0 0) = W p l e (headSpec (.code yX6_on cX6_on 3 (some .int) :: BIG) ({ frames := 7, cells := 0, slots := 0, locals := 166 })).room s m ([.ref (ead E 1), .int a1, .int a2] : List Value).toArray below meth c H locs 0 0 by rw [hH, hlocs]]
  have hV : va_S (eA E) s.heap H locs := by rw [hH, hlocs]; exact hV
  have hW : Wd E μ s H := by rw [hH]; exact hW
  unfold f_X6_on at hf
  refine lv_iload_n hx hb dX6_on_0 rfl (lv_at hl 2 rfl) ?_
  refine lv_i2l hx hb dX6_on_1 rfl ?_
  refine lv_lconst (v := (0 : Int64)) hx hb dX6_on_2 (by decide) ?_
  refine lv_ldc2 (v := (2 : Int64)) hx hb hown (hB _ q_abd799f0) dX6_on_3 ?_
  obtain ⟨v40, e_41, hf⟩ := op_none hf
  refine w_callN (rn_RX6_62 (As := [.long a2.toInt64, .long (0 : Int64), .long (2 : Int64)]) hx hb hml hown hB hW hZ hV (k_X6_within l E _ a2.toInt64 (0 : Int64) (2 : Int64) v40 e_41) rfl rfl ⟨(Nat.le_of_ble_eq_true rfl), (Nat.le_of_ble_eq_true rfl)⟩ rfl hl.1 rfl (Nat.le_of_ble_eq_true rfl) dX6_on_6 ⟨Nat.le_refl _, Nat.le_refl _⟩) hV (fun H locs hn_v40 hW hV => ?_)
  refine lv_if_ne (tgt := 34) hx hb dX6_on_9 (by decide) (fun y42 => ?_) (fun y42 => ?_)
  · have hf := op_f y42 hf
    exact c_34 μ a1 a2 hf H locs ls hW hV (lv_sub hl [0, 1, 2] rfl)
  · have hf := op_t y42 hf
    refine lv_iload_n hx hb dX6_on_12 rfl (lv_at hl 2 rfl) ?_
    refine lv_bipush (v := (10 : Int32)) hx hb dX6_on_13 (by decide) ?_
    refine lv_icmp_lt (tgt := 32) hx hb dX6_on_15 (by decide) (fun y43 => ?_) (fun y43 => ?_)
    · have hf := op_t y43 hf
      refine lv_iconst (v := (-1 : Int32)) hx hb dX6_on_32 (by decide) ?_
      exact w_retI hx hb hr hlocks hW hV (Prod.mk.inj (Option.some.inj hf)).1 (Prod.mk.inj (Option.some.inj hf)).2 dX6_on_33
    · have hf := op_f y43 hf
      refine lv_aload_n hx hb dX6_on_18 rfl (lv_at hl 0 rfl) ?_
      refine gf_RX6_12 hx hb hB hown hW dX6_on_19 ?_
      refine lv_iload_n hx hb dX6_on_22 rfl (lv_at hl 2 rfl) ?_
      refine lv_bipush (v := (10 : Int32)) hx hb dX6_on_23 (by decide) ?_
      refine lv_isub hx hb dX6_on_25 ?_
      obtain ⟨v44, e_45, hf⟩ := op_none hf
      refine w_callN (rn_RX6_85 (As := [.int (a2 - (10 : Int32))]) hx hb hml hown hB hW hZ hV (k_X2_has l E _ 100 (a2 - (10 : Int32)) st1 v44 e_45) rfl rfl ⟨(Nat.le_of_ble_eq_true rfl), (Nat.le_of_ble_eq_true rfl)⟩ (w_rec hW (oSt st1).1 ((oSt st1).2 E _ _) rfl) rfl hl.1 rfl (Nat.le_of_ble_eq_true rfl) dX6_on_26 ⟨Nat.le_refl _, Nat.le_refl _⟩) hV (fun H locs hn_v44 hW hV => ?_)
      refine lv_if_ne (tgt := 34) hx hb dX6_on_29 (by decide) (fun y46 => ?_) (fun y46 => ?_)
      · have hf := op_f y46 hf
        exact c_34 μ a1 a2 hf H locs ls hW hV (lv_sub hl [0, 1, 2] rfl)
      · have hf := op_t y46 hf
        refine lv_iconst (v := (-1 : Int32)) hx hb dX6_on_32 (by decide) ?_
        exact w_retI hx hb hr hlocks hW hV (Prod.mk.inj (Option.some.inj hf)).1 (Prod.mk.inj (Option.some.inj hf)).2 dX6_on_33
set_option maxHeartbeats 8000000 in
set_option maxRecDepth 100000 in
theorem k_X6_often (l : Launch) (E : WE) (μ : Mem) (a1 : Int32) (a2 : Int64) (r : Int64) (μ' : Mem) (hf : f_X6_often μ a1 a2 = some (r, μ')) : Met l yX6_often (.code yX6_often cX6_often 6 (some .long) :: BIG) ({ frames := 6, cells := 0, slots := 0, locals := 145 }) (PW E μ [.ref (ead E 1), .int a1, .long a2]) (QL E r μ') 0 0 (eA E) := by
  refine Met.ofW (cc := cX6_often) (maxL := 6) (ret := (some .long)) (by decide) rfl ?_
  intro p e s m args below meth c s₁ B hml hv
  obtain ⟨rfl, hW, hZ⟩ := hv
  have hx := B.exec
  have hb := B.bytes
  have hr := B.returns
  have hB : ∀ w ∈ BIG, w.before _ s = true := fun w h => atoms_spec (ws := (.code yX6_often cX6_often 6 (some .long) :: BIG)) B.pre w (List.mem_cons_of_mem _ h)
  have hown : s.vm.findClass RX6 = some m.cls := findClass_of_methodNamed B.named
  have hlocks := B.notSynchronized
  have hV : va_S (eA E) s.heap s.heap [] := va_S.rf
  have hl := lv_entry ([.ref (ead E 1), .int a1, .long a2]) (n := 6) (Nat.le_of_ble_eq_true rfl)
  rw [lg_entry_eq]
  generalize (lg_sl ([.ref (ead E 1), .int a1, .long a2]) ++ List.replicate (6 - (lg_sl ([.ref (ead E 1), .int a1, .long a2])).length) Slot.unset).toArray = ls at hl ⊢
  have hl : lv_has ls 6 [(0, .ref (ead E 1)), (1, .int a1), (2, .long a2)] := hl
  obtain ⟨H, hH⟩ : ∃ H : Heap, H = s.heap := ⟨_, rfl⟩
  obtain ⟨locs, hlocs⟩ : ∃ locs : List Loc, locs = [] := ⟨_, rfl⟩
  rw [show (W p l e (headSpec (.code yX6_often cX6_often 6 (some .long) :: BIG) ({ frames := 6, cells := 0, slots := 0, locals := 145 })).room s m ([.ref (ead E 1), .int a1, .long a2] : List Value).toArray below meth c s.heap [] 0 0) = W p l e (headSpec (.code yX6_often cX6_often 6 (some .long) :: BIG) ({ frames := 6, cells := 0, slots := 0, locals := 145 })).room s m ([.ref (ead E 1), .int a1, .long a2] : List Value).toArray below meth c H locs 0 0 by rw [hH, hlocs]]
  have hV : va_S (eA E) s.heap H locs := by rw [hH, hlocs]; exact hV
  have hW : Wd E μ s H := by rw [hH]; exact hW
  unfold f_X6_often at hf
  refine lv_aload_n hx hb dX6_often_0 rfl (lv_at hl 0 rfl) ?_
  refine gf_RX6_12 hx hb hB hown hW dX6_often_1 ?_
  refine lv_iload_n hx hb dX6_often_4 rfl (lv_at hl 1 rfl) ?_
  obtain ⟨v17, e_18, hf⟩ := op_none hf
  refine w_callN (rn_RX6_85 (As := [.int a1]) hx hb hml hown hB hW hZ hV (k_X2_has l E _ 100 a1 st1 v17 e_18) rfl rfl ⟨(Nat.le_of_ble_eq_true rfl), (Nat.le_of_ble_eq_true rfl)⟩ (w_rec hW (oSt st1).1 ((oSt st1).2 E _ _) rfl) rfl hl.1 rfl (Nat.le_of_ble_eq_true rfl) dX6_often_5 ⟨Nat.le_refl _, Nat.le_refl _⟩) hV (fun H locs hn_v17 hW hV => ?_)
  refine lv_if_eq (tgt := 22) hx hb dX6_often_8 (by decide) (fun y19 => ?_) (fun y19 => ?_)
  · have hf := op_t y19 hf
    refine lv_ldc2 (v := (-9223372036854775808 : Int64)) hx hb hown (hB _ q_23409f7e) dX6_often_22 ?_
    exact w_retL hx hb hr hlocks hW hV (Prod.mk.inj (Option.some.inj hf)).1 (Prod.mk.inj (Option.some.inj hf)).2 dX6_often_25
  · have hf := op_f y19 hf
    refine lv_lload_n hx hb dX6_often_11 rfl (lv_at hl 2 rfl) ?_
    refine lv_lconst (v := (0 : Int64)) hx hb dX6_often_12 (by decide) ?_
    refine lv_ldc2 (v := (1000000000 : Int64)) hx hb hown (hB _ q_c1f8e37d) dX6_often_13 ?_
    obtain ⟨v20, e_21, hf⟩ := op_none hf
    refine w_callN (rn_RX6_62 (As := [.long a2, .long (0 : Int64), .long (1000000000 : Int64)]) hx hb hml hown hB hW hZ hV (k_X6_within l E _ a2 (0 : Int64) (1000000000 : Int64) v20 e_21) rfl rfl ⟨(Nat.le_of_ble_eq_true rfl), (Nat.le_of_ble_eq_true rfl)⟩ rfl hl.1 rfl (Nat.le_of_ble_eq_true rfl) dX6_often_16 ⟨Nat.le_refl _, Nat.le_refl _⟩) hV (fun H locs hn_v20 hW hV => ?_)
    refine lv_if_ne (tgt := 26) hx hb dX6_often_19 (by decide) (fun y22 => ?_) (fun y22 => ?_)
    · have hf := op_f y22 hf
      refine lv_aload_n hx hb dX6_often_26 rfl (lv_at hl 0 rfl) ?_
      refine lv_aload_n hx hb dX6_often_27 rfl (lv_at hl 0 rfl) ?_
      refine gf_RX6_12 hx hb hB hown hW dX6_often_28 ?_
      obtain ⟨μ23, e_24, hf⟩ := op_none hf
      refine w_callV (rn_RX6_89 (As := [.ref (ead E 100)]) hx hb hml hown hB hW hZ hV (k_X6_reckon l E _ 100 st1 μ23 e_24) rfl rfl ⟨(Nat.le_of_ble_eq_true rfl), (Nat.le_of_ble_eq_true rfl)⟩ (w_rec hW oX.1 (oX.2 E _ _) rfl) rfl hl.1 rfl (Nat.le_of_ble_eq_true rfl) dX6_often_31 ⟨Nat.le_refl _, Nat.le_refl _⟩) hV (fun H locs hW hV => ?_)
      refine lv_aload_n hx hb dX6_often_34 rfl (lv_at hl 0 rfl) ?_
      refine gf_RX6_12 hx hb hB hown hW dX6_often_35 ?_
      refine gf_RX6_75 hx hb hB hown hW st1 dX6_often_38 ?_
      refine lv_iload_n hx hb dX6_often_41 rfl (lv_at hl 1 rfl) ?_
      obtain ⟨j25, e_j25, hf⟩ := op_none hf
      refine w_aald (j := 4) hx hb hW (rSt st1).1 ((rSt st1).2 E _ _) rfl rfl e_j25 dX6_often_42 ?_
      refine lv_bipush (v := (9 : Int32)) hx hb dX6_often_43 (by decide) ?_
      obtain ⟨v26, e_v26, hf⟩ := op_none hf
      refine w_iald hx hb hW (iEg st1 (aix_lt e_j25)).1 ((iEg st1 (aix_lt e_j25)).2 E _ _) e_v26 dX6_often_45 ?_
      refine lv_istore (i := 4) (lv' := [(4, .int v26), (0, .ref (ead E 1)), (1, .int a1), (2, .long a2)]) hx hb dX6_often_46 hl (by decide) rfl (fun ls hl => ?_)
      refine lv_aload_n hx hb dX6_often_48 rfl (lv_at hl 1 rfl) ?_
      refine gf_RX6_12 hx hb hB hown hW dX6_often_49 ?_
      refine gf_RX6_75 hx hb hB hown hW st1 dX6_often_52 ?_
      refine lv_iload_n hx hb dX6_often_55 rfl (lv_at hl 2 rfl) ?_
      obtain ⟨j27, e_j27, hf⟩ := op_none hf
      refine w_aald (j := 4) hx hb hW (rSt st1).1 ((rSt st1).2 E _ _) rfl rfl e_j27 dX6_often_56 ?_
      refine lv_bipush (v := (7 : Int32)) hx hb dX6_often_57 (by decide) ?_
      obtain ⟨v28, e_v28, hf⟩ := op_none hf
      refine w_iald hx hb hW (iEg st1 (aix_lt e_j27)).1 ((iEg st1 (aix_lt e_j27)).2 E _ _) e_v28 dX6_often_59 ?_
      refine lv_istore (i := 5) (lv' := [(5, .int v28), (4, .int v26), (0, .ref (ead E 1)), (1, .int a1), (2, .long a2)]) hx hb dX6_often_60 hl (by decide) rfl (fun ls hl => ?_)
      refine lv_iload hx hb dX6_often_62 (lv_at hl 1 rfl) ?_
      refine lv_if_lt (tgt := 81) hx hb dX6_often_64 (by decide) (fun y29 => ?_) (fun y29 => ?_)
      · have hf := op_t y29 hf
        refine lv_lconst (v := (0 : Int64)) hx hb dX6_often_81 (by decide) ?_
        exact w_retL hx hb hr hlocks hW hV (Prod.mk.inj (Option.some.inj hf)).1 (Prod.mk.inj (Option.some.inj hf)).2 dX6_often_82
      · have hf := op_f y29 hf
        refine lv_iload hx hb dX6_often_67 (lv_at hl 1 rfl) ?_
        refine lv_i2l hx hb dX6_often_69 rfl ?_
        refine lv_lload_n hx hb dX6_often_70 rfl (lv_at hl 4 rfl) ?_
        refine W.lcmp hx hb dX6_often_71 ?_
        refine lv_if_ge (tgt := 81) hx hb dX6_often_72 (by decide) (fun y30 => ?_) (fun y30 => ?_)
        · have hf := op_t y30 hf
          refine lv_lconst (v := (0 : Int64)) hx hb dX6_often_81 (by decide) ?_
          exact w_retL hx hb hr hlocks hW hV (Prod.mk.inj (Option.some.inj hf)).1 (Prod.mk.inj (Option.some.inj hf)).2 dX6_often_82
        · have hf := op_f y30 hf
          refine lv_iload hx hb dX6_often_75 (lv_at hl 0 rfl) ?_
          refine lv_iconst (v := (1 : Int32)) hx hb dX6_often_77 (by decide) ?_
          refine lv_icmp_ge (tgt := 83) hx hb dX6_often_78 (by decide) (fun y31 => ?_) (fun y31 => ?_)
          · have hf := op_t y31 hf
            refine lv_lconst (v := (1 : Int64)) hx hb dX6_often_83 (by decide) ?_
            refine lv_lload_n hx hb dX6_often_84 rfl (lv_at hl 4 rfl) ?_
            refine lv_lconst (v := (1 : Int64)) hx hb dX6_often_85 (by decide) ?_
            refine lv_lsub hx hb dX6_often_86 ?_
            refine lv_iload hx hb dX6_often_87 (lv_at hl 1 rfl) ?_
            refine lv_i2l hx hb dX6_often_89 rfl ?_
            refine lv_lsub hx hb dX6_often_90 ?_
            refine lv_iload hx hb dX6_often_91 (lv_at hl 0 rfl) ?_
            refine lv_i2l hx hb dX6_often_93 rfl ?_
            obtain ⟨v32, e_v32, hf⟩ := op_none hf
            refine w_ldiv hx hb e_v32 dX6_often_94 ?_
            refine lv_ladd hx hb dX6_often_95 ?_
            exact w_retL hx hb hr hlocks hW hV (Prod.mk.inj (Option.some.inj hf)).1 (Prod.mk.inj (Option.some.inj hf)).2 dX6_often_96
          · have hf := op_f y31 hf
            refine lv_lconst (v := (0 : Int64)) hx hb dX6_often_81 (by decide) ?_
            exact w_retL hx hb hr hlocks hW hV (Prod.mk.inj (Option.some.inj hf)).1 (Prod.mk.inj (Option.some.inj hf)).2 dX6_often_82
    · have hf := op_t y22 hf
      refine lv_ldc2 (v := (-9223372036854775808 : Int64)) hx hb hown (hB _ q_23409f7e) dX6_often_22 ?_
      exact w_retL hx hb hr hlocks hW hV (Prod.mk.inj (Option.some.inj hf)).1 (Prod.mk.inj (Option.some.inj hf)).2 dX6_often_25
set_option maxHeartbeats 8000000 in
set_option maxRecDepth 100000 in
theorem k_X6_commonRest (l : Launch) (E : WE) (μ : Mem) (a0 : Int64) (a2 : Int64) (a4 : Int64) (a6 : Int64) (r : Int64) (hf : f_X6_commonRest μ a0 a2 a4 a6 = some r) : Met l yX6_commonRest (.code yX6_commonRest cX6_commonRest 12 (some .long) :: BIG) ({ frames := 0, cells := 0, slots := 0, locals := 0 }) (PW E μ [.long a0, .long a2, .long a4, .long a6]) (QL E r μ) 0 0 (eA E) := by
  refine Met.ofW (cc := cX6_commonRest) (maxL := 12) (ret := (some .long)) (by decide) rfl ?_
  intro p e s m args below meth c s₁ B hml hv
  obtain ⟨rfl, hW, hZ⟩ := hv
  have hx := B.exec
  have hb := B.bytes
  have hr := B.returns
  have hB : ∀ w ∈ BIG, w.before _ s = true := fun w h => atoms_spec (ws := (.code yX6_commonRest cX6_commonRest 12 (some .long) :: BIG)) B.pre w (List.mem_cons_of_mem _ h)
  have hown : s.vm.findClass RX6 = some m.cls := findClass_of_methodNamed B.named
  have hlocks := B.notSynchronized
  have hV : va_S (eA E) s.heap s.heap [] := va_S.rf
  have hl := lv_entry ([.long a0, .long a2, .long a4, .long a6]) (n := 12) (Nat.le_of_ble_eq_true rfl)
  rw [lg_entry_eq]
  generalize (lg_sl ([.long a0, .long a2, .long a4, .long a6]) ++ List.replicate (12 - (lg_sl ([.long a0, .long a2, .long a4, .long a6])).length) Slot.unset).toArray = ls at hl ⊢
  have hl : lv_has ls 12 [(0, .long a0), (2, .long a2), (4, .long a4), (6, .long a6)] := hl
  have c_3 : ∀ (n_3 : Nat) (b0_3 : Int64) (b2_3 : Int64) (b4_3 : Int64) (b6_3 : Int64) (b8_3 : Int64) , f_X6_commonRest_3 μ n_3 b0_3 b2_3 b4_3 b6_3 b8_3 = some r → ∀ (H : Heap) (locs : List Loc) (ls : Array Slot), Wd E μ s H → va_S (eA E) s.heap H locs → lv_has ls 12 [(0, .long b0_3), (2, .long b2_3), (4, .long b4_3), (6, .long b6_3), (8, .long b8_3)] → W p l e (headSpec (.code yX6_commonRest cX6_commonRest 12 (some .long) :: BIG) ({ frames := 0, cells := 0, slots := 0, locals := 0 })).room s m ([.long a0, .long a2, .long a4, .long a6] : List Value).toArray below meth c H locs 0 0 (MQ below (QL E r μ) ([.long a0, .long a2, .long a4, .long a6] : List Value).toArray s 0 0 (eA E)) (F0 m 3 ls []) := by
    intro n_3
    induction n_3 with
    | zero =>
      intro b0_3 b2_3 b4_3 b6_3 b8_3 hf H locs ls hW hV hl
      cases hf
    | succ n_3 ih_3 =>
      intro b0_3 b2_3 b4_3 b6_3 b8_3 hf H locs ls hW hV hl
      rw [f_X6_commonRest_3] at hf
      refine lv_lload hx hb dX6_commonRest_3 (lv_at hl 4 rfl) ?_
      refine lv_lload hx hb dX6_commonRest_5 (lv_at hl 3 rfl) ?_
      refine W.lcmp hx hb dX6_commonRest_7 ?_
      refine lv_if_ge (tgt := 44) hx hb dX6_commonRest_8 (by decide) (fun y6 => ?_) (fun y6 => ?_)
      · have hf := op_t y6 hf
        refine lv_ldc2 (v := (-1 : Int64)) hx hb hown (hB _ q_fb2e36a0) dX6_commonRest_44 ?_
        exact w_retL hx hb hr hlocks hW hV (Option.some.inj hf) rfl dX6_commonRest_47
      · have hf := op_f y6 hf
        refine lv_lload_n hx hb dX6_commonRest_11 rfl (lv_at hl 0 rfl) ?_
        refine lv_lload hx hb dX6_commonRest_12 (lv_at hl 4 rfl) ?_
        refine lv_lload_n hx hb dX6_commonRest_14 rfl (lv_at hl 1 rfl) ?_
        refine lv_lmul hx hb dX6_commonRest_15 ?_
        refine lv_ladd hx hb dX6_commonRest_16 ?_
        obtain ⟨v7, e_v7, hf⟩ := op_none hf
        refine lv_topL' (Option.some.inj e_v7) ?_
        refine lv_lstore (i := 10) (lv' := [(10, .long v7), (0, .long b0_3), (2, .long b2_3), (4, .long b4_3), (6, .long b6_3), (8, .long b8_3)]) hx hb dX6_commonRest_17 hl (by decide) rfl (fun ls hl => ?_)
        refine lv_lload hx hb dX6_commonRest_19 (lv_at hl 0 rfl) ?_
        refine lv_lload hx hb dX6_commonRest_21 (lv_at hl 3 rfl) ?_
        refine lv_lsub hx hb dX6_commonRest_23 ?_
        refine lv_lload hx hb dX6_commonRest_24 (lv_at hl 4 rfl) ?_
        obtain ⟨v8, e_v8, hf⟩ := op_none hf
        refine w_lrem hx hb e_v8 dX6_commonRest_26 ?_
        refine lv_lconst (v := (0 : Int64)) hx hb dX6_commonRest_27 (by decide) ?_
        refine W.lcmp hx hb dX6_commonRest_28 ?_
        refine lv_if_ne (tgt := 35) hx hb dX6_commonRest_29 (by decide) (fun y9 => ?_) (fun y9 => ?_)
        · have hf := op_f y9 hf
          refine lv_lload hx hb dX6_commonRest_35 (lv_at hl 5 rfl) ?_
          refine lv_lconst (v := (1 : Int64)) hx hb dX6_commonRest_37 (by decide) ?_
          refine lv_ladd hx hb dX6_commonRest_38 ?_
          obtain ⟨v10, e_v10, hf⟩ := op_none hf
          refine lv_topL' (Option.some.inj e_v10) ?_
          refine lv_lstore (i := 8) (lv' := [(8, .long v10), (10, .long v7), (0, .long b0_3), (2, .long b2_3), (4, .long b4_3), (6, .long b6_3)]) hx hb dX6_commonRest_39 hl (by decide) rfl (fun ls hl => ?_)
          refine lv_goto (tgt := 3) hx hb dX6_commonRest_41 (by decide) ?_
          exact ih_3 b0_3 b2_3 b4_3 b6_3 v10 hf H locs ls hW hV (lv_sub hl [2, 3, 4, 5, 0] rfl)
        · have hf := op_t y9 hf
          refine lv_lload hx hb dX6_commonRest_32 (lv_at hl 0 rfl) ?_
          exact w_retL hx hb hr hlocks hW hV (Option.some.inj hf) rfl dX6_commonRest_34
  obtain ⟨H, hH⟩ : ∃ H : Heap, H = s.heap := ⟨_, rfl⟩
  obtain ⟨locs, hlocs⟩ : ∃ locs : List Loc, locs = [] := ⟨_, rfl⟩
  rw [show (W p l e (headSpec (.code yX6_commonRest cX6_commonRest 12 (some .long) :: BIG) ({ frames := 0, cells := 0, slots := 0, locals := 0 })).room s m ([.long a0, .long a2, .long a4, .long a6] : List Value).toArray below meth c s.heap [] 0 0) = W p l e (headSpec (.code yX6_commonRest cX6_commonRest 12 (some .long) :: BIG) ({ frames := 0, cells := 0, slots := 0, locals := 0 })).room s m ([.long a0, .long a2, .long a4, .long a6] : List Value).toArray below meth c H locs 0 0 by rw [hH, hlocs]]
  have hV : va_S (eA E) s.heap H locs := by rw [hH, hlocs]; exact hV
  have hW : Wd E μ s H := by rw [hH]; exact hW
  unfold f_X6_commonRest at hf
  refine lv_lconst (v := (0 : Int64)) hx hb dX6_commonRest_0 (by decide) ?_
  refine lv_lstore (i := 8) (lv' := [(8, .long (0 : Int64)), (0, .long a0), (2, .long a2), (4, .long a4), (6, .long a6)]) hx hb dX6_commonRest_1 hl (by decide) rfl (fun ls hl => ?_)
  exact c_3 FU a0 a2 a4 a6 (0 : Int64) hf H locs ls hW hV (lv_sub hl [1, 2, 3, 4, 0] rfl)
set_option maxHeartbeats 8000000 in
set_option maxRecDepth 100000 in
theorem k_X6_commonDivisor (l : Launch) (E : WE) (μ : Mem) (a0 : Int64) (a2 : Int64) (r : Int64) (hf : f_X6_commonDivisor μ a0 a2 = some r) : Met l yX6_commonDivisor (.code yX6_commonDivisor cX6_commonDivisor 11 (some .long) :: BIG) ({ frames := 0, cells := 0, slots := 0, locals := 0 }) (PW E μ [.long a0, .long a2]) (QL E r μ) 0 0 (eA E) := by
  refine Met.ofW (cc := cX6_commonDivisor) (maxL := 11) (ret := (some .long)) (by decide) rfl ?_
  intro p e s m args below meth c s₁ B hml hv
  obtain ⟨rfl, hW, hZ⟩ := hv
  have hx := B.exec
  have hb := B.bytes
  have hr := B.returns
  have hB : ∀ w ∈ BIG, w.before _ s = true := fun w h => atoms_spec (ws := (.code yX6_commonDivisor cX6_commonDivisor 11 (some .long) :: BIG)) B.pre w (List.mem_cons_of_mem _ h)
  have hown : s.vm.findClass RX6 = some m.cls := findClass_of_methodNamed B.named
  have hlocks := B.notSynchronized
  have hV : va_S (eA E) s.heap s.heap [] := va_S.rf
  have hl := lv_entry ([.long a0, .long a2]) (n := 11) (Nat.le_of_ble_eq_true rfl)
  rw [lg_entry_eq]
  generalize (lg_sl ([.long a0, .long a2]) ++ List.replicate (11 - (lg_sl ([.long a0, .long a2])).length) Slot.unset).toArray = ls at hl ⊢
  have hl : lv_has ls 11 [(0, .long a0), (2, .long a2)] := hl
  have c_9 : ∀ (n_9 : Nat) (b4_9 : Int64) (b6_9 : Int64) (b8_9 : Int32) , f_X6_commonDivisor_9 μ n_9 b4_9 b6_9 b8_9 = some r → ∀ (H : Heap) (locs : List Loc) (ls : Array Slot), Wd E μ s H → va_S (eA E) s.heap H locs → lv_has ls 11 [(4, .long b4_9), (6, .long b6_9), (8, .int b8_9)] → W p l e (headSpec (.code yX6_commonDivisor cX6_commonDivisor 11 (some .long) :: BIG) ({ frames := 0, cells := 0, slots := 0, locals := 0 })).room s m ([.long a0, .long a2] : List Value).toArray below meth c H locs 0 0 (MQ below (QL E r μ) ([.long a0, .long a2] : List Value).toArray s 0 0 (eA E)) (F0 m 9 ls []) := by
    intro n_9
    induction n_9 with
    | zero =>
      intro b4_9 b6_9 b8_9 hf H locs ls hW hV hl
      cases hf
    | succ n_9 ih_9 =>
      intro b4_9 b6_9 b8_9 hf H locs ls hW hV hl
      rw [f_X6_commonDivisor_9] at hf
      refine lv_iload hx hb dX6_commonDivisor_9 (lv_at hl 2 rfl) ?_
      refine lv_bipush (v := (100 : Int32)) hx hb dX6_commonDivisor_11 (by decide) ?_
      refine lv_icmp_ge (tgt := 44) hx hb dX6_commonDivisor_13 (by decide) (fun y5 => ?_) (fun y5 => ?_)
      · have hf := op_t y5 hf
        refine lv_lload hx hb dX6_commonDivisor_44 (lv_at hl 0 rfl) ?_
        exact w_retL hx hb hr hlocks hW hV (Option.some.inj hf) rfl dX6_commonDivisor_46
      · have hf := op_f y5 hf
        refine lv_lload hx hb dX6_commonDivisor_16 (lv_at hl 1 rfl) ?_
        refine lv_lconst (v := (0 : Int64)) hx hb dX6_commonDivisor_18 (by decide) ?_
        refine W.lcmp hx hb dX6_commonDivisor_19 ?_
        refine lv_if_eq (tgt := 44) hx hb dX6_commonDivisor_20 (by decide) (fun y6 => ?_) (fun y6 => ?_)
        · have hf := op_t y6 hf
          refine lv_lload hx hb dX6_commonDivisor_44 (lv_at hl 0 rfl) ?_
          exact w_retL hx hb hr hlocks hW hV (Option.some.inj hf) rfl dX6_commonDivisor_46
        · have hf := op_f y6 hf
          refine lv_lload hx hb dX6_commonDivisor_23 (lv_at hl 0 rfl) ?_
          refine lv_lload hx hb dX6_commonDivisor_25 (lv_at hl 1 rfl) ?_
          obtain ⟨v7, e_v7, hf⟩ := op_none hf
          refine w_lrem hx hb e_v7 dX6_commonDivisor_27 ?_
          refine lv_lstore (i := 9) (lv' := [(9, .long v7), (4, .long b4_9), (6, .long b6_9), (8, .int b8_9)]) hx hb dX6_commonDivisor_28 hl (by decide) rfl (fun ls hl => ?_)
          refine lv_lload hx hb dX6_commonDivisor_30 (lv_at hl 2 rfl) ?_
          refine lv_lstore (i := 4) (lv' := [(4, .long b6_9), (9, .long v7), (6, .long b6_9), (8, .int b8_9)]) hx hb dX6_commonDivisor_32 hl (by decide) rfl (fun ls hl => ?_)
          refine lv_lload hx hb dX6_commonDivisor_34 (lv_at hl 1 rfl) ?_
          refine lv_lstore (i := 6) (lv' := [(6, .long v7), (4, .long b6_9), (9, .long v7), (8, .int b8_9)]) hx hb dX6_commonDivisor_36 hl (by decide) rfl (fun ls hl => ?_)
          obtain ⟨v8, e_v8, hf⟩ := op_none hf
          refine lv_iinc (v := v8) (lv' := [(8, .int v8), (6, .long v7), (4, .long b6_9), (9, .long v7)]) hx hb dX6_commonDivisor_38 hl (k := 3) rfl (by rw [← Option.some.inj e_v8]; rfl) (by decide) rfl (fun ls hl => ?_)
          refine lv_goto (tgt := 9) hx hb dX6_commonDivisor_41 (by decide) ?_
          exact ih_9 b6_9 v7 v8 hf H locs ls hW hV (lv_sub hl [2, 1, 0] rfl)
  obtain ⟨H, hH⟩ : ∃ H : Heap, H = s.heap := ⟨_, rfl⟩
  obtain ⟨locs, hlocs⟩ : ∃ locs : List Loc, locs = [] := ⟨_, rfl⟩
  rw [show (W p l e (headSpec (.code yX6_commonDivisor cX6_commonDivisor 11 (some .long) :: BIG) ({ frames := 0, cells := 0, slots := 0, locals := 0 })).room s m ([.long a0, .long a2] : List Value).toArray below meth c s.heap [] 0 0) = W p l e (headSpec (.code yX6_commonDivisor cX6_commonDivisor 11 (some .long) :: BIG) ({ frames := 0, cells := 0, slots := 0, locals := 0 })).room s m ([.long a0, .long a2] : List Value).toArray below meth c H locs 0 0 by rw [hH, hlocs]]
  have hV : va_S (eA E) s.heap H locs := by rw [hH, hlocs]; exact hV
  have hW : Wd E μ s H := by rw [hH]; exact hW
  unfold f_X6_commonDivisor at hf
  refine lv_lload_n hx hb dX6_commonDivisor_0 rfl (lv_at hl 0 rfl) ?_
  refine lv_lstore (i := 4) (lv' := [(4, .long a0), (0, .long a0), (2, .long a2)]) hx hb dX6_commonDivisor_1 hl (by decide) rfl (fun ls hl => ?_)
  refine lv_lload_n hx hb dX6_commonDivisor_3 rfl (lv_at hl 2 rfl) ?_
  refine lv_lstore (i := 6) (lv' := [(6, .long a2), (4, .long a0), (0, .long a0), (2, .long a2)]) hx hb dX6_commonDivisor_4 hl (by decide) rfl (fun ls hl => ?_)
  refine lv_iconst (v := (0 : Int32)) hx hb dX6_commonDivisor_6 (by decide) ?_
  refine lv_istore (i := 8) (lv' := [(8, .int (0 : Int32)), (6, .long a2), (4, .long a0), (0, .long a0), (2, .long a2)]) hx hb dX6_commonDivisor_7 hl (by decide) rfl (fun ls hl => ?_)
  exact c_9 FU a0 a2 (0 : Int32) hf H locs ls hW hV (lv_sub hl [2, 1, 0] rfl)
set_option maxHeartbeats 8000000 in
set_option maxRecDepth 100000 in
theorem k_X6_commonMultiple (l : Launch) (E : WE) (μ : Mem) (a0 : Int64) (a2 : Int64) (r : Int64) (hf : f_X6_commonMultiple μ a0 a2 = some r) : Met l yX6_commonMultiple (.code yX6_commonMultiple cX6_commonMultiple 6 (some .long) :: BIG) ({ frames := 1, cells := 0, slots := 0, locals := 30 }) (PW E μ [.long a0, .long a2]) (QL E r μ) 0 0 (eA E) := by
  refine Met.ofW (cc := cX6_commonMultiple) (maxL := 6) (ret := (some .long)) (by decide) rfl ?_
  intro p e s m args below meth c s₁ B hml hv
  obtain ⟨rfl, hW, hZ⟩ := hv
  have hx := B.exec
  have hb := B.bytes
  have hr := B.returns
  have hB : ∀ w ∈ BIG, w.before _ s = true := fun w h => atoms_spec (ws := (.code yX6_commonMultiple cX6_commonMultiple 6 (some .long) :: BIG)) B.pre w (List.mem_cons_of_mem _ h)
  have hown : s.vm.findClass RX6 = some m.cls := findClass_of_methodNamed B.named
  have hlocks := B.notSynchronized
  have hV : va_S (eA E) s.heap s.heap [] := va_S.rf
  have hl := lv_entry ([.long a0, .long a2]) (n := 6) (Nat.le_of_ble_eq_true rfl)
  rw [lg_entry_eq]
  generalize (lg_sl ([.long a0, .long a2]) ++ List.replicate (6 - (lg_sl ([.long a0, .long a2])).length) Slot.unset).toArray = ls at hl ⊢
  have hl : lv_has ls 6 [(0, .long a0), (2, .long a2)] := hl
  obtain ⟨H, hH⟩ : ∃ H : Heap, H = s.heap := ⟨_, rfl⟩
  obtain ⟨locs, hlocs⟩ : ∃ locs : List Loc, locs = [] := ⟨_, rfl⟩
  rw [show (W p l e (headSpec (.code yX6_commonMultiple cX6_commonMultiple 6 (some .long) :: BIG) ({ frames := 1, cells := 0, slots := 0, locals := 30 })).room s m ([.long a0, .long a2] : List Value).toArray below meth c s.heap [] 0 0) = W p l e (headSpec (.code yX6_commonMultiple cX6_commonMultiple 6 (some .long) :: BIG) ({ frames := 1, cells := 0, slots := 0, locals := 30 })).room s m ([.long a0, .long a2] : List Value).toArray below meth c H locs 0 0 by rw [hH, hlocs]]
  have hV : va_S (eA E) s.heap H locs := by rw [hH, hlocs]; exact hV
  have hW : Wd E μ s H := by rw [hH]; exact hW
  unfold f_X6_commonMultiple at hf
  refine lv_lload_n hx hb dX6_commonMultiple_0 rfl (lv_at hl 0 rfl) ?_
  refine lv_lload_n hx hb dX6_commonMultiple_1 rfl (lv_at hl 1 rfl) ?_
  obtain ⟨v5, e_6, hf⟩ := op_none hf
  refine w_callL (rn_RX6_289 (As := [.long a0, .long a2]) hx hb hml hown hB hW hZ hV (k_X6_commonDivisor l E _ a0 a2 v5 e_6) rfl rfl ⟨(Nat.le_of_ble_eq_true rfl), (Nat.le_of_ble_eq_true rfl)⟩ rfl hl.1 rfl (Nat.le_of_ble_eq_true rfl) dX6_commonMultiple_2 ⟨Nat.le_refl _, Nat.le_refl _⟩) hV (fun H locs hW hV => ?_)
  refine lv_lstore (i := 4) (lv' := [(4, .long v5), (0, .long a0), (2, .long a2)]) hx hb dX6_commonMultiple_5 hl (by decide) rfl (fun ls hl => ?_)
  refine lv_lload hx hb dX6_commonMultiple_7 (lv_at hl 0 rfl) ?_
  refine lv_lconst (v := (1 : Int64)) hx hb dX6_commonMultiple_9 (by decide) ?_
  refine W.lcmp hx hb dX6_commonMultiple_10 ?_
  refine lv_if_ge (tgt := 18) hx hb dX6_commonMultiple_11 (by decide) (fun y7 => ?_) (fun y7 => ?_)
  · have hf := op_t y7 hf
    refine lv_lload_n hx hb dX6_commonMultiple_18 rfl (lv_at hl 1 rfl) ?_
    refine lv_lload hx hb dX6_commonMultiple_19 (lv_at hl 0 rfl) ?_
    obtain ⟨v8, e_v8, hf⟩ := op_none hf
    refine w_ldiv hx hb e_v8 dX6_commonMultiple_21 ?_
    refine lv_lload_n hx hb dX6_commonMultiple_22 rfl (lv_at hl 2 rfl) ?_
    refine lv_lmul hx hb dX6_commonMultiple_23 ?_
    exact w_retL hx hb hr hlocks hW hV (Option.some.inj hf) rfl dX6_commonMultiple_24
  · have hf := op_f y7 hf
    refine lv_lconst (v := (1 : Int64)) hx hb dX6_commonMultiple_14 (by decide) ?_
    refine lv_goto (tgt := 24) hx hb dX6_commonMultiple_15 (by decide) ?_
    exact w_retL hx hb hr hlocks hW hV (Option.some.inj hf) rfl dX6_commonMultiple_24
set_option maxHeartbeats 8000000 in
set_option maxRecDepth 100000 in
theorem k_X2_meeting (l : Launch) (E : WE) (μ : Mem) (k0 : Nat) (a1 : Int32) (a2 : Int32) (h0 : isSt k0) (r : Int64) (hf : f_X2_meeting μ k0 a1 a2 = some r) : Met l yX2_meeting (.code yX2_meeting cX2_meeting 9 (some .long) :: BIG) ({ frames := 2, cells := 0, slots := 0, locals := 55 }) (PW E μ [.ref (ead E k0), .int a1, .int a2]) (QL E r μ) 0 0 (eA E) := by
  refine Met.ofW (cc := cX2_meeting) (maxL := 9) (ret := (some .long)) (by decide) rfl ?_
  intro p e s m args below meth c s₁ B hml hv
  obtain ⟨rfl, hW, hZ⟩ := hv
  have hx := B.exec
  have hb := B.bytes
  have hr := B.returns
  have hB : ∀ w ∈ BIG, w.before _ s = true := fun w h => atoms_spec (ws := (.code yX2_meeting cX2_meeting 9 (some .long) :: BIG)) B.pre w (List.mem_cons_of_mem _ h)
  have hown : s.vm.findClass RX2 = some m.cls := findClass_of_methodNamed B.named
  have hlocks := B.notSynchronized
  have hV : va_S (eA E) s.heap s.heap [] := va_S.rf
  have hl := lv_entry ([.ref (ead E k0), .int a1, .int a2]) (n := 9) (Nat.le_of_ble_eq_true rfl)
  rw [lg_entry_eq]
  generalize (lg_sl ([.ref (ead E k0), .int a1, .int a2]) ++ List.replicate (9 - (lg_sl ([.ref (ead E k0), .int a1, .int a2])).length) Slot.unset).toArray = ls at hl ⊢
  have hl : lv_has ls 9 [(0, .ref (ead E k0)), (1, .int a1), (2, .int a2)] := hl
  have c_8 : ∀ (n_8 : Nat) (b1_8 : Int32) (b2_8 : Int32) (b3_8 : Int64) (b5_8 : Int64) (b7_8 : Int32) , f_X2_meeting_8 μ k0 n_8 b1_8 b2_8 b3_8 b5_8 b7_8 = some r → ∀ (H : Heap) (locs : List Loc) (ls : Array Slot), Wd E μ s H → va_S (eA E) s.heap H locs → lv_has ls 9 [(0, .ref (ead E k0)), (1, .int b1_8), (2, .int b2_8), (3, .long b3_8), (5, .long b5_8), (7, .int b7_8)] → W p l e (headSpec (.code yX2_meeting cX2_meeting 9 (some .long) :: BIG) ({ frames := 2, cells := 0, slots := 0, locals := 55 })).room s m ([.ref (ead E k0), .int a1, .int a2] : List Value).toArray below meth c H locs 0 0 (MQ below (QL E r μ) ([.ref (ead E k0), .int a1, .int a2] : List Value).toArray s 0 0 (eA E)) (F0 m 8 ls []) := by
    intro n_8
    induction n_8 with
    | zero =>
      intro b1_8 b2_8 b3_8 b5_8 b7_8 hf H locs ls hW hV hl
      cases hf
    | succ n_8 ih_8 =>
      have c_92 : ∀ (b1_92 : Int32) (b2_92 : Int32) (b3_92 : Int64) (b5_92 : Int64) (b7_92 : Int32) , f_X2_meeting_92 μ k0 (fun z0 z1 z2 z3 z4 => f_X2_meeting_8 μ k0 n_8 z0 z1 z2 z3 z4) b1_92 b2_92 b3_92 b5_92 b7_92 = some r → ∀ (H : Heap) (locs : List Loc) (ls : Array Slot), Wd E μ s H → va_S (eA E) s.heap H locs → lv_has ls 9 [(0, .ref (ead E k0)), (1, .int b1_92), (2, .int b2_92), (3, .long b3_92), (5, .long b5_92), (7, .int b7_92)] → W p l e (headSpec (.code yX2_meeting cX2_meeting 9 (some .long) :: BIG) ({ frames := 2, cells := 0, slots := 0, locals := 55 })).room s m ([.ref (ead E k0), .int a1, .int a2] : List Value).toArray below meth c H locs 0 0 (MQ below (QL E r μ) ([.ref (ead E k0), .int a1, .int a2] : List Value).toArray s 0 0 (eA E)) (F0 m 92 ls []) := by
        intro b1_92 b2_92 b3_92 b5_92 b7_92 hf H locs ls hW hV hl
        unfold f_X2_meeting_92 at hf
        obtain ⟨v18, e_v18, hf⟩ := op_none hf
        refine lv_iinc (v := v18) (lv' := [(7, .int v18), (0, .ref (ead E k0)), (1, .int b1_92), (2, .int b2_92), (3, .long b3_92), (5, .long b5_92)]) hx hb dX2_meeting_92 hl (k := 5) rfl (by rw [← Option.some.inj e_v18]; rfl) (by decide) rfl (fun ls hl => ?_)
        refine lv_goto (tgt := 8) hx hb dX2_meeting_95 (by decide) ?_
        exact ih_8 b1_92 b2_92 b3_92 b5_92 v18 hf H locs ls hW hV (lv_sub hl [1, 2, 3, 4, 5, 0] rfl)
      have c_68 : ∀ (b1_68 : Int32) (b2_68 : Int32) (b5_68 : Int64) (b7_68 : Int32) (b8_68 : Nat) (s0_68 : Int64) (hb8_68 : isI b8_68 14) , f_X2_meeting_68 μ k0 (fun z0 z1 z2 z3 z4 => f_X2_meeting_8 μ k0 n_8 z0 z1 z2 z3 z4) b1_68 b2_68 b5_68 b7_68 b8_68 s0_68 = some r → ∀ (H : Heap) (locs : List Loc) (ls : Array Slot), Wd E μ s H → va_S (eA E) s.heap H locs → lv_has ls 9 [(0, .ref (ead E k0)), (1, .int b1_68), (2, .int b2_68), (5, .long b5_68), (7, .int b7_68), (8, .ref (ead E b8_68))] → W p l e (headSpec (.code yX2_meeting cX2_meeting 9 (some .long) :: BIG) ({ frames := 2, cells := 0, slots := 0, locals := 55 })).room s m ([.ref (ead E k0), .int a1, .int a2] : List Value).toArray below meth c H locs 0 0 (MQ below (QL E r μ) ([.ref (ead E k0), .int a1, .int a2] : List Value).toArray s 0 0 (eA E)) (F0 m 68 ls [.long s0_68]) := by
        intro b1_68 b2_68 b5_68 b7_68 b8_68 s0_68 hb8_68 hf H locs ls hW hV hl
        unfold f_X2_meeting_68 at hf
        refine lv_lstore_n (i := 3) (lv' := [(3, .long s0_68), (0, .ref (ead E k0)), (1, .int b1_68), (2, .int b2_68), (5, .long b5_68), (7, .int b7_68), (8, .ref (ead E b8_68))]) hx hb dX2_meeting_68 rfl hl (by decide) rfl (fun ls hl => ?_)
        refine lv_lload_n hx hb dX2_meeting_69 rfl (lv_at hl 0 rfl) ?_
        refine lv_lconst (v := (0 : Int64)) hx hb dX2_meeting_70 (by decide) ?_
        refine W.lcmp hx hb dX2_meeting_71 ?_
        refine lv_if_ge (tgt := 79) hx hb dX2_meeting_72 (by decide) (fun y19 => ?_) (fun y19 => ?_)
        · have hf := op_t y19 hf
          refine lv_lload hx hb dX2_meeting_79 (lv_at hl 4 rfl) ?_
          refine lv_aload hx hb dX2_meeting_81 (lv_at hl 6 rfl) ?_
          refine lv_bipush (v := (7 : Int32)) hx hb dX2_meeting_83 (by decide) ?_
          obtain ⟨v20, e_v20, hf⟩ := op_none hf
          refine w_iald hx hb hW hb8_68.1 (hb8_68.2 E _ _) e_v20 dX2_meeting_85 ?_
          refine lv_i2l hx hb dX2_meeting_86 rfl ?_
          obtain ⟨v21, e_22, hf⟩ := op_none hf
          refine w_callL (rn_RX2_111 (As := [.long b5_68, .long v20.toInt64]) hx hb hml hown hB hW hZ hV (k_X6_commonMultiple l E _ b5_68 v20.toInt64 v21 e_22) rfl rfl ⟨(Nat.le_of_ble_eq_true rfl), (Nat.le_of_ble_eq_true rfl)⟩ rfl hl.1 rfl (Nat.le_of_ble_eq_true rfl) dX2_meeting_87 ⟨Nat.le_refl _, Nat.le_refl _⟩) hV (fun H locs hW hV => ?_)
          refine lv_lstore (i := 5) (lv' := [(5, .long v21), (3, .long s0_68), (0, .ref (ead E k0)), (1, .int b1_68), (2, .int b2_68), (7, .int b7_68), (8, .ref (ead E b8_68))]) hx hb dX2_meeting_90 hl (by decide) rfl (fun ls hl => ?_)
          exact c_92 b1_68 b2_68 s0_68 v21 b7_68 hf H locs ls hW hV (lv_sub hl [2, 3, 4, 1, 0, 5] rfl)
        · have hf := op_f y19 hf
          refine lv_ldc2 (v := (-5 : Int64)) hx hb hown (hB _ q_16d40053) dX2_meeting_75 ?_
          exact w_retL hx hb hr hlocks hW hV (Option.some.inj hf) rfl dX2_meeting_78
      intro b1_8 b2_8 b3_8 b5_8 b7_8 hf H locs ls hW hV hl
      rw [f_X2_meeting_8] at hf
      refine lv_iload hx hb dX2_meeting_8 (lv_at hl 5 rfl) ?_
      refine lv_aload_n hx hb dX2_meeting_10 rfl (lv_at hl 0 rfl) ?_
      refine gf_RX2_9 hx hb hB hown hW h0 dX2_meeting_11 ?_
      refine lv_icmp_ge (tgt := 98) hx hb dX2_meeting_14 (by decide) (fun y23 => ?_) (fun y23 => ?_)
      · have hf := op_t y23 hf
        refine lv_iload_n hx hb dX2_meeting_98 rfl (lv_at hl 2 rfl) ?_
        refine lv_if_eq (tgt := 107) hx hb dX2_meeting_99 (by decide) (fun y24 => ?_) (fun y24 => ?_)
        · have hf := op_t y24 hf
          refine lv_aload_n hx hb dX2_meeting_107 rfl (lv_at hl 0 rfl) ?_
          refine gf_RX2_23 hx hb hB hown hW h0 dX2_meeting_108 ?_
          refine lv_i2l hx hb dX2_meeting_111 rfl ?_
          refine lv_lload_n hx hb dX2_meeting_112 rfl (lv_at hl 3 rfl) ?_
          refine lv_aload_n hx hb dX2_meeting_113 rfl (lv_at hl 0 rfl) ?_
          refine gf_RX2_23 hx hb hB hown hW h0 dX2_meeting_114 ?_
          refine lv_i2l hx hb dX2_meeting_117 rfl ?_
          refine lv_lsub hx hb dX2_meeting_118 ?_
          refine lv_lload hx hb dX2_meeting_119 (lv_at hl 4 rfl) ?_
          obtain ⟨v25, e_26, hf⟩ := op_none hf
          refine w_callL (rn_RX2_74 (As := [.long (b3_8 - ((gI μ k0 3).toInt64)), .long b5_8]) hx hb hml hown hB hW hZ hV (k_X6_modulo l E _ (b3_8 - ((gI μ k0 3).toInt64)) b5_8 v25 e_26) rfl rfl ⟨(Nat.le_of_ble_eq_true rfl), (Nat.le_of_ble_eq_true rfl)⟩ rfl hl.1 rfl (Nat.le_of_ble_eq_true rfl) dX2_meeting_121 ⟨Nat.le_refl _, Nat.le_refl _⟩) hV (fun H locs hW hV => ?_)
          refine lv_ladd hx hb dX2_meeting_124 ?_
          exact w_retL hx hb hr hlocks hW hV (Option.some.inj hf) rfl dX2_meeting_125
        · have hf := op_f y24 hf
          refine lv_lload hx hb dX2_meeting_102 (lv_at hl 4 rfl) ?_
          refine lv_goto (tgt := 125) hx hb dX2_meeting_104 (by decide) ?_
          exact w_retL hx hb hr hlocks hW hV (Option.some.inj hf) rfl dX2_meeting_125
      · have hf := op_f y23 hf
        refine lv_iload_n hx hb dX2_meeting_17 rfl (lv_at hl 1 rfl) ?_
        refine lv_iload hx hb dX2_meeting_18 (lv_at hl 5 rfl) ?_
        refine lv_ishr hx hb dX2_meeting_20 ?_
        refine lv_iconst (v := (1 : Int32)) hx hb dX2_meeting_21 (by decide) ?_
        refine lv_iand hx hb dX2_meeting_22 ?_
        refine lv_iconst (v := (1 : Int32)) hx hb dX2_meeting_23 (by decide) ?_
        refine lv_icmp_ne (tgt := 92) hx hb dX2_meeting_24 (by decide) (fun y27 => ?_) (fun y27 => ?_)
        · have hf := op_f y27 hf
          exact c_92 b1_8 b2_8 b3_8 b5_8 b7_8 hf H locs ls hW hV (lv_sub hl [0, 1, 2, 3, 4, 5] rfl)
        · have hf := op_t y27 hf
          refine lv_aload_n hx hb dX2_meeting_27 rfl (lv_at hl 0 rfl) ?_
          refine gf_RX2_17 hx hb hB hown hW h0 dX2_meeting_28 ?_
          refine lv_iload hx hb dX2_meeting_31 (lv_at hl 5 rfl) ?_
          obtain ⟨j28, e_j28, hf⟩ := op_none hf
          refine w_aald (j := 4) hx hb hW (rSt h0).1 ((rSt h0).2 E _ _) rfl rfl e_j28 dX2_meeting_33 ?_
          refine lv_astore (i := 8) (lv' := [(8, .ref (ead E (k0 + 1 + 1 + j28))), (0, .ref (ead E k0)), (1, .int b1_8), (2, .int b2_8), (3, .long b3_8), (5, .long b5_8), (7, .int b7_8)]) hx hb dX2_meeting_34 hl (by decide) rfl (fun ls hl => ?_)
          refine lv_aload hx hb dX2_meeting_36 (lv_at hl 0 rfl) ?_
          refine lv_iconst (v := (4 : Int32)) hx hb dX2_meeting_38 (by decide) ?_
          obtain ⟨v29, e_v29, hf⟩ := op_none hf
          refine w_iald hx hb hW (iEg h0 (aix_lt e_j28)).1 ((iEg h0 (aix_lt e_j28)).2 E _ _) e_v29 dX2_meeting_39 ?_
          refine lv_iconst (v := (1 : Int32)) hx hb dX2_meeting_40 (by decide) ?_
          refine lv_icmp_ne (tgt := 50) hx hb dX2_meeting_41 (by decide) (fun y30 => ?_) (fun y30 => ?_)
          · have hf := op_f y30 hf
            refine lv_lload_n hx hb dX2_meeting_50 rfl (lv_at hl 4 rfl) ?_
            refine lv_lload hx hb dX2_meeting_51 (lv_at hl 5 rfl) ?_
            refine lv_aload hx hb dX2_meeting_53 (lv_at hl 0 rfl) ?_
            refine lv_bipush (v := (8 : Int32)) hx hb dX2_meeting_55 (by decide) ?_
            obtain ⟨v31, e_v31, hf⟩ := op_none hf
            refine w_iald hx hb hW (iEg h0 (aix_lt e_j28)).1 ((iEg h0 (aix_lt e_j28)).2 E _ _) e_v31 dX2_meeting_57 ?_
            refine lv_i2l hx hb dX2_meeting_58 rfl ?_
            refine lv_aload hx hb dX2_meeting_59 (lv_at hl 0 rfl) ?_
            refine lv_bipush (v := (7 : Int32)) hx hb dX2_meeting_61 (by decide) ?_
            obtain ⟨v32, e_v32, hf⟩ := op_none hf
            refine w_iald hx hb hW (iEg h0 (aix_lt e_j28)).1 ((iEg h0 (aix_lt e_j28)).2 E _ _) e_v32 dX2_meeting_63 ?_
            refine lv_i2l hx hb dX2_meeting_64 rfl ?_
            obtain ⟨v33, e_34, hf⟩ := op_none hf
            refine w_callL (rn_RX2_105 (As := [.long b3_8, .long b5_8, .long v31.toInt64, .long v32.toInt64]) hx hb hml hown hB hW hZ hV (k_X6_commonRest l E _ b3_8 b5_8 v31.toInt64 v32.toInt64 v33 e_34) rfl rfl ⟨(Nat.le_of_ble_eq_true rfl), (Nat.le_of_ble_eq_true rfl)⟩ rfl hl.1 rfl (Nat.le_of_ble_eq_true rfl) dX2_meeting_65 ⟨Nat.le_refl _, Nat.le_refl _⟩) hV (fun H locs hW hV => ?_)
            exact c_68 b1_8 b2_8 b5_8 b7_8 (k0 + 1 + 1 + j28) v33 (iEg h0 (aix_lt e_j28)) hf H locs ls hW hV (lv_sub hl [1, 2, 3, 5, 6, 0] rfl)
          · have hf := op_t y30 hf
            refine lv_ldc2 (v := (-1 : Int64)) hx hb hown (hB _ q_5a52da33) dX2_meeting_44 ?_
            refine lv_goto (tgt := 68) hx hb dX2_meeting_47 (by decide) ?_
            exact c_68 b1_8 b2_8 b5_8 b7_8 (k0 + 1 + 1 + j28) (-1 : Int64) (iEg h0 (aix_lt e_j28)) hf H locs ls hW hV (lv_sub hl [1, 2, 3, 5, 6, 0] rfl)
  obtain ⟨H, hH⟩ : ∃ H : Heap, H = s.heap := ⟨_, rfl⟩
  obtain ⟨locs, hlocs⟩ : ∃ locs : List Loc, locs = [] := ⟨_, rfl⟩
  rw [show (W p l e (headSpec (.code yX2_meeting cX2_meeting 9 (some .long) :: BIG) ({ frames := 2, cells := 0, slots := 0, locals := 55 })).room s m ([.ref (ead E k0), .int a1, .int a2] : List Value).toArray below meth c s.heap [] 0 0) = W p l e (headSpec (.code yX2_meeting cX2_meeting 9 (some .long) :: BIG) ({ frames := 2, cells := 0, slots := 0, locals := 55 })).room s m ([.ref (ead E k0), .int a1, .int a2] : List Value).toArray below meth c H locs 0 0 by rw [hH, hlocs]]
  have hV : va_S (eA E) s.heap H locs := by rw [hH, hlocs]; exact hV
  have hW : Wd E μ s H := by rw [hH]; exact hW
  unfold f_X2_meeting at hf
  refine lv_lconst (v := (0 : Int64)) hx hb dX2_meeting_0 (by decide) ?_
  refine lv_lstore_n (i := 3) (lv' := [(3, .long (0 : Int64)), (0, .ref (ead E k0)), (1, .int a1), (2, .int a2)]) hx hb dX2_meeting_1 rfl hl (by decide) rfl (fun ls hl => ?_)
  refine lv_lconst (v := (1 : Int64)) hx hb dX2_meeting_2 (by decide) ?_
  refine lv_lstore (i := 5) (lv' := [(5, .long (1 : Int64)), (3, .long (0 : Int64)), (0, .ref (ead E k0)), (1, .int a1), (2, .int a2)]) hx hb dX2_meeting_3 hl (by decide) rfl (fun ls hl => ?_)
  refine lv_iconst (v := (0 : Int32)) hx hb dX2_meeting_5 (by decide) ?_
  refine lv_istore (i := 7) (lv' := [(7, .int (0 : Int32)), (5, .long (1 : Int64)), (3, .long (0 : Int64)), (0, .ref (ead E k0)), (1, .int a1), (2, .int a2)]) hx hb dX2_meeting_6 hl (by decide) rfl (fun ls hl => ?_)
  exact c_8 FU a1 a2 (0 : Int64) (1 : Int64) (0 : Int32) hf H locs ls hW hV (lv_sub hl [3, 4, 5, 2, 1, 0] rfl)
set_option maxHeartbeats 8000000 in
set_option maxRecDepth 100000 in
theorem k_X6_together (l : Launch) (E : WE) (μ : Mem) (a1 : Int32) (a2 : Int32) (r : Int64) (μ' : Mem) (hf : f_X6_together μ a1 a2 = some (r, μ')) : Met l yX6_together (.code yX6_together cX6_together 3 (some .long) :: BIG) ({ frames := 6, cells := 0, slots := 0, locals := 145 }) (PW E μ [.ref (ead E 1), .int a1, .int a2]) (QL E r μ') 0 0 (eA E) := by
  refine Met.ofW (cc := cX6_together) (maxL := 3) (ret := (some .long)) (by decide) rfl ?_
  intro p e s m args below meth c s₁ B hml hv
  obtain ⟨rfl, hW, hZ⟩ := hv
  have hx := B.exec
  have hb := B.bytes
  have hr := B.returns
  have hB : ∀ w ∈ BIG, w.before _ s = true := fun w h => atoms_spec (ws := (.code yX6_together cX6_together 3 (some .long) :: BIG)) B.pre w (List.mem_cons_of_mem _ h)
  have hown : s.vm.findClass RX6 = some m.cls := findClass_of_methodNamed B.named
  have hlocks := B.notSynchronized
  have hV : va_S (eA E) s.heap s.heap [] := va_S.rf
  have hl := lv_entry ([.ref (ead E 1), .int a1, .int a2]) (n := 3) (Nat.le_of_ble_eq_true rfl)
  rw [lg_entry_eq]
  generalize (lg_sl ([.ref (ead E 1), .int a1, .int a2]) ++ List.replicate (3 - (lg_sl ([.ref (ead E 1), .int a1, .int a2])).length) Slot.unset).toArray = ls at hl ⊢
  have hl : lv_has ls 3 [(0, .ref (ead E 1)), (1, .int a1), (2, .int a2)] := hl
  have c_58 : ∀ (μ_58 : Mem) (s0_58 : Int32) (s1_58 : Int32) , f_X6_together_58 μ_58 s0_58 s1_58 = some (r, μ') → ∀ (H : Heap) (locs : List Loc) (ls : Array Slot), Wd E μ_58 s H → va_S (eA E) s.heap H locs → lv_has ls 3 [] → W p l e (headSpec (.code yX6_together cX6_together 3 (some .long) :: BIG) ({ frames := 6, cells := 0, slots := 0, locals := 145 })).room s m ([.ref (ead E 1), .int a1, .int a2] : List Value).toArray below meth c H locs 0 0 (MQ below (QL E r μ') ([.ref (ead E 1), .int a1, .int a2] : List Value).toArray s 0 0 (eA E)) (F0 m 58 ls [.int s0_58, .int s1_58, .ref (ead E 100)]) := by
    intro μ_58 s0_58 s1_58 hf H locs ls hW hV hl
    unfold f_X6_together_58 at hf
    obtain ⟨v12, e_13, hf⟩ := op_none hf
    refine w_callL (rn_RX6_158 (As := [.int s1_58, .int s0_58]) hx hb hml hown hB hW hZ hV (k_X2_meeting l E _ 100 s1_58 s0_58 st1 v12 e_13) rfl rfl ⟨(Nat.le_of_ble_eq_true rfl), (Nat.le_of_ble_eq_true rfl)⟩ (w_rec hW (oSt st1).1 ((oSt st1).2 E _ _) rfl) rfl hl.1 rfl (Nat.le_of_ble_eq_true rfl) dX6_together_58 ⟨Nat.le_refl _, Nat.le_refl _⟩) hV (fun H locs hW hV => ?_)
    exact w_retL hx hb hr hlocks hW hV (Prod.mk.inj (Option.some.inj hf)).1 (Prod.mk.inj (Option.some.inj hf)).2 dX6_together_61
  obtain ⟨H, hH⟩ : ∃ H : Heap, H = s.heap := ⟨_, rfl⟩
  obtain ⟨locs, hlocs⟩ : ∃ locs : List Loc, locs = [] := ⟨_, rfl⟩
  rw [show (W p l e (headSpec (.code yX6_together cX6_together 3 (some .long) :: BIG) ({ frames := 6, cells := 0, slots := 0, locals := 145 })).room s m ([.ref (ead E 1), .int a1, .int a2] : List Value).toArray below meth c s.heap [] 0 0) = W p l e (headSpec (.code yX6_together cX6_together 3 (some .long) :: BIG) ({ frames := 6, cells := 0, slots := 0, locals := 145 })).room s m ([.ref (ead E 1), .int a1, .int a2] : List Value).toArray below meth c H locs 0 0 by rw [hH, hlocs]]
  have hV : va_S (eA E) s.heap H locs := by rw [hH, hlocs]; exact hV
  have hW : Wd E μ s H := by rw [hH]; exact hW
  unfold f_X6_together at hf
  refine lv_iload_n hx hb dX6_together_0 rfl (lv_at hl 1 rfl) ?_
  refine lv_i2l hx hb dX6_together_1 rfl ?_
  refine lv_lconst (v := (0 : Int64)) hx hb dX6_together_2 (by decide) ?_
  refine lv_iconst (v := (1 : Int32)) hx hb dX6_together_3 (by decide) ?_
  refine lv_aload_n hx hb dX6_together_4 rfl (lv_at hl 0 rfl) ?_
  refine gf_RX6_12 hx hb hB hown hW dX6_together_5 ?_
  refine gf_RX6_72 hx hb hB hown hW st1 dX6_together_8 ?_
  refine lv_ishl hx hb dX6_together_11 ?_
  refine lv_iconst (v := (1 : Int32)) hx hb dX6_together_12 (by decide) ?_
  refine lv_isub hx hb dX6_together_13 ?_
  refine lv_i2l hx hb dX6_together_14 rfl ?_
  obtain ⟨v14, e_15, hf⟩ := op_none hf
  refine w_callN (rn_RX6_62 (As := [.long a1.toInt64, .long (0 : Int64), .long ((((1 : Int32) <<< ((gI μ 100 0) &&& 31)) - (1 : Int32)).toInt64)]) hx hb hml hown hB hW hZ hV (k_X6_within l E _ a1.toInt64 (0 : Int64) ((((1 : Int32) <<< ((gI μ 100 0) &&& 31)) - (1 : Int32)).toInt64) v14 e_15) rfl rfl ⟨(Nat.le_of_ble_eq_true rfl), (Nat.le_of_ble_eq_true rfl)⟩ rfl hl.1 rfl (Nat.le_of_ble_eq_true rfl) dX6_together_15 ⟨Nat.le_refl _, Nat.le_refl _⟩) hV (fun H locs hn_v14 hW hV => ?_)
  refine lv_if_eq (tgt := 31) hx hb dX6_together_18 (by decide) (fun y16 => ?_) (fun y16 => ?_)
  · have hf := op_t y16 hf
    refine lv_ldc2 (v := (-9223372036854775808 : Int64)) hx hb hown (hB _ q_23409f7e) dX6_together_31 ?_
    exact w_retL hx hb hr hlocks hW hV (Prod.mk.inj (Option.some.inj hf)).1 (Prod.mk.inj (Option.some.inj hf)).2 dX6_together_34
  · have hf := op_f y16 hf
    refine lv_iload_n hx hb dX6_together_21 rfl (lv_at hl 2 rfl) ?_
    refine lv_i2l hx hb dX6_together_22 rfl ?_
    refine lv_lconst (v := (0 : Int64)) hx hb dX6_together_23 (by decide) ?_
    refine lv_lconst (v := (1 : Int64)) hx hb dX6_together_24 (by decide) ?_
    obtain ⟨v17, e_18, hf⟩ := op_none hf
    refine w_callN (rn_RX6_62 (As := [.long a2.toInt64, .long (0 : Int64), .long (1 : Int64)]) hx hb hml hown hB hW hZ hV (k_X6_within l E _ a2.toInt64 (0 : Int64) (1 : Int64) v17 e_18) rfl rfl ⟨(Nat.le_of_ble_eq_true rfl), (Nat.le_of_ble_eq_true rfl)⟩ rfl hl.1 rfl (Nat.le_of_ble_eq_true rfl) dX6_together_25 ⟨Nat.le_refl _, Nat.le_refl _⟩) hV (fun H locs hn_v17 hW hV => ?_)
    refine lv_if_ne (tgt := 35) hx hb dX6_together_28 (by decide) (fun y19 => ?_) (fun y19 => ?_)
    · have hf := op_f y19 hf
      refine lv_aload_n hx hb dX6_together_35 rfl (lv_at hl 0 rfl) ?_
      refine lv_aload_n hx hb dX6_together_36 rfl (lv_at hl 0 rfl) ?_
      refine gf_RX6_12 hx hb hB hown hW dX6_together_37 ?_
      obtain ⟨μ20, e_21, hf⟩ := op_none hf
      refine w_callV (rn_RX6_89 (As := [.ref (ead E 100)]) hx hb hml hown hB hW hZ hV (k_X6_reckon l E _ 100 st1 μ20 e_21) rfl rfl ⟨(Nat.le_of_ble_eq_true rfl), (Nat.le_of_ble_eq_true rfl)⟩ (w_rec hW oX.1 (oX.2 E _ _) rfl) rfl hl.1 rfl (Nat.le_of_ble_eq_true rfl) dX6_together_40 ⟨Nat.le_refl _, Nat.le_refl _⟩) hV (fun H locs hW hV => ?_)
      refine lv_aload_n hx hb dX6_together_43 rfl (lv_at hl 0 rfl) ?_
      refine gf_RX6_12 hx hb hB hown hW dX6_together_44 ?_
      refine lv_iload_n hx hb dX6_together_47 rfl (lv_at hl 1 rfl) ?_
      refine lv_iload_n hx hb dX6_together_48 rfl (lv_at hl 2 rfl) ?_
      refine lv_iconst (v := (1 : Int32)) hx hb dX6_together_49 (by decide) ?_
      refine lv_icmp_ne (tgt := 57) hx hb dX6_together_50 (by decide) (fun y22 => ?_) (fun y22 => ?_)
      · have hf := op_f y22 hf
        refine lv_iconst (v := (0 : Int32)) hx hb dX6_together_57 (by decide) ?_
        exact c_58 μ20 (0 : Int32) a1 hf H locs ls hW hV (lv_sub hl [] rfl)
      · have hf := op_t y22 hf
        refine lv_iconst (v := (1 : Int32)) hx hb dX6_together_53 (by decide) ?_
        refine lv_goto (tgt := 58) hx hb dX6_together_54 (by decide) ?_
        exact c_58 μ20 (1 : Int32) a1 hf H locs ls hW hV (lv_sub hl [] rfl)
    · have hf := op_t y19 hf
      refine lv_ldc2 (v := (-9223372036854775808 : Int64)) hx hb hown (hB _ q_23409f7e) dX6_together_31 ?_
      exact w_retL hx hb hr hlocks hW hV (Prod.mk.inj (Option.some.inj hf)).1 (Prod.mk.inj (Option.some.inj hf)).2 dX6_together_34
