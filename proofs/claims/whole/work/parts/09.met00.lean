set_option maxHeartbeats 8000000 in
set_option maxRecDepth 100000 in
theorem k_X6_within (l : Launch) (E : WE) (μ : Mem) (a0 : Int64) (a2 : Int64) (a4 : Int64) (r : Int32) (hf : f_X6_within μ a0 a2 a4 = some r) : Met l yX6_within (.code yX6_within cX6_within 6 (some .boolean) :: BIG) ({ frames := 0, cells := 0, slots := 0, locals := 0 }) (PW E μ [.long a0, .long a2, .long a4]) (QN E .boolean r μ) 0 0 (eA E) := by
  refine Met.ofW (cc := cX6_within) (maxL := 6) (ret := (some .boolean)) (by decide) rfl ?_
  intro p e s m args below meth c s₁ B hml hv
  obtain ⟨rfl, hW, hZ⟩ := hv
  have hx := B.exec
  have hb := B.bytes
  have hr := B.returns
  have hB : ∀ w ∈ BIG, w.before _ s = true := fun w h => atoms_spec (ws := (.code yX6_within cX6_within 6 (some .boolean) :: BIG)) B.pre w (List.mem_cons_of_mem _ h)
  have hown : s.vm.findClass RX6 = some m.cls := findClass_of_methodNamed B.named
  have hlocks := B.notSynchronized
  have hV : va_S (eA E) s.heap s.heap [] := va_S.rf
  have hl := lv_entry ([.long a0, .long a2, .long a4]) (n := 6) (Nat.le_of_ble_eq_true rfl)
  rw [lg_entry_eq]
  generalize (lg_sl ([.long a0, .long a2, .long a4]) ++ List.replicate (6 - (lg_sl ([.long a0, .long a2, .long a4])).length) Slot.unset).toArray = ls at hl ⊢
  have hl : lv_has ls 6 [(0, .long a0), (2, .long a2), (4, .long a4)] := hl
  obtain ⟨H, hH⟩ : ∃ H : Heap, H = s.heap := ⟨_, rfl⟩
  obtain ⟨locs, hlocs⟩ : ∃ locs : List Loc, locs = [] := ⟨_, rfl⟩
  rw [show (W p l e (headSpec (.code yX6_within cX6_within 6 (some .boolean) :: BIG) ({ frames := 0, cells := 0, slots := 0, locals := 0 })).room s m ([.long a0, .long a2, .long a4] : List Value).toArray below meth c s.heap [] 0 0) = W p l e (headSpec (.code yX6_within cX6_within 6 (some .boolean) :: BIG) ({ frames := 0, cells := 0, slots := 0, locals := 0 })).room s m ([.long a0, .long a2, .long a4] : List Value).toArray below meth c H locs 0 0 by rw [hH, hlocs]]
  have hV : va_S (eA E) s.heap H locs := by rw [hH, hlocs]; exact hV
  have hW : Wd E μ s H := by rw [hH]; exact hW
  unfold f_X6_within at hf
  refine lv_lload_n hx hb dX6_within_0 rfl (lv_at hl 0 rfl) ?_
  refine lv_lload_n hx hb dX6_within_1 rfl (lv_at hl 1 rfl) ?_
  refine W.lcmp hx hb dX6_within_2 ?_
  refine lv_if_lt (tgt := 17) hx hb dX6_within_3 (by decide) (fun y3 => ?_) (fun y3 => ?_)
  · have hf := op_t y3 hf
    refine lv_iconst (v := (0 : Int32)) hx hb dX6_within_17 (by decide) ?_
    exact w_retN hx hb hr hlocks hW hV (by decide) (Option.some.inj hf) rfl dX6_within_18
  · have hf := op_f y3 hf
    refine lv_lload_n hx hb dX6_within_6 rfl (lv_at hl 0 rfl) ?_
    refine lv_lload hx hb dX6_within_7 (lv_at hl 2 rfl) ?_
    refine W.lcmp hx hb dX6_within_9 ?_
    refine lv_if_gt (tgt := 17) hx hb dX6_within_10 (by decide) (fun y4 => ?_) (fun y4 => ?_)
    · have hf := op_t y4 hf
      refine lv_iconst (v := (0 : Int32)) hx hb dX6_within_17 (by decide) ?_
      exact w_retN hx hb hr hlocks hW hV (by decide) (Option.some.inj hf) rfl dX6_within_18
    · have hf := op_f y4 hf
      refine lv_iconst (v := (1 : Int32)) hx hb dX6_within_13 (by decide) ?_
      refine lv_goto (tgt := 18) hx hb dX6_within_14 (by decide) ?_
      exact w_retN hx hb hr hlocks hW hV (by decide) (Option.some.inj hf) rfl dX6_within_18
set_option maxHeartbeats 8000000 in
set_option maxRecDepth 100000 in
theorem k_J7_fill_53178 (l : Launch) (E : WE) (μ : Mem) (k0 : Nat) (a1 : Int32) (h0 : isI k0 14) (μ' : Mem) (hf : f_J7_fill_53178 μ k0 a1 = some μ') : Met l yJ7_fill_53178 (.code yJ7_fill_53178 cJ7_fill_53178 4 none :: BIG) ({ frames := 0, cells := 0, slots := 0, locals := 0 }) (PW E μ [.ref (ead E k0), .int a1]) (QV E μ') 0 0 (eA E) := by
  refine Met.ofW (cc := cJ7_fill_53178) (maxL := 4) (ret := none) (by decide) rfl ?_
  intro p e s m args below meth c s₁ B hml hv
  obtain ⟨rfl, hW, hZ⟩ := hv
  have hx := B.exec
  have hb := B.bytes
  have hr := B.returns
  have hB : ∀ w ∈ BIG, w.before _ s = true := fun w h => atoms_spec (ws := (.code yJ7_fill_53178 cJ7_fill_53178 4 none :: BIG)) B.pre w (List.mem_cons_of_mem _ h)
  have hown : s.vm.findClass RJ7 = some m.cls := findClass_of_methodNamed B.named
  have hlocks := B.notSynchronized
  have hV : va_S (eA E) s.heap s.heap [] := va_S.rf
  have hl := lv_entry ([.ref (ead E k0), .int a1]) (n := 4) (Nat.le_of_ble_eq_true rfl)
  rw [lg_entry_eq]
  generalize (lg_sl ([.ref (ead E k0), .int a1]) ++ List.replicate (4 - (lg_sl ([.ref (ead E k0), .int a1])).length) Slot.unset).toArray = ls at hl ⊢
  have hl : lv_has ls 4 [(0, .ref (ead E k0)), (1, .int a1)] := hl
  have c_5 : ∀ (n_5 : Nat) (μ_5 : Mem) (b1_5 : Int32) (b2_5 : Int32) (b3_5 : Int32) , f_J7_fill_53178_5 k0 n_5 μ_5 b1_5 b2_5 b3_5 = some μ' → ∀ (H : Heap) (locs : List Loc) (ls : Array Slot), Wd E μ_5 s H → va_S (eA E) s.heap H locs → lv_has ls 4 [(0, .ref (ead E k0)), (1, .int b1_5), (2, .int b2_5), (3, .int b3_5)] → W p l e (headSpec (.code yJ7_fill_53178 cJ7_fill_53178 4 none :: BIG) ({ frames := 0, cells := 0, slots := 0, locals := 0 })).room s m ([.ref (ead E k0), .int a1] : List Value).toArray below meth c H locs 0 0 (MQ below (QV E μ') ([.ref (ead E k0), .int a1] : List Value).toArray s 0 0 (eA E)) (F0 m 5 ls []) := by
    intro n_5
    induction n_5 with
    | zero =>
      intro μ_5 b1_5 b2_5 b3_5 hf H locs ls hW hV hl
      cases hf
    | succ n_5 ih_5 =>
      intro μ_5 b1_5 b2_5 b3_5 hf H locs ls hW hV hl
      rw [f_J7_fill_53178_5] at hf
      refine lv_iload_n hx hb dJ7_fill_53178_5 rfl (lv_at hl 2 rfl) ?_
      refine lv_iload_n hx hb dJ7_fill_53178_6 rfl (lv_at hl 3 rfl) ?_
      refine lv_icmp_ge (tgt := 20) hx hb dJ7_fill_53178_7 (by decide) (fun y4 => ?_) (fun y4 => ?_)
      · have hf := op_t y4 hf
        exact w_retV hx hb hr hlocks hW hV (Option.some.inj hf) dJ7_fill_53178_20
      · have hf := op_f y4 hf
        refine lv_aload_n hx hb dJ7_fill_53178_10 rfl (lv_at hl 0 rfl) ?_
        refine lv_iload_n hx hb dJ7_fill_53178_11 rfl (lv_at hl 2 rfl) ?_
        refine lv_iload_n hx hb dJ7_fill_53178_12 rfl (lv_at hl 1 rfl) ?_
        obtain ⟨μ5, e_μ5, hf⟩ := op_none hf
        refine w_iast hx hb hW hV h0.1 (fun f => h0.2 E f _) e_μ5 dJ7_fill_53178_13 (fun H locs hW hV => ?_)
        obtain ⟨v6, e_v6, hf⟩ := op_none hf
        refine lv_iinc (v := v6) (lv' := [(2, .int v6), (0, .ref (ead E k0)), (1, .int b1_5), (3, .int b3_5)]) hx hb dJ7_fill_53178_14 hl (k := 2) rfl (by rw [← Option.some.inj e_v6]; rfl) (by decide) rfl (fun ls hl => ?_)
        refine lv_goto (tgt := 5) hx hb dJ7_fill_53178_17 (by decide) ?_
        exact ih_5 μ5 b1_5 v6 b3_5 hf H locs ls hW hV (lv_sub hl [1, 2, 0, 3] rfl)
  obtain ⟨H, hH⟩ : ∃ H : Heap, H = s.heap := ⟨_, rfl⟩
  obtain ⟨locs, hlocs⟩ : ∃ locs : List Loc, locs = [] := ⟨_, rfl⟩
  rw [show (W p l e (headSpec (.code yJ7_fill_53178 cJ7_fill_53178 4 none :: BIG) ({ frames := 0, cells := 0, slots := 0, locals := 0 })).room s m ([.ref (ead E k0), .int a1] : List Value).toArray below meth c s.heap [] 0 0) = W p l e (headSpec (.code yJ7_fill_53178 cJ7_fill_53178 4 none :: BIG) ({ frames := 0, cells := 0, slots := 0, locals := 0 })).room s m ([.ref (ead E k0), .int a1] : List Value).toArray below meth c H locs 0 0 by rw [hH, hlocs]]
  have hV : va_S (eA E) s.heap H locs := by rw [hH, hlocs]; exact hV
  have hW : Wd E μ s H := by rw [hH]; exact hW
  unfold f_J7_fill_53178 at hf
  refine lv_iconst (v := (0 : Int32)) hx hb dJ7_fill_53178_0 (by decide) ?_
  refine lv_istore_n (i := 2) (lv' := [(2, .int (0 : Int32)), (0, .ref (ead E k0)), (1, .int a1)]) hx hb dJ7_fill_53178_1 rfl hl (by decide) rfl (fun ls hl => ?_)
  refine lv_aload_n hx hb dJ7_fill_53178_2 rfl (lv_at hl 1 rfl) ?_
  refine w_alen (j := 0) (v := (14 : Int32)) hx hb hW h0.1 (h0.2 E _ _) rfl rfl rfl dJ7_fill_53178_3 ?_
  refine lv_istore_n (i := 3) (lv' := [(3, .int (14 : Int32)), (2, .int (0 : Int32)), (0, .ref (ead E k0)), (1, .int a1)]) hx hb dJ7_fill_53178_4 rfl hl (by decide) rfl (fun ls hl => ?_)
  exact c_5 FU μ a1 (0 : Int32) (14 : Int32) hf H locs ls hW hV (lv_sub hl [2, 3, 1, 0] rfl)
set_option maxHeartbeats 8000000 in
set_option maxRecDepth 100000 in
theorem k_X6_egg (l : Launch) (E : WE) (μ : Mem) (a1 : Int32) (a2 : Int32) (a3 : Int32) (a4 : Int32) (r : Int32) (μ' : Mem) (hf : f_X6_egg μ a1 a2 a3 a4 = some (r, μ')) : Met l yX6_egg (.code yX6_egg cX6_egg 6 (some .int) :: BIG) ({ frames := 1, cells := 0, slots := 0, locals := 25 }) (PW E μ [.ref (ead E 1), .int a1, .int a2, .int a3, .int a4]) (QI E r μ') 0 0 (eA E) := by
  refine Met.ofW (cc := cX6_egg) (maxL := 6) (ret := (some .int)) (by decide) rfl ?_
  intro p e s m args below meth c s₁ B hml hv
  obtain ⟨rfl, hW, hZ⟩ := hv
  have hx := B.exec
  have hb := B.bytes
  have hr := B.returns
  have hB : ∀ w ∈ BIG, w.before _ s = true := fun w h => atoms_spec (ws := (.code yX6_egg cX6_egg 6 (some .int) :: BIG)) B.pre w (List.mem_cons_of_mem _ h)
  have hown : s.vm.findClass RX6 = some m.cls := findClass_of_methodNamed B.named
  have hlocks := B.notSynchronized
  have hV : va_S (eA E) s.heap s.heap [] := va_S.rf
  have hl := lv_entry ([.ref (ead E 1), .int a1, .int a2, .int a3, .int a4]) (n := 6) (Nat.le_of_ble_eq_true rfl)
  rw [lg_entry_eq]
  generalize (lg_sl ([.ref (ead E 1), .int a1, .int a2, .int a3, .int a4]) ++ List.replicate (6 - (lg_sl ([.ref (ead E 1), .int a1, .int a2, .int a3, .int a4])).length) Slot.unset).toArray = ls at hl ⊢
  have hl : lv_has ls 6 [(0, .ref (ead E 1)), (1, .int a1), (2, .int a2), (3, .int a3), (4, .int a4)] := hl
  obtain ⟨H, hH⟩ : ∃ H : Heap, H = s.heap := ⟨_, rfl⟩
  obtain ⟨locs, hlocs⟩ : ∃ locs : List Loc, locs = [] := ⟨_, rfl⟩
  rw [show (W p l e (headSpec (.code yX6_egg cX6_egg 6 (some .int) :: BIG) ({ frames := 1, cells := 0, slots := 0, locals := 25 })).room s m ([.ref (ead E 1), .int a1, .int a2, .int a3, .int a4] : List Value).toArray below meth c s.heap [] 0 0) = W p l e (headSpec (.code yX6_egg cX6_egg 6 (some .int) :: BIG) ({ frames := 1, cells := 0, slots := 0, locals := 25 })).room s m ([.ref (ead E 1), .int a1, .int a2, .int a3, .int a4] : List Value).toArray below meth c H locs 0 0 by rw [hH, hlocs]]
  have hV : va_S (eA E) s.heap H locs := by rw [hH, hlocs]; exact hV
  have hW : Wd E μ s H := by rw [hH]; exact hW
  unfold f_X6_egg at hf
  refine lv_iload_n hx hb dX6_egg_0 rfl (lv_at hl 1 rfl) ?_
  refine lv_i2l hx hb dX6_egg_1 rfl ?_
  refine lv_lconst (v := (0 : Int64)) hx hb dX6_egg_2 (by decide) ?_
  refine lv_ldc2 (v := (6 : Int64)) hx hb hown (hB _ q_35312f71) dX6_egg_3 ?_
  obtain ⟨v23, e_24, hf⟩ := op_none hf
  refine w_callN (rn_RX6_62 (As := [.long a1.toInt64, .long (0 : Int64), .long (6 : Int64)]) hx hb hml hown hB hW hZ hV (k_X6_within l E _ a1.toInt64 (0 : Int64) (6 : Int64) v23 e_24) rfl rfl ⟨(Nat.le_of_ble_eq_true rfl), (Nat.le_of_ble_eq_true rfl)⟩ rfl hl.1 rfl (Nat.le_of_ble_eq_true rfl) dX6_egg_6 ⟨Nat.le_refl _, Nat.le_refl _⟩) hV (fun H locs hn_v23 hW hV => ?_)
  refine lv_if_ne (tgt := 14) hx hb dX6_egg_9 (by decide) (fun y25 => ?_) (fun y25 => ?_)
  · have hf := op_f y25 hf
    refine lv_iload_n hx hb dX6_egg_14 rfl (lv_at hl 2 rfl) ?_
    refine lv_i2l hx hb dX6_egg_15 rfl ?_
    refine lv_lconst (v := (0 : Int64)) hx hb dX6_egg_16 (by decide) ?_
    refine lv_ldc2 (v := (9 : Int64)) hx hb hown (hB _ q_d6026cce) dX6_egg_17 ?_
    obtain ⟨v26, e_27, hf⟩ := op_none hf
    refine w_callN (rn_RX6_62 (As := [.long a2.toInt64, .long (0 : Int64), .long (9 : Int64)]) hx hb hml hown hB hW hZ hV (k_X6_within l E _ a2.toInt64 (0 : Int64) (9 : Int64) v26 e_27) rfl rfl ⟨(Nat.le_of_ble_eq_true rfl), (Nat.le_of_ble_eq_true rfl)⟩ rfl hl.1 rfl (Nat.le_of_ble_eq_true rfl) dX6_egg_20 ⟨Nat.le_refl _, Nat.le_refl _⟩) hV (fun H locs hn_v26 hW hV => ?_)
    refine lv_if_eq (tgt := 51) hx hb dX6_egg_23 (by decide) (fun y28 => ?_) (fun y28 => ?_)
    · have hf := op_t y28 hf
      refine lv_bipush (v := (-2 : Int32)) hx hb dX6_egg_51 (by decide) ?_
      exact w_retI hx hb hr hlocks hW hV (Prod.mk.inj (Option.some.inj hf)).1 (Prod.mk.inj (Option.some.inj hf)).2 dX6_egg_53
    · have hf := op_f y28 hf
      refine lv_iload_n hx hb dX6_egg_26 rfl (lv_at hl 3 rfl) ?_
      refine lv_i2l hx hb dX6_egg_27 rfl ?_
      refine lv_lconst (v := (1 : Int64)) hx hb dX6_egg_28 (by decide) ?_
      refine lv_ldc2 (v := (30 : Int64)) hx hb hown (hB _ q_47b475f1) dX6_egg_29 ?_
      obtain ⟨v29, e_30, hf⟩ := op_none hf
      refine w_callN (rn_RX6_62 (As := [.long a3.toInt64, .long (1 : Int64), .long (30 : Int64)]) hx hb hml hown hB hW hZ hV (k_X6_within l E _ a3.toInt64 (1 : Int64) (30 : Int64) v29 e_30) rfl rfl ⟨(Nat.le_of_ble_eq_true rfl), (Nat.le_of_ble_eq_true rfl)⟩ rfl hl.1 rfl (Nat.le_of_ble_eq_true rfl) dX6_egg_32 ⟨Nat.le_refl _, Nat.le_refl _⟩) hV (fun H locs hn_v29 hW hV => ?_)
      refine lv_if_eq (tgt := 51) hx hb dX6_egg_35 (by decide) (fun y31 => ?_) (fun y31 => ?_)
      · have hf := op_t y31 hf
        refine lv_bipush (v := (-2 : Int32)) hx hb dX6_egg_51 (by decide) ?_
        exact w_retI hx hb hr hlocks hW hV (Prod.mk.inj (Option.some.inj hf)).1 (Prod.mk.inj (Option.some.inj hf)).2 dX6_egg_53
      · have hf := op_f y31 hf
        refine lv_iload hx hb dX6_egg_38 (lv_at hl 4 rfl) ?_
        refine lv_i2l hx hb dX6_egg_40 rfl ?_
        refine lv_lconst (v := (0 : Int64)) hx hb dX6_egg_41 (by decide) ?_
        refine lv_ldc2 (v := (29 : Int64)) hx hb hown (hB _ q_6ec437e7) dX6_egg_42 ?_
        obtain ⟨v32, e_33, hf⟩ := op_none hf
        refine w_callN (rn_RX6_62 (As := [.long a4.toInt64, .long (0 : Int64), .long (29 : Int64)]) hx hb hml hown hB hW hZ hV (k_X6_within l E _ a4.toInt64 (0 : Int64) (29 : Int64) v32 e_33) rfl rfl ⟨(Nat.le_of_ble_eq_true rfl), (Nat.le_of_ble_eq_true rfl)⟩ rfl hl.1 rfl (Nat.le_of_ble_eq_true rfl) dX6_egg_45 ⟨Nat.le_refl _, Nat.le_refl _⟩) hV (fun H locs hn_v32 hW hV => ?_)
        refine lv_if_ne (tgt := 54) hx hb dX6_egg_48 (by decide) (fun y34 => ?_) (fun y34 => ?_)
        · have hf := op_f y34 hf
          refine lv_aload_n hx hb dX6_egg_54 rfl (lv_at hl 0 rfl) ?_
          refine gf_RX6_12 hx hb hB hown hW dX6_egg_55 ?_
          refine gf_RX6_72 hx hb hB hown hW st1 dX6_egg_58 ?_
          refine lv_bipush (v := (6 : Int32)) hx hb dX6_egg_61 (by decide) ?_
          refine lv_icmp_lt (tgt := 69) hx hb dX6_egg_63 (by decide) (fun y35 => ?_) (fun y35 => ?_)
          · have hf := op_t y35 hf
            refine lv_aload_n hx hb dX6_egg_69 rfl (lv_at hl 0 rfl) ?_
            refine gf_RX6_12 hx hb hB hown hW dX6_egg_70 ?_
            refine gf_RX6_75 hx hb hB hown hW st1 dX6_egg_73 ?_
            refine lv_aload_n hx hb dX6_egg_76 rfl (lv_at hl 0 rfl) ?_
            refine gf_RX6_12 hx hb hB hown hW dX6_egg_77 ?_
            refine gf_RX6_72 hx hb hB hown hW st1 dX6_egg_80 ?_
            obtain ⟨j36, e_j36, hf⟩ := op_none hf
            refine w_aald (j := 4) hx hb hW (rSt st1).1 ((rSt st1).2 E _ _) rfl rfl e_j36 dX6_egg_83 ?_
            refine lv_astore (i := 5) (lv' := [(5, .ref (ead E (100 + 1 + 1 + j36))), (0, .ref (ead E 1)), (1, .int a1), (2, .int a2), (3, .int a3), (4, .int a4)]) hx hb dX6_egg_84 hl (by decide) rfl (fun ls hl => ?_)
            refine lv_aload hx hb dX6_egg_86 (lv_at hl 0 rfl) ?_
            refine lv_iconst (v := (0 : Int32)) hx hb dX6_egg_88 (by decide) ?_
            obtain ⟨μ37, e_38, hf⟩ := op_none hf
            refine w_callV (rn_RX6_79 (As := [.ref (ead E (100 + 1 + 1 + j36)), .int (0 : Int32)]) hx hb hml hown hB hW hZ hV (k_J7_fill_53178 l E _ (100 + 1 + 1 + j36) (0 : Int32) (iEg st1 (aix_lt e_j36)) μ37 e_38) rfl rfl ⟨(Nat.le_of_ble_eq_true rfl), (Nat.le_of_ble_eq_true rfl)⟩ rfl hl.1 rfl (Nat.le_of_ble_eq_true rfl) dX6_egg_89 ⟨Nat.le_refl _, Nat.le_refl _⟩) hV (fun H locs hW hV => ?_)
            refine lv_aload hx hb dX6_egg_92 (lv_at hl 0 rfl) ?_
            refine lv_iconst (v := (0 : Int32)) hx hb dX6_egg_94 (by decide) ?_
            refine lv_iload_n hx hb dX6_egg_95 rfl (lv_at hl 2 rfl) ?_
            obtain ⟨μ39, e_μ39, hf⟩ := op_none hf
            refine w_iast hx hb hW hV (iEg st1 (aix_lt e_j36)).1 (fun f => (iEg st1 (aix_lt e_j36)).2 E f _) e_μ39 dX6_egg_96 (fun H locs hW hV => ?_)
            refine lv_aload hx hb dX6_egg_97 (lv_at hl 0 rfl) ?_
            refine lv_iconst (v := (1 : Int32)) hx hb dX6_egg_99 (by decide) ?_
            refine lv_iload_n hx hb dX6_egg_100 rfl (lv_at hl 3 rfl) ?_
            obtain ⟨μ40, e_μ40, hf⟩ := op_none hf
            refine w_iast hx hb hW hV (iEg st1 (aix_lt e_j36)).1 (fun f => (iEg st1 (aix_lt e_j36)).2 E f _) e_μ40 dX6_egg_101 (fun H locs hW hV => ?_)
            refine lv_aload hx hb dX6_egg_102 (lv_at hl 0 rfl) ?_
            refine lv_iconst (v := (2 : Int32)) hx hb dX6_egg_104 (by decide) ?_
            refine lv_iload_n hx hb dX6_egg_105 rfl (lv_at hl 4 rfl) ?_
            obtain ⟨μ41, e_μ41, hf⟩ := op_none hf
            refine w_iast hx hb hW hV (iEg st1 (aix_lt e_j36)).1 (fun f => (iEg st1 (aix_lt e_j36)).2 E f _) e_μ41 dX6_egg_106 (fun H locs hW hV => ?_)
            refine lv_aload hx hb dX6_egg_107 (lv_at hl 0 rfl) ?_
            refine lv_iconst (v := (3 : Int32)) hx hb dX6_egg_109 (by decide) ?_
            refine lv_iload hx hb dX6_egg_110 (lv_at hl 5 rfl) ?_
            obtain ⟨μ42, e_μ42, hf⟩ := op_none hf
            refine w_iast hx hb hW hV (iEg st1 (aix_lt e_j36)).1 (fun f => (iEg st1 (aix_lt e_j36)).2 E f _) e_μ42 dX6_egg_112 (fun H locs hW hV => ?_)
            refine lv_aload_n hx hb dX6_egg_113 rfl (lv_at hl 1 rfl) ?_
            refine gf_RX6_12 hx hb hB hown hW dX6_egg_114 ?_
            refine lv_dup hx hb dX6_egg_117 rfl ?_
            refine gf_RX6_72 hx hb hB hown hW st1 dX6_egg_118 ?_
            obtain ⟨v43, e_v43, hf⟩ := op_none hf
            refine lv_top' (Option.some.inj e_v43) ?_
            refine lv_dup_x1 hx hb dX6_egg_121 rfl rfl ?_
            refine lv_iconst (v := (1 : Int32)) hx hb dX6_egg_122 (by decide) ?_
            refine lv_iadd hx hb dX6_egg_123 ?_
            obtain ⟨μ44, e_μ44, hf⟩ := op_none hf
            refine pf_RX6_72 hx hb hB hown hW st1 hV dX6_egg_124 (fun H locs hW hV => ?_)
            rw [Option.some.inj e_μ44] at hW
            exact w_retI hx hb hr hlocks hW hV (Prod.mk.inj (Option.some.inj hf)).1 (Prod.mk.inj (Option.some.inj hf)).2 dX6_egg_127
          · have hf := op_f y35 hf
            refine lv_bipush (v := (-4 : Int32)) hx hb dX6_egg_66 (by decide) ?_
            exact w_retI hx hb hr hlocks hW hV (Prod.mk.inj (Option.some.inj hf)).1 (Prod.mk.inj (Option.some.inj hf)).2 dX6_egg_68
        · have hf := op_t y34 hf
          refine lv_bipush (v := (-2 : Int32)) hx hb dX6_egg_51 (by decide) ?_
          exact w_retI hx hb hr hlocks hW hV (Prod.mk.inj (Option.some.inj hf)).1 (Prod.mk.inj (Option.some.inj hf)).2 dX6_egg_53
  · have hf := op_t y25 hf
    refine lv_iconst (v := (-1 : Int32)) hx hb dX6_egg_12 (by decide) ?_
    exact w_retI hx hb hr hlocks hW hV (Prod.mk.inj (Option.some.inj hf)).1 (Prod.mk.inj (Option.some.inj hf)).2 dX6_egg_13
set_option maxHeartbeats 8000000 in
set_option maxRecDepth 100000 in
theorem k_X2_has (l : Launch) (E : WE) (μ : Mem) (k0 : Nat) (a1 : Int32) (h0 : isSt k0) (r : Int32) (hf : f_X2_has μ k0 a1 = some r) : Met l yX2_has (.code yX2_has cX2_has 2 (some .boolean) :: BIG) ({ frames := 0, cells := 0, slots := 0, locals := 0 }) (PW E μ [.ref (ead E k0), .int a1]) (QN E .boolean r μ) 0 0 (eA E) := by
  refine Met.ofW (cc := cX2_has) (maxL := 2) (ret := (some .boolean)) (by decide) rfl ?_
  intro p e s m args below meth c s₁ B hml hv
  obtain ⟨rfl, hW, hZ⟩ := hv
  have hx := B.exec
  have hb := B.bytes
  have hr := B.returns
  have hB : ∀ w ∈ BIG, w.before _ s = true := fun w h => atoms_spec (ws := (.code yX2_has cX2_has 2 (some .boolean) :: BIG)) B.pre w (List.mem_cons_of_mem _ h)
  have hown : s.vm.findClass RX2 = some m.cls := findClass_of_methodNamed B.named
  have hlocks := B.notSynchronized
  have hV : va_S (eA E) s.heap s.heap [] := va_S.rf
  have hl := lv_entry ([.ref (ead E k0), .int a1]) (n := 2) (Nat.le_of_ble_eq_true rfl)
  rw [lg_entry_eq]
  generalize (lg_sl ([.ref (ead E k0), .int a1]) ++ List.replicate (2 - (lg_sl ([.ref (ead E k0), .int a1])).length) Slot.unset).toArray = ls at hl ⊢
  have hl : lv_has ls 2 [(0, .ref (ead E k0)), (1, .int a1)] := hl
  obtain ⟨H, hH⟩ : ∃ H : Heap, H = s.heap := ⟨_, rfl⟩
  obtain ⟨locs, hlocs⟩ : ∃ locs : List Loc, locs = [] := ⟨_, rfl⟩
  rw [show (W p l e (headSpec (.code yX2_has cX2_has 2 (some .boolean) :: BIG) ({ frames := 0, cells := 0, slots := 0, locals := 0 })).room s m ([.ref (ead E k0), .int a1] : List Value).toArray below meth c s.heap [] 0 0) = W p l e (headSpec (.code yX2_has cX2_has 2 (some .boolean) :: BIG) ({ frames := 0, cells := 0, slots := 0, locals := 0 })).room s m ([.ref (ead E k0), .int a1] : List Value).toArray below meth c H locs 0 0 by rw [hH, hlocs]]
  have hV : va_S (eA E) s.heap H locs := by rw [hH, hlocs]; exact hV
  have hW : Wd E μ s H := by rw [hH]; exact hW
  unfold f_X2_has at hf
  refine lv_iload_n hx hb dX2_has_0 rfl (lv_at hl 1 rfl) ?_
  refine lv_if_lt (tgt := 16) hx hb dX2_has_1 (by decide) (fun y3 => ?_) (fun y3 => ?_)
  · have hf := op_t y3 hf
    refine lv_iconst (v := (0 : Int32)) hx hb dX2_has_16 (by decide) ?_
    exact w_retN hx hb hr hlocks hW hV (by decide) (Option.some.inj hf) rfl dX2_has_17
  · have hf := op_f y3 hf
    refine lv_iload_n hx hb dX2_has_4 rfl (lv_at hl 1 rfl) ?_
    refine lv_aload_n hx hb dX2_has_5 rfl (lv_at hl 0 rfl) ?_
    refine gf_RX2_9 hx hb hB hown hW h0 dX2_has_6 ?_
    refine lv_icmp_ge (tgt := 16) hx hb dX2_has_9 (by decide) (fun y4 => ?_) (fun y4 => ?_)
    · have hf := op_t y4 hf
      refine lv_iconst (v := (0 : Int32)) hx hb dX2_has_16 (by decide) ?_
      exact w_retN hx hb hr hlocks hW hV (by decide) (Option.some.inj hf) rfl dX2_has_17
    · have hf := op_f y4 hf
      refine lv_iconst (v := (1 : Int32)) hx hb dX2_has_12 (by decide) ?_
      refine lv_goto (tgt := 17) hx hb dX2_has_13 (by decide) ?_
      exact w_retN hx hb hr hlocks hW hV (by decide) (Option.some.inj hf) rfl dX2_has_17
set_option maxHeartbeats 8000000 in
set_option maxRecDepth 100000 in
theorem k_X6_holding (l : Launch) (E : WE) (μ : Mem) (k1 : Nat) (h1 : isSt k1) (r : Nat) (hf : f_X6_holding μ k1 = some r) : Met l yX6_holding (.code yX6_holding cX6_holding 2 (some (.object "WoundEggs$Store")) :: BIG) ({ frames := 1, cells := 0, slots := 0, locals := 25 }) (PW E μ [.ref (ead E 1), .ref (ead E k1)]) (QR E r μ) 0 0 (eA E) := by
  refine Met.ofW (cc := cX6_holding) (maxL := 2) (ret := (some (.object "WoundEggs$Store"))) (by decide) rfl ?_
  intro p e s m args below meth c s₁ B hml hv
  obtain ⟨rfl, hW, hZ⟩ := hv
  have hx := B.exec
  have hb := B.bytes
  have hr := B.returns
  have hB : ∀ w ∈ BIG, w.before _ s = true := fun w h => atoms_spec (ws := (.code yX6_holding cX6_holding 2 (some (.object "WoundEggs$Store")) :: BIG)) B.pre w (List.mem_cons_of_mem _ h)
  have hown : s.vm.findClass RX6 = some m.cls := findClass_of_methodNamed B.named
  have hlocks := B.notSynchronized
  have hV : va_S (eA E) s.heap s.heap [] := va_S.rf
  have hl := lv_entry ([.ref (ead E 1), .ref (ead E k1)]) (n := 2) (Nat.le_of_ble_eq_true rfl)
  rw [lg_entry_eq]
  generalize (lg_sl ([.ref (ead E 1), .ref (ead E k1)]) ++ List.replicate (2 - (lg_sl ([.ref (ead E 1), .ref (ead E k1)])).length) Slot.unset).toArray = ls at hl ⊢
  have hl : lv_has ls 2 [(0, .ref (ead E 1)), (1, .ref (ead E k1))] := hl
  obtain ⟨H, hH⟩ : ∃ H : Heap, H = s.heap := ⟨_, rfl⟩
  obtain ⟨locs, hlocs⟩ : ∃ locs : List Loc, locs = [] := ⟨_, rfl⟩
  rw [show (W p l e (headSpec (.code yX6_holding cX6_holding 2 (some (.object "WoundEggs$Store")) :: BIG) ({ frames := 1, cells := 0, slots := 0, locals := 25 })).room s m ([.ref (ead E 1), .ref (ead E k1)] : List Value).toArray below meth c s.heap [] 0 0) = W p l e (headSpec (.code yX6_holding cX6_holding 2 (some (.object "WoundEggs$Store")) :: BIG) ({ frames := 1, cells := 0, slots := 0, locals := 25 })).room s m ([.ref (ead E 1), .ref (ead E k1)] : List Value).toArray below meth c H locs 0 0 by rw [hH, hlocs]]
  have hV : va_S (eA E) s.heap H locs := by rw [hH, hlocs]; exact hV
  have hW : Wd E μ s H := by rw [hH]; exact hW
  unfold f_X6_holding at hf
  refine lv_aload_n hx hb dX6_holding_0 rfl (lv_at hl 1 rfl) ?_
  refine gf_RX6_118 hx hb hB hown hW h1 dX6_holding_1 ?_
  refine lv_i2l hx hb dX6_holding_4 rfl ?_
  refine lv_lconst (v := (0 : Int64)) hx hb dX6_holding_5 (by decide) ?_
  refine lv_aload_n hx hb dX6_holding_6 rfl (lv_at hl 0 rfl) ?_
  refine gf_RX6_41 hx hb hB hown hW dX6_holding_7 ?_
  refine lv_iconst (v := (1 : Int32)) hx hb dX6_holding_10 (by decide) ?_
  refine lv_isub hx hb dX6_holding_11 ?_
  refine lv_i2l hx hb dX6_holding_12 rfl ?_
  obtain ⟨v5, e_6, hf⟩ := op_none hf
  refine w_callN (rn_RX6_62 (As := [.long ((gI μ k1 4).toInt64), .long (0 : Int64), .long (((gI μ 1 6) - (1 : Int32)).toInt64)]) hx hb hml hown hB hW hZ hV (k_X6_within l E _ ((gI μ k1 4).toInt64) (0 : Int64) (((gI μ 1 6) - (1 : Int32)).toInt64) v5 e_6) rfl rfl ⟨(Nat.le_of_ble_eq_true rfl), (Nat.le_of_ble_eq_true rfl)⟩ rfl hl.1 rfl (Nat.le_of_ble_eq_true rfl) dX6_holding_13 ⟨Nat.le_refl _, Nat.le_refl _⟩) hV (fun H locs hn_v5 hW hV => ?_)
  refine lv_if_eq (tgt := 31) hx hb dX6_holding_16 (by decide) (fun y7 => ?_) (fun y7 => ?_)
  · have hf := op_t y7 hf
    refine lv_null hx hb dX6_holding_31 ?_
    exact w_retR hx hb hr (Or.inl ⟨_, rfl⟩) hlocks hW hV (k := 0) (rv_0 E).symm (Option.some.inj hf) rfl dX6_holding_32
  · have hf := op_f y7 hf
    refine lv_aload_n hx hb dX6_holding_19 rfl (lv_at hl 0 rfl) ?_
    refine gf_RX6_37 hx hb hB hown hW dX6_holding_20 ?_
    refine lv_aload_n hx hb dX6_holding_23 rfl (lv_at hl 1 rfl) ?_
    refine gf_RX6_118 hx hb hB hown hW h1 dX6_holding_24 ?_
    obtain ⟨j8, e_j8, hf⟩ := op_none hf
    refine w_aald (j := 5) hx hb hW r4.1 (r4.2 E _ _) rfl rfl e_j8 dX6_holding_27 ?_
    refine lv_goto (tgt := 32) hx hb dX6_holding_28 (by decide) ?_
    exact w_retR hx hb hr (Or.inl ⟨_, rfl⟩) hlocks hW hV (k := (1000 + 10 * j8)) (rv_n E (so_ne (soI (aix_lt e_j8)))).symm (Option.some.inj hf) rfl dX6_holding_32
theorem p_X6_holding {μ : Mem} {k1 : Nat} {r : Nat} (hf : f_X6_holding μ k1 = some r) : r = 0 ∨ isSo r := by
  unfold f_X6_holding at hf
  rcases hw : f_X6_within μ ((gI μ k1 4).toInt64) (0 : Int64) (((gI μ 1 6) - (1 : Int32)).toInt64) with _ | v5
  · rw [hw] at hf
    have hf : (none : Option Nat) = some r := hf
    cases hf
  · rw [hw] at hf
    have hf : (if v5 = (0 : Int32) then some 0 else (aix (gI μ k1 4) 6).bind fun j8 => some (1000 + 10 * j8)) = some r := hf
    by_cases h : v5 = 0
    · rw [if_pos h] at hf
      exact Or.inl (Option.some.inj hf).symm
    · rw [if_neg h] at hf
      rcases ha : aix (gI μ k1 4) 6 with _ | j8
      · rw [ha] at hf
        have hf : (none : Option Nat) = some r := hf
        cases hf
      · rw [ha] at hf
        have hf : some (1000 + 10 * j8) = some r := hf
        rw [← Option.some.inj hf]
        exact Or.inr (soI (aix_lt ha))
set_option maxHeartbeats 8000000 in
set_option maxRecDepth 100000 in
theorem k_X3_passes (l : Launch) (E : WE) (μ : Mem) (a0 : Int32) (k1 : Nat) (a2 : Int32) (h1 : isI k1 14) (r : Int32) (hf : f_X3_passes μ a0 k1 a2 = some r) : Met l yX3_passes (.code yX3_passes cX3_passes 7 (some .boolean) :: BIG) ({ frames := 0, cells := 0, slots := 0, locals := 0 }) (PW E μ [.int a0, .ref (ead E k1), .int a2]) (QN E .boolean r μ) 0 0 (eA E) := by
  refine Met.ofW (cc := cX3_passes) (maxL := 7) (ret := (some .boolean)) (by decide) rfl ?_
  intro p e s m args below meth c s₁ B hml hv
  obtain ⟨rfl, hW, hZ⟩ := hv
  have hx := B.exec
  have hb := B.bytes
  have hr := B.returns
  have hB : ∀ w ∈ BIG, w.before _ s = true := fun w h => atoms_spec (ws := (.code yX3_passes cX3_passes 7 (some .boolean) :: BIG)) B.pre w (List.mem_cons_of_mem _ h)
  have hown : s.vm.findClass RX3 = some m.cls := findClass_of_methodNamed B.named
  have hlocks := B.notSynchronized
  have hV : va_S (eA E) s.heap s.heap [] := va_S.rf
  have hl := lv_entry ([.int a0, .ref (ead E k1), .int a2]) (n := 7) (Nat.le_of_ble_eq_true rfl)
  rw [lg_entry_eq]
  generalize (lg_sl ([.int a0, .ref (ead E k1), .int a2]) ++ List.replicate (7 - (lg_sl ([.int a0, .ref (ead E k1), .int a2])).length) Slot.unset).toArray = ls at hl ⊢
  have hl : lv_has ls 7 [(0, .int a0), (1, .ref (ead E k1)), (2, .int a2)] := hl
  have c_36 : ∀ (b4_36 : Int32) (b5_36 : Int32) (s0_36 : Int32) , f_X3_passes_36 μ k1 b4_36 b5_36 s0_36 = some r → ∀ (H : Heap) (locs : List Loc) (ls : Array Slot), Wd E μ s H → va_S (eA E) s.heap H locs → lv_has ls 7 [(4, .int b4_36), (5, .int b5_36)] → W p l e (headSpec (.code yX3_passes cX3_passes 7 (some .boolean) :: BIG) ({ frames := 0, cells := 0, slots := 0, locals := 0 })).room s m ([.int a0, .ref (ead E k1), .int a2] : List Value).toArray below meth c H locs 0 0 (MQ below (QN E .boolean r μ) ([.int a0, .ref (ead E k1), .int a2] : List Value).toArray s 0 0 (eA E)) (F0 m 36 ls [.int s0_36]) := by
    intro b4_36 b5_36 s0_36 hf H locs ls hW hV hl
    unfold f_X3_passes_36 at hf
    refine lv_istore (i := 6) (lv' := [(6, .int s0_36), (4, .int b4_36), (5, .int b5_36)]) hx hb dX3_passes_36 hl (by decide) rfl (fun ls hl => ?_)
    refine lv_iload hx hb dX3_passes_38 (lv_at hl 1 rfl) ?_
    refine lv_if_ne (tgt := 58) hx hb dX3_passes_40 (by decide) (fun y12 => ?_) (fun y12 => ?_)
    · have hf := op_f y12 hf
      refine lv_iload hx hb dX3_passes_58 (lv_at hl 1 rfl) ?_
      refine lv_iconst (v := (1 : Int32)) hx hb dX3_passes_60 (by decide) ?_
      refine lv_icmp_ne (tgt := 79) hx hb dX3_passes_61 (by decide) (fun y13 => ?_) (fun y13 => ?_)
      · have hf := op_f y13 hf
        refine lv_iload hx hb dX3_passes_79 (lv_at hl 0 rfl) ?_
        refine lv_iload hx hb dX3_passes_81 (lv_at hl 2 rfl) ?_
        refine lv_icmp_le (tgt := 90) hx hb dX3_passes_83 (by decide) (fun y14 => ?_) (fun y14 => ?_)
        · have hf := op_t y14 hf
          refine lv_iconst (v := (0 : Int32)) hx hb dX3_passes_90 (by decide) ?_
          exact w_retN hx hb hr hlocks hW hV (by decide) (Option.some.inj hf) rfl dX3_passes_91
        · have hf := op_f y14 hf
          refine lv_iconst (v := (1 : Int32)) hx hb dX3_passes_86 (by decide) ?_
          refine lv_goto (tgt := 91) hx hb dX3_passes_87 (by decide) ?_
          exact w_retN hx hb hr hlocks hW hV (by decide) (Option.some.inj hf) rfl dX3_passes_91
      · have hf := op_t y13 hf
        refine lv_iload hx hb dX3_passes_64 (lv_at hl 0 rfl) ?_
        refine lv_iload hx hb dX3_passes_66 (lv_at hl 2 rfl) ?_
        refine lv_icmp_ne (tgt := 75) hx hb dX3_passes_68 (by decide) (fun y15 => ?_) (fun y15 => ?_)
        · have hf := op_f y15 hf
          refine lv_iconst (v := (0 : Int32)) hx hb dX3_passes_75 (by decide) ?_
          refine lv_goto (tgt := 91) hx hb dX3_passes_76 (by decide) ?_
          exact w_retN hx hb hr hlocks hW hV (by decide) (Option.some.inj hf) rfl dX3_passes_91
        · have hf := op_t y15 hf
          refine lv_iconst (v := (1 : Int32)) hx hb dX3_passes_71 (by decide) ?_
          refine lv_goto (tgt := 91) hx hb dX3_passes_72 (by decide) ?_
          exact w_retN hx hb hr hlocks hW hV (by decide) (Option.some.inj hf) rfl dX3_passes_91
    · have hf := op_t y12 hf
      refine lv_iload hx hb dX3_passes_43 (lv_at hl 0 rfl) ?_
      refine lv_iload hx hb dX3_passes_45 (lv_at hl 2 rfl) ?_
      refine lv_icmp_ge (tgt := 54) hx hb dX3_passes_47 (by decide) (fun y16 => ?_) (fun y16 => ?_)
      · have hf := op_t y16 hf
        refine lv_iconst (v := (0 : Int32)) hx hb dX3_passes_54 (by decide) ?_
        refine lv_goto (tgt := 91) hx hb dX3_passes_55 (by decide) ?_
        exact w_retN hx hb hr hlocks hW hV (by decide) (Option.some.inj hf) rfl dX3_passes_91
      · have hf := op_f y16 hf
        refine lv_iconst (v := (1 : Int32)) hx hb dX3_passes_50 (by decide) ?_
        refine lv_goto (tgt := 91) hx hb dX3_passes_51 (by decide) ?_
        exact w_retN hx hb hr hlocks hW hV (by decide) (Option.some.inj hf) rfl dX3_passes_91
  obtain ⟨H, hH⟩ : ∃ H : Heap, H = s.heap := ⟨_, rfl⟩
  obtain ⟨locs, hlocs⟩ : ∃ locs : List Loc, locs = [] := ⟨_, rfl⟩
  rw [show (W p l e (headSpec (.code yX3_passes cX3_passes 7 (some .boolean) :: BIG) ({ frames := 0, cells := 0, slots := 0, locals := 0 })).room s m ([.int a0, .ref (ead E k1), .int a2] : List Value).toArray below meth c s.heap [] 0 0) = W p l e (headSpec (.code yX3_passes cX3_passes 7 (some .boolean) :: BIG) ({ frames := 0, cells := 0, slots := 0, locals := 0 })).room s m ([.int a0, .ref (ead E k1), .int a2] : List Value).toArray below meth c H locs 0 0 by rw [hH, hlocs]]
  have hV : va_S (eA E) s.heap H locs := by rw [hH, hlocs]; exact hV
  have hW : Wd E μ s H := by rw [hH]; exact hW
  unfold f_X3_passes at hf
  refine lv_iload_n hx hb dX3_passes_0 rfl (lv_at hl 0 rfl) ?_
  refine lv_sipush (v := (1000 : Int32)) hx hb dX3_passes_1 (by decide) ?_
  obtain ⟨v17, e_v17, hf⟩ := op_none hf
  refine w_idiv hx hb e_v17 dX3_passes_4 ?_
  refine lv_istore_n (i := 3) (lv' := [(3, .int v17), (0, .int a0), (1, .ref (ead E k1)), (2, .int a2)]) hx hb dX3_passes_5 rfl hl (by decide) rfl (fun ls hl => ?_)
  refine lv_iload_n hx hb dX3_passes_6 rfl (lv_at hl 1 rfl) ?_
  refine lv_bipush (v := (100 : Int32)) hx hb dX3_passes_7 (by decide) ?_
  obtain ⟨v18, e_v18, hf⟩ := op_none hf
  refine w_idiv hx hb e_v18 dX3_passes_9 ?_
  refine lv_bipush (v := (10 : Int32)) hx hb dX3_passes_10 (by decide) ?_
  obtain ⟨v19, e_v19, hf⟩ := op_none hf
  refine w_irem hx hb e_v19 dX3_passes_12 ?_
  refine lv_istore (i := 4) (lv' := [(4, .int v19), (3, .int v17), (0, .int a0), (1, .ref (ead E k1)), (2, .int a2)]) hx hb dX3_passes_13 hl (by decide) rfl (fun ls hl => ?_)
  refine lv_iload_n hx hb dX3_passes_15 rfl (lv_at hl 2 rfl) ?_
  refine lv_bipush (v := (100 : Int32)) hx hb dX3_passes_16 (by decide) ?_
  obtain ⟨v20, e_v20, hf⟩ := op_none hf
  refine w_irem hx hb e_v20 dX3_passes_18 ?_
  refine lv_istore (i := 5) (lv' := [(5, .int v20), (4, .int v19), (3, .int v17), (0, .int a0), (1, .ref (ead E k1)), (2, .int a2)]) hx hb dX3_passes_19 hl (by decide) rfl (fun ls hl => ?_)
  refine lv_iload_n hx hb dX3_passes_21 rfl (lv_at hl 2 rfl) ?_
  refine lv_if_ne (tgt := 29) hx hb dX3_passes_22 (by decide) (fun y21 => ?_) (fun y21 => ?_)
  · have hf := op_f y21 hf
    refine lv_aload_n hx hb dX3_passes_29 rfl (lv_at hl 4 rfl) ?_
    refine lv_iconst (v := (0 : Int32)) hx hb dX3_passes_30 (by decide) ?_
    refine lv_iload_n hx hb dX3_passes_31 rfl (lv_at hl 2 rfl) ?_
    refine lv_iadd hx hb dX3_passes_32 ?_
    refine lv_iconst (v := (1 : Int32)) hx hb dX3_passes_33 (by decide) ?_
    refine lv_isub hx hb dX3_passes_34 ?_
    obtain ⟨v22, e_v22, hf⟩ := op_none hf
    refine w_iald hx hb hW h1.1 (h1.2 E _ _) e_v22 dX3_passes_35 ?_
    exact c_36 v19 v20 v22 hf H locs ls hW hV (lv_sub hl [1, 0] rfl)
  · have hf := op_t y21 hf
    refine lv_iload_n hx hb dX3_passes_25 rfl (lv_at hl 5 rfl) ?_
    refine lv_goto (tgt := 36) hx hb dX3_passes_26 (by decide) ?_
    exact c_36 v19 v20 a2 hf H locs ls hW hV (lv_sub hl [1, 0] rfl)
set_option maxHeartbeats 8000000 in
set_option maxRecDepth 100000 in
theorem k_X3_holdsFor (l : Launch) (E : WE) (μ : Mem) (k0 : Nat) (k1 : Nat) (a2 : Int32) (a3 : Int32) (a4 : Int32) (h0 : isSo k0) (h1 : isI k1 14) (r : Int32) (hf : f_X3_holdsFor μ k0 k1 a2 a3 a4 = some r) : Met l yX3_holdsFor (.code yX3_holdsFor cX3_holdsFor 8 (some .boolean) :: BIG) ({ frames := 1, cells := 0, slots := 0, locals := 26 }) (PW E μ [.ref (ead E k0), .ref (ead E k1), .int a2, .int a3, .int a4]) (QN E .boolean r μ) 0 0 (eA E) := by
  refine Met.ofW (cc := cX3_holdsFor) (maxL := 8) (ret := (some .boolean)) (by decide) rfl ?_
  intro p e s m args below meth c s₁ B hml hv
  obtain ⟨rfl, hW, hZ⟩ := hv
  have hx := B.exec
  have hb := B.bytes
  have hr := B.returns
  have hB : ∀ w ∈ BIG, w.before _ s = true := fun w h => atoms_spec (ws := (.code yX3_holdsFor cX3_holdsFor 8 (some .boolean) :: BIG)) B.pre w (List.mem_cons_of_mem _ h)
  have hown : s.vm.findClass RX3 = some m.cls := findClass_of_methodNamed B.named
  have hlocks := B.notSynchronized
  have hV : va_S (eA E) s.heap s.heap [] := va_S.rf
  have hl := lv_entry ([.ref (ead E k0), .ref (ead E k1), .int a2, .int a3, .int a4]) (n := 8) (Nat.le_of_ble_eq_true rfl)
  rw [lg_entry_eq]
  generalize (lg_sl ([.ref (ead E k0), .ref (ead E k1), .int a2, .int a3, .int a4]) ++ List.replicate (8 - (lg_sl ([.ref (ead E k0), .ref (ead E k1), .int a2, .int a3, .int a4])).length) Slot.unset).toArray = ls at hl ⊢
  have hl : lv_has ls 8 [(0, .ref (ead E k0)), (1, .ref (ead E k1)), (2, .int a2), (3, .int a3), (4, .int a4)] := hl
  have c_6 : ∀ (n_6 : Nat) (b2_6 : Int32) (b4_6 : Int32) (b5_6 : Int32) (b6_6 : Int32) , f_X3_holdsFor_6 μ k0 k1 n_6 b2_6 b4_6 b5_6 b6_6 = some r → ∀ (H : Heap) (locs : List Loc) (ls : Array Slot), Wd E μ s H → va_S (eA E) s.heap H locs → lv_has ls 8 [(0, .ref (ead E k0)), (1, .ref (ead E k1)), (2, .int b2_6), (4, .int b4_6), (5, .int b5_6), (6, .int b6_6)] → W p l e (headSpec (.code yX3_holdsFor cX3_holdsFor 8 (some .boolean) :: BIG) ({ frames := 1, cells := 0, slots := 0, locals := 26 })).room s m ([.ref (ead E k0), .ref (ead E k1), .int a2, .int a3, .int a4] : List Value).toArray below meth c H locs 0 0 (MQ below (QN E .boolean r μ) ([.ref (ead E k0), .ref (ead E k1), .int a2, .int a3, .int a4] : List Value).toArray s 0 0 (eA E)) (F0 m 6 ls []) := by
    intro n_6
    induction n_6 with
    | zero =>
      intro b2_6 b4_6 b5_6 b6_6 hf H locs ls hW hV hl
      cases hf
    | succ n_6 ih_6 =>
      have c_102 : ∀ (b2_102 : Int32) (b4_102 : Int32) (b5_102 : Int32) (b6_102 : Int32) , f_X3_holdsFor_102 μ k0 k1 (fun z0 z1 z2 z3 => f_X3_holdsFor_6 μ k0 k1 n_6 z0 z1 z2 z3) b2_102 b4_102 b5_102 b6_102 = some r → ∀ (H : Heap) (locs : List Loc) (ls : Array Slot), Wd E μ s H → va_S (eA E) s.heap H locs → lv_has ls 8 [(0, .ref (ead E k0)), (1, .ref (ead E k1)), (2, .int b2_102), (4, .int b4_102), (5, .int b5_102), (6, .int b6_102)] → W p l e (headSpec (.code yX3_holdsFor cX3_holdsFor 8 (some .boolean) :: BIG) ({ frames := 1, cells := 0, slots := 0, locals := 26 })).room s m ([.ref (ead E k0), .ref (ead E k1), .int a2, .int a3, .int a4] : List Value).toArray below meth c H locs 0 0 (MQ below (QN E .boolean r μ) ([.ref (ead E k0), .ref (ead E k1), .int a2, .int a3, .int a4] : List Value).toArray s 0 0 (eA E)) (F0 m 102 ls []) := by
        intro b2_102 b4_102 b5_102 b6_102 hf H locs ls hW hV hl
        unfold f_X3_holdsFor_102 at hf
        obtain ⟨v15, e_v15, hf⟩ := op_none hf
        refine lv_iinc (v := v15) (lv' := [(6, .int v15), (0, .ref (ead E k0)), (1, .ref (ead E k1)), (2, .int b2_102), (4, .int b4_102), (5, .int b5_102)]) hx hb dX3_holdsFor_102 hl (k := 5) rfl (by rw [← Option.some.inj e_v15]; rfl) (by decide) rfl (fun ls hl => ?_)
        refine lv_goto (tgt := 6) hx hb dX3_holdsFor_105 (by decide) ?_
        exact ih_6 b2_102 b4_102 b5_102 v15 hf H locs ls hW hV (lv_sub hl [1, 2, 3, 4, 5, 0] rfl)
      have c_99 : ∀ (b2_99 : Int32) (b4_99 : Int32) (b6_99 : Int32) (s0_99 : Int32) (s1_99 : Int32) , f_X3_holdsFor_99 μ k0 k1 (fun z0 z1 z2 z3 => f_X3_holdsFor_6 μ k0 k1 n_6 z0 z1 z2 z3) b2_99 b4_99 b6_99 s0_99 s1_99 = some r → ∀ (H : Heap) (locs : List Loc) (ls : Array Slot), Wd E μ s H → va_S (eA E) s.heap H locs → lv_has ls 8 [(0, .ref (ead E k0)), (1, .ref (ead E k1)), (2, .int b2_99), (4, .int b4_99), (6, .int b6_99)] → W p l e (headSpec (.code yX3_holdsFor cX3_holdsFor 8 (some .boolean) :: BIG) ({ frames := 1, cells := 0, slots := 0, locals := 26 })).room s m ([.ref (ead E k0), .ref (ead E k1), .int a2, .int a3, .int a4] : List Value).toArray below meth c H locs 0 0 (MQ below (QN E .boolean r μ) ([.ref (ead E k0), .ref (ead E k1), .int a2, .int a3, .int a4] : List Value).toArray s 0 0 (eA E)) (F0 m 99 ls [.int s0_99, .int s1_99]) := by
        intro b2_99 b4_99 b6_99 s0_99 s1_99 hf H locs ls hW hV hl
        unfold f_X3_holdsFor_99 at hf
        refine lv_ior hx hb dX3_holdsFor_99 ?_
        obtain ⟨v16, e_v16, hf⟩ := op_none hf
        refine lv_top' (Option.some.inj e_v16) ?_
        refine lv_istore (i := 5) (lv' := [(5, .int v16), (0, .ref (ead E k0)), (1, .ref (ead E k1)), (2, .int b2_99), (4, .int b4_99), (6, .int b6_99)]) hx hb dX3_holdsFor_100 hl (by decide) rfl (fun ls hl => ?_)
        exact c_102 b2_99 b4_99 v16 b6_99 hf H locs ls hW hV (lv_sub hl [1, 2, 3, 4, 0, 5] rfl)
      intro b2_6 b4_6 b5_6 b6_6 hf H locs ls hW hV hl
      rw [f_X3_holdsFor_6] at hf
      refine lv_iload hx hb dX3_holdsFor_6 (lv_at hl 5 rfl) ?_
      refine lv_iload hx hb dX3_holdsFor_8 (lv_at hl 3 rfl) ?_
      refine lv_icmp_ge (tgt := 108) hx hb dX3_holdsFor_10 (by decide) (fun y17 => ?_) (fun y17 => ?_)
      · have hf := op_t y17 hf
        refine lv_iload hx hb dX3_holdsFor_108 (lv_at hl 4 rfl) ?_
        refine lv_iconst (v := (1 : Int32)) hx hb dX3_holdsFor_110 (by decide) ?_
        refine lv_iand hx hb dX3_holdsFor_111 ?_
        refine lv_iconst (v := (1 : Int32)) hx hb dX3_holdsFor_112 (by decide) ?_
        refine lv_icmp_ne (tgt := 120) hx hb dX3_holdsFor_113 (by decide) (fun y18 => ?_) (fun y18 => ?_)
        · have hf := op_f y18 hf
          refine lv_iconst (v := (0 : Int32)) hx hb dX3_holdsFor_120 (by decide) ?_
          exact w_retN hx hb hr hlocks hW hV (by decide) (Option.some.inj hf) rfl dX3_holdsFor_121
        · have hf := op_t y18 hf
          refine lv_iconst (v := (1 : Int32)) hx hb dX3_holdsFor_116 (by decide) ?_
          refine lv_goto (tgt := 121) hx hb dX3_holdsFor_117 (by decide) ?_
          exact w_retN hx hb hr hlocks hW hV (by decide) (Option.some.inj hf) rfl dX3_holdsFor_121
      · have hf := op_f y17 hf
        refine lv_aload_n hx hb dX3_holdsFor_13 rfl (lv_at hl 0 rfl) ?_
        refine gf_RX3_25 hx hb hB hown hW h0 dX3_holdsFor_14 ?_
        refine lv_iload hx hb dX3_holdsFor_17 (lv_at hl 5 rfl) ?_
        obtain ⟨v19, e_v19, hf⟩ := op_none hf
        refine w_iald hx hb hW (iSo3 h0).1 ((iSo3 h0).2 E _ _) e_v19 dX3_holdsFor_19 ?_
        refine lv_istore (i := 7) (lv' := [(7, .int v19), (0, .ref (ead E k0)), (1, .ref (ead E k1)), (2, .int b2_6), (4, .int b4_6), (5, .int b5_6), (6, .int b6_6)]) hx hb dX3_holdsFor_20 hl (by decide) rfl (fun ls hl => ?_)
        refine lv_iload hx hb dX3_holdsFor_22 (lv_at hl 0 rfl) ?_
        refine lv_iconst (v := (-1 : Int32)) hx hb dX3_holdsFor_24 (by decide) ?_
        refine lv_icmp_ne (tgt := 37) hx hb dX3_holdsFor_25 (by decide) (fun y20 => ?_) (fun y20 => ?_)
        · have hf := op_f y20 hf
          refine lv_iload hx hb dX3_holdsFor_37 (lv_at hl 0 rfl) ?_
          refine lv_bipush (v := (-2 : Int32)) hx hb dX3_holdsFor_39 (by decide) ?_
          refine lv_icmp_ne (tgt := 59) hx hb dX3_holdsFor_41 (by decide) (fun y21 => ?_) (fun y21 => ?_)
          · have hf := op_f y21 hf
            refine lv_iload hx hb dX3_holdsFor_59 (lv_at hl 0 rfl) ?_
            refine lv_bipush (v := (-3 : Int32)) hx hb dX3_holdsFor_61 (by decide) ?_
            refine lv_icmp_ne (tgt := 80) hx hb dX3_holdsFor_63 (by decide) (fun y22 => ?_) (fun y22 => ?_)
            · have hf := op_f y22 hf
              refine lv_iload hx hb dX3_holdsFor_80 (lv_at hl 5 rfl) ?_
              refine lv_iconst (v := (1 : Int32)) hx hb dX3_holdsFor_82 (by decide) ?_
              refine lv_ishl hx hb dX3_holdsFor_83 ?_
              refine lv_iload hx hb dX3_holdsFor_84 (lv_at hl 0 rfl) ?_
              refine lv_aload_n hx hb dX3_holdsFor_86 rfl (lv_at hl 2 rfl) ?_
              refine lv_iload_n hx hb dX3_holdsFor_87 rfl (lv_at hl 3 rfl) ?_
              obtain ⟨v23, e_24, hf⟩ := op_none hf
              refine w_callN (rn_RX3_86 (As := [.int v19, .ref (ead E k1), .int b2_6]) hx hb hml hown hB hW hZ hV (k_X3_passes l E _ v19 k1 b2_6 h1 v23 e_24) rfl rfl ⟨(Nat.le_of_ble_eq_true rfl), (Nat.le_of_ble_eq_true rfl)⟩ rfl hl.1 rfl (Nat.le_of_ble_eq_true rfl) dX3_holdsFor_88 ⟨Nat.le_refl _, Nat.le_refl _⟩) hV (fun H locs hn_v23 hW hV => ?_)
              refine lv_if_eq (tgt := 98) hx hb dX3_holdsFor_91 (by decide) (fun y25 => ?_) (fun y25 => ?_)
              · have hf := op_t y25 hf
                refine lv_iconst (v := (0 : Int32)) hx hb dX3_holdsFor_98 (by decide) ?_
                exact c_99 b2_6 b4_6 b6_6 (0 : Int32) (b5_6 <<< ((1 : Int32) &&& 31)) hf H locs ls hW hV (lv_sub hl [1, 2, 3, 4, 6] rfl)
              · have hf := op_f y25 hf
                refine lv_iconst (v := (1 : Int32)) hx hb dX3_holdsFor_94 (by decide) ?_
                refine lv_goto (tgt := 99) hx hb dX3_holdsFor_95 (by decide) ?_
                exact c_99 b2_6 b4_6 b6_6 (1 : Int32) (b5_6 <<< ((1 : Int32) &&& 31)) hf H locs ls hW hV (lv_sub hl [1, 2, 3, 4, 6] rfl)
            · have hf := op_t y22 hf
              refine lv_iload hx hb dX3_holdsFor_66 (lv_at hl 5 rfl) ?_
              refine lv_iconst (v := (1 : Int32)) hx hb dX3_holdsFor_68 (by decide) ?_
              refine lv_ishr hx hb dX3_holdsFor_69 ?_
              refine lv_iload hx hb dX3_holdsFor_70 (lv_at hl 5 rfl) ?_
              refine lv_iconst (v := (1 : Int32)) hx hb dX3_holdsFor_72 (by decide) ?_
              refine lv_iand hx hb dX3_holdsFor_73 ?_
              refine lv_ior hx hb dX3_holdsFor_74 ?_
              obtain ⟨v26, e_v26, hf⟩ := op_none hf
              refine lv_top' (Option.some.inj e_v26) ?_
              refine lv_istore (i := 5) (lv' := [(5, .int v26), (7, .int v19), (0, .ref (ead E k0)), (1, .ref (ead E k1)), (2, .int b2_6), (4, .int b4_6), (6, .int b6_6)]) hx hb dX3_holdsFor_75 hl (by decide) rfl (fun ls hl => ?_)
              refine lv_goto (tgt := 102) hx hb dX3_holdsFor_77 (by decide) ?_
              exact c_102 b2_6 b4_6 v26 b6_6 hf H locs ls hW hV (lv_sub hl [2, 3, 4, 5, 0, 6] rfl)
          · have hf := op_t y21 hf
            refine lv_iload hx hb dX3_holdsFor_44 (lv_at hl 5 rfl) ?_
            refine lv_iconst (v := (1 : Int32)) hx hb dX3_holdsFor_46 (by decide) ?_
            refine lv_ishr hx hb dX3_holdsFor_47 ?_
            refine lv_iload hx hb dX3_holdsFor_48 (lv_at hl 5 rfl) ?_
            refine lv_bipush (v := (-2 : Int32)) hx hb dX3_holdsFor_50 (by decide) ?_
            refine lv_ior hx hb dX3_holdsFor_52 ?_
            refine lv_iand hx hb dX3_holdsFor_53 ?_
            obtain ⟨v27, e_v27, hf⟩ := op_none hf
            refine lv_top' (Option.some.inj e_v27) ?_
            refine lv_istore (i := 5) (lv' := [(5, .int v27), (7, .int v19), (0, .ref (ead E k0)), (1, .ref (ead E k1)), (2, .int b2_6), (4, .int b4_6), (6, .int b6_6)]) hx hb dX3_holdsFor_54 hl (by decide) rfl (fun ls hl => ?_)
            refine lv_goto (tgt := 102) hx hb dX3_holdsFor_56 (by decide) ?_
            exact c_102 b2_6 b4_6 v27 b6_6 hf H locs ls hW hV (lv_sub hl [2, 3, 4, 5, 0, 6] rfl)
        · have hf := op_t y20 hf
          refine lv_iload hx hb dX3_holdsFor_28 (lv_at hl 5 rfl) ?_
          refine lv_iconst (v := (1 : Int32)) hx hb dX3_holdsFor_30 (by decide) ?_
          refine lv_ixor hx hb dX3_holdsFor_31 ?_
          obtain ⟨v28, e_v28, hf⟩ := op_none hf
          refine lv_top' (Option.some.inj e_v28) ?_
          refine lv_istore (i := 5) (lv' := [(5, .int v28), (7, .int v19), (0, .ref (ead E k0)), (1, .ref (ead E k1)), (2, .int b2_6), (4, .int b4_6), (6, .int b6_6)]) hx hb dX3_holdsFor_32 hl (by decide) rfl (fun ls hl => ?_)
          refine lv_goto (tgt := 102) hx hb dX3_holdsFor_34 (by decide) ?_
          exact c_102 b2_6 b4_6 v28 b6_6 hf H locs ls hW hV (lv_sub hl [2, 3, 4, 5, 0, 6] rfl)
  obtain ⟨H, hH⟩ : ∃ H : Heap, H = s.heap := ⟨_, rfl⟩
  obtain ⟨locs, hlocs⟩ : ∃ locs : List Loc, locs = [] := ⟨_, rfl⟩
  rw [show (W p l e (headSpec (.code yX3_holdsFor cX3_holdsFor 8 (some .boolean) :: BIG) ({ frames := 1, cells := 0, slots := 0, locals := 26 })).room s m ([.ref (ead E k0), .ref (ead E k1), .int a2, .int a3, .int a4] : List Value).toArray below meth c s.heap [] 0 0) = W p l e (headSpec (.code yX3_holdsFor cX3_holdsFor 8 (some .boolean) :: BIG) ({ frames := 1, cells := 0, slots := 0, locals := 26 })).room s m ([.ref (ead E k0), .ref (ead E k1), .int a2, .int a3, .int a4] : List Value).toArray below meth c H locs 0 0 by rw [hH, hlocs]]
  have hV : va_S (eA E) s.heap H locs := by rw [hH, hlocs]; exact hV
  have hW : Wd E μ s H := by rw [hH]; exact hW
  unfold f_X3_holdsFor at hf
  refine lv_iconst (v := (0 : Int32)) hx hb dX3_holdsFor_0 (by decide) ?_
  refine lv_istore (i := 5) (lv' := [(5, .int (0 : Int32)), (0, .ref (ead E k0)), (1, .ref (ead E k1)), (2, .int a2), (3, .int a3), (4, .int a4)]) hx hb dX3_holdsFor_1 hl (by decide) rfl (fun ls hl => ?_)
  refine lv_iload_n hx hb dX3_holdsFor_3 rfl (lv_at hl 4 rfl) ?_
  refine lv_istore (i := 6) (lv' := [(6, .int a3), (5, .int (0 : Int32)), (0, .ref (ead E k0)), (1, .ref (ead E k1)), (2, .int a2), (3, .int a3), (4, .int a4)]) hx hb dX3_holdsFor_4 hl (by decide) rfl (fun ls hl => ?_)
  exact c_6 FU a2 a4 (0 : Int32) a3 hf H locs ls hW hV (lv_sub hl [2, 3, 4, 6, 1, 0] rfl)
set_option maxHeartbeats 8000000 in
set_option maxRecDepth 100000 in
theorem k_X3_lateness (l : Launch) (E : WE) (μ : Mem) (k0 : Nat) (k1 : Nat) (a2 : Int32) (h0 : isSo k0) (h1 : isI k1 14) (r : Int32) (hf : f_X3_lateness μ k0 k1 a2 = some r) : Met l yX3_lateness (.code yX3_lateness cX3_lateness 6 (some .int) :: BIG) ({ frames := 2, cells := 0, slots := 0, locals := 53 }) (PW E μ [.ref (ead E k0), .ref (ead E k1), .int a2]) (QI E r μ) 0 0 (eA E) := by
  refine Met.ofW (cc := cX3_lateness) (maxL := 6) (ret := (some .int)) (by decide) rfl ?_
  intro p e s m args below meth c s₁ B hml hv
  obtain ⟨rfl, hW, hZ⟩ := hv
  have hx := B.exec
  have hb := B.bytes
  have hr := B.returns
  have hB : ∀ w ∈ BIG, w.before _ s = true := fun w h => atoms_spec (ws := (.code yX3_lateness cX3_lateness 6 (some .int) :: BIG)) B.pre w (List.mem_cons_of_mem _ h)
  have hown : s.vm.findClass RX3 = some m.cls := findClass_of_methodNamed B.named
  have hlocks := B.notSynchronized
  have hV : va_S (eA E) s.heap s.heap [] := va_S.rf
  have hl := lv_entry ([.ref (ead E k0), .ref (ead E k1), .int a2]) (n := 6) (Nat.le_of_ble_eq_true rfl)
  rw [lg_entry_eq]
  generalize (lg_sl ([.ref (ead E k0), .ref (ead E k1), .int a2]) ++ List.replicate (6 - (lg_sl ([.ref (ead E k0), .ref (ead E k1), .int a2])).length) Slot.unset).toArray = ls at hl ⊢
  have hl : lv_has ls 6 [(0, .ref (ead E k0)), (1, .ref (ead E k1)), (2, .int a2)] := hl
  have c_8 : ∀ (n_8 : Nat) (b2_8 : Int32) (b3_8 : Int32) (b4_8 : Int32) (b5_8 : Int32) , f_X3_lateness_8 μ k0 k1 n_8 b2_8 b3_8 b4_8 b5_8 = some r → ∀ (H : Heap) (locs : List Loc) (ls : Array Slot), Wd E μ s H → va_S (eA E) s.heap H locs → lv_has ls 6 [(0, .ref (ead E k0)), (1, .ref (ead E k1)), (2, .int b2_8), (3, .int b3_8), (4, .int b4_8), (5, .int b5_8)] → W p l e (headSpec (.code yX3_lateness cX3_lateness 6 (some .int) :: BIG) ({ frames := 2, cells := 0, slots := 0, locals := 53 })).room s m ([.ref (ead E k0), .ref (ead E k1), .int a2] : List Value).toArray below meth c H locs 0 0 (MQ below (QI E r μ) ([.ref (ead E k0), .ref (ead E k1), .int a2] : List Value).toArray s 0 0 (eA E)) (F0 m 8 ls []) := by
    intro n_8
    induction n_8 with
    | zero =>
      intro b2_8 b3_8 b4_8 b5_8 hf H locs ls hW hV hl
      cases hf
    | succ n_8 ih_8 =>
      have c_45 : ∀ (b2_45 : Int32) (b3_45 : Int32) (b5_45 : Int32) , f_X3_lateness_45 μ k0 k1 (fun z0 z1 z2 z3 => f_X3_lateness_8 μ k0 k1 n_8 z0 z1 z2 z3) b2_45 b3_45 b5_45 = some r → ∀ (H : Heap) (locs : List Loc) (ls : Array Slot), Wd E μ s H → va_S (eA E) s.heap H locs → lv_has ls 6 [(0, .ref (ead E k0)), (1, .ref (ead E k1)), (2, .int b2_45), (3, .int b3_45), (5, .int b5_45)] → W p l e (headSpec (.code yX3_lateness cX3_lateness 6 (some .int) :: BIG) ({ frames := 2, cells := 0, slots := 0, locals := 53 })).room s m ([.ref (ead E k0), .ref (ead E k1), .int a2] : List Value).toArray below meth c H locs 0 0 (MQ below (QI E r μ) ([.ref (ead E k0), .ref (ead E k1), .int a2] : List Value).toArray s 0 0 (eA E)) (F0 m 45 ls []) := by
        intro b2_45 b3_45 b5_45 hf H locs ls hW hV hl
        unfold f_X3_lateness_45 at hf
        refine lv_aload_n hx hb dX3_lateness_45 rfl (lv_at hl 0 rfl) ?_
        refine gf_RX3_22 hx hb hB hown hW h0 dX3_lateness_46 ?_
        refine lv_iload hx hb dX3_lateness_49 (lv_at hl 4 rfl) ?_
        obtain ⟨v10, e_v10, hf⟩ := op_none hf
        refine w_iald hx hb hW (iSo2 h0).1 ((iSo2 h0).2 E _ _) e_v10 dX3_lateness_51 ?_
        refine lv_istore (i := 4) (lv' := [(4, .int v10), (0, .ref (ead E k0)), (1, .ref (ead E k1)), (2, .int b2_45), (3, .int b3_45), (5, .int b5_45)]) hx hb dX3_lateness_52 hl (by decide) rfl (fun ls hl => ?_)
        obtain ⟨v11, e_v11, hf⟩ := op_none hf
        refine lv_iinc (v := v11) (lv' := [(5, .int v11), (4, .int v10), (0, .ref (ead E k0)), (1, .ref (ead E k1)), (2, .int b2_45), (3, .int b3_45)]) hx hb dX3_lateness_54 hl (k := 5) rfl (by rw [← Option.some.inj e_v11]; rfl) (by decide) rfl (fun ls hl => ?_)
        refine lv_goto (tgt := 8) hx hb dX3_lateness_57 (by decide) ?_
        exact ih_8 b2_45 b3_45 v10 v11 hf H locs ls hW hV (lv_sub hl [2, 3, 4, 5, 1, 0] rfl)
      intro b2_8 b3_8 b4_8 b5_8 hf H locs ls hW hV hl
      rw [f_X3_lateness_8] at hf
      refine lv_iload hx hb dX3_lateness_8 (lv_at hl 5 rfl) ?_
      refine lv_aload_n hx hb dX3_lateness_10 rfl (lv_at hl 0 rfl) ?_
      refine gf_RX3_15 hx hb hB hown hW h0 dX3_lateness_11 ?_
      refine lv_icmp_ge (tgt := 60) hx hb dX3_lateness_14 (by decide) (fun y12 => ?_) (fun y12 => ?_)
      · have hf := op_t y12 hf
        refine lv_iload_n hx hb dX3_lateness_60 rfl (lv_at hl 3 rfl) ?_
        exact w_retI hx hb hr hlocks hW hV (Option.some.inj hf) rfl dX3_lateness_61
      · have hf := op_f y12 hf
        refine lv_aload_n hx hb dX3_lateness_17 rfl (lv_at hl 0 rfl) ?_
        refine lv_aload_n hx hb dX3_lateness_18 rfl (lv_at hl 1 rfl) ?_
        refine lv_iload_n hx hb dX3_lateness_19 rfl (lv_at hl 2 rfl) ?_
        refine lv_iload hx hb dX3_lateness_20 (lv_at hl 4 rfl) ?_
        refine lv_aload_n hx hb dX3_lateness_22 rfl (lv_at hl 0 rfl) ?_
        refine gf_RX3_22 hx hb hB hown hW h0 dX3_lateness_23 ?_
        refine lv_iload hx hb dX3_lateness_26 (lv_at hl 5 rfl) ?_
        obtain ⟨v13, e_v13, hf⟩ := op_none hf
        refine w_iald hx hb hW (iSo2 h0).1 ((iSo2 h0).2 E _ _) e_v13 dX3_lateness_28 ?_
        obtain ⟨v14, e_15, hf⟩ := op_none hf
        refine w_callN (rn_RX3_82 (As := [.ref (ead E k1), .int b2_8, .int b4_8, .int v13]) hx hb hml hown hB hW hZ hV (k_X3_holdsFor l E _ k0 k1 b2_8 b4_8 v13 h0 h1 v14 e_15) rfl rfl ⟨(Nat.le_of_ble_eq_true rfl), (Nat.le_of_ble_eq_true rfl)⟩ (w_rec hW (oSo h0).1 ((oSo h0).2 E _ _) rfl) rfl hl.1 rfl (Nat.le_of_ble_eq_true rfl) dX3_lateness_29 ⟨Nat.le_refl _, Nat.le_refl _⟩) hV (fun H locs hn_v14 hW hV => ?_)
        refine lv_if_eq (tgt := 45) hx hb dX3_lateness_32 (by decide) (fun y16 => ?_) (fun y16 => ?_)
        · have hf := op_t y16 hf
          exact c_45 b2_8 b3_8 b5_8 hf H locs ls hW hV (lv_sub hl [0, 1, 2, 3, 5] rfl)
        · have hf := op_f y16 hf
          refine lv_iload_n hx hb dX3_lateness_35 rfl (lv_at hl 3 rfl) ?_
          refine lv_aload_n hx hb dX3_lateness_36 rfl (lv_at hl 0 rfl) ?_
          refine gf_RX3_18 hx hb hB hown hW h0 dX3_lateness_37 ?_
          refine lv_iload hx hb dX3_lateness_40 (lv_at hl 5 rfl) ?_
          obtain ⟨v17, e_v17, hf⟩ := op_none hf
          refine w_iald hx hb hW (iSo1 h0).1 ((iSo1 h0).2 E _ _) e_v17 dX3_lateness_42 ?_
          refine lv_iadd hx hb dX3_lateness_43 ?_
          obtain ⟨v18, e_v18, hf⟩ := op_none hf
          refine lv_top' (Option.some.inj e_v18) ?_
          refine lv_istore_n (i := 3) (lv' := [(3, .int v18), (0, .ref (ead E k0)), (1, .ref (ead E k1)), (2, .int b2_8), (4, .int b4_8), (5, .int b5_8)]) hx hb dX3_lateness_44 rfl hl (by decide) rfl (fun ls hl => ?_)
          exact c_45 b2_8 v18 b5_8 hf H locs ls hW hV (lv_sub hl [1, 2, 3, 0, 5] rfl)
  obtain ⟨H, hH⟩ : ∃ H : Heap, H = s.heap := ⟨_, rfl⟩
  obtain ⟨locs, hlocs⟩ : ∃ locs : List Loc, locs = [] := ⟨_, rfl⟩
  rw [show (W p l e (headSpec (.code yX3_lateness cX3_lateness 6 (some .int) :: BIG) ({ frames := 2, cells := 0, slots := 0, locals := 53 })).room s m ([.ref (ead E k0), .ref (ead E k1), .int a2] : List Value).toArray below meth c s.heap [] 0 0) = W p l e (headSpec (.code yX3_lateness cX3_lateness 6 (some .int) :: BIG) ({ frames := 2, cells := 0, slots := 0, locals := 53 })).room s m ([.ref (ead E k0), .ref (ead E k1), .int a2] : List Value).toArray below meth c H locs 0 0 by rw [hH, hlocs]]
  have hV : va_S (eA E) s.heap H locs := by rw [hH, hlocs]; exact hV
  have hW : Wd E μ s H := by rw [hH]; exact hW
  unfold f_X3_lateness at hf
  refine lv_iconst (v := (0 : Int32)) hx hb dX3_lateness_0 (by decide) ?_
  refine lv_istore_n (i := 3) (lv' := [(3, .int (0 : Int32)), (0, .ref (ead E k0)), (1, .ref (ead E k1)), (2, .int a2)]) hx hb dX3_lateness_1 rfl hl (by decide) rfl (fun ls hl => ?_)
  refine lv_iconst (v := (0 : Int32)) hx hb dX3_lateness_2 (by decide) ?_
  refine lv_istore (i := 4) (lv' := [(4, .int (0 : Int32)), (3, .int (0 : Int32)), (0, .ref (ead E k0)), (1, .ref (ead E k1)), (2, .int a2)]) hx hb dX3_lateness_3 hl (by decide) rfl (fun ls hl => ?_)
  refine lv_iconst (v := (0 : Int32)) hx hb dX3_lateness_5 (by decide) ?_
  refine lv_istore (i := 5) (lv' := [(5, .int (0 : Int32)), (4, .int (0 : Int32)), (3, .int (0 : Int32)), (0, .ref (ead E k0)), (1, .ref (ead E k1)), (2, .int a2)]) hx hb dX3_lateness_6 hl (by decide) rfl (fun ls hl => ?_)
  exact c_8 FU a2 (0 : Int32) (0 : Int32) (0 : Int32) hf H locs ls hW hV (lv_sub hl [3, 4, 5, 2, 1, 0] rfl)
set_option maxHeartbeats 8000000 in
set_option maxRecDepth 100000 in
theorem k_X2_turnOf (l : Launch) (E : WE) (μ : Mem) (k0 : Nat) (h0 : isI k0 14) (r : Int32) (hf : f_X2_turnOf μ k0 = some r) : Met l yX2_turnOf (.code yX2_turnOf cX2_turnOf 1 (some .int) :: BIG) ({ frames := 0, cells := 0, slots := 0, locals := 0 }) (PW E μ [.ref (ead E k0)]) (QI E r μ) 0 0 (eA E) := by
  refine Met.ofW (cc := cX2_turnOf) (maxL := 1) (ret := (some .int)) (by decide) rfl ?_
  intro p e s m args below meth c s₁ B hml hv
  obtain ⟨rfl, hW, hZ⟩ := hv
  have hx := B.exec
  have hb := B.bytes
  have hr := B.returns
  have hB : ∀ w ∈ BIG, w.before _ s = true := fun w h => atoms_spec (ws := (.code yX2_turnOf cX2_turnOf 1 (some .int) :: BIG)) B.pre w (List.mem_cons_of_mem _ h)
  have hown : s.vm.findClass RX2 = some m.cls := findClass_of_methodNamed B.named
  have hlocks := B.notSynchronized
  have hV : va_S (eA E) s.heap s.heap [] := va_S.rf
  have hl := lv_entry ([.ref (ead E k0)]) (n := 1) (Nat.le_of_ble_eq_true rfl)
  rw [lg_entry_eq]
  generalize (lg_sl ([.ref (ead E k0)]) ++ List.replicate (1 - (lg_sl ([.ref (ead E k0)])).length) Slot.unset).toArray = ls at hl ⊢
  have hl : lv_has ls 1 [(0, .ref (ead E k0))] := hl
  have c_58 : f_X2_turnOf_58 μ k0 = some r → ∀ (H : Heap) (locs : List Loc) (ls : Array Slot), Wd E μ s H → va_S (eA E) s.heap H locs → lv_has ls 1 [(0, .ref (ead E k0))] → W p l e (headSpec (.code yX2_turnOf cX2_turnOf 1 (some .int) :: BIG) ({ frames := 0, cells := 0, slots := 0, locals := 0 })).room s m ([.ref (ead E k0)] : List Value).toArray below meth c H locs 0 0 (MQ below (QI E r μ) ([.ref (ead E k0)] : List Value).toArray s 0 0 (eA E)) (F0 m 58 ls []) := by
    intro  hf H locs ls hW hV hl
    unfold f_X2_turnOf_58 at hf
    refine lv_aload_n hx hb dX2_turnOf_58 rfl (lv_at hl 0 rfl) ?_
    refine lv_iconst (v := (2 : Int32)) hx hb dX2_turnOf_59 (by decide) ?_
    obtain ⟨v13, e_v13, hf⟩ := op_none hf
    refine w_iald hx hb hW h0.1 (h0.2 E _ _) e_v13 dX2_turnOf_60 ?_
    exact w_retI hx hb hr hlocks hW hV (Option.some.inj hf) rfl dX2_turnOf_61
  have c_50 : f_X2_turnOf_50 μ k0 = some r → ∀ (H : Heap) (locs : List Loc) (ls : Array Slot), Wd E μ s H → va_S (eA E) s.heap H locs → lv_has ls 1 [(0, .ref (ead E k0))] → W p l e (headSpec (.code yX2_turnOf cX2_turnOf 1 (some .int) :: BIG) ({ frames := 0, cells := 0, slots := 0, locals := 0 })).room s m ([.ref (ead E k0)] : List Value).toArray below meth c H locs 0 0 (MQ below (QI E r μ) ([.ref (ead E k0)] : List Value).toArray s 0 0 (eA E)) (F0 m 50 ls []) := by
    intro  hf H locs ls hW hV hl
    unfold f_X2_turnOf_50 at hf
    refine lv_aload_n hx hb dX2_turnOf_50 rfl (lv_at hl 0 rfl) ?_
    refine lv_iconst (v := (2 : Int32)) hx hb dX2_turnOf_51 (by decide) ?_
    obtain ⟨v14, e_v14, hf⟩ := op_none hf
    refine w_iald hx hb hW h0.1 (h0.2 E _ _) e_v14 dX2_turnOf_52 ?_
    refine lv_aload_n hx hb dX2_turnOf_53 rfl (lv_at hl 0 rfl) ?_
    refine lv_iconst (v := (1 : Int32)) hx hb dX2_turnOf_54 (by decide) ?_
    obtain ⟨v15, e_v15, hf⟩ := op_none hf
    refine w_iald hx hb hW h0.1 (h0.2 E _ _) e_v15 dX2_turnOf_55 ?_
    refine lv_iadd hx hb dX2_turnOf_56 ?_
    exact w_retI hx hb hr hlocks hW hV (Option.some.inj hf) rfl dX2_turnOf_57
  obtain ⟨H, hH⟩ : ∃ H : Heap, H = s.heap := ⟨_, rfl⟩
  obtain ⟨locs, hlocs⟩ : ∃ locs : List Loc, locs = [] := ⟨_, rfl⟩
  rw [show (W p l e (headSpec (.code yX2_turnOf cX2_turnOf 1 (some .int) :: BIG) ({ frames := 0, cells := 0, slots := 0, locals := 0 })).room s m ([.ref (ead E k0)] : List Value).toArray below meth c s.heap [] 0 0) = W p l e (headSpec (.code yX2_turnOf cX2_turnOf 1 (some .int) :: BIG) ({ frames := 0, cells := 0, slots := 0, locals := 0 })).room s m ([.ref (ead E k0)] : List Value).toArray below meth c H locs 0 0 by rw [hH, hlocs]]
  have hV : va_S (eA E) s.heap H locs := by rw [hH, hlocs]; exact hV
  have hW : Wd E μ s H := by rw [hH]; exact hW
  unfold f_X2_turnOf at hf
  refine lv_aload_n hx hb dX2_turnOf_0 rfl (lv_at hl 0 rfl) ?_
  refine lv_iconst (v := (0 : Int32)) hx hb dX2_turnOf_1 (by decide) ?_
  obtain ⟨v16, e_v16, hf⟩ := op_none hf
  refine w_iald hx hb hW h0.1 (h0.2 E _ _) e_v16 dX2_turnOf_2 ?_
  by_cases y17 : v16 = (2 : Int32)
  · have hf := op_t y17 hf
    refine lv_tableIn (tgt := 36) (off := 33) hx hb dX2_turnOf_3 (by rw [y17]; decide) (by rw [y17]; decide) (by rw [y17]; rfl) (by decide) ?_
    refine lv_iconst (v := (2 : Int32)) hx hb dX2_turnOf_36 (by decide) ?_
    refine lv_aload_n hx hb dX2_turnOf_37 rfl (lv_at hl 0 rfl) ?_
    refine lv_iconst (v := (2 : Int32)) hx hb dX2_turnOf_38 (by decide) ?_
    obtain ⟨v18, e_v18, hf⟩ := op_none hf
    refine w_iald hx hb hW h0.1 (h0.2 E _ _) e_v18 dX2_turnOf_39 ?_
    refine lv_imul hx hb dX2_turnOf_40 ?_
    exact w_retI hx hb hr hlocks hW hV (Option.some.inj hf) rfl dX2_turnOf_41
  have hf := op_f y17 hf
  by_cases y19 : v16 = (3 : Int32)
  · have hf := op_t y19 hf
    refine lv_tableIn (tgt := 50) (off := 47) hx hb dX2_turnOf_3 (by rw [y19]; decide) (by rw [y19]; decide) (by rw [y19]; rfl) (by decide) ?_
    exact c_50  hf H locs ls hW hV (lv_sub hl [0] rfl)
  have hf := op_f y19 hf
  by_cases y21 : v16 = (5 : Int32)
  · have hf := op_t y21 hf
    refine lv_tableIn (tgt := 42) (off := 39) hx hb dX2_turnOf_3 (by rw [y21]; decide) (by rw [y21]; decide) (by rw [y21]; rfl) (by decide) ?_
    refine lv_iconst (v := (2 : Int32)) hx hb dX2_turnOf_42 (by decide) ?_
    refine lv_aload_n hx hb dX2_turnOf_43 rfl (lv_at hl 0 rfl) ?_
    refine lv_iconst (v := (2 : Int32)) hx hb dX2_turnOf_44 (by decide) ?_
    obtain ⟨v22, e_v22, hf⟩ := op_none hf
    refine w_iald hx hb hW h0.1 (h0.2 E _ _) e_v22 dX2_turnOf_45 ?_
    refine lv_imul hx hb dX2_turnOf_46 ?_
    refine lv_iconst (v := (1 : Int32)) hx hb dX2_turnOf_47 (by decide) ?_
    refine lv_iadd hx hb dX2_turnOf_48 ?_
    exact w_retI hx hb hr hlocks hW hV (Option.some.inj hf) rfl dX2_turnOf_49
  have hf := op_f y21 hf
  by_cases y23 : v16 = (6 : Int32)
  · have hf := op_t y23 hf
    refine lv_tableIn (tgt := 50) (off := 47) hx hb dX2_turnOf_3 (by rw [y23]; decide) (by rw [y23]; decide) (by rw [y23]; rfl) (by decide) ?_
    exact c_50  hf H locs ls hW hV (lv_sub hl [0] rfl)
  have hf := op_f y23 hf
  by_cases y24 : v16 = (4 : Int32)
  · refine lv_tableIn (tgt := 58) (off := 55) hx hb dX2_turnOf_3 (by rw [y24]; decide) (by rw [y24]; decide) (by rw [y24]; rfl) (by decide) ?_
    exact c_58  hf H locs ls hW hV (lv_sub hl [0] rfl)
  refine lv_tableOut (tgt := 58) hx hb dX2_turnOf_3 (by have a_y17 := lv_neT (a := 2) y17 (by decide); have a_y19 := lv_neT (a := 3) y19 (by decide); have a_y21 := lv_neT (a := 5) y21 (by decide); have a_y23 := lv_neT (a := 6) y23 (by decide); have a_y24 := lv_neT (a := 4) y24 (by decide); omega) (by decide) ?_
  exact c_58  hf H locs ls hW hV (lv_sub hl [0] rfl)
set_option maxHeartbeats 8000000 in
set_option maxRecDepth 100000 in
theorem k_J9_floorMod_f86c9 (l : Launch) (E : WE) (μ : Mem) (a0 : Int64) (a2 : Int64) (r : Int64) (hf : f_J9_floorMod_f86c9 μ a0 a2 = some r) : Met l yJ9_floorMod_f86c9 (.code yJ9_floorMod_f86c9 cJ9_floorMod_f86c9 6 (some .long) :: BIG) ({ frames := 0, cells := 0, slots := 0, locals := 0 }) (PW E μ [.long a0, .long a2]) (QL E r μ) 0 0 (eA E) := by
  refine met_ofWF (cc := cJ9_floorMod_f86c9) (maxL := 6) (ret := (some .long)) (by decide +kernel) rfl ?_
  intro p e s m args below meth c s₁ B hml hv
  obtain ⟨rfl, hW, hZ⟩ := hv
  have hx := B.exec
  have hb := B.bytes
  have hr := B.returns
  have hB : ∀ w ∈ BIG, w.before _ s = true := fun w h => atoms_spec (ws := (.code yJ9_floorMod_f86c9 cJ9_floorMod_f86c9 6 (some .long) :: BIG)) B.pre w (List.mem_cons_of_mem _ h)
  have hown : s.vm.findClass RJ9 = some m.cls := findClass_of_methodNamed B.named
  have hlocks := B.notSynchronized
  have hV : va_S (eA E) s.heap s.heap [] := va_S.rf
  have hl := lv_entry ([.long a0, .long a2]) (n := 6) (Nat.le_of_ble_eq_true rfl)
  rw [lg_entry_eq]
  generalize (lg_sl ([.long a0, .long a2]) ++ List.replicate (6 - (lg_sl ([.long a0, .long a2])).length) Slot.unset).toArray = ls at hl ⊢
  have hl : lv_has ls 6 [(0, .long a0), (2, .long a2)] := hl
  obtain ⟨H, hH⟩ : ∃ H : Heap, H = s.heap := ⟨_, rfl⟩
  obtain ⟨locs, hlocs⟩ : ∃ locs : List Loc, locs = [] := ⟨_, rfl⟩
  rw [show (W p l e (headSpec (.code yJ9_floorMod_f86c9 cJ9_floorMod_f86c9 6 (some .long) :: BIG) ({ frames := 0, cells := 0, slots := 0, locals := 0 })).room s m ([.long a0, .long a2] : List Value).toArray below meth c s.heap [] 0 0) = W p l e (headSpec (.code yJ9_floorMod_f86c9 cJ9_floorMod_f86c9 6 (some .long) :: BIG) ({ frames := 0, cells := 0, slots := 0, locals := 0 })).room s m ([.long a0, .long a2] : List Value).toArray below meth c H locs 0 0 by rw [hH, hlocs]]
  have hV : va_S (eA E) s.heap H locs := by rw [hH, hlocs]; exact hV
  have hW : Wd E μ s H := by rw [hH]; exact hW
  unfold f_J9_floorMod_f86c9 at hf
  refine lv_lload_n hx hb dJ9_floorMod_f86c9_0 rfl (lv_at hl 0 rfl) ?_
  refine lv_lload_n hx hb dJ9_floorMod_f86c9_1 rfl (lv_at hl 1 rfl) ?_
  obtain ⟨v4, e_v4, hf⟩ := op_none hf
  refine w_lrem hx hb e_v4 dJ9_floorMod_f86c9_2 ?_
  refine lv_lstore (i := 4) (lv' := [(4, .long v4), (0, .long a0), (2, .long a2)]) hx hb dJ9_floorMod_f86c9_3 hl (by decide) rfl (fun ls hl => ?_)
  refine lv_lload_n hx hb dJ9_floorMod_f86c9_5 rfl (lv_at hl 1 rfl) ?_
  refine lv_lload_n hx hb dJ9_floorMod_f86c9_6 rfl (lv_at hl 2 rfl) ?_
  refine lv_lxor hx hb dJ9_floorMod_f86c9_7 ?_
  refine lv_lconst (v := (0 : Int64)) hx hb dJ9_floorMod_f86c9_8 (by decide) ?_
  refine W.lcmp hx hb dJ9_floorMod_f86c9_9 ?_
  refine lv_if_ge (tgt := 25) hx hb dJ9_floorMod_f86c9_10 (by decide) (fun y5 => ?_) (fun y5 => ?_)
  · have hf := op_t y5 hf
    refine lv_lload hx hb dJ9_floorMod_f86c9_25 (lv_at hl 0 rfl) ?_
    exact w_retL hx hb hr hlocks hW hV (Option.some.inj hf) rfl dJ9_floorMod_f86c9_27
  · have hf := op_f y5 hf
    refine lv_lload hx hb dJ9_floorMod_f86c9_13 (lv_at hl 0 rfl) ?_
    refine lv_lconst (v := (0 : Int64)) hx hb dJ9_floorMod_f86c9_15 (by decide) ?_
    refine W.lcmp hx hb dJ9_floorMod_f86c9_16 ?_
    refine lv_if_eq (tgt := 25) hx hb dJ9_floorMod_f86c9_17 (by decide) (fun y6 => ?_) (fun y6 => ?_)
    · have hf := op_t y6 hf
      refine lv_lload hx hb dJ9_floorMod_f86c9_25 (lv_at hl 0 rfl) ?_
      exact w_retL hx hb hr hlocks hW hV (Option.some.inj hf) rfl dJ9_floorMod_f86c9_27
    · have hf := op_f y6 hf
      refine lv_lload hx hb dJ9_floorMod_f86c9_20 (lv_at hl 0 rfl) ?_
      refine lv_lload_n hx hb dJ9_floorMod_f86c9_22 rfl (lv_at hl 2 rfl) ?_
      refine lv_ladd hx hb dJ9_floorMod_f86c9_23 ?_
      exact w_retL hx hb hr hlocks hW hV (Option.some.inj hf) rfl dJ9_floorMod_f86c9_24
set_option maxHeartbeats 8000000 in
set_option maxRecDepth 100000 in
theorem k_X6_modulo (l : Launch) (E : WE) (μ : Mem) (a0 : Int64) (a2 : Int64) (r : Int64) (hf : f_X6_modulo μ a0 a2 = some r) : Met l yX6_modulo (.code yX6_modulo cX6_modulo 4 (some .long) :: BIG) ({ frames := 1, cells := 0, slots := 0, locals := 25 }) (PW E μ [.long a0, .long a2]) (QL E r μ) 0 0 (eA E) := by
  refine Met.ofW (cc := cX6_modulo) (maxL := 4) (ret := (some .long)) (by decide) rfl ?_
  intro p e s m args below meth c s₁ B hml hv
  obtain ⟨rfl, hW, hZ⟩ := hv
  have hx := B.exec
  have hb := B.bytes
  have hr := B.returns
  have hB : ∀ w ∈ BIG, w.before _ s = true := fun w h => atoms_spec (ws := (.code yX6_modulo cX6_modulo 4 (some .long) :: BIG)) B.pre w (List.mem_cons_of_mem _ h)
  have hown : s.vm.findClass RX6 = some m.cls := findClass_of_methodNamed B.named
  have hlocks := B.notSynchronized
  have hV : va_S (eA E) s.heap s.heap [] := va_S.rf
  have hl := lv_entry ([.long a0, .long a2]) (n := 4) (Nat.le_of_ble_eq_true rfl)
  rw [lg_entry_eq]
  generalize (lg_sl ([.long a0, .long a2]) ++ List.replicate (4 - (lg_sl ([.long a0, .long a2])).length) Slot.unset).toArray = ls at hl ⊢
  have hl : lv_has ls 4 [(0, .long a0), (2, .long a2)] := hl
  obtain ⟨H, hH⟩ : ∃ H : Heap, H = s.heap := ⟨_, rfl⟩
  obtain ⟨locs, hlocs⟩ : ∃ locs : List Loc, locs = [] := ⟨_, rfl⟩
  rw [show (W p l e (headSpec (.code yX6_modulo cX6_modulo 4 (some .long) :: BIG) ({ frames := 1, cells := 0, slots := 0, locals := 25 })).room s m ([.long a0, .long a2] : List Value).toArray below meth c s.heap [] 0 0) = W p l e (headSpec (.code yX6_modulo cX6_modulo 4 (some .long) :: BIG) ({ frames := 1, cells := 0, slots := 0, locals := 25 })).room s m ([.long a0, .long a2] : List Value).toArray below meth c H locs 0 0 by rw [hH, hlocs]]
  have hV : va_S (eA E) s.heap H locs := by rw [hH, hlocs]; exact hV
  have hW : Wd E μ s H := by rw [hH]; exact hW
  unfold f_X6_modulo at hf
  refine lv_lload_n hx hb dX6_modulo_0 rfl (lv_at hl 1 rfl) ?_
  refine lv_lconst (v := (1 : Int64)) hx hb dX6_modulo_1 (by decide) ?_
  refine W.lcmp hx hb dX6_modulo_2 ?_
  refine lv_if_ge (tgt := 10) hx hb dX6_modulo_3 (by decide) (fun y4 => ?_) (fun y4 => ?_)
  · have hf := op_t y4 hf
    refine lv_lload_n hx hb dX6_modulo_10 rfl (lv_at hl 0 rfl) ?_
    refine lv_lload_n hx hb dX6_modulo_11 rfl (lv_at hl 1 rfl) ?_
    obtain ⟨v5, e_6, hf⟩ := op_none hf
    refine w_callL (rn_RX6_285 (As := [.long a0, .long a2]) hx hb hml hown hB hW hZ hV (k_J9_floorMod_f86c9 l E _ a0 a2 v5 e_6) rfl rfl ⟨(Nat.le_of_ble_eq_true rfl), (Nat.le_of_ble_eq_true rfl)⟩ rfl hl.1 rfl (Nat.le_of_ble_eq_true rfl) dX6_modulo_12 ⟨Nat.le_refl _, Nat.le_refl _⟩) hV (fun H locs hW hV => ?_)
    exact w_retL hx hb hr hlocks hW hV (Option.some.inj hf) rfl dX6_modulo_15
  · have hf := op_f y4 hf
    refine lv_lconst (v := (0 : Int64)) hx hb dX6_modulo_6 (by decide) ?_
    refine lv_goto (tgt := 15) hx hb dX6_modulo_7 (by decide) ?_
    exact w_retL hx hb hr hlocks hW hV (Option.some.inj hf) rfl dX6_modulo_15
set_option maxHeartbeats 8000000 in
set_option maxRecDepth 100000 in
theorem k_X2_restOf (l : Launch) (E : WE) (μ : Mem) (k0 : Nat) (a1 : Int32) (h0 : isI k0 14) (r : Int32) (hf : f_X2_restOf μ k0 a1 = some r) : Met l yX2_restOf (.code yX2_restOf cX2_restOf 3 (some .int) :: BIG) ({ frames := 2, cells := 0, slots := 0, locals := 48 }) (PW E μ [.ref (ead E k0), .int a1]) (QI E r μ) 0 0 (eA E) := by
  refine Met.ofW (cc := cX2_restOf) (maxL := 3) (ret := (some .int)) (by decide) rfl ?_
  intro p e s m args below meth c s₁ B hml hv
  obtain ⟨rfl, hW, hZ⟩ := hv
  have hx := B.exec
  have hb := B.bytes
  have hr := B.returns
  have hB : ∀ w ∈ BIG, w.before _ s = true := fun w h => atoms_spec (ws := (.code yX2_restOf cX2_restOf 3 (some .int) :: BIG)) B.pre w (List.mem_cons_of_mem _ h)
  have hown : s.vm.findClass RX2 = some m.cls := findClass_of_methodNamed B.named
  have hlocks := B.notSynchronized
  have hV : va_S (eA E) s.heap s.heap [] := va_S.rf
  have hl := lv_entry ([.ref (ead E k0), .int a1]) (n := 3) (Nat.le_of_ble_eq_true rfl)
  rw [lg_entry_eq]
  generalize (lg_sl ([.ref (ead E k0), .int a1]) ++ List.replicate (3 - (lg_sl ([.ref (ead E k0), .int a1])).length) Slot.unset).toArray = ls at hl ⊢
  have hl : lv_has ls 3 [(0, .ref (ead E k0)), (1, .int a1)] := hl
  obtain ⟨H, hH⟩ : ∃ H : Heap, H = s.heap := ⟨_, rfl⟩
  obtain ⟨locs, hlocs⟩ : ∃ locs : List Loc, locs = [] := ⟨_, rfl⟩
  rw [show (W p l e (headSpec (.code yX2_restOf cX2_restOf 3 (some .int) :: BIG) ({ frames := 2, cells := 0, slots := 0, locals := 48 })).room s m ([.ref (ead E k0), .int a1] : List Value).toArray below meth c s.heap [] 0 0) = W p l e (headSpec (.code yX2_restOf cX2_restOf 3 (some .int) :: BIG) ({ frames := 2, cells := 0, slots := 0, locals := 48 })).room s m ([.ref (ead E k0), .int a1] : List Value).toArray below meth c H locs 0 0 by rw [hH, hlocs]]
  have hV : va_S (eA E) s.heap H locs := by rw [hH, hlocs]; exact hV
  have hW : Wd E μ s H := by rw [hH]; exact hW
  unfold f_X2_restOf at hf
  refine lv_aload_n hx hb dX2_restOf_0 rfl (lv_at hl 0 rfl) ?_
  refine lv_bipush (v := (7 : Int32)) hx hb dX2_restOf_1 (by decide) ?_
  obtain ⟨v18, e_v18, hf⟩ := op_none hf
  refine w_iald hx hb hW h0.1 (h0.2 E _ _) e_v18 dX2_restOf_3 ?_
  refine lv_istore_n (i := 2) (lv' := [(2, .int v18), (0, .ref (ead E k0)), (1, .int a1)]) hx hb dX2_restOf_4 rfl hl (by decide) rfl (fun ls hl => ?_)
  refine lv_aload_n hx hb dX2_restOf_5 rfl (lv_at hl 1 rfl) ?_
  refine lv_iconst (v := (0 : Int32)) hx hb dX2_restOf_6 (by decide) ?_
  obtain ⟨v19, e_v19, hf⟩ := op_none hf
  refine w_iald hx hb hW h0.1 (h0.2 E _ _) e_v19 dX2_restOf_7 ?_
  by_cases y20 : v19 = (1 : Int32)
  · have hf := op_t y20 hf
    refine lv_lookup (tgt := 44) (off := 36) hx hb dX2_restOf_8 (by decide) (by rw [y20]; decide) (by decide) ?_
    refine lv_iload_n hx hb dX2_restOf_44 rfl (lv_at hl 2 rfl) ?_
    refine lv_aload_n hx hb dX2_restOf_45 rfl (lv_at hl 1 rfl) ?_
    refine lv_iconst (v := (1 : Int32)) hx hb dX2_restOf_46 (by decide) ?_
    obtain ⟨v21, e_v21, hf⟩ := op_none hf
    refine w_iald hx hb hW h0.1 (h0.2 E _ _) e_v21 dX2_restOf_47 ?_
    refine lv_iadd hx hb dX2_restOf_48 ?_
    refine lv_i2l hx hb dX2_restOf_49 rfl ?_
    refine lv_iload_n hx hb dX2_restOf_50 rfl (lv_at hl 0 rfl) ?_
    refine lv_i2l hx hb dX2_restOf_51 rfl ?_
    obtain ⟨v22, e_23, hf⟩ := op_none hf
    refine w_callL (rn_RX2_74 (As := [.long ((a1 + v21).toInt64), .long v18.toInt64]) hx hb hml hown hB hW hZ hV (k_X6_modulo l E _ ((a1 + v21).toInt64) v18.toInt64 v22 e_23) rfl rfl ⟨(Nat.le_of_ble_eq_true rfl), (Nat.le_of_ble_eq_true rfl)⟩ rfl hl.1 rfl (Nat.le_of_ble_eq_true rfl) dX2_restOf_52 ⟨Nat.le_refl _, Nat.le_refl _⟩) hV (fun H locs hW hV => ?_)
    refine lv_l2i hx hb dX2_restOf_55 rfl ?_
    exact w_retI hx hb hr hlocks hW hV (Option.some.inj hf) rfl dX2_restOf_56
  have hf := op_f y20 hf
  by_cases y24 : v19 = (4 : Int32)
  · have hf := op_t y24 hf
    refine lv_lookup (tgt := 57) (off := 49) hx hb dX2_restOf_8 (by decide) (by rw [y24]; decide) (by decide) ?_
    refine lv_iload_n hx hb dX2_restOf_57 rfl (lv_at hl 0 rfl) ?_
    refine lv_iconst (v := (1 : Int32)) hx hb dX2_restOf_58 (by decide) ?_
    refine lv_isub hx hb dX2_restOf_59 ?_
    refine lv_iload_n hx hb dX2_restOf_60 rfl (lv_at hl 2 rfl) ?_
    refine lv_aload_n hx hb dX2_restOf_61 rfl (lv_at hl 1 rfl) ?_
    refine lv_iconst (v := (1 : Int32)) hx hb dX2_restOf_62 (by decide) ?_
    obtain ⟨v25, e_v25, hf⟩ := op_none hf
    refine w_iald hx hb hW h0.1 (h0.2 E _ _) e_v25 dX2_restOf_63 ?_
    refine lv_iadd hx hb dX2_restOf_64 ?_
    refine lv_i2l hx hb dX2_restOf_65 rfl ?_
    refine lv_iload_n hx hb dX2_restOf_66 rfl (lv_at hl 0 rfl) ?_
    refine lv_i2l hx hb dX2_restOf_67 rfl ?_
    obtain ⟨v26, e_27, hf⟩ := op_none hf
    refine w_callL (rn_RX2_74 (As := [.long ((a1 + v25).toInt64), .long v18.toInt64]) hx hb hml hown hB hW hZ hV (k_X6_modulo l E _ ((a1 + v25).toInt64) v18.toInt64 v26 e_27) rfl rfl ⟨(Nat.le_of_ble_eq_true rfl), (Nat.le_of_ble_eq_true rfl)⟩ rfl hl.1 rfl (Nat.le_of_ble_eq_true rfl) dX2_restOf_68 ⟨Nat.le_refl _, Nat.le_refl _⟩) hV (fun H locs hW hV => ?_)
    refine lv_l2i hx hb dX2_restOf_71 rfl ?_
    refine lv_isub hx hb dX2_restOf_72 ?_
    exact w_retI hx hb hr hlocks hW hV (Option.some.inj hf) rfl dX2_restOf_73
  have hf := op_f y24 hf
  by_cases y28 : v19 = (6 : Int32)
  · have hf := op_t y28 hf
    refine lv_lookup (tgt := 74) (off := 66) hx hb dX2_restOf_8 (by decide) (by rw [y28]; decide) (by decide) ?_
    refine lv_iload_n hx hb dX2_restOf_74 rfl (lv_at hl 2 rfl) ?_
    refine lv_aload_n hx hb dX2_restOf_75 rfl (lv_at hl 1 rfl) ?_
    refine lv_bipush (v := (10 : Int32)) hx hb dX2_restOf_76 (by decide) ?_
    refine lv_aload_n hx hb dX2_restOf_78 rfl (lv_at hl 1 rfl) ?_
    refine lv_iconst (v := (2 : Int32)) hx hb dX2_restOf_79 (by decide) ?_
    obtain ⟨v29, e_v29, hf⟩ := op_none hf
    refine w_iald hx hb hW h0.1 (h0.2 E _ _) e_v29 dX2_restOf_80 ?_
    refine lv_iconst (v := (3 : Int32)) hx hb dX2_restOf_81 (by decide) ?_
    refine lv_iand hx hb dX2_restOf_82 ?_
    refine lv_iadd hx hb dX2_restOf_83 ?_
    obtain ⟨v30, e_v30, hf⟩ := op_none hf
    refine w_iald hx hb hW h0.1 (h0.2 E _ _) e_v30 dX2_restOf_84 ?_
    refine lv_iadd hx hb dX2_restOf_85 ?_
    refine lv_i2l hx hb dX2_restOf_86 rfl ?_
    refine lv_iload_n hx hb dX2_restOf_87 rfl (lv_at hl 0 rfl) ?_
    refine lv_i2l hx hb dX2_restOf_88 rfl ?_
    obtain ⟨v31, e_32, hf⟩ := op_none hf
    refine w_callL (rn_RX2_74 (As := [.long ((a1 + v30).toInt64), .long v18.toInt64]) hx hb hml hown hB hW hZ hV (k_X6_modulo l E _ ((a1 + v30).toInt64) v18.toInt64 v31 e_32) rfl rfl ⟨(Nat.le_of_ble_eq_true rfl), (Nat.le_of_ble_eq_true rfl)⟩ rfl hl.1 rfl (Nat.le_of_ble_eq_true rfl) dX2_restOf_89 ⟨Nat.le_refl _, Nat.le_refl _⟩) hV (fun H locs hW hV => ?_)
    refine lv_l2i hx hb dX2_restOf_92 rfl ?_
    exact w_retI hx hb hr hlocks hW hV (Option.some.inj hf) rfl dX2_restOf_93
  have hf := op_f y28 hf
  refine lv_lookup (tgt := 94) (off := 86) hx hb dX2_restOf_8 (by decide) (by rw [lv_osw y20 (by decide)]; rw [lv_osw y24 (by decide)]; rw [lv_osw y28 (by decide)]; rfl) (by decide) ?_
  refine lv_iload_n hx hb dX2_restOf_94 rfl (lv_at hl 2 rfl) ?_
  refine lv_i2l hx hb dX2_restOf_95 rfl ?_
  refine lv_iload_n hx hb dX2_restOf_96 rfl (lv_at hl 0 rfl) ?_
  refine lv_i2l hx hb dX2_restOf_97 rfl ?_
  obtain ⟨v33, e_34, hf⟩ := op_none hf
  refine w_callL (rn_RX2_74 (As := [.long a1.toInt64, .long v18.toInt64]) hx hb hml hown hB hW hZ hV (k_X6_modulo l E _ a1.toInt64 v18.toInt64 v33 e_34) rfl rfl ⟨(Nat.le_of_ble_eq_true rfl), (Nat.le_of_ble_eq_true rfl)⟩ rfl hl.1 rfl (Nat.le_of_ble_eq_true rfl) dX2_restOf_98 ⟨Nat.le_refl _, Nat.le_refl _⟩) hV (fun H locs hW hV => ?_)
  refine lv_l2i hx hb dX2_restOf_101 rfl ?_
  exact w_retI hx hb hr hlocks hW hV (Option.some.inj hf) rfl dX2_restOf_102
set_option maxHeartbeats 8000000 in
set_option maxRecDepth 100000 in
theorem k_X2_reckonOne (l : Launch) (E : WE) (μ : Mem) (k0 : Nat) (a1 : Int32) (k2 : Nat) (h0 : isSt k0) (h2 : k2 = 0 ∨ isSo k2) (μ' : Mem) (hf : f_X2_reckonOne μ k0 a1 k2 = some μ') : Met l yX2_reckonOne (.code yX2_reckonOne cX2_reckonOne 5 none :: BIG) ({ frames := 3, cells := 0, slots := 0, locals := 78 }) (PW E μ [.ref (ead E k0), .int a1, rv E k2]) (QV E μ') 0 0 (eA E) := by
  refine Met.ofW (cc := cX2_reckonOne) (maxL := 5) (ret := none) (by decide) rfl ?_
  intro p e s m args below meth c s₁ B hml hv
  obtain ⟨rfl, hW, hZ⟩ := hv
  have hx := B.exec
  have hb := B.bytes
  have hr := B.returns
  have hB : ∀ w ∈ BIG, w.before _ s = true := fun w h => atoms_spec (ws := (.code yX2_reckonOne cX2_reckonOne 5 none :: BIG)) B.pre w (List.mem_cons_of_mem _ h)
  have hown : s.vm.findClass RX2 = some m.cls := findClass_of_methodNamed B.named
  have hlocks := B.notSynchronized
  have hV : va_S (eA E) s.heap s.heap [] := va_S.rf
  have hl := lv_entry ([.ref (ead E k0), .int a1, rv E k2]) (n := 5) (h2.elim (fun h9 => by subst h9; exact Nat.le_of_ble_eq_true rfl) (fun h9 => by rw [rv_n E (so_ne h9)]; exact Nat.le_of_ble_eq_true rfl))
  rw [lg_entry_eq]
  generalize (lg_sl ([.ref (ead E k0), .int a1, rv E k2]) ++ List.replicate (5 - (lg_sl ([.ref (ead E k0), .int a1, rv E k2])).length) Slot.unset).toArray = ls at hl ⊢
  have hl : lv_has ls 5 [(0, .ref (ead E k0)), (1, .int a1), (2, rv E k2)] := hl
  have c_84 : ∀ (μ_84 : Mem) (s0_84 : Int32) (s1_84 : Int32) (s2_84 : Nat) (hs2_84 : isI s2_84 14) , f_X2_reckonOne_84 k0 k2 μ_84 s0_84 s1_84 s2_84 = some μ' → ∀ (H : Heap) (locs : List Loc) (ls : Array Slot), Wd E μ_84 s H → va_S (eA E) s.heap H locs → lv_has ls 5 [] → W p l e (headSpec (.code yX2_reckonOne cX2_reckonOne 5 none :: BIG) ({ frames := 3, cells := 0, slots := 0, locals := 78 })).room s m ([.ref (ead E k0), .int a1, rv E k2] : List Value).toArray below meth c H locs 0 0 (MQ below (QV E μ') ([.ref (ead E k0), .int a1, rv E k2] : List Value).toArray s 0 0 (eA E)) (F0 m 84 ls [.int s0_84, .int s1_84, .ref (ead E s2_84)]) := by
    intro μ_84 s0_84 s1_84 s2_84 hs2_84 hf H locs ls hW hV hl
    unfold f_X2_reckonOne_84 at hf
    obtain ⟨μ20, e_μ20, hf⟩ := op_none hf
    refine w_iast hx hb hW hV hs2_84.1 (fun f => hs2_84.2 E f _) e_μ20 dX2_reckonOne_84 (fun H locs hW hV => ?_)
    exact w_retV hx hb hr hlocks hW hV (Option.some.inj hf) dX2_reckonOne_85
  have c_32 : ∀ (μ_32 : Mem) (b3_32 : Nat) (b4_32 : Int32) (hb3_32 : isI b3_32 14) , f_X2_reckonOne_32 k0 k2 μ_32 b3_32 b4_32 = some μ' → ∀ (H : Heap) (locs : List Loc) (ls : Array Slot), Wd E μ_32 s H → va_S (eA E) s.heap H locs → lv_has ls 5 [(0, .ref (ead E k0)), (3, .ref (ead E b3_32)), (4, .int b4_32)] → W p l e (headSpec (.code yX2_reckonOne cX2_reckonOne 5 none :: BIG) ({ frames := 3, cells := 0, slots := 0, locals := 78 })).room s m ([.ref (ead E k0), .int a1, rv E k2] : List Value).toArray below meth c H locs 0 0 (MQ below (QV E μ') ([.ref (ead E k0), .int a1, rv E k2] : List Value).toArray s 0 0 (eA E)) (F0 m 32 ls []) := by
    intro μ_32 b3_32 b4_32 hb3_32 hf H locs ls hW hV hl
    unfold f_X2_reckonOne_32 at hf
    refine lv_aload_n hx hb dX2_reckonOne_32 rfl (lv_at hl 1 rfl) ?_
    refine lv_bipush (v := (7 : Int32)) hx hb dX2_reckonOne_33 (by decide) ?_
    refine lv_aload_n hx hb dX2_reckonOne_35 rfl (lv_at hl 1 rfl) ?_
    obtain ⟨v21, e_22, hf⟩ := op_none hf
    refine w_callI (rn_RX2_67 (As := [.ref (ead E b3_32)]) hx hb hml hown hB hW hZ hV (k_X2_turnOf l E _ b3_32 hb3_32 v21 e_22) rfl rfl ⟨(Nat.le_of_ble_eq_true rfl), (Nat.le_of_ble_eq_true rfl)⟩ rfl hl.1 rfl (Nat.le_of_ble_eq_true rfl) dX2_reckonOne_36 ⟨Nat.le_refl _, Nat.le_refl _⟩) hV (fun H locs hW hV => ?_)
    obtain ⟨μ23, e_μ23, hf⟩ := op_none hf
    refine w_iast hx hb hW hV hb3_32.1 (fun f => hb3_32.2 E f _) e_μ23 dX2_reckonOne_39 (fun H locs hW hV => ?_)
    refine lv_aload_n hx hb dX2_reckonOne_40 rfl (lv_at hl 1 rfl) ?_
    refine lv_bipush (v := (8 : Int32)) hx hb dX2_reckonOne_41 (by decide) ?_
    refine lv_aload_n hx hb dX2_reckonOne_43 rfl (lv_at hl 1 rfl) ?_
    refine lv_iload hx hb dX2_reckonOne_44 (lv_at hl 2 rfl) ?_
    obtain ⟨v24, e_25, hf⟩ := op_none hf
    refine w_callI (rn_RX2_71 (As := [.ref (ead E b3_32), .int b4_32]) hx hb hml hown hB hW hZ hV (k_X2_restOf l E _ b3_32 b4_32 hb3_32 v24 e_25) rfl rfl ⟨(Nat.le_of_ble_eq_true rfl), (Nat.le_of_ble_eq_true rfl)⟩ rfl hl.1 rfl (Nat.le_of_ble_eq_true rfl) dX2_reckonOne_46 ⟨Nat.le_refl _, Nat.le_refl _⟩) hV (fun H locs hW hV => ?_)
    obtain ⟨μ26, e_μ26, hf⟩ := op_none hf
    refine w_iast hx hb hW hV hb3_32.1 (fun f => hb3_32.2 E f _) e_μ26 dX2_reckonOne_49 (fun H locs hW hV => ?_)
    refine lv_aload_n hx hb dX2_reckonOne_50 rfl (lv_at hl 1 rfl) ?_
    refine lv_bipush (v := (9 : Int32)) hx hb dX2_reckonOne_51 (by decide) ?_
    refine lv_aload_n hx hb dX2_reckonOne_53 rfl (lv_at hl 1 rfl) ?_
    refine lv_iconst (v := (4 : Int32)) hx hb dX2_reckonOne_54 (by decide) ?_
    obtain ⟨v27, e_v27, hf⟩ := op_none hf
    refine w_iald hx hb hW hb3_32.1 (hb3_32.2 E _ _) e_v27 dX2_reckonOne_55 ?_
    refine lv_iconst (v := (1 : Int32)) hx hb dX2_reckonOne_56 (by decide) ?_
    refine lv_icmp_ne (tgt := 65) hx hb dX2_reckonOne_57 (by decide) (fun y28 => ?_) (fun y28 => ?_)
    · have hf := op_f y28 hf
      refine lv_aload_n hx hb dX2_reckonOne_65 rfl (lv_at hl 1 rfl) ?_
      refine lv_bipush (v := (8 : Int32)) hx hb dX2_reckonOne_66 (by decide) ?_
      obtain ⟨v29, e_v29, hf⟩ := op_none hf
      refine w_iald hx hb hW hb3_32.1 (hb3_32.2 E _ _) e_v29 dX2_reckonOne_68 ?_
      refine lv_aload_n hx hb dX2_reckonOne_69 rfl (lv_at hl 0 rfl) ?_
      refine gf_RX2_23 hx hb hB hown hW h0 dX2_reckonOne_70 ?_
      refine lv_isub hx hb dX2_reckonOne_73 ?_
      refine lv_i2l hx hb dX2_reckonOne_74 rfl ?_
      refine lv_aload_n hx hb dX2_reckonOne_75 rfl (lv_at hl 1 rfl) ?_
      refine lv_bipush (v := (7 : Int32)) hx hb dX2_reckonOne_76 (by decide) ?_
      obtain ⟨v30, e_v30, hf⟩ := op_none hf
      refine w_iald hx hb hW hb3_32.1 (hb3_32.2 E _ _) e_v30 dX2_reckonOne_78 ?_
      refine lv_i2l hx hb dX2_reckonOne_79 rfl ?_
      obtain ⟨v31, e_32, hf⟩ := op_none hf
      refine w_callL (rn_RX2_74 (As := [.long ((v29 - (gI μ26 k0 3)).toInt64), .long v30.toInt64]) hx hb hml hown hB hW hZ hV (k_X6_modulo l E _ ((v29 - (gI μ26 k0 3)).toInt64) v30.toInt64 v31 e_32) rfl rfl ⟨(Nat.le_of_ble_eq_true rfl), (Nat.le_of_ble_eq_true rfl)⟩ rfl hl.1 rfl (Nat.le_of_ble_eq_true rfl) dX2_reckonOne_80 ⟨Nat.le_refl _, Nat.le_refl _⟩) hV (fun H locs hW hV => ?_)
      refine lv_l2i hx hb dX2_reckonOne_83 rfl ?_
      exact c_84 μ26 v31.toInt32 (9 : Int32) b3_32 hb3_32 hf H locs ls hW hV (lv_sub hl [] rfl)
    · have hf := op_t y28 hf
      refine lv_bipush (v := (-5 : Int32)) hx hb dX2_reckonOne_60 (by decide) ?_
      refine lv_goto (tgt := 84) hx hb dX2_reckonOne_62 (by decide) ?_
      exact c_84 μ26 (-5 : Int32) (9 : Int32) b3_32 hb3_32 hf H locs ls hW hV (lv_sub hl [] rfl)
  obtain ⟨H, hH⟩ : ∃ H : Heap, H = s.heap := ⟨_, rfl⟩
  obtain ⟨locs, hlocs⟩ : ∃ locs : List Loc, locs = [] := ⟨_, rfl⟩
  rw [show (W p l e (headSpec (.code yX2_reckonOne cX2_reckonOne 5 none :: BIG) ({ frames := 3, cells := 0, slots := 0, locals := 78 })).room s m ([.ref (ead E k0), .int a1, rv E k2] : List Value).toArray below meth c s.heap [] 0 0) = W p l e (headSpec (.code yX2_reckonOne cX2_reckonOne 5 none :: BIG) ({ frames := 3, cells := 0, slots := 0, locals := 78 })).room s m ([.ref (ead E k0), .int a1, rv E k2] : List Value).toArray below meth c H locs 0 0 by rw [hH, hlocs]]
  have hV : va_S (eA E) s.heap H locs := by rw [hH, hlocs]; exact hV
  have hW : Wd E μ s H := by rw [hH]; exact hW
  unfold f_X2_reckonOne at hf
  refine lv_aload_n hx hb dX2_reckonOne_0 rfl (lv_at hl 0 rfl) ?_
  refine gf_RX2_17 hx hb hB hown hW h0 dX2_reckonOne_1 ?_
  refine lv_iload_n hx hb dX2_reckonOne_4 rfl (lv_at hl 1 rfl) ?_
  obtain ⟨j33, e_j33, hf⟩ := op_none hf
  refine w_aald (j := 4) hx hb hW (rSt h0).1 ((rSt h0).2 E _ _) rfl rfl e_j33 dX2_reckonOne_5 ?_
  refine lv_astore_n (i := 3) (lv' := [(3, .ref (ead E (k0 + 1 + 1 + j33))), (0, .ref (ead E k0)), (1, .int a1), (2, rv E k2)]) hx hb dX2_reckonOne_6 rfl hl (by decide) (by first | (simp [List.filter, rv_cat]; done) | (simp [List.filter, rv_cat]; rfl)) (fun ls hl => ?_)
  refine lv_aload_n hx hb dX2_reckonOne_7 rfl (lv_at hl 0 rfl) ?_
  refine lv_iconst (v := (3 : Int32)) hx hb dX2_reckonOne_8 (by decide) ?_
  obtain ⟨v34, e_v34, hf⟩ := op_none hf
  refine w_iald hx hb hW (iEg h0 (aix_lt e_j33)).1 ((iEg h0 (aix_lt e_j33)).2 E _ _) e_v34 dX2_reckonOne_9 ?_
  refine lv_istore (i := 4) (lv' := [(4, .int v34), (3, .ref (ead E (k0 + 1 + 1 + j33))), (0, .ref (ead E k0)), (1, .int a1), (2, rv E k2)]) hx hb dX2_reckonOne_10 hl (by decide) (by first | (simp [List.filter, rv_cat]; done) | (simp [List.filter, rv_cat]; rfl)) (fun ls hl => ?_)
  refine w_aloadQ_n hx hb dX2_reckonOne_12 rfl (lv_at hl 4 rfl) ?_
  refine w_ifnullQ (tgt := 32) hx hb dX2_reckonOne_13 (by decide) (fun y35 => ?_) (fun y35 => ?_)
  · have hf := op_t y35 hf
    exact c_32 μ (k0 + 1 + 1 + j33) v34 (iEg h0 (aix_lt e_j33)) hf H locs ls hW hV (lv_sub hl [2, 1, 0] rfl)
  · have hf := op_f y35 hf
    rw [rv_n E y35] at hl
    refine lv_iload hx hb dX2_reckonOne_16 (lv_at hl 0 rfl) ?_
    refine lv_aload_n hx hb dX2_reckonOne_18 rfl (lv_at hl 4 rfl) ?_
    refine gf_RX2_58 hx hb hB hown hW (h2.resolve_left y35) dX2_reckonOne_19 ?_
    refine lv_aload_n hx hb dX2_reckonOne_22 rfl (lv_at hl 4 rfl) ?_
    refine lv_aload_n hx hb dX2_reckonOne_23 rfl (lv_at hl 1 rfl) ?_
    refine lv_iload_n hx hb dX2_reckonOne_24 rfl (lv_at hl 3 rfl) ?_
    obtain ⟨v36, e_37, hf⟩ := op_none hf
    refine w_callI (rn_RX2_63 (As := [.ref (ead E (k0 + 1 + 1 + j33)), .int a1]) hx hb hml hown hB hW hZ hV (k_X3_lateness l E _ k2 (k0 + 1 + 1 + j33) a1 (h2.resolve_left y35) (iEg h0 (aix_lt e_j33)) v36 e_37) rfl rfl ⟨(Nat.le_of_ble_eq_true rfl), (Nat.le_of_ble_eq_true rfl)⟩ (w_rec hW (oSo (h2.resolve_left y35)).1 ((oSo (h2.resolve_left y35)).2 E _ _) rfl) rfl hl.1 rfl (Nat.le_of_ble_eq_true rfl) dX2_reckonOne_25 ⟨Nat.le_refl _, Nat.le_refl _⟩) hV (fun H locs hW hV => ?_)
    refine lv_iadd hx hb dX2_reckonOne_28 ?_
    refine lv_iadd hx hb dX2_reckonOne_29 ?_
    obtain ⟨v38, e_v38, hf⟩ := op_none hf
    refine lv_top' (Option.some.inj e_v38) ?_
    refine lv_istore (i := 4) (lv' := [(4, .int v38), (3, .ref (ead E (k0 + 1 + 1 + j33))), (0, .ref (ead E k0)), (1, .int a1), (2, .ref (ead E k2))]) hx hb dX2_reckonOne_30 hl (by decide) rfl (fun ls hl => ?_)
    exact c_32 μ (k0 + 1 + 1 + j33) v38 (iEg h0 (aix_lt e_j33)) hf H locs ls hW hV (lv_sub hl [2, 1, 0] rfl)
