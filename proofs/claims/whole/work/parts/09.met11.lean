set_option maxHeartbeats 8000000 in
set_option maxRecDepth 100000 in
theorem k_X7_often (l : Launch) (E : WE) (μ : Mem) (a1 : Int32) (a2 : Int64) (r : Int64) (μ' : Mem) (hf : f_X7_often μ a1 a2 = some (r, μ')) : Met l yX7_often (.code yX7_often cX7_often 6 (some .long) :: BIG) ({ frames := 5, cells := 0, slots := 0, locals := 118 }) (PW E μ [.ref (ead E 2000), .int a1, .long a2]) (QL E r μ') 0 0 (eA E) := by
  refine Met.ofW (cc := cX7_often) (maxL := 6) (ret := (some .long)) (by decide) rfl ?_
  intro p e s m args below meth c s₁ B hml hv
  obtain ⟨rfl, hW, hZ⟩ := hv
  have hx := B.exec
  have hb := B.bytes
  have hr := B.returns
  have hB : ∀ w ∈ BIG, w.before _ s = true := fun w h => atoms_spec (ws := (.code yX7_often cX7_often 6 (some .long) :: BIG)) B.pre w (List.mem_cons_of_mem _ h)
  have hown : s.vm.findClass RX7 = some m.cls := findClass_of_methodNamed B.named
  have hlocks := B.notSynchronized
  have hV : va_S (eA E) s.heap s.heap [] := va_S.rf
  have hl := lv_entry ([.ref (ead E 2000), .int a1, .long a2]) (n := 6) (Nat.le_of_ble_eq_true rfl)
  rw [lg_entry_eq]
  generalize (lg_sl ([.ref (ead E 2000), .int a1, .long a2]) ++ List.replicate (6 - (lg_sl ([.ref (ead E 2000), .int a1, .long a2])).length) Slot.unset).toArray = ls at hl ⊢
  have hl : lv_has ls 6 [(0, .ref (ead E 2000)), (1, .int a1), (2, .long a2)] := hl
  obtain ⟨H, hH⟩ : ∃ H : Heap, H = s.heap := ⟨_, rfl⟩
  obtain ⟨locs, hlocs⟩ : ∃ locs : List Loc, locs = [] := ⟨_, rfl⟩
  rw [show (W p l e (headSpec (.code yX7_often cX7_often 6 (some .long) :: BIG) ({ frames := 5, cells := 0, slots := 0, locals := 118 })).room s m ([.ref (ead E 2000), .int a1, .long a2] : List Value).toArray below meth c s.heap [] 0 0) = W p l e (headSpec (.code yX7_often cX7_often 6 (some .long) :: BIG) ({ frames := 5, cells := 0, slots := 0, locals := 118 })).room s m ([.ref (ead E 2000), .int a1, .long a2] : List Value).toArray below meth c H locs 0 0 by rw [hH, hlocs]]
  have hV : va_S (eA E) s.heap H locs := by rw [hH, hlocs]; exact hV
  have hW : Wd E μ s H := by rw [hH]; exact hW
  unfold f_X7_often at hf
  refine lv_aload_n hx hb dX7_often_0 rfl (lv_at hl 0 rfl) ?_
  refine lv_iload_n hx hb dX7_often_1 rfl (lv_at hl 1 rfl) ?_
  obtain ⟨v19, e_20, hf⟩ := op_none hf
  refine w_callN (rn_RX7_115 (As := [.int a1]) hx hb hml hown hB hW hZ hV (k_X7_isOne l E _ a1 v19 e_20) rfl rfl ⟨(Nat.le_of_ble_eq_true rfl), (Nat.le_of_ble_eq_true rfl)⟩ (w_rec hW oM.1 (oM.2 E _ _) rfl) rfl hl.1 rfl (Nat.le_of_ble_eq_true rfl) dX7_often_2 ⟨Nat.le_refl _, Nat.le_refl _⟩) hV (fun H locs hn_v19 hW hV => ?_)
  refine lv_if_eq (tgt := 22) hx hb dX7_often_5 (by decide) (fun y21 => ?_) (fun y21 => ?_)
  · have hf := op_t y21 hf
    refine lv_ldc2 (v := (-9223372036854775808 : Int64)) hx hb hown (hB _ q_f4fad641) dX7_often_22 ?_
    exact w_retL hx hb hr hlocks hW hV (Prod.mk.inj (Option.some.inj hf)).1 (Prod.mk.inj (Option.some.inj hf)).2 dX7_often_25
  · have hf := op_f y21 hf
    refine lv_lload_n hx hb dX7_often_8 rfl (lv_at hl 2 rfl) ?_
    refine lv_lconst (v := (0 : Int64)) hx hb dX7_often_9 (by decide) ?_
    refine W.lcmp hx hb dX7_often_10 ?_
    refine lv_if_lt (tgt := 22) hx hb dX7_often_11 (by decide) (fun y22 => ?_) (fun y22 => ?_)
    · have hf := op_t y22 hf
      refine lv_ldc2 (v := (-9223372036854775808 : Int64)) hx hb hown (hB _ q_f4fad641) dX7_often_22 ?_
      exact w_retL hx hb hr hlocks hW hV (Prod.mk.inj (Option.some.inj hf)).1 (Prod.mk.inj (Option.some.inj hf)).2 dX7_often_25
    · have hf := op_f y22 hf
      refine lv_lload_n hx hb dX7_often_14 rfl (lv_at hl 2 rfl) ?_
      refine lv_ldc2 (v := (1000000000 : Int64)) hx hb hown (hB _ q_51c55883) dX7_often_15 ?_
      refine W.lcmp hx hb dX7_often_18 ?_
      refine lv_if_le (tgt := 26) hx hb dX7_often_19 (by decide) (fun y23 => ?_) (fun y23 => ?_)
      · have hf := op_t y23 hf
        refine lv_lload_n hx hb dX7_often_26 rfl (lv_at hl 2 rfl) ?_
        refine lv_aload_n hx hb dX7_often_27 rfl (lv_at hl 0 rfl) ?_
        refine lv_iload_n hx hb dX7_often_28 rfl (lv_at hl 1 rfl) ?_
        obtain ⟨p27, e_26, hf⟩ := op_none hf
        refine w_callI (rn_RX7_126 (As := [.int a1]) hx hb hml hown hB hW hZ hV (k_X7_inDays l E _ a1 p27.1 p27.2 e_26) rfl rfl ⟨(Nat.le_of_ble_eq_true rfl), (Nat.le_of_ble_eq_true rfl)⟩ (w_rec hW oM.1 (oM.2 E _ _) rfl) rfl hl.1 rfl (Nat.le_of_ble_eq_true rfl) dX7_often_29 ⟨Nat.le_refl _, Nat.le_refl _⟩) hV (fun H locs hW hV => ?_)
        refine lv_i2l hx hb dX7_often_32 rfl ?_
        refine lv_lsub hx hb dX7_often_33 ?_
        obtain ⟨v28, e_v28, hf⟩ := op_none hf
        refine lv_topL' (Option.some.inj e_v28) ?_
        refine lv_lstore (i := 4) (lv' := [(4, .long v28), (0, .ref (ead E 2000)), (1, .int a1), (2, .long a2)]) hx hb dX7_often_34 hl (by decide) rfl (fun ls hl => ?_)
        refine lv_aload_n hx hb dX7_often_36 rfl (lv_at hl 1 rfl) ?_
        refine gf_RX7_24 hx hb hB hown hW dX7_often_37 ?_
        refine lv_iload_n hx hb dX7_often_40 rfl (lv_at hl 2 rfl) ?_
        obtain ⟨v29, e_v29, hf⟩ := op_none hf
        refine w_iald hx hb hW iM5.1 (iM5.2 E _ _) e_v29 dX7_often_41 ?_
        refine lv_iconst (v := (1 : Int32)) hx hb dX7_often_42 (by decide) ?_
        refine lv_icmp_eq (tgt := 53) hx hb dX7_often_43 (by decide) (fun y30 => ?_) (fun y30 => ?_)
        · have hf := op_t y30 hf
          refine lv_lconst (v := (0 : Int64)) hx hb dX7_often_53 (by decide) ?_
          refine lv_goto (tgt := 75) hx hb dX7_often_54 (by decide) ?_
          exact w_retL hx hb hr hlocks hW hV (Prod.mk.inj (Option.some.inj hf)).1 (Prod.mk.inj (Option.some.inj hf)).2 dX7_often_75
        · have hf := op_f y30 hf
          refine lv_lload hx hb dX7_often_46 (lv_at hl 0 rfl) ?_
          refine lv_lconst (v := (0 : Int64)) hx hb dX7_often_48 (by decide) ?_
          refine W.lcmp hx hb dX7_often_49 ?_
          refine lv_if_gt (tgt := 57) hx hb dX7_often_50 (by decide) (fun y31 => ?_) (fun y31 => ?_)
          · have hf := op_t y31 hf
            refine lv_lload hx hb dX7_often_57 (lv_at hl 0 rfl) ?_
            refine lv_aload_n hx hb dX7_often_59 rfl (lv_at hl 1 rfl) ?_
            refine lv_iload_n hx hb dX7_often_60 rfl (lv_at hl 2 rfl) ?_
            obtain ⟨v32, e_33, hf⟩ := op_none hf
            refine w_callI (rn_RX7_119 (As := [.int a1]) hx hb hml hown hB hW hZ hV (k_X7_turn l E _ a1 v32 e_33) rfl rfl ⟨(Nat.le_of_ble_eq_true rfl), (Nat.le_of_ble_eq_true rfl)⟩ (w_rec hW oM.1 (oM.2 E _ _) rfl) rfl hl.1 rfl (Nat.le_of_ble_eq_true rfl) dX7_often_61 ⟨Nat.le_refl _, Nat.le_refl _⟩) hV (fun H locs hW hV => ?_)
            refine lv_i2l hx hb dX7_often_64 rfl ?_
            refine lv_ladd hx hb dX7_often_65 ?_
            refine lv_lconst (v := (1 : Int64)) hx hb dX7_often_66 (by decide) ?_
            refine lv_lsub hx hb dX7_often_67 ?_
            refine lv_aload_n hx hb dX7_often_68 rfl (lv_at hl 1 rfl) ?_
            refine lv_iload_n hx hb dX7_often_69 rfl (lv_at hl 2 rfl) ?_
            obtain ⟨v34, e_35, hf⟩ := op_none hf
            refine w_callI (rn_RX7_119 (As := [.int a1]) hx hb hml hown hB hW hZ hV (k_X7_turn l E _ a1 v34 e_35) rfl rfl ⟨(Nat.le_of_ble_eq_true rfl), (Nat.le_of_ble_eq_true rfl)⟩ (w_rec hW oM.1 (oM.2 E _ _) rfl) rfl hl.1 rfl (Nat.le_of_ble_eq_true rfl) dX7_often_70 ⟨Nat.le_refl _, Nat.le_refl _⟩) hV (fun H locs hW hV => ?_)
            refine lv_i2l hx hb dX7_often_73 rfl ?_
            obtain ⟨v36, e_v36, hf⟩ := op_none hf
            refine w_ldiv hx hb e_v36 dX7_often_74 ?_
            exact w_retL hx hb hr hlocks hW hV (Prod.mk.inj (Option.some.inj hf)).1 (Prod.mk.inj (Option.some.inj hf)).2 dX7_often_75
          · have hf := op_f y31 hf
            refine lv_lconst (v := (0 : Int64)) hx hb dX7_often_53 (by decide) ?_
            refine lv_goto (tgt := 75) hx hb dX7_often_54 (by decide) ?_
            exact w_retL hx hb hr hlocks hW hV (Prod.mk.inj (Option.some.inj hf)).1 (Prod.mk.inj (Option.some.inj hf)).2 dX7_often_75
      · have hf := op_f y23 hf
        refine lv_ldc2 (v := (-9223372036854775808 : Int64)) hx hb hown (hB _ q_f4fad641) dX7_often_22 ?_
        exact w_retL hx hb hr hlocks hW hV (Prod.mk.inj (Option.some.inj hf)).1 (Prod.mk.inj (Option.some.inj hf)).2 dX7_often_25
set_option maxHeartbeats 8000000 in
set_option maxRecDepth 100000 in
theorem k_X7_gcd (l : Launch) (E : WE) (μ : Mem) (a0 : Int64) (a2 : Int64) (r : Int64) (hf : f_X7_gcd μ a0 a2 = some r) : Met l yX7_gcd (.code yX7_gcd cX7_gcd 10 (some .long) :: BIG) ({ frames := 0, cells := 0, slots := 0, locals := 0 }) (PW E μ [.long a0, .long a2]) (QL E r μ) 0 0 (eA E) := by
  refine Met.ofW (cc := cX7_gcd) (maxL := 10) (ret := (some .long)) (by decide) rfl ?_
  intro p e s m args below meth c s₁ B hml hv
  obtain ⟨rfl, hW, hZ⟩ := hv
  have hx := B.exec
  have hb := B.bytes
  have hr := B.returns
  have hB : ∀ w ∈ BIG, w.before _ s = true := fun w h => atoms_spec (ws := (.code yX7_gcd cX7_gcd 10 (some .long) :: BIG)) B.pre w (List.mem_cons_of_mem _ h)
  have hown : s.vm.findClass RX7 = some m.cls := findClass_of_methodNamed B.named
  have hlocks := B.notSynchronized
  have hV : va_S (eA E) s.heap s.heap [] := va_S.rf
  have hl := lv_entry ([.long a0, .long a2]) (n := 10) (Nat.le_of_ble_eq_true rfl)
  rw [lg_entry_eq]
  generalize (lg_sl ([.long a0, .long a2]) ++ List.replicate (10 - (lg_sl ([.long a0, .long a2])).length) Slot.unset).toArray = ls at hl ⊢
  have hl : lv_has ls 10 [(0, .long a0), (2, .long a2)] := hl
  have c_6 : ∀ (n_6 : Nat) (b4_6 : Int64) (b6_6 : Int64) , f_X7_gcd_6 μ n_6 b4_6 b6_6 = some r → ∀ (H : Heap) (locs : List Loc) (ls : Array Slot), Wd E μ s H → va_S (eA E) s.heap H locs → lv_has ls 10 [(4, .long b4_6), (6, .long b6_6)] → W p l e (headSpec (.code yX7_gcd cX7_gcd 10 (some .long) :: BIG) ({ frames := 0, cells := 0, slots := 0, locals := 0 })).room s m ([.long a0, .long a2] : List Value).toArray below meth c H locs 0 0 (MQ below (QL E r μ) ([.long a0, .long a2] : List Value).toArray s 0 0 (eA E)) (F0 m 6 ls []) := by
    intro n_6
    induction n_6 with
    | zero =>
      intro b4_6 b6_6 hf H locs ls hW hV hl
      cases hf
    | succ n_6 ih_6 =>
      intro b4_6 b6_6 hf H locs ls hW hV hl
      rw [f_X7_gcd_6] at hf
      refine lv_lload hx hb dX7_gcd_6 (lv_at hl 1 rfl) ?_
      refine lv_lconst (v := (0 : Int64)) hx hb dX7_gcd_8 (by decide) ?_
      refine W.lcmp hx hb dX7_gcd_9 ?_
      refine lv_if_eq (tgt := 31) hx hb dX7_gcd_10 (by decide) (fun y3 => ?_) (fun y3 => ?_)
      · have hf := op_t y3 hf
        refine lv_lload hx hb dX7_gcd_31 (lv_at hl 0 rfl) ?_
        exact w_retL hx hb hr hlocks hW hV (Option.some.inj hf) rfl dX7_gcd_33
      · have hf := op_f y3 hf
        refine lv_lload hx hb dX7_gcd_13 (lv_at hl 0 rfl) ?_
        refine lv_lload hx hb dX7_gcd_15 (lv_at hl 1 rfl) ?_
        obtain ⟨v4, e_v4, hf⟩ := op_none hf
        refine w_lrem hx hb e_v4 dX7_gcd_17 ?_
        refine lv_lstore (i := 8) (lv' := [(8, .long v4), (4, .long b4_6), (6, .long b6_6)]) hx hb dX7_gcd_18 hl (by decide) rfl (fun ls hl => ?_)
        refine lv_lload hx hb dX7_gcd_20 (lv_at hl 2 rfl) ?_
        refine lv_lstore (i := 4) (lv' := [(4, .long b6_6), (8, .long v4), (6, .long b6_6)]) hx hb dX7_gcd_22 hl (by decide) rfl (fun ls hl => ?_)
        refine lv_lload hx hb dX7_gcd_24 (lv_at hl 1 rfl) ?_
        refine lv_lstore (i := 6) (lv' := [(6, .long v4), (4, .long b6_6), (8, .long v4)]) hx hb dX7_gcd_26 hl (by decide) rfl (fun ls hl => ?_)
        refine lv_goto (tgt := 6) hx hb dX7_gcd_28 (by decide) ?_
        exact ih_6 b6_6 v4 hf H locs ls hW hV (lv_sub hl [1, 0] rfl)
  obtain ⟨H, hH⟩ : ∃ H : Heap, H = s.heap := ⟨_, rfl⟩
  obtain ⟨locs, hlocs⟩ : ∃ locs : List Loc, locs = [] := ⟨_, rfl⟩
  rw [show (W p l e (headSpec (.code yX7_gcd cX7_gcd 10 (some .long) :: BIG) ({ frames := 0, cells := 0, slots := 0, locals := 0 })).room s m ([.long a0, .long a2] : List Value).toArray below meth c s.heap [] 0 0) = W p l e (headSpec (.code yX7_gcd cX7_gcd 10 (some .long) :: BIG) ({ frames := 0, cells := 0, slots := 0, locals := 0 })).room s m ([.long a0, .long a2] : List Value).toArray below meth c H locs 0 0 by rw [hH, hlocs]]
  have hV : va_S (eA E) s.heap H locs := by rw [hH, hlocs]; exact hV
  have hW : Wd E μ s H := by rw [hH]; exact hW
  unfold f_X7_gcd at hf
  refine lv_lload_n hx hb dX7_gcd_0 rfl (lv_at hl 0 rfl) ?_
  refine lv_lstore (i := 4) (lv' := [(4, .long a0), (0, .long a0), (2, .long a2)]) hx hb dX7_gcd_1 hl (by decide) rfl (fun ls hl => ?_)
  refine lv_lload_n hx hb dX7_gcd_3 rfl (lv_at hl 2 rfl) ?_
  refine lv_lstore (i := 6) (lv' := [(6, .long a2), (4, .long a0), (0, .long a0), (2, .long a2)]) hx hb dX7_gcd_4 hl (by decide) rfl (fun ls hl => ?_)
  exact c_6 FU a0 a2 hf H locs ls hW hV (lv_sub hl [1, 0] rfl)
set_option maxHeartbeats 8000000 in
set_option maxRecDepth 100000 in
theorem k_J9_floorMod_1978a (l : Launch) (E : WE) (μ : Mem) (a0 : Int64) (a2 : Int32) (r : Int32) (hf : f_J9_floorMod_1978a μ a0 a2 = some r) : Met l yJ9_floorMod_1978a (.code yJ9_floorMod_1978a cJ9_floorMod_1978a 3 (some .int) :: BIG) ({ frames := 1, cells := 0, slots := 0, locals := 25 }) (PW E μ [.long a0, .int a2]) (QI E r μ) 0 0 (eA E) := by
  refine met_ofWF (cc := cJ9_floorMod_1978a) (maxL := 3) (ret := (some .int)) (by decide +kernel) rfl ?_
  intro p e s m args below meth c s₁ B hml hv
  obtain ⟨rfl, hW, hZ⟩ := hv
  have hx := B.exec
  have hb := B.bytes
  have hr := B.returns
  have hB : ∀ w ∈ BIG, w.before _ s = true := fun w h => atoms_spec (ws := (.code yJ9_floorMod_1978a cJ9_floorMod_1978a 3 (some .int) :: BIG)) B.pre w (List.mem_cons_of_mem _ h)
  have hown : s.vm.findClass RJ9 = some m.cls := findClass_of_methodNamed B.named
  have hlocks := B.notSynchronized
  have hV : va_S (eA E) s.heap s.heap [] := va_S.rf
  have hl := lv_entry ([.long a0, .int a2]) (n := 3) (Nat.le_of_ble_eq_true rfl)
  rw [lg_entry_eq]
  generalize (lg_sl ([.long a0, .int a2]) ++ List.replicate (3 - (lg_sl ([.long a0, .int a2])).length) Slot.unset).toArray = ls at hl ⊢
  have hl : lv_has ls 3 [(0, .long a0), (2, .int a2)] := hl
  obtain ⟨H, hH⟩ : ∃ H : Heap, H = s.heap := ⟨_, rfl⟩
  obtain ⟨locs, hlocs⟩ : ∃ locs : List Loc, locs = [] := ⟨_, rfl⟩
  rw [show (W p l e (headSpec (.code yJ9_floorMod_1978a cJ9_floorMod_1978a 3 (some .int) :: BIG) ({ frames := 1, cells := 0, slots := 0, locals := 25 })).room s m ([.long a0, .int a2] : List Value).toArray below meth c s.heap [] 0 0) = W p l e (headSpec (.code yJ9_floorMod_1978a cJ9_floorMod_1978a 3 (some .int) :: BIG) ({ frames := 1, cells := 0, slots := 0, locals := 25 })).room s m ([.long a0, .int a2] : List Value).toArray below meth c H locs 0 0 by rw [hH, hlocs]]
  have hV : va_S (eA E) s.heap H locs := by rw [hH, hlocs]; exact hV
  have hW : Wd E μ s H := by rw [hH]; exact hW
  unfold f_J9_floorMod_1978a at hf
  refine lv_lload_n hx hb dJ9_floorMod_1978a_0 rfl (lv_at hl 0 rfl) ?_
  refine lv_iload_n hx hb dJ9_floorMod_1978a_1 rfl (lv_at hl 1 rfl) ?_
  refine lv_i2l hx hb dJ9_floorMod_1978a_2 rfl ?_
  obtain ⟨v3, e_4, hf⟩ := op_none hf
  refine w_callL (rn_RJ9_146 (As := [.long a0, .long a2.toInt64]) hx hb hml hown hB hW hZ hV (k_J9_floorMod_f86c9 l E _ a0 a2.toInt64 v3 e_4) rfl rfl ⟨(Nat.le_of_ble_eq_true rfl), (Nat.le_of_ble_eq_true rfl)⟩ rfl hl.1 rfl (Nat.le_of_ble_eq_true rfl) dJ9_floorMod_1978a_3 ⟨Nat.le_refl _, Nat.le_refl _⟩) hV (fun H locs hW hV => ?_)
  refine lv_l2i hx hb dJ9_floorMod_1978a_6 rfl ?_
  exact w_retI hx hb hr hlocks hW hV (Option.some.inj hf) rfl dJ9_floorMod_1978a_7
set_option maxHeartbeats 8000000 in
set_option maxRecDepth 100000 in
theorem k_X7_first (l : Launch) (E : WE) (μ : Mem) (a1 : Int32) (r : Int64) (μ' : Mem) (hf : f_X7_first μ a1 = some (r, μ')) : Met l yX7_first (.code yX7_first cX7_first 9 (some .long) :: BIG) ({ frames := 5, cells := 0, slots := 0, locals := 118 }) (PW E μ [.ref (ead E 2000), .int a1]) (QL E r μ') 0 0 (eA E) := by
  refine Met.ofW (cc := cX7_first) (maxL := 9) (ret := (some .long)) (by decide) rfl ?_
  intro p e s m args below meth c s₁ B hml hv
  obtain ⟨rfl, hW, hZ⟩ := hv
  have hx := B.exec
  have hb := B.bytes
  have hr := B.returns
  have hB : ∀ w ∈ BIG, w.before _ s = true := fun w h => atoms_spec (ws := (.code yX7_first cX7_first 9 (some .long) :: BIG)) B.pre w (List.mem_cons_of_mem _ h)
  have hown : s.vm.findClass RX7 = some m.cls := findClass_of_methodNamed B.named
  have hlocks := B.notSynchronized
  have hV : va_S (eA E) s.heap s.heap [] := va_S.rf
  have hl := lv_entry ([.ref (ead E 2000), .int a1]) (n := 9) (Nat.le_of_ble_eq_true rfl)
  rw [lg_entry_eq]
  generalize (lg_sl ([.ref (ead E 2000), .int a1]) ++ List.replicate (9 - (lg_sl ([.ref (ead E 2000), .int a1])).length) Slot.unset).toArray = ls at hl ⊢
  have hl : lv_has ls 9 [(0, .ref (ead E 2000)), (1, .int a1)] := hl
  have c_8 : ∀ (n_8 : Nat) (μ_8 : Mem) (b1_8 : Int32) (b2_8 : Int64) (b4_8 : Int64) (b6_8 : Int32) , f_X7_first_8 n_8 μ_8 b1_8 b2_8 b4_8 b6_8 = some (r, μ') → ∀ (H : Heap) (locs : List Loc) (ls : Array Slot), Wd E μ_8 s H → va_S (eA E) s.heap H locs → lv_has ls 9 [(0, .ref (ead E 2000)), (1, .int b1_8), (2, .long b2_8), (4, .long b4_8), (6, .int b6_8)] → W p l e (headSpec (.code yX7_first cX7_first 9 (some .long) :: BIG) ({ frames := 5, cells := 0, slots := 0, locals := 118 })).room s m ([.ref (ead E 2000), .int a1] : List Value).toArray below meth c H locs 0 0 (MQ below (QL E r μ') ([.ref (ead E 2000), .int a1] : List Value).toArray s 0 0 (eA E)) (F0 m 8 ls []) := by
    intro n_8
    induction n_8 with
    | zero =>
      intro μ_8 b1_8 b2_8 b4_8 b6_8 hf H locs ls hW hV hl
      cases hf
    | succ n_8 ih_8 =>
      have c_118 : ∀ (μ_118 : Mem) (b1_118 : Int32) (b2_118 : Int64) (b4_118 : Int64) (b6_118 : Int32) , f_X7_first_118 (fun μ z0 z1 z2 z3 => f_X7_first_8 n_8 μ z0 z1 z2 z3) μ_118 b1_118 b2_118 b4_118 b6_118 = some (r, μ') → ∀ (H : Heap) (locs : List Loc) (ls : Array Slot), Wd E μ_118 s H → va_S (eA E) s.heap H locs → lv_has ls 9 [(0, .ref (ead E 2000)), (1, .int b1_118), (2, .long b2_118), (4, .long b4_118), (6, .int b6_118)] → W p l e (headSpec (.code yX7_first cX7_first 9 (some .long) :: BIG) ({ frames := 5, cells := 0, slots := 0, locals := 118 })).room s m ([.ref (ead E 2000), .int a1] : List Value).toArray below meth c H locs 0 0 (MQ below (QL E r μ') ([.ref (ead E 2000), .int a1] : List Value).toArray s 0 0 (eA E)) (F0 m 118 ls []) := by
        intro μ_118 b1_118 b2_118 b4_118 b6_118 hf H locs ls hW hV hl
        unfold f_X7_first_118 at hf
        obtain ⟨v23, e_v23, hf⟩ := op_none hf
        refine lv_iinc (v := v23) (lv' := [(6, .int v23), (0, .ref (ead E 2000)), (1, .int b1_118), (2, .long b2_118), (4, .long b4_118)]) hx hb dX7_first_118 hl (k := 4) rfl (by rw [← Option.some.inj e_v23]; rfl) (by decide) rfl (fun ls hl => ?_)
        refine lv_goto (tgt := 8) hx hb dX7_first_121 (by decide) ?_
        exact ih_8 μ_118 b1_118 b2_118 b4_118 v23 hf H locs ls hW hV (lv_sub hl [1, 2, 3, 4, 0] rfl)
      have c_90 : ∀ (μ_90 : Mem) (b1_90 : Int32) (b2_90 : Int64) (b4_90 : Int64) (b6_90 : Int32) (b7_90 : Int32) (b8_90 : Int32) , f_X7_first_90 (fun μ z0 z1 z2 z3 => f_X7_first_8 n_8 μ z0 z1 z2 z3) μ_90 b1_90 b2_90 b4_90 b6_90 b7_90 b8_90 = some (r, μ') → ∀ (H : Heap) (locs : List Loc) (ls : Array Slot), Wd E μ_90 s H → va_S (eA E) s.heap H locs → lv_has ls 9 [(0, .ref (ead E 2000)), (1, .int b1_90), (2, .long b2_90), (4, .long b4_90), (6, .int b6_90), (7, .int b7_90), (8, .int b8_90)] → W p l e (headSpec (.code yX7_first cX7_first 9 (some .long) :: BIG) ({ frames := 5, cells := 0, slots := 0, locals := 118 })).room s m ([.ref (ead E 2000), .int a1] : List Value).toArray below meth c H locs 0 0 (MQ below (QL E r μ') ([.ref (ead E 2000), .int a1] : List Value).toArray s 0 0 (eA E)) (F0 m 90 ls []) := by
        intro μ_90 b1_90 b2_90 b4_90 b6_90 b7_90 b8_90 hf H locs ls hW hV hl
        unfold f_X7_first_90 at hf
        refine lv_iload hx hb dX7_first_90 (lv_at hl 6 rfl) ?_
        refine lv_iload hx hb dX7_first_92 (lv_at hl 5 rfl) ?_
        refine lv_icmp_le (tgt := 101) hx hb dX7_first_94 (by decide) (fun y24 => ?_) (fun y24 => ?_)
        · have hf := op_t y24 hf
          refine lv_lload hx hb dX7_first_101 (lv_at hl 3 rfl) ?_
          refine lv_lload hx hb dX7_first_103 (lv_at hl 3 rfl) ?_
          refine lv_iload hx hb dX7_first_105 (lv_at hl 5 rfl) ?_
          refine lv_i2l hx hb dX7_first_107 rfl ?_
          obtain ⟨v25, e_26, hf⟩ := op_none hf
          refine w_callL (rn_RX7_273 (As := [.long b4_90, .long b7_90.toInt64]) hx hb hml hown hB hW hZ hV (k_X7_gcd l E _ b4_90 b7_90.toInt64 v25 e_26) rfl rfl ⟨(Nat.le_of_ble_eq_true rfl), (Nat.le_of_ble_eq_true rfl)⟩ rfl hl.1 rfl (Nat.le_of_ble_eq_true rfl) dX7_first_108 ⟨Nat.le_refl _, Nat.le_refl _⟩) hV (fun H locs hW hV => ?_)
          obtain ⟨v27, e_v27, hf⟩ := op_none hf
          refine w_ldiv hx hb e_v27 dX7_first_111 ?_
          refine lv_iload hx hb dX7_first_112 (lv_at hl 5 rfl) ?_
          refine lv_i2l hx hb dX7_first_114 rfl ?_
          refine lv_lmul hx hb dX7_first_115 ?_
          obtain ⟨v28, e_v28, hf⟩ := op_none hf
          refine lv_topL' (Option.some.inj e_v28) ?_
          refine lv_lstore (i := 4) (lv' := [(4, .long v28), (0, .ref (ead E 2000)), (1, .int b1_90), (2, .long b2_90), (6, .int b6_90), (7, .int b7_90), (8, .int b8_90)]) hx hb dX7_first_116 hl (by decide) rfl (fun ls hl => ?_)
          exact c_118 μ_90 b1_90 b2_90 v28 b6_90 hf H locs ls hW hV (lv_sub hl [1, 2, 3, 0, 4] rfl)
        · have hf := op_f y24 hf
          refine lv_ldc2 (v := (-5 : Int64)) hx hb hown (hB _ q_d5abff3b) dX7_first_97 ?_
          exact w_retL hx hb hr hlocks hW hV (Prod.mk.inj (Option.some.inj hf)).1 (Prod.mk.inj (Option.some.inj hf)).2 dX7_first_100
      have c_55 : ∀ (n_55 : Nat) (μ_55 : Mem) (b1_55 : Int32) (b2_55 : Int64) (b4_55 : Int64) (b6_55 : Int32) (b7_55 : Int32) (b8_55 : Int32) , f_X7_first_55 (fun μ z0 z1 z2 z3 => f_X7_first_8 n_8 μ z0 z1 z2 z3) n_55 μ_55 b1_55 b2_55 b4_55 b6_55 b7_55 b8_55 = some (r, μ') → ∀ (H : Heap) (locs : List Loc) (ls : Array Slot), Wd E μ_55 s H → va_S (eA E) s.heap H locs → lv_has ls 9 [(0, .ref (ead E 2000)), (1, .int b1_55), (2, .long b2_55), (4, .long b4_55), (6, .int b6_55), (7, .int b7_55), (8, .int b8_55)] → W p l e (headSpec (.code yX7_first cX7_first 9 (some .long) :: BIG) ({ frames := 5, cells := 0, slots := 0, locals := 118 })).room s m ([.ref (ead E 2000), .int a1] : List Value).toArray below meth c H locs 0 0 (MQ below (QL E r μ') ([.ref (ead E 2000), .int a1] : List Value).toArray s 0 0 (eA E)) (F0 m 55 ls []) := by
        intro n_55
        induction n_55 with
        | zero =>
          intro μ_55 b1_55 b2_55 b4_55 b6_55 b7_55 b8_55 hf H locs ls hW hV hl
          cases hf
        | succ n_55 ih_55 =>
          intro μ_55 b1_55 b2_55 b4_55 b6_55 b7_55 b8_55 hf H locs ls hW hV hl
          rw [f_X7_first_55] at hf
          refine lv_iload hx hb dX7_first_55 (lv_at hl 6 rfl) ?_
          refine lv_iload hx hb dX7_first_57 (lv_at hl 5 rfl) ?_
          refine lv_icmp_gt (tgt := 90) hx hb dX7_first_59 (by decide) (fun y29 => ?_) (fun y29 => ?_)
          · have hf := op_t y29 hf
            exact c_90 μ_55 b1_55 b2_55 b4_55 b6_55 b7_55 b8_55 hf H locs ls hW hV (lv_sub hl [0, 1, 2, 3, 4, 5, 6] rfl)
          · have hf := op_f y29 hf
            refine lv_lload_n hx hb dX7_first_62 rfl (lv_at hl 2 rfl) ?_
            refine lv_aload_n hx hb dX7_first_63 rfl (lv_at hl 0 rfl) ?_
            refine lv_iload hx hb dX7_first_64 (lv_at hl 4 rfl) ?_
            obtain ⟨p33, e_32, hf⟩ := op_none hf
            refine w_callI (rn_RX7_126 (As := [.int b6_55]) hx hb hml hown hB hW hZ hV (k_X7_inDays l E _ b6_55 p33.1 p33.2 e_32) rfl rfl ⟨(Nat.le_of_ble_eq_true rfl), (Nat.le_of_ble_eq_true rfl)⟩ (w_rec hW oM.1 (oM.2 E _ _) rfl) rfl hl.1 rfl (Nat.le_of_ble_eq_true rfl) dX7_first_66 ⟨Nat.le_refl _, Nat.le_refl _⟩) hV (fun H locs hW hV => ?_)
            refine lv_i2l hx hb dX7_first_69 rfl ?_
            refine lv_lsub hx hb dX7_first_70 ?_
            refine lv_iload hx hb dX7_first_71 (lv_at hl 5 rfl) ?_
            obtain ⟨v34, e_35, hf⟩ := op_none hf
            refine w_callI (rn_RX7_270 (As := [.long (b2_55 - p33.1.toInt64), .int b7_55]) hx hb hml hown hB hW hZ hV (k_J9_floorMod_1978a l E _ (b2_55 - p33.1.toInt64) b7_55 v34 e_35) rfl rfl ⟨(Nat.le_of_ble_eq_true rfl), (Nat.le_of_ble_eq_true rfl)⟩ rfl hl.1 rfl (Nat.le_of_ble_eq_true rfl) dX7_first_73 ⟨Nat.le_refl _, Nat.le_refl _⟩) hV (fun H locs hW hV => ?_)
            refine lv_if_eq (tgt := 90) hx hb dX7_first_76 (by decide) (fun y36 => ?_) (fun y36 => ?_)
            · have hf := op_t y36 hf
              exact c_90 p33.2 b1_55 b2_55 b4_55 b6_55 b7_55 b8_55 hf H locs ls hW hV (lv_sub hl [0, 1, 2, 3, 4, 5, 6] rfl)
            · have hf := op_f y36 hf
              refine lv_lload_n hx hb dX7_first_79 rfl (lv_at hl 2 rfl) ?_
              refine lv_lload hx hb dX7_first_80 (lv_at hl 3 rfl) ?_
              refine lv_ladd hx hb dX7_first_82 ?_
              obtain ⟨v37, e_v37, hf⟩ := op_none hf
              refine lv_topL' (Option.some.inj e_v37) ?_
              refine lv_lstore_n (i := 2) (lv' := [(2, .long v37), (0, .ref (ead E 2000)), (1, .int b1_55), (4, .long b4_55), (6, .int b6_55), (7, .int b7_55), (8, .int b8_55)]) hx hb dX7_first_83 rfl hl (by decide) rfl (fun ls hl => ?_)
              obtain ⟨v38, e_v38, hf⟩ := op_none hf
              refine lv_iinc (v := v38) (lv' := [(8, .int v38), (2, .long v37), (0, .ref (ead E 2000)), (1, .int b1_55), (4, .long b4_55), (6, .int b6_55), (7, .int b7_55)]) hx hb dX7_first_84 hl (k := 6) rfl (by rw [← Option.some.inj e_v38]; rfl) (by decide) rfl (fun ls hl => ?_)
              refine lv_goto (tgt := 55) hx hb dX7_first_87 (by decide) ?_
              exact ih_55 p33.2 b1_55 v37 b4_55 b6_55 b7_55 v38 hf H locs ls hW hV (lv_sub hl [2, 3, 1, 4, 5, 6, 0] rfl)
      intro μ_8 b1_8 b2_8 b4_8 b6_8 hf H locs ls hW hV hl
      rw [f_X7_first_8] at hf
      refine lv_iload hx hb dX7_first_8 (lv_at hl 4 rfl) ?_
      refine lv_aload_n hx hb dX7_first_10 rfl (lv_at hl 0 rfl) ?_
      refine gf_RX7_108 hx hb hB hown hW dX7_first_11 ?_
      refine lv_icmp_ge (tgt := 124) hx hb dX7_first_14 (by decide) (fun y39 => ?_) (fun y39 => ?_)
      · have hf := op_t y39 hf
        refine lv_lload_n hx hb dX7_first_124 rfl (lv_at hl 2 rfl) ?_
        exact w_retL hx hb hr hlocks hW hV (Prod.mk.inj (Option.some.inj hf)).1 (Prod.mk.inj (Option.some.inj hf)).2 dX7_first_125
      · have hf := op_f y39 hf
        refine lv_iload_n hx hb dX7_first_17 rfl (lv_at hl 1 rfl) ?_
        refine lv_iload hx hb dX7_first_18 (lv_at hl 4 rfl) ?_
        refine lv_ishr hx hb dX7_first_20 ?_
        refine lv_iconst (v := (1 : Int32)) hx hb dX7_first_21 (by decide) ?_
        refine lv_iand hx hb dX7_first_22 ?_
        refine lv_if_ne (tgt := 29) hx hb dX7_first_23 (by decide) (fun y40 => ?_) (fun y40 => ?_)
        · have hf := op_f y40 hf
          refine lv_aload_n hx hb dX7_first_29 rfl (lv_at hl 0 rfl) ?_
          refine gf_RX7_24 hx hb hB hown hW dX7_first_30 ?_
          refine lv_iload hx hb dX7_first_33 (lv_at hl 4 rfl) ?_
          obtain ⟨v41, e_v41, hf⟩ := op_none hf
          refine w_iald hx hb hW iM5.1 (iM5.2 E _ _) e_v41 dX7_first_35 ?_
          refine lv_iconst (v := (1 : Int32)) hx hb dX7_first_36 (by decide) ?_
          refine lv_icmp_ne (tgt := 44) hx hb dX7_first_37 (by decide) (fun y42 => ?_) (fun y42 => ?_)
          · have hf := op_f y42 hf
            refine lv_aload_n hx hb dX7_first_44 rfl (lv_at hl 0 rfl) ?_
            refine lv_iload hx hb dX7_first_45 (lv_at hl 4 rfl) ?_
            obtain ⟨v43, e_44, hf⟩ := op_none hf
            refine w_callI (rn_RX7_119 (As := [.int b6_8]) hx hb hml hown hB hW hZ hV (k_X7_turn l E _ b6_8 v43 e_44) rfl rfl ⟨(Nat.le_of_ble_eq_true rfl), (Nat.le_of_ble_eq_true rfl)⟩ (w_rec hW oM.1 (oM.2 E _ _) rfl) rfl hl.1 rfl (Nat.le_of_ble_eq_true rfl) dX7_first_47 ⟨Nat.le_refl _, Nat.le_refl _⟩) hV (fun H locs hW hV => ?_)
            refine lv_istore (i := 7) (lv' := [(7, .int v43), (0, .ref (ead E 2000)), (1, .int b1_8), (2, .long b2_8), (4, .long b4_8), (6, .int b6_8)]) hx hb dX7_first_50 hl (by decide) rfl (fun ls hl => ?_)
            refine lv_iconst (v := (0 : Int32)) hx hb dX7_first_52 (by decide) ?_
            refine lv_istore (i := 8) (lv' := [(8, .int (0 : Int32)), (7, .int v43), (0, .ref (ead E 2000)), (1, .int b1_8), (2, .long b2_8), (4, .long b4_8), (6, .int b6_8)]) hx hb dX7_first_53 hl (by decide) rfl (fun ls hl => ?_)
            exact c_55 FU μ_8 b1_8 b2_8 b4_8 b6_8 v43 (0 : Int32) hf H locs ls hW hV (lv_sub hl [2, 3, 4, 5, 6, 1, 0] rfl)
          · have hf := op_t y42 hf
            refine lv_ldc2 (v := (-5 : Int64)) hx hb hown (hB _ q_d5abff3b) dX7_first_40 ?_
            exact w_retL hx hb hr hlocks hW hV (Prod.mk.inj (Option.some.inj hf)).1 (Prod.mk.inj (Option.some.inj hf)).2 dX7_first_43
        · have hf := op_t y40 hf
          refine lv_goto (tgt := 118) hx hb dX7_first_26 (by decide) ?_
          exact c_118 μ_8 b1_8 b2_8 b4_8 b6_8 hf H locs ls hW hV (lv_sub hl [0, 1, 2, 3, 4] rfl)
  obtain ⟨H, hH⟩ : ∃ H : Heap, H = s.heap := ⟨_, rfl⟩
  obtain ⟨locs, hlocs⟩ : ∃ locs : List Loc, locs = [] := ⟨_, rfl⟩
  rw [show (W p l e (headSpec (.code yX7_first cX7_first 9 (some .long) :: BIG) ({ frames := 5, cells := 0, slots := 0, locals := 118 })).room s m ([.ref (ead E 2000), .int a1] : List Value).toArray below meth c s.heap [] 0 0) = W p l e (headSpec (.code yX7_first cX7_first 9 (some .long) :: BIG) ({ frames := 5, cells := 0, slots := 0, locals := 118 })).room s m ([.ref (ead E 2000), .int a1] : List Value).toArray below meth c H locs 0 0 by rw [hH, hlocs]]
  have hV : va_S (eA E) s.heap H locs := by rw [hH, hlocs]; exact hV
  have hW : Wd E μ s H := by rw [hH]; exact hW
  unfold f_X7_first at hf
  refine lv_lconst (v := (0 : Int64)) hx hb dX7_first_0 (by decide) ?_
  refine lv_lstore_n (i := 2) (lv' := [(2, .long (0 : Int64)), (0, .ref (ead E 2000)), (1, .int a1)]) hx hb dX7_first_1 rfl hl (by decide) rfl (fun ls hl => ?_)
  refine lv_lconst (v := (1 : Int64)) hx hb dX7_first_2 (by decide) ?_
  refine lv_lstore (i := 4) (lv' := [(4, .long (1 : Int64)), (2, .long (0 : Int64)), (0, .ref (ead E 2000)), (1, .int a1)]) hx hb dX7_first_3 hl (by decide) rfl (fun ls hl => ?_)
  refine lv_iconst (v := (0 : Int32)) hx hb dX7_first_5 (by decide) ?_
  refine lv_istore (i := 6) (lv' := [(6, .int (0 : Int32)), (4, .long (1 : Int64)), (2, .long (0 : Int64)), (0, .ref (ead E 2000)), (1, .int a1)]) hx hb dX7_first_6 hl (by decide) rfl (fun ls hl => ?_)
  exact c_8 FU μ a1 (0 : Int64) (1 : Int64) (0 : Int32) hf H locs ls hW hV (lv_sub hl [3, 4, 2, 1, 0] rfl)
set_option maxHeartbeats 8000000 in
set_option maxRecDepth 100000 in
theorem k_X7_common (l : Launch) (E : WE) (μ : Mem) (a1 : Int32) (r : Int64) (hf : f_X7_common μ a1 = some r) : Met l yX7_common (.code yX7_common cX7_common 5 (some .long) :: BIG) ({ frames := 1, cells := 0, slots := 0, locals := 29 }) (PW E μ [.ref (ead E 2000), .int a1]) (QL E r μ) 0 0 (eA E) := by
  refine Met.ofW (cc := cX7_common) (maxL := 5) (ret := (some .long)) (by decide) rfl ?_
  intro p e s m args below meth c s₁ B hml hv
  obtain ⟨rfl, hW, hZ⟩ := hv
  have hx := B.exec
  have hb := B.bytes
  have hr := B.returns
  have hB : ∀ w ∈ BIG, w.before _ s = true := fun w h => atoms_spec (ws := (.code yX7_common cX7_common 5 (some .long) :: BIG)) B.pre w (List.mem_cons_of_mem _ h)
  have hown : s.vm.findClass RX7 = some m.cls := findClass_of_methodNamed B.named
  have hlocks := B.notSynchronized
  have hV : va_S (eA E) s.heap s.heap [] := va_S.rf
  have hl := lv_entry ([.ref (ead E 2000), .int a1]) (n := 5) (Nat.le_of_ble_eq_true rfl)
  rw [lg_entry_eq]
  generalize (lg_sl ([.ref (ead E 2000), .int a1]) ++ List.replicate (5 - (lg_sl ([.ref (ead E 2000), .int a1])).length) Slot.unset).toArray = ls at hl ⊢
  have hl : lv_has ls 5 [(0, .ref (ead E 2000)), (1, .int a1)] := hl
  have c_5 : ∀ (n_5 : Nat) (b1_5 : Int32) (b2_5 : Int64) (b4_5 : Int32) , f_X7_common_5 μ n_5 b1_5 b2_5 b4_5 = some r → ∀ (H : Heap) (locs : List Loc) (ls : Array Slot), Wd E μ s H → va_S (eA E) s.heap H locs → lv_has ls 5 [(0, .ref (ead E 2000)), (1, .int b1_5), (2, .long b2_5), (4, .int b4_5)] → W p l e (headSpec (.code yX7_common cX7_common 5 (some .long) :: BIG) ({ frames := 1, cells := 0, slots := 0, locals := 29 })).room s m ([.ref (ead E 2000), .int a1] : List Value).toArray below meth c H locs 0 0 (MQ below (QL E r μ) ([.ref (ead E 2000), .int a1] : List Value).toArray s 0 0 (eA E)) (F0 m 5 ls []) := by
    intro n_5
    induction n_5 with
    | zero =>
      intro b1_5 b2_5 b4_5 hf H locs ls hW hV hl
      cases hf
    | succ n_5 ih_5 =>
      have c_46 : ∀ (b1_46 : Int32) (b2_46 : Int64) (b4_46 : Int32) , f_X7_common_46 μ (fun z0 z1 z2 => f_X7_common_5 μ n_5 z0 z1 z2) b1_46 b2_46 b4_46 = some r → ∀ (H : Heap) (locs : List Loc) (ls : Array Slot), Wd E μ s H → va_S (eA E) s.heap H locs → lv_has ls 5 [(0, .ref (ead E 2000)), (1, .int b1_46), (2, .long b2_46), (4, .int b4_46)] → W p l e (headSpec (.code yX7_common cX7_common 5 (some .long) :: BIG) ({ frames := 1, cells := 0, slots := 0, locals := 29 })).room s m ([.ref (ead E 2000), .int a1] : List Value).toArray below meth c H locs 0 0 (MQ below (QL E r μ) ([.ref (ead E 2000), .int a1] : List Value).toArray s 0 0 (eA E)) (F0 m 46 ls []) := by
        intro b1_46 b2_46 b4_46 hf H locs ls hW hV hl
        unfold f_X7_common_46 at hf
        obtain ⟨v12, e_v12, hf⟩ := op_none hf
        refine lv_iinc (v := v12) (lv' := [(4, .int v12), (0, .ref (ead E 2000)), (1, .int b1_46), (2, .long b2_46)]) hx hb dX7_common_46 hl (k := 3) rfl (by rw [← Option.some.inj e_v12]; rfl) (by decide) rfl (fun ls hl => ?_)
        refine lv_goto (tgt := 5) hx hb dX7_common_49 (by decide) ?_
        exact ih_5 b1_46 b2_46 v12 hf H locs ls hW hV (lv_sub hl [1, 2, 3, 0] rfl)
      intro b1_5 b2_5 b4_5 hf H locs ls hW hV hl
      rw [f_X7_common_5] at hf
      refine lv_iload hx hb dX7_common_5 (lv_at hl 3 rfl) ?_
      refine lv_aload_n hx hb dX7_common_7 rfl (lv_at hl 0 rfl) ?_
      refine gf_RX7_108 hx hb hB hown hW dX7_common_8 ?_
      refine lv_icmp_ge (tgt := 52) hx hb dX7_common_11 (by decide) (fun y13 => ?_) (fun y13 => ?_)
      · have hf := op_t y13 hf
        refine lv_lload_n hx hb dX7_common_52 rfl (lv_at hl 2 rfl) ?_
        exact w_retL hx hb hr hlocks hW hV (Option.some.inj hf) rfl dX7_common_53
      · have hf := op_f y13 hf
        refine lv_iload_n hx hb dX7_common_14 rfl (lv_at hl 1 rfl) ?_
        refine lv_iload hx hb dX7_common_15 (lv_at hl 3 rfl) ?_
        refine lv_ishr hx hb dX7_common_17 ?_
        refine lv_iconst (v := (1 : Int32)) hx hb dX7_common_18 (by decide) ?_
        refine lv_iand hx hb dX7_common_19 ?_
        refine lv_iconst (v := (1 : Int32)) hx hb dX7_common_20 (by decide) ?_
        refine lv_icmp_ne (tgt := 46) hx hb dX7_common_21 (by decide) (fun y14 => ?_) (fun y14 => ?_)
        · have hf := op_f y14 hf
          exact c_46 b1_5 b2_5 b4_5 hf H locs ls hW hV (lv_sub hl [0, 1, 2, 3] rfl)
        · have hf := op_t y14 hf
          refine lv_lload_n hx hb dX7_common_24 rfl (lv_at hl 2 rfl) ?_
          refine lv_lload_n hx hb dX7_common_25 rfl (lv_at hl 2 rfl) ?_
          refine lv_aload_n hx hb dX7_common_26 rfl (lv_at hl 0 rfl) ?_
          refine lv_iload hx hb dX7_common_27 (lv_at hl 3 rfl) ?_
          obtain ⟨v15, e_16, hf⟩ := op_none hf
          refine w_callI (rn_RX7_119 (As := [.int b4_5]) hx hb hml hown hB hW hZ hV (k_X7_turn l E _ b4_5 v15 e_16) rfl rfl ⟨(Nat.le_of_ble_eq_true rfl), (Nat.le_of_ble_eq_true rfl)⟩ (w_rec hW oM.1 (oM.2 E _ _) rfl) rfl hl.1 rfl (Nat.le_of_ble_eq_true rfl) dX7_common_29 ⟨Nat.le_refl _, Nat.le_refl _⟩) hV (fun H locs hW hV => ?_)
          refine lv_i2l hx hb dX7_common_32 rfl ?_
          obtain ⟨v17, e_18, hf⟩ := op_none hf
          refine w_callL (rn_RX7_273 (As := [.long b2_5, .long v15.toInt64]) hx hb hml hown hB hW hZ hV (k_X7_gcd l E _ b2_5 v15.toInt64 v17 e_18) rfl rfl ⟨(Nat.le_of_ble_eq_true rfl), (Nat.le_of_ble_eq_true rfl)⟩ rfl hl.1 rfl (Nat.le_of_ble_eq_true rfl) dX7_common_33 ⟨Nat.le_refl _, Nat.le_refl _⟩) hV (fun H locs hW hV => ?_)
          obtain ⟨v19, e_v19, hf⟩ := op_none hf
          refine w_ldiv hx hb e_v19 dX7_common_36 ?_
          refine lv_aload_n hx hb dX7_common_37 rfl (lv_at hl 0 rfl) ?_
          refine lv_iload hx hb dX7_common_38 (lv_at hl 3 rfl) ?_
          obtain ⟨v20, e_21, hf⟩ := op_none hf
          refine w_callI (rn_RX7_119 (As := [.int b4_5]) hx hb hml hown hB hW hZ hV (k_X7_turn l E _ b4_5 v20 e_21) rfl rfl ⟨(Nat.le_of_ble_eq_true rfl), (Nat.le_of_ble_eq_true rfl)⟩ (w_rec hW oM.1 (oM.2 E _ _) rfl) rfl hl.1 rfl (Nat.le_of_ble_eq_true rfl) dX7_common_40 ⟨Nat.le_refl _, Nat.le_refl _⟩) hV (fun H locs hW hV => ?_)
          refine lv_i2l hx hb dX7_common_43 rfl ?_
          refine lv_lmul hx hb dX7_common_44 ?_
          obtain ⟨v22, e_v22, hf⟩ := op_none hf
          refine lv_topL' (Option.some.inj e_v22) ?_
          refine lv_lstore_n (i := 2) (lv' := [(2, .long v22), (0, .ref (ead E 2000)), (1, .int b1_5), (4, .int b4_5)]) hx hb dX7_common_45 rfl hl (by decide) rfl (fun ls hl => ?_)
          exact c_46 b1_5 v22 b4_5 hf H locs ls hW hV (lv_sub hl [1, 2, 0, 3] rfl)
  obtain ⟨H, hH⟩ : ∃ H : Heap, H = s.heap := ⟨_, rfl⟩
  obtain ⟨locs, hlocs⟩ : ∃ locs : List Loc, locs = [] := ⟨_, rfl⟩
  rw [show (W p l e (headSpec (.code yX7_common cX7_common 5 (some .long) :: BIG) ({ frames := 1, cells := 0, slots := 0, locals := 29 })).room s m ([.ref (ead E 2000), .int a1] : List Value).toArray below meth c s.heap [] 0 0) = W p l e (headSpec (.code yX7_common cX7_common 5 (some .long) :: BIG) ({ frames := 1, cells := 0, slots := 0, locals := 29 })).room s m ([.ref (ead E 2000), .int a1] : List Value).toArray below meth c H locs 0 0 by rw [hH, hlocs]]
  have hV : va_S (eA E) s.heap H locs := by rw [hH, hlocs]; exact hV
  have hW : Wd E μ s H := by rw [hH]; exact hW
  unfold f_X7_common at hf
  refine lv_lconst (v := (1 : Int64)) hx hb dX7_common_0 (by decide) ?_
  refine lv_lstore_n (i := 2) (lv' := [(2, .long (1 : Int64)), (0, .ref (ead E 2000)), (1, .int a1)]) hx hb dX7_common_1 rfl hl (by decide) rfl (fun ls hl => ?_)
  refine lv_iconst (v := (0 : Int32)) hx hb dX7_common_2 (by decide) ?_
  refine lv_istore (i := 4) (lv' := [(4, .int (0 : Int32)), (2, .long (1 : Int64)), (0, .ref (ead E 2000)), (1, .int a1)]) hx hb dX7_common_3 hl (by decide) rfl (fun ls hl => ?_)
  exact c_5 FU a1 (1 : Int64) (0 : Int32) hf H locs ls hW hV (lv_sub hl [2, 3, 1, 0] rfl)
set_option maxHeartbeats 8000000 in
set_option maxRecDepth 100000 in
theorem k_X7_together (l : Launch) (E : WE) (μ : Mem) (a1 : Int32) (a2 : Int32) (r : Int64) (μ' : Mem) (hf : f_X7_together μ a1 a2 = some (r, μ')) : Met l yX7_together (.code yX7_together cX7_together 5 (some .long) :: BIG) ({ frames := 6, cells := 0, slots := 0, locals := 146 }) (PW E μ [.ref (ead E 2000), .int a1, .int a2]) (QL E r μ') 0 0 (eA E) := by
  refine Met.ofW (cc := cX7_together) (maxL := 5) (ret := (some .long)) (by decide) rfl ?_
  intro p e s m args below meth c s₁ B hml hv
  obtain ⟨rfl, hW, hZ⟩ := hv
  have hx := B.exec
  have hb := B.bytes
  have hr := B.returns
  have hB : ∀ w ∈ BIG, w.before _ s = true := fun w h => atoms_spec (ws := (.code yX7_together cX7_together 5 (some .long) :: BIG)) B.pre w (List.mem_cons_of_mem _ h)
  have hown : s.vm.findClass RX7 = some m.cls := findClass_of_methodNamed B.named
  have hlocks := B.notSynchronized
  have hV : va_S (eA E) s.heap s.heap [] := va_S.rf
  have hl := lv_entry ([.ref (ead E 2000), .int a1, .int a2]) (n := 5) (Nat.le_of_ble_eq_true rfl)
  rw [lg_entry_eq]
  generalize (lg_sl ([.ref (ead E 2000), .int a1, .int a2]) ++ List.replicate (5 - (lg_sl ([.ref (ead E 2000), .int a1, .int a2])).length) Slot.unset).toArray = ls at hl ⊢
  have hl : lv_has ls 5 [(0, .ref (ead E 2000)), (1, .int a1), (2, .int a2)] := hl
  obtain ⟨H, hH⟩ : ∃ H : Heap, H = s.heap := ⟨_, rfl⟩
  obtain ⟨locs, hlocs⟩ : ∃ locs : List Loc, locs = [] := ⟨_, rfl⟩
  rw [show (W p l e (headSpec (.code yX7_together cX7_together 5 (some .long) :: BIG) ({ frames := 6, cells := 0, slots := 0, locals := 146 })).room s m ([.ref (ead E 2000), .int a1, .int a2] : List Value).toArray below meth c s.heap [] 0 0) = W p l e (headSpec (.code yX7_together cX7_together 5 (some .long) :: BIG) ({ frames := 6, cells := 0, slots := 0, locals := 146 })).room s m ([.ref (ead E 2000), .int a1, .int a2] : List Value).toArray below meth c H locs 0 0 by rw [hH, hlocs]]
  have hV : va_S (eA E) s.heap H locs := by rw [hH, hlocs]; exact hV
  have hW : Wd E μ s H := by rw [hH]; exact hW
  unfold f_X7_together at hf
  refine lv_iload_n hx hb dX7_together_0 rfl (lv_at hl 1 rfl) ?_
  refine lv_if_lt (tgt := 23) hx hb dX7_together_1 (by decide) (fun y14 => ?_) (fun y14 => ?_)
  · have hf := op_t y14 hf
    refine lv_ldc2 (v := (-9223372036854775808 : Int64)) hx hb hown (hB _ q_f4fad641) dX7_together_23 ?_
    exact w_retL hx hb hr hlocks hW hV (Prod.mk.inj (Option.some.inj hf)).1 (Prod.mk.inj (Option.some.inj hf)).2 dX7_together_26
  · have hf := op_f y14 hf
    refine lv_iload_n hx hb dX7_together_4 rfl (lv_at hl 1 rfl) ?_
    refine lv_iconst (v := (1 : Int32)) hx hb dX7_together_5 (by decide) ?_
    refine lv_aload_n hx hb dX7_together_6 rfl (lv_at hl 0 rfl) ?_
    refine gf_RX7_108 hx hb hB hown hW dX7_together_7 ?_
    refine lv_ishl hx hb dX7_together_10 ?_
    refine lv_icmp_ge (tgt := 23) hx hb dX7_together_11 (by decide) (fun y15 => ?_) (fun y15 => ?_)
    · have hf := op_t y15 hf
      refine lv_ldc2 (v := (-9223372036854775808 : Int64)) hx hb hown (hB _ q_f4fad641) dX7_together_23 ?_
      exact w_retL hx hb hr hlocks hW hV (Prod.mk.inj (Option.some.inj hf)).1 (Prod.mk.inj (Option.some.inj hf)).2 dX7_together_26
    · have hf := op_f y15 hf
      refine lv_iload_n hx hb dX7_together_14 rfl (lv_at hl 2 rfl) ?_
      refine lv_iconst (v := (0 : Int32)) hx hb dX7_together_15 (by decide) ?_
      refine lv_iconst (v := (1 : Int32)) hx hb dX7_together_16 (by decide) ?_
      obtain ⟨v16, e_17, hf⟩ := op_none hf
      refine w_callN (rn_RX7_111 (As := [.int a2, .int (0 : Int32), .int (1 : Int32)]) hx hb hml hown hB hW hZ hV (k_X7_within l E _ a2 (0 : Int32) (1 : Int32) v16 e_17) rfl rfl ⟨(Nat.le_of_ble_eq_true rfl), (Nat.le_of_ble_eq_true rfl)⟩ rfl hl.1 rfl (Nat.le_of_ble_eq_true rfl) dX7_together_17 ⟨Nat.le_refl _, Nat.le_refl _⟩) hV (fun H locs hn_v16 hW hV => ?_)
      refine lv_if_ne (tgt := 27) hx hb dX7_together_20 (by decide) (fun y18 => ?_) (fun y18 => ?_)
      · have hf := op_f y18 hf
        refine lv_aload_n hx hb dX7_together_27 rfl (lv_at hl 0 rfl) ?_
        refine lv_iload_n hx hb dX7_together_28 rfl (lv_at hl 1 rfl) ?_
        obtain ⟨p22, e_21, hf⟩ := op_none hf
        refine w_callL (rn_RX7_277 (As := [.int a1]) hx hb hml hown hB hW hZ hV (k_X7_first l E _ a1 p22.1 p22.2 e_21) rfl rfl ⟨(Nat.le_of_ble_eq_true rfl), (Nat.le_of_ble_eq_true rfl)⟩ (w_rec hW oM.1 (oM.2 E _ _) rfl) rfl hl.1 rfl (Nat.le_of_ble_eq_true rfl) dX7_together_29 ⟨Nat.le_refl _, Nat.le_refl _⟩) hV (fun H locs hW hV => ?_)
        refine lv_lstore_n (i := 3) (lv' := [(3, .long p22.1), (0, .ref (ead E 2000)), (1, .int a1), (2, .int a2)]) hx hb dX7_together_32 rfl hl (by decide) rfl (fun ls hl => ?_)
        refine lv_lload_n hx hb dX7_together_33 rfl (lv_at hl 0 rfl) ?_
        refine lv_lconst (v := (0 : Int64)) hx hb dX7_together_34 (by decide) ?_
        refine W.lcmp hx hb dX7_together_35 ?_
        refine lv_if_ge (tgt := 45) hx hb dX7_together_36 (by decide) (fun y23 => ?_) (fun y23 => ?_)
        · have hf := op_t y23 hf
          refine lv_iload_n hx hb dX7_together_45 rfl (lv_at hl 3 rfl) ?_
          refine lv_if_ne (tgt := 59) hx hb dX7_together_46 (by decide) (fun y24 => ?_) (fun y24 => ?_)
          · have hf := op_f y24 hf
            refine lv_aload_n hx hb dX7_together_59 rfl (lv_at hl 1 rfl) ?_
            refine lv_iload_n hx hb dX7_together_60 rfl (lv_at hl 2 rfl) ?_
            obtain ⟨v25, e_26, hf⟩ := op_none hf
            refine w_callL (rn_RX7_281 (As := [.int a1]) hx hb hml hown hB hW hZ hV (k_X7_common l E _ a1 v25 e_26) rfl rfl ⟨(Nat.le_of_ble_eq_true rfl), (Nat.le_of_ble_eq_true rfl)⟩ (w_rec hW oM.1 (oM.2 E _ _) rfl) rfl hl.1 rfl (Nat.le_of_ble_eq_true rfl) dX7_together_61 ⟨Nat.le_refl _, Nat.le_refl _⟩) hV (fun H locs hW hV => ?_)
            exact w_retL hx hb hr hlocks hW hV (Prod.mk.inj (Option.some.inj hf)).1 (Prod.mk.inj (Option.some.inj hf)).2 dX7_together_64
          · have hf := op_t y24 hf
            refine lv_aload_n hx hb dX7_together_49 rfl (lv_at hl 1 rfl) ?_
            refine gf_RX7_229 hx hb hB hown hW dX7_together_50 ?_
            refine lv_i2l hx hb dX7_together_53 rfl ?_
            refine lv_lload_n hx hb dX7_together_54 rfl (lv_at hl 0 rfl) ?_
            refine lv_ladd hx hb dX7_together_55 ?_
            refine lv_goto (tgt := 64) hx hb dX7_together_56 (by decide) ?_
            exact w_retL hx hb hr hlocks hW hV (Prod.mk.inj (Option.some.inj hf)).1 (Prod.mk.inj (Option.some.inj hf)).2 dX7_together_64
        · have hf := op_f y23 hf
          refine lv_ldc2 (v := (-5 : Int64)) hx hb hown (hB _ q_d5abff3b) dX7_together_39 ?_
          refine lv_goto (tgt := 64) hx hb dX7_together_42 (by decide) ?_
          exact w_retL hx hb hr hlocks hW hV (Prod.mk.inj (Option.some.inj hf)).1 (Prod.mk.inj (Option.some.inj hf)).2 dX7_together_64
      · have hf := op_t y18 hf
        refine lv_ldc2 (v := (-9223372036854775808 : Int64)) hx hb hown (hB _ q_f4fad641) dX7_together_23 ?_
        exact w_retL hx hb hr hlocks hW hV (Prod.mk.inj (Option.some.inj hf)).1 (Prod.mk.inj (Option.some.inj hf)).2 dX7_together_26
set_option maxHeartbeats 8000000 in
set_option maxRecDepth 100000 in
theorem k_X7_busy (l : Launch) (E : WE) (μ : Mem) (a1 : Int32) (a2 : Int32) (r : Int32) (μ' : Mem) (hf : f_X7_busy μ a1 a2 = some (r, μ')) : Met l yX7_busy (.code yX7_busy cX7_busy 8 (some .int) :: BIG) ({ frames := 7, cells := 0, slots := 0, locals := 164 }) (PW E μ [.ref (ead E 2000), .int a1, .int a2]) (QI E r μ') 0 0 (eA E) := by
  refine Met.ofW (cc := cX7_busy) (maxL := 8) (ret := (some .int)) (by decide) rfl ?_
  intro p e s m args below meth c s₁ B hml hv
  obtain ⟨rfl, hW, hZ⟩ := hv
  have hx := B.exec
  have hb := B.bytes
  have hr := B.returns
  have hB : ∀ w ∈ BIG, w.before _ s = true := fun w h => atoms_spec (ws := (.code yX7_busy cX7_busy 8 (some .int) :: BIG)) B.pre w (List.mem_cons_of_mem _ h)
  have hown : s.vm.findClass RX7 = some m.cls := findClass_of_methodNamed B.named
  have hlocks := B.notSynchronized
  have hV : va_S (eA E) s.heap s.heap [] := va_S.rf
  have hl := lv_entry ([.ref (ead E 2000), .int a1, .int a2]) (n := 8) (Nat.le_of_ble_eq_true rfl)
  rw [lg_entry_eq]
  generalize (lg_sl ([.ref (ead E 2000), .int a1, .int a2]) ++ List.replicate (8 - (lg_sl ([.ref (ead E 2000), .int a1, .int a2])).length) Slot.unset).toArray = ls at hl ⊢
  have hl : lv_has ls 8 [(0, .ref (ead E 2000)), (1, .int a1), (2, .int a2)] := hl
  have c_35 : ∀ (n_35 : Nat) (μ_35 : Mem) (b1_35 : Int32) (b2_35 : Int32) (b3_35 : Int32) (b4_35 : Int32) (b5_35 : Int32) (b6_35 : Int32) , f_X7_busy_35 n_35 μ_35 b1_35 b2_35 b3_35 b4_35 b5_35 b6_35 = some (r, μ') → ∀ (H : Heap) (locs : List Loc) (ls : Array Slot), Wd E μ_35 s H → va_S (eA E) s.heap H locs → lv_has ls 8 [(0, .ref (ead E 2000)), (1, .int b1_35), (2, .int b2_35), (3, .int b3_35), (4, .int b4_35), (5, .int b5_35), (6, .int b6_35)] → W p l e (headSpec (.code yX7_busy cX7_busy 8 (some .int) :: BIG) ({ frames := 7, cells := 0, slots := 0, locals := 164 })).room s m ([.ref (ead E 2000), .int a1, .int a2] : List Value).toArray below meth c H locs 0 0 (MQ below (QI E r μ') ([.ref (ead E 2000), .int a1, .int a2] : List Value).toArray s 0 0 (eA E)) (F0 m 35 ls []) := by
    intro n_35
    induction n_35 with
    | zero =>
      intro μ_35 b1_35 b2_35 b3_35 b4_35 b5_35 b6_35 hf H locs ls hW hV hl
      cases hf
    | succ n_35 ih_35 =>
      have c_96 : ∀ (μ_96 : Mem) (b1_96 : Int32) (b2_96 : Int32) (b3_96 : Int32) (b4_96 : Int32) (b5_96 : Int32) (b6_96 : Int32) , f_X7_busy_96 (fun μ z0 z1 z2 z3 z4 z5 => f_X7_busy_35 n_35 μ z0 z1 z2 z3 z4 z5) μ_96 b1_96 b2_96 b3_96 b4_96 b5_96 b6_96 = some (r, μ') → ∀ (H : Heap) (locs : List Loc) (ls : Array Slot), Wd E μ_96 s H → va_S (eA E) s.heap H locs → lv_has ls 8 [(0, .ref (ead E 2000)), (1, .int b1_96), (2, .int b2_96), (3, .int b3_96), (4, .int b4_96), (5, .int b5_96), (6, .int b6_96)] → W p l e (headSpec (.code yX7_busy cX7_busy 8 (some .int) :: BIG) ({ frames := 7, cells := 0, slots := 0, locals := 164 })).room s m ([.ref (ead E 2000), .int a1, .int a2] : List Value).toArray below meth c H locs 0 0 (MQ below (QI E r μ') ([.ref (ead E 2000), .int a1, .int a2] : List Value).toArray s 0 0 (eA E)) (F0 m 96 ls []) := by
        intro μ_96 b1_96 b2_96 b3_96 b4_96 b5_96 b6_96 hf H locs ls hW hV hl
        unfold f_X7_busy_96 at hf
        obtain ⟨v21, e_v21, hf⟩ := op_none hf
        refine lv_iinc (v := v21) (lv' := [(6, .int v21), (0, .ref (ead E 2000)), (1, .int b1_96), (2, .int b2_96), (3, .int b3_96), (4, .int b4_96), (5, .int b5_96)]) hx hb dX7_busy_96 hl (k := 6) rfl (by rw [← Option.some.inj e_v21]; rfl) (by decide) rfl (fun ls hl => ?_)
        refine lv_goto (tgt := 35) hx hb dX7_busy_99 (by decide) ?_
        exact ih_35 μ_96 b1_96 b2_96 b3_96 b4_96 b5_96 v21 hf H locs ls hW hV (lv_sub hl [1, 2, 3, 4, 5, 6, 0] rfl)
      have c_79 : ∀ (μ_79 : Mem) (b1_79 : Int32) (b2_79 : Int32) (b3_79 : Int32) (b4_79 : Int32) (b5_79 : Int32) (b6_79 : Int32) (b7_79 : Int32) , f_X7_busy_79 (fun μ z0 z1 z2 z3 z4 z5 => f_X7_busy_35 n_35 μ z0 z1 z2 z3 z4 z5) μ_79 b1_79 b2_79 b3_79 b4_79 b5_79 b6_79 b7_79 = some (r, μ') → ∀ (H : Heap) (locs : List Loc) (ls : Array Slot), Wd E μ_79 s H → va_S (eA E) s.heap H locs → lv_has ls 8 [(0, .ref (ead E 2000)), (1, .int b1_79), (2, .int b2_79), (3, .int b3_79), (4, .int b4_79), (5, .int b5_79), (6, .int b6_79), (7, .int b7_79)] → W p l e (headSpec (.code yX7_busy cX7_busy 8 (some .int) :: BIG) ({ frames := 7, cells := 0, slots := 0, locals := 164 })).room s m ([.ref (ead E 2000), .int a1, .int a2] : List Value).toArray below meth c H locs 0 0 (MQ below (QI E r μ') ([.ref (ead E 2000), .int a1, .int a2] : List Value).toArray s 0 0 (eA E)) (F0 m 79 ls []) := by
        intro μ_79 b1_79 b2_79 b3_79 b4_79 b5_79 b6_79 b7_79 hf H locs ls hW hV hl
        unfold f_X7_busy_79 at hf
        refine lv_iload hx hb dX7_busy_79 (lv_at hl 7 rfl) ?_
        refine lv_iload hx hb dX7_busy_81 (lv_at hl 4 rfl) ?_
        refine lv_icmp_gt (tgt := 89) hx hb dX7_busy_83 (by decide) (fun y22 => ?_) (fun y22 => ?_)
        · have hf := op_t y22 hf
          refine lv_iload hx hb dX7_busy_89 (lv_at hl 7 rfl) ?_
          refine lv_istore (i := 4) (lv' := [(4, .int b7_79), (0, .ref (ead E 2000)), (1, .int b1_79), (2, .int b2_79), (3, .int b3_79), (5, .int b5_79), (6, .int b6_79), (7, .int b7_79)]) hx hb dX7_busy_91 hl (by decide) rfl (fun ls hl => ?_)
          refine lv_iload hx hb dX7_busy_93 (lv_at hl 6 rfl) ?_
          refine lv_istore_n (i := 3) (lv' := [(3, .int b6_79), (4, .int b7_79), (0, .ref (ead E 2000)), (1, .int b1_79), (2, .int b2_79), (5, .int b5_79), (6, .int b6_79), (7, .int b7_79)]) hx hb dX7_busy_95 rfl hl (by decide) rfl (fun ls hl => ?_)
          exact c_96 μ_79 b1_79 b2_79 b6_79 b7_79 b5_79 b6_79 hf H locs ls hW hV (lv_sub hl [2, 3, 4, 0, 1, 5, 6] rfl)
        · have hf := op_f y22 hf
          refine lv_goto (tgt := 96) hx hb dX7_busy_86 (by decide) ?_
          exact c_96 μ_79 b1_79 b2_79 b3_79 b4_79 b5_79 b6_79 hf H locs ls hW hV (lv_sub hl [0, 1, 2, 3, 4, 5, 6] rfl)
      intro μ_35 b1_35 b2_35 b3_35 b4_35 b5_35 b6_35 hf H locs ls hW hV hl
      rw [f_X7_busy_35] at hf
      refine lv_iload hx hb dX7_busy_35 (lv_at hl 6 rfl) ?_
      refine lv_iload_n hx hb dX7_busy_37 rfl (lv_at hl 1 rfl) ?_
      refine lv_icmp_ge (tgt := 102) hx hb dX7_busy_38 (by decide) (fun y23 => ?_) (fun y23 => ?_)
      · have hf := op_t y23 hf
        refine lv_iload_n hx hb dX7_busy_102 rfl (lv_at hl 2 rfl) ?_
        refine lv_if_ne (tgt := 110) hx hb dX7_busy_103 (by decide) (fun y24 => ?_) (fun y24 => ?_)
        · have hf := op_f y24 hf
          refine lv_iload_n hx hb dX7_busy_110 rfl (lv_at hl 2 rfl) ?_
          refine lv_iconst (v := (1 : Int32)) hx hb dX7_busy_111 (by decide) ?_
          refine lv_icmp_ne (tgt := 120) hx hb dX7_busy_112 (by decide) (fun y25 => ?_) (fun y25 => ?_)
          · have hf := op_f y25 hf
            refine lv_iload hx hb dX7_busy_120 (lv_at hl 5 rfl) ?_
            exact w_retI hx hb hr hlocks hW hV (Prod.mk.inj (Option.some.inj hf)).1 (Prod.mk.inj (Option.some.inj hf)).2 dX7_busy_122
          · have hf := op_t y25 hf
            refine lv_iload hx hb dX7_busy_115 (lv_at hl 4 rfl) ?_
            refine lv_goto (tgt := 122) hx hb dX7_busy_117 (by decide) ?_
            exact w_retI hx hb hr hlocks hW hV (Prod.mk.inj (Option.some.inj hf)).1 (Prod.mk.inj (Option.some.inj hf)).2 dX7_busy_122
        · have hf := op_t y24 hf
          refine lv_iload_n hx hb dX7_busy_106 rfl (lv_at hl 3 rfl) ?_
          refine lv_goto (tgt := 122) hx hb dX7_busy_107 (by decide) ?_
          exact w_retI hx hb hr hlocks hW hV (Prod.mk.inj (Option.some.inj hf)).1 (Prod.mk.inj (Option.some.inj hf)).2 dX7_busy_122
      · have hf := op_f y23 hf
        refine lv_aload_n hx hb dX7_busy_41 rfl (lv_at hl 0 rfl) ?_
        refine lv_aload_n hx hb dX7_busy_42 rfl (lv_at hl 0 rfl) ?_
        refine gf_RX7_229 hx hb hB hown hW dX7_busy_43 ?_
        refine lv_iload hx hb dX7_busy_46 (lv_at hl 6 rfl) ?_
        refine lv_iadd hx hb dX7_busy_48 ?_
        obtain ⟨p29, e_28, hf⟩ := op_none hf
        refine w_callI (rn_RX7_235 (As := [.int ((gI μ_35 2000 10) + b6_35)]) hx hb hml hown hB hW hZ hV (k_X7_goOff l E _ ((gI μ_35 2000 10) + b6_35) p29.1 p29.2 e_28) rfl rfl ⟨(Nat.le_of_ble_eq_true rfl), (Nat.le_of_ble_eq_true rfl)⟩ (w_rec hW oM.1 (oM.2 E _ _) rfl) rfl hl.1 rfl (Nat.le_of_ble_eq_true rfl) dX7_busy_49 ⟨Nat.le_refl _, Nat.le_refl _⟩) hV (fun H locs hW hV => ?_)
        obtain ⟨v30, e_31, hf⟩ := op_none hf
        refine w_callI (rn_RX7_284 (As := [.int p29.1]) hx hb hml hown hB hW hZ hV (k_J6_bitCount_0f7a4 l E _ p29.1 v30 e_31) rfl rfl ⟨(Nat.le_of_ble_eq_true rfl), (Nat.le_of_ble_eq_true rfl)⟩ rfl hl.1 rfl (Nat.le_of_ble_eq_true rfl) dX7_busy_52 ⟨Nat.le_refl _, Nat.le_refl _⟩) hV (fun H locs hW hV => ?_)
        refine lv_istore (i := 7) (lv' := [(7, .int v30), (0, .ref (ead E 2000)), (1, .int b1_35), (2, .int b2_35), (3, .int b3_35), (4, .int b4_35), (5, .int b5_35), (6, .int b6_35)]) hx hb dX7_busy_55 hl (by decide) rfl (fun ls hl => ?_)
        refine lv_iload hx hb dX7_busy_57 (lv_at hl 0 rfl) ?_
        refine lv_if_le (tgt := 79) hx hb dX7_busy_59 (by decide) (fun y32 => ?_) (fun y32 => ?_)
        · have hf := op_t y32 hf
          exact c_79 p29.2 b1_35 b2_35 b3_35 b4_35 b5_35 b6_35 v30 hf H locs ls hW hV (lv_sub hl [1, 2, 3, 4, 5, 6, 7, 0] rfl)
        · have hf := op_f y32 hf
          refine lv_iload hx hb dX7_busy_62 (lv_at hl 6 rfl) ?_
          refine lv_iconst (v := (1 : Int32)) hx hb dX7_busy_64 (by decide) ?_
          refine lv_aload_n hx hb dX7_busy_65 rfl (lv_at hl 1 rfl) ?_
          refine gf_RX7_229 hx hb hB hown hW dX7_busy_66 ?_
          refine lv_iload hx hb dX7_busy_69 (lv_at hl 7 rfl) ?_
          refine lv_iadd hx hb dX7_busy_71 ?_
          refine lv_bipush (v := (7 : Int32)) hx hb dX7_busy_72 (by decide) ?_
          obtain ⟨v33, e_v33, hf⟩ := op_none hf
          refine w_irem hx hb e_v33 dX7_busy_74 ?_
          refine lv_ishl hx hb dX7_busy_75 ?_
          refine lv_ior hx hb dX7_busy_76 ?_
          obtain ⟨v34, e_v34, hf⟩ := op_none hf
          refine lv_top' (Option.some.inj e_v34) ?_
          refine lv_istore (i := 5) (lv' := [(5, .int v34), (7, .int v30), (0, .ref (ead E 2000)), (1, .int b1_35), (2, .int b2_35), (3, .int b3_35), (4, .int b4_35), (6, .int b6_35)]) hx hb dX7_busy_77 hl (by decide) rfl (fun ls hl => ?_)
          exact c_79 p29.2 b1_35 b2_35 b3_35 b4_35 v34 b6_35 v30 hf H locs ls hW hV (lv_sub hl [2, 3, 4, 5, 6, 0, 7, 1] rfl)
  obtain ⟨H, hH⟩ : ∃ H : Heap, H = s.heap := ⟨_, rfl⟩
  obtain ⟨locs, hlocs⟩ : ∃ locs : List Loc, locs = [] := ⟨_, rfl⟩
  rw [show (W p l e (headSpec (.code yX7_busy cX7_busy 8 (some .int) :: BIG) ({ frames := 7, cells := 0, slots := 0, locals := 164 })).room s m ([.ref (ead E 2000), .int a1, .int a2] : List Value).toArray below meth c s.heap [] 0 0) = W p l e (headSpec (.code yX7_busy cX7_busy 8 (some .int) :: BIG) ({ frames := 7, cells := 0, slots := 0, locals := 164 })).room s m ([.ref (ead E 2000), .int a1, .int a2] : List Value).toArray below meth c H locs 0 0 by rw [hH, hlocs]]
  have hV : va_S (eA E) s.heap H locs := by rw [hH, hlocs]; exact hV
  have hW : Wd E μ s H := by rw [hH]; exact hW
  unfold f_X7_busy at hf
  refine lv_iload_n hx hb dX7_busy_0 rfl (lv_at hl 2 rfl) ?_
  refine lv_iconst (v := (0 : Int32)) hx hb dX7_busy_1 (by decide) ?_
  refine lv_iconst (v := (2 : Int32)) hx hb dX7_busy_2 (by decide) ?_
  obtain ⟨v35, e_36, hf⟩ := op_none hf
  refine w_callN (rn_RX7_111 (As := [.int a2, .int (0 : Int32), .int (2 : Int32)]) hx hb hml hown hB hW hZ hV (k_X7_within l E _ a2 (0 : Int32) (2 : Int32) v35 e_36) rfl rfl ⟨(Nat.le_of_ble_eq_true rfl), (Nat.le_of_ble_eq_true rfl)⟩ rfl hl.1 rfl (Nat.le_of_ble_eq_true rfl) dX7_busy_3 ⟨Nat.le_refl _, Nat.le_refl _⟩) hV (fun H locs hn_v35 hW hV => ?_)
  refine lv_if_ne (tgt := 11) hx hb dX7_busy_6 (by decide) (fun y37 => ?_) (fun y37 => ?_)
  · have hf := op_f y37 hf
    refine lv_iload_n hx hb dX7_busy_11 rfl (lv_at hl 1 rfl) ?_
    refine lv_iconst (v := (1 : Int32)) hx hb dX7_busy_12 (by decide) ?_
    refine lv_bipush (v := (60 : Int32)) hx hb dX7_busy_13 (by decide) ?_
    obtain ⟨v38, e_39, hf⟩ := op_none hf
    refine w_callN (rn_RX7_111 (As := [.int a1, .int (1 : Int32), .int (60 : Int32)]) hx hb hml hown hB hW hZ hV (k_X7_within l E _ a1 (1 : Int32) (60 : Int32) v38 e_39) rfl rfl ⟨(Nat.le_of_ble_eq_true rfl), (Nat.le_of_ble_eq_true rfl)⟩ rfl hl.1 rfl (Nat.le_of_ble_eq_true rfl) dX7_busy_15 ⟨Nat.le_refl _, Nat.le_refl _⟩) hV (fun H locs hn_v38 hW hV => ?_)
    refine lv_if_ne (tgt := 24) hx hb dX7_busy_18 (by decide) (fun y40 => ?_) (fun y40 => ?_)
    · have hf := op_f y40 hf
      refine lv_iconst (v := (0 : Int32)) hx hb dX7_busy_24 (by decide) ?_
      refine lv_istore_n (i := 3) (lv' := [(3, .int (0 : Int32)), (0, .ref (ead E 2000)), (1, .int a1), (2, .int a2)]) hx hb dX7_busy_25 rfl hl (by decide) rfl (fun ls hl => ?_)
      refine lv_iconst (v := (-1 : Int32)) hx hb dX7_busy_26 (by decide) ?_
      refine lv_istore (i := 4) (lv' := [(4, .int (-1 : Int32)), (3, .int (0 : Int32)), (0, .ref (ead E 2000)), (1, .int a1), (2, .int a2)]) hx hb dX7_busy_27 hl (by decide) rfl (fun ls hl => ?_)
      refine lv_iconst (v := (0 : Int32)) hx hb dX7_busy_29 (by decide) ?_
      refine lv_istore (i := 5) (lv' := [(5, .int (0 : Int32)), (4, .int (-1 : Int32)), (3, .int (0 : Int32)), (0, .ref (ead E 2000)), (1, .int a1), (2, .int a2)]) hx hb dX7_busy_30 hl (by decide) rfl (fun ls hl => ?_)
      refine lv_iconst (v := (0 : Int32)) hx hb dX7_busy_32 (by decide) ?_
      refine lv_istore (i := 6) (lv' := [(6, .int (0 : Int32)), (5, .int (0 : Int32)), (4, .int (-1 : Int32)), (3, .int (0 : Int32)), (0, .ref (ead E 2000)), (1, .int a1), (2, .int a2)]) hx hb dX7_busy_33 hl (by decide) rfl (fun ls hl => ?_)
      exact c_35 FU μ a1 a2 (0 : Int32) (-1 : Int32) (0 : Int32) (0 : Int32) hf H locs ls hW hV (lv_sub hl [4, 5, 6, 3, 2, 1, 0] rfl)
    · have hf := op_t y40 hf
      refine lv_bipush (v := (-2 : Int32)) hx hb dX7_busy_21 (by decide) ?_
      exact w_retI hx hb hr hlocks hW hV (Prod.mk.inj (Option.some.inj hf)).1 (Prod.mk.inj (Option.some.inj hf)).2 dX7_busy_23
  · have hf := op_t y37 hf
    refine lv_iconst (v := (-1 : Int32)) hx hb dX7_busy_9 (by decide) ?_
    exact w_retI hx hb hr hlocks hW hV (Prod.mk.inj (Option.some.inj hf)).1 (Prod.mk.inj (Option.some.inj hf)).2 dX7_busy_10
set_option maxHeartbeats 8000000 in
set_option maxRecDepth 100000 in
theorem k_X7_hear (l : Launch) (E : WE) (μ : Mem) (a1 : Int32) (a2 : Int32) (a3 : Int32) (r : Int32) (μ' : Mem) (hf : f_X7_hear μ a1 a2 a3 = some (r, μ')) : Met l yX7_hear (.code yX7_hear cX7_hear 4 (some .int) :: BIG) ({ frames := 2, cells := 0, slots := 0, locals := 43 }) (PW E μ [.ref (ead E 2000), .int a1, .int a2, .int a3]) (QI E r μ') 0 0 (eA E) := by
  refine Met.ofW (cc := cX7_hear) (maxL := 4) (ret := (some .int)) (by decide) rfl ?_
  intro p e s m args below meth c s₁ B hml hv
  obtain ⟨rfl, hW, hZ⟩ := hv
  have hx := B.exec
  have hb := B.bytes
  have hr := B.returns
  have hB : ∀ w ∈ BIG, w.before _ s = true := fun w h => atoms_spec (ws := (.code yX7_hear cX7_hear 4 (some .int) :: BIG)) B.pre w (List.mem_cons_of_mem _ h)
  have hown : s.vm.findClass RX7 = some m.cls := findClass_of_methodNamed B.named
  have hlocks := B.notSynchronized
  have hV : va_S (eA E) s.heap s.heap [] := va_S.rf
  have hl := lv_entry ([.ref (ead E 2000), .int a1, .int a2, .int a3]) (n := 4) (Nat.le_of_ble_eq_true rfl)
  rw [lg_entry_eq]
  generalize (lg_sl ([.ref (ead E 2000), .int a1, .int a2, .int a3]) ++ List.replicate (4 - (lg_sl ([.ref (ead E 2000), .int a1, .int a2, .int a3])).length) Slot.unset).toArray = ls at hl ⊢
  have hl : lv_has ls 4 [(0, .ref (ead E 2000)), (1, .int a1), (2, .int a2), (3, .int a3)] := hl
  have c_91 : ∀ (μ_91 : Mem) (s0_91 : Int32) (s1_91 : Int32) , f_X7_hear_91 μ_91 s0_91 s1_91 = some (r, μ') → ∀ (H : Heap) (locs : List Loc) (ls : Array Slot), Wd E μ_91 s H → va_S (eA E) s.heap H locs → lv_has ls 4 [(0, .ref (ead E 2000))] → W p l e (headSpec (.code yX7_hear cX7_hear 4 (some .int) :: BIG) ({ frames := 2, cells := 0, slots := 0, locals := 43 })).room s m ([.ref (ead E 2000), .int a1, .int a2, .int a3] : List Value).toArray below meth c H locs 0 0 (MQ below (QI E r μ') ([.ref (ead E 2000), .int a1, .int a2, .int a3] : List Value).toArray s 0 0 (eA E)) (F0 m 91 ls [.int s0_91, .int s1_91, .ref (ead E 2030)]) := by
    intro μ_91 s0_91 s1_91 hf H locs ls hW hV hl
    unfold f_X7_hear_91 at hf
    obtain ⟨μ16, e_μ16, hf⟩ := op_none hf
    refine w_iast hx hb hW hV iM30.1 (fun f => iM30.2 E f _) e_μ16 dX7_hear_91 (fun H locs hW hV => ?_)
    refine lv_aload_n hx hb dX7_hear_92 rfl (lv_at hl 0 rfl) ?_
    refine gf_RX7_289 hx hb hB hown hW dX7_hear_93 ?_
    exact w_retI hx hb hr hlocks hW hV (Prod.mk.inj (Option.some.inj hf)).1 (Prod.mk.inj (Option.some.inj hf)).2 dX7_hear_96
  obtain ⟨H, hH⟩ : ∃ H : Heap, H = s.heap := ⟨_, rfl⟩
  obtain ⟨locs, hlocs⟩ : ∃ locs : List Loc, locs = [] := ⟨_, rfl⟩
  rw [show (W p l e (headSpec (.code yX7_hear cX7_hear 4 (some .int) :: BIG) ({ frames := 2, cells := 0, slots := 0, locals := 43 })).room s m ([.ref (ead E 2000), .int a1, .int a2, .int a3] : List Value).toArray below meth c s.heap [] 0 0) = W p l e (headSpec (.code yX7_hear cX7_hear 4 (some .int) :: BIG) ({ frames := 2, cells := 0, slots := 0, locals := 43 })).room s m ([.ref (ead E 2000), .int a1, .int a2, .int a3] : List Value).toArray below meth c H locs 0 0 by rw [hH, hlocs]]
  have hV : va_S (eA E) s.heap H locs := by rw [hH, hlocs]; exact hV
  have hW : Wd E μ s H := by rw [hH]; exact hW
  unfold f_X7_hear at hf
  refine lv_iload_n hx hb dX7_hear_0 rfl (lv_at hl 1 rfl) ?_
  refine lv_iconst (v := (-1 : Int32)) hx hb dX7_hear_1 (by decide) ?_
  refine lv_icmp_ne (tgt := 12) hx hb dX7_hear_2 (by decide) (fun y17 => ?_) (fun y17 => ?_)
  · have hf := op_f y17 hf
    refine lv_aload_n hx hb dX7_hear_12 rfl (lv_at hl 0 rfl) ?_
    refine lv_iload_n hx hb dX7_hear_13 rfl (lv_at hl 1 rfl) ?_
    obtain ⟨v18, e_19, hf⟩ := op_none hf
    refine w_callN (rn_RX7_115 (As := [.int a1]) hx hb hml hown hB hW hZ hV (k_X7_isOne l E _ a1 v18 e_19) rfl rfl ⟨(Nat.le_of_ble_eq_true rfl), (Nat.le_of_ble_eq_true rfl)⟩ (w_rec hW oM.1 (oM.2 E _ _) rfl) rfl hl.1 rfl (Nat.le_of_ble_eq_true rfl) dX7_hear_14 ⟨Nat.le_refl _, Nat.le_refl _⟩) hV (fun H locs hn_v18 hW hV => ?_)
    refine lv_if_ne (tgt := 22) hx hb dX7_hear_17 (by decide) (fun y20 => ?_) (fun y20 => ?_)
    · have hf := op_f y20 hf
      refine lv_iload_n hx hb dX7_hear_22 rfl (lv_at hl 2 rfl) ?_
      refine lv_iconst (v := (0 : Int32)) hx hb dX7_hear_23 (by decide) ?_
      refine lv_bipush (v := (60 : Int32)) hx hb dX7_hear_24 (by decide) ?_
      obtain ⟨v21, e_22, hf⟩ := op_none hf
      refine w_callN (rn_RX7_111 (As := [.int a2, .int (0 : Int32), .int (60 : Int32)]) hx hb hml hown hB hW hZ hV (k_X7_within l E _ a2 (0 : Int32) (60 : Int32) v21 e_22) rfl rfl ⟨(Nat.le_of_ble_eq_true rfl), (Nat.le_of_ble_eq_true rfl)⟩ rfl hl.1 rfl (Nat.le_of_ble_eq_true rfl) dX7_hear_26 ⟨Nat.le_refl _, Nat.le_refl _⟩) hV (fun H locs hn_v21 hW hV => ?_)
      refine lv_if_ne (tgt := 35) hx hb dX7_hear_29 (by decide) (fun y23 => ?_) (fun y23 => ?_)
      · have hf := op_f y23 hf
        refine lv_aload_n hx hb dX7_hear_35 rfl (lv_at hl 0 rfl) ?_
        refine gf_RX7_289 hx hb hB hown hW dX7_hear_36 ?_
        refine lv_bipush (v := (6 : Int32)) hx hb dX7_hear_39 (by decide) ?_
        refine lv_icmp_ne (tgt := 47) hx hb dX7_hear_41 (by decide) (fun y24 => ?_) (fun y24 => ?_)
        · have hf := op_f y24 hf
          refine lv_aload_n hx hb dX7_hear_47 rfl (lv_at hl 0 rfl) ?_
          refine gf_RX7_61 hx hb hB hown hW dX7_hear_48 ?_
          refine lv_aload_n hx hb dX7_hear_51 rfl (lv_at hl 0 rfl) ?_
          refine gf_RX7_289 hx hb hB hown hW dX7_hear_52 ?_
          refine lv_iload_n hx hb dX7_hear_55 rfl (lv_at hl 1 rfl) ?_
          obtain ⟨μ25, e_μ25, hf⟩ := op_none hf
          refine w_iast hx hb hW hV iM28.1 (fun f => iM28.2 E f _) e_μ25 dX7_hear_56 (fun H locs hW hV => ?_)
          refine lv_aload_n hx hb dX7_hear_57 rfl (lv_at hl 0 rfl) ?_
          refine gf_RX7_64 hx hb hB hown hW dX7_hear_58 ?_
          refine lv_aload_n hx hb dX7_hear_61 rfl (lv_at hl 0 rfl) ?_
          refine gf_RX7_289 hx hb hB hown hW dX7_hear_62 ?_
          refine lv_iload_n hx hb dX7_hear_65 rfl (lv_at hl 2 rfl) ?_
          obtain ⟨μ26, e_μ26, hf⟩ := op_none hf
          refine w_iast hx hb hW hV iM29.1 (fun f => iM29.2 E f _) e_μ26 dX7_hear_66 (fun H locs hW hV => ?_)
          refine lv_aload_n hx hb dX7_hear_67 rfl (lv_at hl 0 rfl) ?_
          refine gf_RX7_67 hx hb hB hown hW dX7_hear_68 ?_
          refine lv_aload_n hx hb dX7_hear_71 rfl (lv_at hl 0 rfl) ?_
          refine lv_dup hx hb dX7_hear_72 rfl ?_
          refine gf_RX7_289 hx hb hB hown hW dX7_hear_73 ?_
          obtain ⟨v27, e_v27, hf⟩ := op_none hf
          refine lv_top' (Option.some.inj e_v27) ?_
          refine lv_dup_x1 hx hb dX7_hear_76 rfl rfl ?_
          refine lv_iconst (v := (1 : Int32)) hx hb dX7_hear_77 (by decide) ?_
          refine lv_iadd hx hb dX7_hear_78 ?_
          obtain ⟨μ28, e_μ28, hf⟩ := op_none hf
          refine pf_RX7_289 hx hb hB hown hW hV dX7_hear_79 (fun H locs hW hV => ?_)
          rw [Option.some.inj e_μ28] at hW
          refine lv_iload_n hx hb dX7_hear_82 rfl (lv_at hl 3 rfl) ?_
          refine lv_if_eq (tgt := 90) hx hb dX7_hear_83 (by decide) (fun y29 => ?_) (fun y29 => ?_)
          · have hf := op_t y29 hf
            refine lv_iconst (v := (0 : Int32)) hx hb dX7_hear_90 (by decide) ?_
            exact c_91 μ28 (0 : Int32) v27 hf H locs ls hW hV (lv_sub hl [0] rfl)
          · have hf := op_f y29 hf
            refine lv_iconst (v := (1 : Int32)) hx hb dX7_hear_86 (by decide) ?_
            refine lv_goto (tgt := 91) hx hb dX7_hear_87 (by decide) ?_
            exact c_91 μ28 (1 : Int32) v27 hf H locs ls hW hV (lv_sub hl [0] rfl)
        · have hf := op_t y24 hf
          refine lv_bipush (v := (-4 : Int32)) hx hb dX7_hear_44 (by decide) ?_
          exact w_retI hx hb hr hlocks hW hV (Prod.mk.inj (Option.some.inj hf)).1 (Prod.mk.inj (Option.some.inj hf)).2 dX7_hear_46
      · have hf := op_t y23 hf
        refine lv_bipush (v := (-2 : Int32)) hx hb dX7_hear_32 (by decide) ?_
        exact w_retI hx hb hr hlocks hW hV (Prod.mk.inj (Option.some.inj hf)).1 (Prod.mk.inj (Option.some.inj hf)).2 dX7_hear_34
    · have hf := op_t y20 hf
      refine lv_iconst (v := (-1 : Int32)) hx hb dX7_hear_20 (by decide) ?_
      exact w_retI hx hb hr hlocks hW hV (Prod.mk.inj (Option.some.inj hf)).1 (Prod.mk.inj (Option.some.inj hf)).2 dX7_hear_21
  · have hf := op_t y17 hf
    refine lv_aload_n hx hb dX7_hear_5 rfl (lv_at hl 0 rfl) ?_
    refine lv_iconst (v := (0 : Int32)) hx hb dX7_hear_6 (by decide) ?_
    obtain ⟨μ30, e_μ30, hf⟩ := op_none hf
    refine pf_RX7_289 hx hb hB hown hW hV dX7_hear_7 (fun H locs hW hV => ?_)
    rw [Option.some.inj e_μ30] at hW
    refine lv_iconst (v := (0 : Int32)) hx hb dX7_hear_10 (by decide) ?_
    exact w_retI hx hb hr hlocks hW hV (Prod.mk.inj (Option.some.inj hf)).1 (Prod.mk.inj (Option.some.inj hf)).2 dX7_hear_11
set_option maxHeartbeats 8000000 in
set_option maxRecDepth 100000 in
theorem k_X7_isAllSo (l : Launch) (E : WE) (μ : Mem) (a1 : Int32) (r : Int32) (μ' : Mem) (hf : f_X7_isAllSo μ a1 = some (r, μ')) : Met l yX7_isAllSo (.code yX7_isAllSo cX7_isAllSo 3 (some .boolean) :: BIG) ({ frames := 5, cells := 0, slots := 0, locals := 119 }) (PW E μ [.ref (ead E 2000), .int a1]) (QN E .boolean r μ') 0 0 (eA E) := by
  refine Met.ofW (cc := cX7_isAllSo) (maxL := 3) (ret := (some .boolean)) (by decide) rfl ?_
  intro p e s m args below meth c s₁ B hml hv
  obtain ⟨rfl, hW, hZ⟩ := hv
  have hx := B.exec
  have hb := B.bytes
  have hr := B.returns
  have hB : ∀ w ∈ BIG, w.before _ s = true := fun w h => atoms_spec (ws := (.code yX7_isAllSo cX7_isAllSo 3 (some .boolean) :: BIG)) B.pre w (List.mem_cons_of_mem _ h)
  have hown : s.vm.findClass RX7 = some m.cls := findClass_of_methodNamed B.named
  have hlocks := B.notSynchronized
  have hV : va_S (eA E) s.heap s.heap [] := va_S.rf
  have hl := lv_entry ([.ref (ead E 2000), .int a1]) (n := 3) (Nat.le_of_ble_eq_true rfl)
  rw [lg_entry_eq]
  generalize (lg_sl ([.ref (ead E 2000), .int a1]) ++ List.replicate (3 - (lg_sl ([.ref (ead E 2000), .int a1])).length) Slot.unset).toArray = ls at hl ⊢
  have hl : lv_has ls 3 [(0, .ref (ead E 2000)), (1, .int a1)] := hl
  have c_2 : ∀ (n_2 : Nat) (μ_2 : Mem) (b1_2 : Int32) (b2_2 : Int32) , f_X7_isAllSo_2 n_2 μ_2 b1_2 b2_2 = some (r, μ') → ∀ (H : Heap) (locs : List Loc) (ls : Array Slot), Wd E μ_2 s H → va_S (eA E) s.heap H locs → lv_has ls 3 [(0, .ref (ead E 2000)), (1, .int b1_2), (2, .int b2_2)] → W p l e (headSpec (.code yX7_isAllSo cX7_isAllSo 3 (some .boolean) :: BIG) ({ frames := 5, cells := 0, slots := 0, locals := 119 })).room s m ([.ref (ead E 2000), .int a1] : List Value).toArray below meth c H locs 0 0 (MQ below (QN E .boolean r μ') ([.ref (ead E 2000), .int a1] : List Value).toArray s 0 0 (eA E)) (F0 m 2 ls []) := by
    intro n_2
    induction n_2 with
    | zero =>
      intro μ_2 b1_2 b2_2 hf H locs ls hW hV hl
      cases hf
    | succ n_2 ih_2 =>
      have c_56 : ∀ (μ_56 : Mem) (b1_56 : Int32) (b2_56 : Int32) , f_X7_isAllSo_56 (fun μ z0 z1 => f_X7_isAllSo_2 n_2 μ z0 z1) μ_56 b1_56 b2_56 = some (r, μ') → ∀ (H : Heap) (locs : List Loc) (ls : Array Slot), Wd E μ_56 s H → va_S (eA E) s.heap H locs → lv_has ls 3 [(0, .ref (ead E 2000)), (1, .int b1_56), (2, .int b2_56)] → W p l e (headSpec (.code yX7_isAllSo cX7_isAllSo 3 (some .boolean) :: BIG) ({ frames := 5, cells := 0, slots := 0, locals := 119 })).room s m ([.ref (ead E 2000), .int a1] : List Value).toArray below meth c H locs 0 0 (MQ below (QN E .boolean r μ') ([.ref (ead E 2000), .int a1] : List Value).toArray s 0 0 (eA E)) (F0 m 56 ls []) := by
        intro μ_56 b1_56 b2_56 hf H locs ls hW hV hl
        unfold f_X7_isAllSo_56 at hf
        obtain ⟨v13, e_v13, hf⟩ := op_none hf
        refine lv_iinc (v := v13) (lv' := [(2, .int v13), (0, .ref (ead E 2000)), (1, .int b1_56)]) hx hb dX7_isAllSo_56 hl (k := 2) rfl (by rw [← Option.some.inj e_v13]; rfl) (by decide) rfl (fun ls hl => ?_)
        refine lv_goto (tgt := 2) hx hb dX7_isAllSo_59 (by decide) ?_
        exact ih_2 μ_56 b1_56 v13 hf H locs ls hW hV (lv_sub hl [1, 2, 0] rfl)
      have c_51 : ∀ (μ_51 : Mem) (b1_51 : Int32) (b2_51 : Int32) (s0_51 : Int32) (s1_51 : Int32) , f_X7_isAllSo_51 (fun μ z0 z1 => f_X7_isAllSo_2 n_2 μ z0 z1) μ_51 b1_51 b2_51 s0_51 s1_51 = some (r, μ') → ∀ (H : Heap) (locs : List Loc) (ls : Array Slot), Wd E μ_51 s H → va_S (eA E) s.heap H locs → lv_has ls 3 [(0, .ref (ead E 2000)), (1, .int b1_51), (2, .int b2_51)] → W p l e (headSpec (.code yX7_isAllSo cX7_isAllSo 3 (some .boolean) :: BIG) ({ frames := 5, cells := 0, slots := 0, locals := 119 })).room s m ([.ref (ead E 2000), .int a1] : List Value).toArray below meth c H locs 0 0 (MQ below (QN E .boolean r μ') ([.ref (ead E 2000), .int a1] : List Value).toArray s 0 0 (eA E)) (F0 m 51 ls [.int s0_51, .int s1_51]) := by
        intro μ_51 b1_51 b2_51 s0_51 s1_51 hf H locs ls hW hV hl
        unfold f_X7_isAllSo_51 at hf
        refine lv_icmp_eq (tgt := 56) hx hb dX7_isAllSo_51 (by decide) (fun y14 => ?_) (fun y14 => ?_)
        · have hf := op_t y14 hf
          exact c_56 μ_51 b1_51 b2_51 hf H locs ls hW hV (lv_sub hl [0, 1, 2] rfl)
        · have hf := op_f y14 hf
          refine lv_iconst (v := (0 : Int32)) hx hb dX7_isAllSo_54 (by decide) ?_
          exact w_retN hx hb hr hlocks hW hV (by decide) (Prod.mk.inj (Option.some.inj hf)).1 (Prod.mk.inj (Option.some.inj hf)).2 dX7_isAllSo_55
      intro μ_2 b1_2 b2_2 hf H locs ls hW hV hl
      rw [f_X7_isAllSo_2] at hf
      refine lv_iload_n hx hb dX7_isAllSo_2 rfl (lv_at hl 2 rfl) ?_
      refine lv_aload_n hx hb dX7_isAllSo_3 rfl (lv_at hl 0 rfl) ?_
      refine gf_RX7_289 hx hb hB hown hW dX7_isAllSo_4 ?_
      refine lv_icmp_ge (tgt := 62) hx hb dX7_isAllSo_7 (by decide) (fun y15 => ?_) (fun y15 => ?_)
      · have hf := op_t y15 hf
        refine lv_iconst (v := (1 : Int32)) hx hb dX7_isAllSo_62 (by decide) ?_
        exact w_retN hx hb hr hlocks hW hV (by decide) (Prod.mk.inj (Option.some.inj hf)).1 (Prod.mk.inj (Option.some.inj hf)).2 dX7_isAllSo_63
      · have hf := op_f y15 hf
        refine lv_aload_n hx hb dX7_isAllSo_10 rfl (lv_at hl 0 rfl) ?_
        refine gf_RX7_61 hx hb hB hown hW dX7_isAllSo_11 ?_
        refine lv_iload_n hx hb dX7_isAllSo_14 rfl (lv_at hl 2 rfl) ?_
        obtain ⟨v16, e_v16, hf⟩ := op_none hf
        refine w_iald hx hb hW iM28.1 (iM28.2 E _ _) e_v16 dX7_isAllSo_15 ?_
        refine lv_iload_n hx hb dX7_isAllSo_16 rfl (lv_at hl 1 rfl) ?_
        refine lv_icmp_ne (tgt := 56) hx hb dX7_isAllSo_17 (by decide) (fun y17 => ?_) (fun y17 => ?_)
        · have hf := op_f y17 hf
          exact c_56 μ_2 b1_2 b2_2 hf H locs ls hW hV (lv_sub hl [0, 1, 2] rfl)
        · have hf := op_t y17 hf
          refine lv_aload_n hx hb dX7_isAllSo_20 rfl (lv_at hl 0 rfl) ?_
          refine lv_iload_n hx hb dX7_isAllSo_21 rfl (lv_at hl 1 rfl) ?_
          refine lv_aload_n hx hb dX7_isAllSo_22 rfl (lv_at hl 0 rfl) ?_
          refine gf_RX7_229 hx hb hB hown hW dX7_isAllSo_23 ?_
          refine lv_aload_n hx hb dX7_isAllSo_26 rfl (lv_at hl 0 rfl) ?_
          refine gf_RX7_64 hx hb hB hown hW dX7_isAllSo_27 ?_
          refine lv_iload_n hx hb dX7_isAllSo_30 rfl (lv_at hl 2 rfl) ?_
          obtain ⟨v18, e_v18, hf⟩ := op_none hf
          refine w_iald hx hb hW iM29.1 (iM29.2 E _ _) e_v18 dX7_isAllSo_31 ?_
          refine lv_iadd hx hb dX7_isAllSo_32 ?_
          obtain ⟨p22, e_21, hf⟩ := op_none hf
          refine w_callN (rn_RX7_226 (As := [.int b1_2, .int ((gI μ_2 2000 10) + v18)]) hx hb hml hown hB hW hZ hV (k_X7_isDay l E _ b1_2 ((gI μ_2 2000 10) + v18) p22.1 p22.2 e_21) rfl rfl ⟨(Nat.le_of_ble_eq_true rfl), (Nat.le_of_ble_eq_true rfl)⟩ (w_rec hW oM.1 (oM.2 E _ _) rfl) rfl hl.1 rfl (Nat.le_of_ble_eq_true rfl) dX7_isAllSo_33 ⟨Nat.le_refl _, Nat.le_refl _⟩) hV (fun H locs hn_p22_1 hW hV => ?_)
          refine lv_aload_n hx hb dX7_isAllSo_36 rfl (lv_at hl 0 rfl) ?_
          refine gf_RX7_67 hx hb hB hown hW dX7_isAllSo_37 ?_
          refine lv_iload_n hx hb dX7_isAllSo_40 rfl (lv_at hl 2 rfl) ?_
          obtain ⟨v23, e_v23, hf⟩ := op_none hf
          refine w_iald hx hb hW iM30.1 (iM30.2 E _ _) e_v23 dX7_isAllSo_41 ?_
          refine lv_iconst (v := (1 : Int32)) hx hb dX7_isAllSo_42 (by decide) ?_
          refine lv_icmp_ne (tgt := 50) hx hb dX7_isAllSo_43 (by decide) (fun y24 => ?_) (fun y24 => ?_)
          · have hf := op_f y24 hf
            refine lv_iconst (v := (0 : Int32)) hx hb dX7_isAllSo_50 (by decide) ?_
            exact c_51 p22.2 b1_2 b2_2 (0 : Int32) p22.1 hf H locs ls hW hV (lv_sub hl [0, 1, 2] rfl)
          · have hf := op_t y24 hf
            refine lv_iconst (v := (1 : Int32)) hx hb dX7_isAllSo_46 (by decide) ?_
            refine lv_goto (tgt := 51) hx hb dX7_isAllSo_47 (by decide) ?_
            exact c_51 p22.2 b1_2 b2_2 (1 : Int32) p22.1 hf H locs ls hW hV (lv_sub hl [0, 1, 2] rfl)
  obtain ⟨H, hH⟩ : ∃ H : Heap, H = s.heap := ⟨_, rfl⟩
  obtain ⟨locs, hlocs⟩ : ∃ locs : List Loc, locs = [] := ⟨_, rfl⟩
  rw [show (W p l e (headSpec (.code yX7_isAllSo cX7_isAllSo 3 (some .boolean) :: BIG) ({ frames := 5, cells := 0, slots := 0, locals := 119 })).room s m ([.ref (ead E 2000), .int a1] : List Value).toArray below meth c s.heap [] 0 0) = W p l e (headSpec (.code yX7_isAllSo cX7_isAllSo 3 (some .boolean) :: BIG) ({ frames := 5, cells := 0, slots := 0, locals := 119 })).room s m ([.ref (ead E 2000), .int a1] : List Value).toArray below meth c H locs 0 0 by rw [hH, hlocs]]
  have hV : va_S (eA E) s.heap H locs := by rw [hH, hlocs]; exact hV
  have hW : Wd E μ s H := by rw [hH]; exact hW
  unfold f_X7_isAllSo at hf
  refine lv_iconst (v := (0 : Int32)) hx hb dX7_isAllSo_0 (by decide) ?_
  refine lv_istore_n (i := 2) (lv' := [(2, .int (0 : Int32)), (0, .ref (ead E 2000)), (1, .int a1)]) hx hb dX7_isAllSo_1 rfl hl (by decide) rfl (fun ls hl => ?_)
  exact c_2 FU μ a1 (0 : Int32) hf H locs ls hW hV (lv_sub hl [1, 2, 0] rfl)
set_option maxHeartbeats 8000000 in
set_option maxRecDepth 100000 in
theorem k_X7_can (l : Launch) (E : WE) (μ : Mem) (a1 : Int32) (a2 : Int32) (a3 : Int32) (r : Int32) (μ' : Mem) (hf : f_X7_can μ a1 a2 a3 = some (r, μ')) : Met l yX7_can (.code yX7_can cX7_can 7 (some .int) :: BIG) ({ frames := 6, cells := 0, slots := 0, locals := 141 }) (PW E μ [.ref (ead E 2000), .int a1, .int a2, .int a3]) (QI E r μ') 0 0 (eA E) := by
  refine Met.ofW (cc := cX7_can) (maxL := 7) (ret := (some .int)) (by decide) rfl ?_
  intro p e s m args below meth c s₁ B hml hv
  obtain ⟨rfl, hW, hZ⟩ := hv
  have hx := B.exec
  have hb := B.bytes
  have hr := B.returns
  have hB : ∀ w ∈ BIG, w.before _ s = true := fun w h => atoms_spec (ws := (.code yX7_can cX7_can 7 (some .int) :: BIG)) B.pre w (List.mem_cons_of_mem _ h)
  have hown : s.vm.findClass RX7 = some m.cls := findClass_of_methodNamed B.named
  have hlocks := B.notSynchronized
  have hV : va_S (eA E) s.heap s.heap [] := va_S.rf
  have hl := lv_entry ([.ref (ead E 2000), .int a1, .int a2, .int a3]) (n := 7) (Nat.le_of_ble_eq_true rfl)
  rw [lg_entry_eq]
  generalize (lg_sl ([.ref (ead E 2000), .int a1, .int a2, .int a3]) ++ List.replicate (7 - (lg_sl ([.ref (ead E 2000), .int a1, .int a2, .int a3])).length) Slot.unset).toArray = ls at hl ⊢
  have hl : lv_has ls 7 [(0, .ref (ead E 2000)), (1, .int a1), (2, .int a2), (3, .int a3)] := hl
  have c_67 : ∀ (n_67 : Nat) (μ_67 : Mem) (b1_67 : Int32) (b2_67 : Int32) (b3_67 : Int32) (b4_67 : Int32) (b5_67 : Int32) (b6_67 : Int32) , f_X7_can_67 n_67 μ_67 b1_67 b2_67 b3_67 b4_67 b5_67 b6_67 = some (r, μ') → ∀ (H : Heap) (locs : List Loc) (ls : Array Slot), Wd E μ_67 s H → va_S (eA E) s.heap H locs → lv_has ls 7 [(0, .ref (ead E 2000)), (1, .int b1_67), (2, .int b2_67), (3, .int b3_67), (4, .int b4_67), (5, .int b5_67), (6, .int b6_67)] → W p l e (headSpec (.code yX7_can cX7_can 7 (some .int) :: BIG) ({ frames := 6, cells := 0, slots := 0, locals := 141 })).room s m ([.ref (ead E 2000), .int a1, .int a2, .int a3] : List Value).toArray below meth c H locs 0 0 (MQ below (QI E r μ') ([.ref (ead E 2000), .int a1, .int a2, .int a3] : List Value).toArray s 0 0 (eA E)) (F0 m 67 ls []) := by
    intro n_67
    induction n_67 with
    | zero =>
      intro μ_67 b1_67 b2_67 b3_67 b4_67 b5_67 b6_67 hf H locs ls hW hV hl
      cases hf
    | succ n_67 ih_67 =>
      have c_139 : ∀ (μ_139 : Mem) (b1_139 : Int32) (b2_139 : Int32) (b3_139 : Int32) (b4_139 : Int32) (b5_139 : Int32) (b6_139 : Int32) , f_X7_can_139 (fun μ z0 z1 z2 z3 z4 z5 => f_X7_can_67 n_67 μ z0 z1 z2 z3 z4 z5) μ_139 b1_139 b2_139 b3_139 b4_139 b5_139 b6_139 = some (r, μ') → ∀ (H : Heap) (locs : List Loc) (ls : Array Slot), Wd E μ_139 s H → va_S (eA E) s.heap H locs → lv_has ls 7 [(0, .ref (ead E 2000)), (1, .int b1_139), (2, .int b2_139), (3, .int b3_139), (4, .int b4_139), (5, .int b5_139), (6, .int b6_139)] → W p l e (headSpec (.code yX7_can cX7_can 7 (some .int) :: BIG) ({ frames := 6, cells := 0, slots := 0, locals := 141 })).room s m ([.ref (ead E 2000), .int a1, .int a2, .int a3] : List Value).toArray below meth c H locs 0 0 (MQ below (QI E r μ') ([.ref (ead E 2000), .int a1, .int a2, .int a3] : List Value).toArray s 0 0 (eA E)) (F0 m 139 ls []) := by
        intro μ_139 b1_139 b2_139 b3_139 b4_139 b5_139 b6_139 hf H locs ls hW hV hl
        unfold f_X7_can_139 at hf
        obtain ⟨v31, e_v31, hf⟩ := op_none hf
        refine lv_iinc (v := v31) (lv' := [(6, .int v31), (0, .ref (ead E 2000)), (1, .int b1_139), (2, .int b2_139), (3, .int b3_139), (4, .int b4_139), (5, .int b5_139)]) hx hb dX7_can_139 hl (k := 6) rfl (by rw [← Option.some.inj e_v31]; rfl) (by decide) rfl (fun ls hl => ?_)
        refine lv_goto (tgt := 67) hx hb dX7_can_142 (by decide) ?_
        exact ih_67 μ_139 b1_139 b2_139 b3_139 b4_139 b5_139 v31 hf H locs ls hW hV (lv_sub hl [1, 2, 3, 4, 5, 6, 0] rfl)
      have c_121 : ∀ (μ_121 : Mem) (b1_121 : Int32) (b2_121 : Int32) (b3_121 : Int32) (b4_121 : Int32) (b5_121 : Int32) (b6_121 : Int32) , f_X7_can_121 (fun μ z0 z1 z2 z3 z4 z5 => f_X7_can_67 n_67 μ z0 z1 z2 z3 z4 z5) μ_121 b1_121 b2_121 b3_121 b4_121 b5_121 b6_121 = some (r, μ') → ∀ (H : Heap) (locs : List Loc) (ls : Array Slot), Wd E μ_121 s H → va_S (eA E) s.heap H locs → lv_has ls 7 [(0, .ref (ead E 2000)), (1, .int b1_121), (2, .int b2_121), (3, .int b3_121), (4, .int b4_121), (5, .int b5_121), (6, .int b6_121)] → W p l e (headSpec (.code yX7_can cX7_can 7 (some .int) :: BIG) ({ frames := 6, cells := 0, slots := 0, locals := 141 })).room s m ([.ref (ead E 2000), .int a1, .int a2, .int a3] : List Value).toArray below meth c H locs 0 0 (MQ below (QI E r μ') ([.ref (ead E 2000), .int a1, .int a2, .int a3] : List Value).toArray s 0 0 (eA E)) (F0 m 121 ls []) := by
        intro μ_121 b1_121 b2_121 b3_121 b4_121 b5_121 b6_121 hf H locs ls hW hV hl
        unfold f_X7_can_121 at hf
        refine lv_aload_n hx hb dX7_can_121 rfl (lv_at hl 0 rfl) ?_
        refine lv_iload_n hx hb dX7_can_122 rfl (lv_at hl 1 rfl) ?_
        obtain ⟨p35, e_34, hf⟩ := op_none hf
        refine w_callN (rn_RX7_292 (As := [.int b1_121]) hx hb hml hown hB hW hZ hV (k_X7_isAllSo l E _ b1_121 p35.1 p35.2 e_34) rfl rfl ⟨(Nat.le_of_ble_eq_true rfl), (Nat.le_of_ble_eq_true rfl)⟩ (w_rec hW oM.1 (oM.2 E _ _) rfl) rfl hl.1 rfl (Nat.le_of_ble_eq_true rfl) dX7_can_123 ⟨Nat.le_refl _, Nat.le_refl _⟩) hV (fun H locs hn_p35_1 hW hV => ?_)
        refine lv_if_ne (tgt := 132) hx hb dX7_can_126 (by decide) (fun y36 => ?_) (fun y36 => ?_)
        · have hf := op_f y36 hf
          obtain ⟨v37, e_v37, hf⟩ := op_none hf
          refine lv_iinc (v := v37) (lv' := [(4, .int v37), (0, .ref (ead E 2000)), (1, .int b1_121), (2, .int b2_121), (3, .int b3_121), (5, .int b5_121), (6, .int b6_121)]) hx hb dX7_can_132 hl (k := 4) rfl (by rw [← Option.some.inj e_v37]; rfl) (by decide) rfl (fun ls hl => ?_)
          refine lv_iload hx hb dX7_can_135 (lv_at hl 6 rfl) ?_
          refine lv_istore (i := 5) (lv' := [(5, .int b6_121), (4, .int v37), (0, .ref (ead E 2000)), (1, .int b1_121), (2, .int b2_121), (3, .int b3_121), (6, .int b6_121)]) hx hb dX7_can_137 hl (by decide) rfl (fun ls hl => ?_)
          exact c_139 p35.2 b1_121 b2_121 b3_121 v37 b6_121 b6_121 hf H locs ls hW hV (lv_sub hl [2, 3, 4, 5, 1, 0, 6] rfl)
        · have hf := op_t y36 hf
          refine lv_goto (tgt := 139) hx hb dX7_can_129 (by decide) ?_
          exact c_139 p35.2 b1_121 b2_121 b3_121 b4_121 b5_121 b6_121 hf H locs ls hW hV (lv_sub hl [0, 1, 2, 3, 4, 5, 6] rfl)
      have c_79 : ∀ (μ_79 : Mem) (b1_79 : Int32) (b2_79 : Int32) (b3_79 : Int32) (b4_79 : Int32) (b5_79 : Int32) (b6_79 : Int32) (s0_79 : Int32) (s1_79 : Int32) , f_X7_can_79 (fun μ z0 z1 z2 z3 z4 z5 => f_X7_can_67 n_67 μ z0 z1 z2 z3 z4 z5) μ_79 b1_79 b2_79 b3_79 b4_79 b5_79 b6_79 s0_79 s1_79 = some (r, μ') → ∀ (H : Heap) (locs : List Loc) (ls : Array Slot), Wd E μ_79 s H → va_S (eA E) s.heap H locs → lv_has ls 7 [(0, .ref (ead E 2000)), (1, .int b1_79), (2, .int b2_79), (3, .int b3_79), (4, .int b4_79), (5, .int b5_79), (6, .int b6_79)] → W p l e (headSpec (.code yX7_can cX7_can 7 (some .int) :: BIG) ({ frames := 6, cells := 0, slots := 0, locals := 141 })).room s m ([.ref (ead E 2000), .int a1, .int a2, .int a3] : List Value).toArray below meth c H locs 0 0 (MQ below (QI E r μ') ([.ref (ead E 2000), .int a1, .int a2, .int a3] : List Value).toArray s 0 0 (eA E)) (F0 m 79 ls [.int s0_79, .int s1_79]) := by
        intro μ_79 b1_79 b2_79 b3_79 b4_79 b5_79 b6_79 s0_79 s1_79 hf H locs ls hW hV hl
        unfold f_X7_can_79 at hf
        refine lv_icmp_lt (tgt := 145) hx hb dX7_can_79 (by decide) (fun y38 => ?_) (fun y38 => ?_)
        · have hf := op_t y38 hf
          refine lv_aload_n hx hb dX7_can_145 rfl (lv_at hl 0 rfl) ?_
          refine lv_aload_n hx hb dX7_can_146 rfl (lv_at hl 0 rfl) ?_
          refine gf_RX7_88 hx hb hB hown hW dX7_can_147 ?_
          obtain ⟨μ39, e_40, hf⟩ := op_none hf
          refine w_callV (rn_RX7_261 (As := [.ref (ead E 2041)]) hx hb hml hown hB hW hZ hV (k_X7_again l E _ 2041 iM41 μ39 e_40) rfl rfl ⟨(Nat.le_of_ble_eq_true rfl), (Nat.le_of_ble_eq_true rfl)⟩ (w_rec hW oM.1 (oM.2 E _ _) rfl) rfl hl.1 rfl (Nat.le_of_ble_eq_true rfl) dX7_can_150 ⟨Nat.le_refl _, Nat.le_refl _⟩) hV (fun H locs hW hV => ?_)
          refine lv_iload_n hx hb dX7_can_153 rfl (lv_at hl 3 rfl) ?_
          refine lv_if_ne (tgt := 162) hx hb dX7_can_154 (by decide) (fun y41 => ?_) (fun y41 => ?_)
          · have hf := op_f y41 hf
            refine lv_iload hx hb dX7_can_162 (lv_at hl 5 rfl) ?_
            exact w_retI hx hb hr hlocks hW hV (Prod.mk.inj (Option.some.inj hf)).1 (Prod.mk.inj (Option.some.inj hf)).2 dX7_can_164
          · have hf := op_t y41 hf
            refine lv_iload hx hb dX7_can_157 (lv_at hl 4 rfl) ?_
            refine lv_goto (tgt := 164) hx hb dX7_can_159 (by decide) ?_
            exact w_retI hx hb hr hlocks hW hV (Prod.mk.inj (Option.some.inj hf)).1 (Prod.mk.inj (Option.some.inj hf)).2 dX7_can_164
        · have hf := op_f y38 hf
          refine lv_iload_n hx hb dX7_can_82 rfl (lv_at hl 2 rfl) ?_
          refine lv_if_ne (tgt := 97) hx hb dX7_can_83 (by decide) (fun y42 => ?_) (fun y42 => ?_)
          · have hf := op_f y42 hf
            refine lv_iload_n hx hb dX7_can_97 rfl (lv_at hl 2 rfl) ?_
            refine lv_iconst (v := (1 : Int32)) hx hb dX7_can_98 (by decide) ?_
            refine lv_icmp_ne (tgt := 113) hx hb dX7_can_99 (by decide) (fun y43 => ?_) (fun y43 => ?_)
            · have hf := op_f y43 hf
              refine lv_aload_n hx hb dX7_can_113 rfl (lv_at hl 0 rfl) ?_
              refine gf_RX7_15 hx hb hB hown hW dX7_can_114 ?_
              refine lv_iload_n hx hb dX7_can_117 rfl (lv_at hl 1 rfl) ?_
              refine lv_iload hx hb dX7_can_118 (lv_at hl 6 rfl) ?_
              obtain ⟨μ44, e_μ44, hf⟩ := op_none hf
              refine w_iast hx hb hW hV iM2.1 (fun f => iM2.2 E f _) e_μ44 dX7_can_120 (fun H locs hW hV => ?_)
              exact c_121 μ44 b1_79 b2_79 b3_79 b4_79 b5_79 b6_79 hf H locs ls hW hV (lv_sub hl [0, 1, 2, 3, 4, 5, 6] rfl)
            · have hf := op_t y43 hf
              refine lv_aload_n hx hb dX7_can_102 rfl (lv_at hl 0 rfl) ?_
              refine gf_RX7_18 hx hb hB hown hW dX7_can_103 ?_
              refine lv_iload_n hx hb dX7_can_106 rfl (lv_at hl 1 rfl) ?_
              refine lv_iload hx hb dX7_can_107 (lv_at hl 6 rfl) ?_
              obtain ⟨μ45, e_μ45, hf⟩ := op_none hf
              refine w_iast hx hb hW hV iM3.1 (fun f => iM3.2 E f _) e_μ45 dX7_can_109 (fun H locs hW hV => ?_)
              refine lv_goto (tgt := 121) hx hb dX7_can_110 (by decide) ?_
              exact c_121 μ45 b1_79 b2_79 b3_79 b4_79 b5_79 b6_79 hf H locs ls hW hV (lv_sub hl [0, 1, 2, 3, 4, 5, 6] rfl)
          · have hf := op_t y42 hf
            refine lv_aload_n hx hb dX7_can_86 rfl (lv_at hl 0 rfl) ?_
            refine gf_RX7_21 hx hb hB hown hW dX7_can_87 ?_
            refine lv_iload_n hx hb dX7_can_90 rfl (lv_at hl 1 rfl) ?_
            refine lv_iload hx hb dX7_can_91 (lv_at hl 6 rfl) ?_
            obtain ⟨μ46, e_μ46, hf⟩ := op_none hf
            refine w_iast hx hb hW hV iM4.1 (fun f => iM4.2 E f _) e_μ46 dX7_can_93 (fun H locs hW hV => ?_)
            refine lv_goto (tgt := 121) hx hb dX7_can_94 (by decide) ?_
            exact c_121 μ46 b1_79 b2_79 b3_79 b4_79 b5_79 b6_79 hf H locs ls hW hV (lv_sub hl [0, 1, 2, 3, 4, 5, 6] rfl)
      intro μ_67 b1_67 b2_67 b3_67 b4_67 b5_67 b6_67 hf H locs ls hW hV hl
      rw [f_X7_can_67] at hf
      refine lv_iload hx hb dX7_can_67 (lv_at hl 6 rfl) ?_
      refine lv_iload_n hx hb dX7_can_69 rfl (lv_at hl 2 rfl) ?_
      refine lv_iconst (v := (1 : Int32)) hx hb dX7_can_70 (by decide) ?_
      refine lv_icmp_ne (tgt := 78) hx hb dX7_can_71 (by decide) (fun y47 => ?_) (fun y47 => ?_)
      · have hf := op_f y47 hf
        refine lv_iconst (v := (0 : Int32)) hx hb dX7_can_78 (by decide) ?_
        exact c_79 μ_67 b1_67 b2_67 b3_67 b4_67 b5_67 b6_67 (0 : Int32) b6_67 hf H locs ls hW hV (lv_sub hl [0, 1, 2, 3, 4, 5, 6] rfl)
      · have hf := op_t y47 hf
        refine lv_iconst (v := (1 : Int32)) hx hb dX7_can_74 (by decide) ?_
        refine lv_goto (tgt := 79) hx hb dX7_can_75 (by decide) ?_
        exact c_79 μ_67 b1_67 b2_67 b3_67 b4_67 b5_67 b6_67 (1 : Int32) b6_67 hf H locs ls hW hV (lv_sub hl [0, 1, 2, 3, 4, 5, 6] rfl)
  have c_65 : ∀ (μ_65 : Mem) (b1_65 : Int32) (b2_65 : Int32) (b3_65 : Int32) (b4_65 : Int32) (b5_65 : Int32) (s0_65 : Int32) , f_X7_can_65 μ_65 b1_65 b2_65 b3_65 b4_65 b5_65 s0_65 = some (r, μ') → ∀ (H : Heap) (locs : List Loc) (ls : Array Slot), Wd E μ_65 s H → va_S (eA E) s.heap H locs → lv_has ls 7 [(0, .ref (ead E 2000)), (1, .int b1_65), (2, .int b2_65), (3, .int b3_65), (4, .int b4_65), (5, .int b5_65)] → W p l e (headSpec (.code yX7_can cX7_can 7 (some .int) :: BIG) ({ frames := 6, cells := 0, slots := 0, locals := 141 })).room s m ([.ref (ead E 2000), .int a1, .int a2, .int a3] : List Value).toArray below meth c H locs 0 0 (MQ below (QI E r μ') ([.ref (ead E 2000), .int a1, .int a2, .int a3] : List Value).toArray s 0 0 (eA E)) (F0 m 65 ls [.int s0_65]) := by
    intro μ_65 b1_65 b2_65 b3_65 b4_65 b5_65 s0_65 hf H locs ls hW hV hl
    unfold f_X7_can_65 at hf
    refine lv_istore (i := 6) (lv' := [(6, .int s0_65), (0, .ref (ead E 2000)), (1, .int b1_65), (2, .int b2_65), (3, .int b3_65), (4, .int b4_65), (5, .int b5_65)]) hx hb dX7_can_65 hl (by decide) rfl (fun ls hl => ?_)
    exact c_67 FU μ_65 b1_65 b2_65 b3_65 b4_65 b5_65 s0_65 hf H locs ls hW hV (lv_sub hl [1, 2, 3, 4, 5, 6, 0] rfl)
  obtain ⟨H, hH⟩ : ∃ H : Heap, H = s.heap := ⟨_, rfl⟩
  obtain ⟨locs, hlocs⟩ : ∃ locs : List Loc, locs = [] := ⟨_, rfl⟩
  rw [show (W p l e (headSpec (.code yX7_can cX7_can 7 (some .int) :: BIG) ({ frames := 6, cells := 0, slots := 0, locals := 141 })).room s m ([.ref (ead E 2000), .int a1, .int a2, .int a3] : List Value).toArray below meth c s.heap [] 0 0) = W p l e (headSpec (.code yX7_can cX7_can 7 (some .int) :: BIG) ({ frames := 6, cells := 0, slots := 0, locals := 141 })).room s m ([.ref (ead E 2000), .int a1, .int a2, .int a3] : List Value).toArray below meth c H locs 0 0 by rw [hH, hlocs]]
  have hV : va_S (eA E) s.heap H locs := by rw [hH, hlocs]; exact hV
  have hW : Wd E μ s H := by rw [hH]; exact hW
  unfold f_X7_can at hf
  refine lv_aload_n hx hb dX7_can_0 rfl (lv_at hl 0 rfl) ?_
  refine lv_iload_n hx hb dX7_can_1 rfl (lv_at hl 1 rfl) ?_
  obtain ⟨v48, e_49, hf⟩ := op_none hf
  refine w_callN (rn_RX7_115 (As := [.int a1]) hx hb hml hown hB hW hZ hV (k_X7_isOne l E _ a1 v48 e_49) rfl rfl ⟨(Nat.le_of_ble_eq_true rfl), (Nat.le_of_ble_eq_true rfl)⟩ (w_rec hW oM.1 (oM.2 E _ _) rfl) rfl hl.1 rfl (Nat.le_of_ble_eq_true rfl) dX7_can_2 ⟨Nat.le_refl _, Nat.le_refl _⟩) hV (fun H locs hn_v48 hW hV => ?_)
  refine lv_if_eq (tgt := 26) hx hb dX7_can_5 (by decide) (fun y50 => ?_) (fun y50 => ?_)
  · have hf := op_t y50 hf
    refine lv_iconst (v := (-1 : Int32)) hx hb dX7_can_26 (by decide) ?_
    exact w_retI hx hb hr hlocks hW hV (Prod.mk.inj (Option.some.inj hf)).1 (Prod.mk.inj (Option.some.inj hf)).2 dX7_can_27
  · have hf := op_f y50 hf
    refine lv_iload_n hx hb dX7_can_8 rfl (lv_at hl 2 rfl) ?_
    refine lv_iconst (v := (0 : Int32)) hx hb dX7_can_9 (by decide) ?_
    refine lv_iconst (v := (2 : Int32)) hx hb dX7_can_10 (by decide) ?_
    obtain ⟨v51, e_52, hf⟩ := op_none hf
    refine w_callN (rn_RX7_111 (As := [.int a2, .int (0 : Int32), .int (2 : Int32)]) hx hb hml hown hB hW hZ hV (k_X7_within l E _ a2 (0 : Int32) (2 : Int32) v51 e_52) rfl rfl ⟨(Nat.le_of_ble_eq_true rfl), (Nat.le_of_ble_eq_true rfl)⟩ rfl hl.1 rfl (Nat.le_of_ble_eq_true rfl) dX7_can_11 ⟨Nat.le_refl _, Nat.le_refl _⟩) hV (fun H locs hn_v51 hW hV => ?_)
    refine lv_if_eq (tgt := 26) hx hb dX7_can_14 (by decide) (fun y53 => ?_) (fun y53 => ?_)
    · have hf := op_t y53 hf
      refine lv_iconst (v := (-1 : Int32)) hx hb dX7_can_26 (by decide) ?_
      exact w_retI hx hb hr hlocks hW hV (Prod.mk.inj (Option.some.inj hf)).1 (Prod.mk.inj (Option.some.inj hf)).2 dX7_can_27
    · have hf := op_f y53 hf
      refine lv_iload_n hx hb dX7_can_17 rfl (lv_at hl 3 rfl) ?_
      refine lv_iconst (v := (0 : Int32)) hx hb dX7_can_18 (by decide) ?_
      refine lv_iconst (v := (1 : Int32)) hx hb dX7_can_19 (by decide) ?_
      obtain ⟨v54, e_55, hf⟩ := op_none hf
      refine w_callN (rn_RX7_111 (As := [.int a3, .int (0 : Int32), .int (1 : Int32)]) hx hb hml hown hB hW hZ hV (k_X7_within l E _ a3 (0 : Int32) (1 : Int32) v54 e_55) rfl rfl ⟨(Nat.le_of_ble_eq_true rfl), (Nat.le_of_ble_eq_true rfl)⟩ rfl hl.1 rfl (Nat.le_of_ble_eq_true rfl) dX7_can_20 ⟨Nat.le_refl _, Nat.le_refl _⟩) hV (fun H locs hn_v54 hW hV => ?_)
      refine lv_if_ne (tgt := 28) hx hb dX7_can_23 (by decide) (fun y56 => ?_) (fun y56 => ?_)
      · have hf := op_f y56 hf
        refine lv_aload_n hx hb dX7_can_28 rfl (lv_at hl 0 rfl) ?_
        refine lv_aload_n hx hb dX7_can_29 rfl (lv_at hl 0 rfl) ?_
        refine gf_RX7_88 hx hb hB hown hW dX7_can_30 ?_
        obtain ⟨μ57, e_58, hf⟩ := op_none hf
        refine w_callV (rn_RX7_257 (As := [.ref (ead E 2041)]) hx hb hml hown hB hW hZ hV (k_X7_keep l E _ 2041 iM41 μ57 e_58) rfl rfl ⟨(Nat.le_of_ble_eq_true rfl), (Nat.le_of_ble_eq_true rfl)⟩ (w_rec hW oM.1 (oM.2 E _ _) rfl) rfl hl.1 rfl (Nat.le_of_ble_eq_true rfl) dX7_can_33 ⟨Nat.le_refl _, Nat.le_refl _⟩) hV (fun H locs hW hV => ?_)
        refine lv_iconst (v := (0 : Int32)) hx hb dX7_can_36 (by decide) ?_
        refine lv_istore (i := 4) (lv' := [(4, .int (0 : Int32)), (0, .ref (ead E 2000)), (1, .int a1), (2, .int a2), (3, .int a3)]) hx hb dX7_can_37 hl (by decide) rfl (fun ls hl => ?_)
        refine lv_bipush (v := (-5 : Int32)) hx hb dX7_can_39 (by decide) ?_
        refine lv_istore (i := 5) (lv' := [(5, .int (-5 : Int32)), (4, .int (0 : Int32)), (0, .ref (ead E 2000)), (1, .int a1), (2, .int a2), (3, .int a3)]) hx hb dX7_can_41 hl (by decide) rfl (fun ls hl => ?_)
        refine lv_iload_n hx hb dX7_can_43 rfl (lv_at hl 4 rfl) ?_
        refine lv_iconst (v := (2 : Int32)) hx hb dX7_can_44 (by decide) ?_
        refine lv_icmp_ne (tgt := 53) hx hb dX7_can_45 (by decide) (fun y59 => ?_) (fun y59 => ?_)
        · have hf := op_f y59 hf
          refine lv_iload_n hx hb dX7_can_53 rfl (lv_at hl 4 rfl) ?_
          refine lv_iconst (v := (1 : Int32)) hx hb dX7_can_54 (by decide) ?_
          refine lv_icmp_ne (tgt := 63) hx hb dX7_can_55 (by decide) (fun y60 => ?_) (fun y60 => ?_)
          · have hf := op_f y60 hf
            refine lv_bipush (v := (29 : Int32)) hx hb dX7_can_63 (by decide) ?_
            exact c_65 μ57 a1 a2 a3 (0 : Int32) (-5 : Int32) (29 : Int32) hf H locs ls hW hV (lv_sub hl [2, 3, 4, 5, 1, 0] rfl)
          · have hf := op_t y60 hf
            refine lv_bipush (v := (30 : Int32)) hx hb dX7_can_58 (by decide) ?_
            refine lv_goto (tgt := 65) hx hb dX7_can_60 (by decide) ?_
            exact c_65 μ57 a1 a2 a3 (0 : Int32) (-5 : Int32) (30 : Int32) hf H locs ls hW hV (lv_sub hl [2, 3, 4, 5, 1, 0] rfl)
        · have hf := op_t y59 hf
          refine lv_bipush (v := (9 : Int32)) hx hb dX7_can_48 (by decide) ?_
          refine lv_goto (tgt := 65) hx hb dX7_can_50 (by decide) ?_
          exact c_65 μ57 a1 a2 a3 (0 : Int32) (-5 : Int32) (9 : Int32) hf H locs ls hW hV (lv_sub hl [2, 3, 4, 5, 1, 0] rfl)
      · have hf := op_t y56 hf
        refine lv_iconst (v := (-1 : Int32)) hx hb dX7_can_26 (by decide) ?_
        exact w_retI hx hb hr hlocks hW hV (Prod.mk.inj (Option.some.inj hf)).1 (Prod.mk.inj (Option.some.inj hf)).2 dX7_can_27
