set_option maxHeartbeats 8000000 in
set_option maxRecDepth 100000 in
theorem k_X7_set (l : Launch) (E : WE) (μ : Mem) (a1 : Int32) (a2 : Int32) (a3 : Int32) (r : Int32) (μ' : Mem) (hf : f_X7_set μ a1 a2 a3 = some (r, μ')) : Met l yX7_set (.code yX7_set cX7_set 5 (some .int) :: BIG) ({ frames := 2, cells := 0, slots := 0, locals := 43 }) (PW E μ [.ref (ead E 2000), .int a1, .int a2, .int a3]) (QI E r μ') 0 0 (eA E) := by
  refine Met.ofW (cc := cX7_set) (maxL := 5) (ret := (some .int)) (by decide) rfl ?_
  intro p e s m args below meth c s₁ B hml hv
  obtain ⟨rfl, hW, hZ⟩ := hv
  have hx := B.exec
  have hb := B.bytes
  have hr := B.returns
  have hB : ∀ w ∈ BIG, w.before _ s = true := fun w h => atoms_spec (ws := (.code yX7_set cX7_set 5 (some .int) :: BIG)) B.pre w (List.mem_cons_of_mem _ h)
  have hown : s.vm.findClass RX7 = some m.cls := findClass_of_methodNamed B.named
  have hlocks := B.notSynchronized
  have hV : va_S (eA E) s.heap s.heap [] := va_S.rf
  have hl := lv_entry ([.ref (ead E 2000), .int a1, .int a2, .int a3]) (n := 5) (Nat.le_of_ble_eq_true rfl)
  rw [lg_entry_eq]
  generalize (lg_sl ([.ref (ead E 2000), .int a1, .int a2, .int a3]) ++ List.replicate (5 - (lg_sl ([.ref (ead E 2000), .int a1, .int a2, .int a3])).length) Slot.unset).toArray = ls at hl ⊢
  have hl : lv_has ls 5 [(0, .ref (ead E 2000)), (1, .int a1), (2, .int a2), (3, .int a3)] := hl
  have c_68 : ∀ (μ_68 : Mem) (b1_68 : Int32) (b2_68 : Int32) (b3_68 : Int32) (s0_68 : Int32) , f_X7_set_68 μ_68 b1_68 b2_68 b3_68 s0_68 = some (r, μ') → ∀ (H : Heap) (locs : List Loc) (ls : Array Slot), Wd E μ_68 s H → va_S (eA E) s.heap H locs → lv_has ls 5 [(0, .ref (ead E 2000)), (1, .int b1_68), (2, .int b2_68), (3, .int b3_68)] → W p l e (headSpec (.code yX7_set cX7_set 5 (some .int) :: BIG) ({ frames := 2, cells := 0, slots := 0, locals := 43 })).room s m ([.ref (ead E 2000), .int a1, .int a2, .int a3] : List Value).toArray below meth c H locs 0 0 (MQ below (QI E r μ') ([.ref (ead E 2000), .int a1, .int a2, .int a3] : List Value).toArray s 0 0 (eA E)) (F0 m 68 ls [.int s0_68]) := by
    intro μ_68 b1_68 b2_68 b3_68 s0_68 hf H locs ls hW hV hl
    unfold f_X7_set_68 at hf
    refine lv_istore (i := 4) (lv' := [(4, .int s0_68), (0, .ref (ead E 2000)), (1, .int b1_68), (2, .int b2_68), (3, .int b3_68)]) hx hb dX7_set_68 hl (by decide) rfl (fun ls hl => ?_)
    refine lv_iload_n hx hb dX7_set_70 rfl (lv_at hl 3 rfl) ?_
    refine lv_if_ne (tgt := 84) hx hb dX7_set_71 (by decide) (fun y20 => ?_) (fun y20 => ?_)
    · have hf := op_f y20 hf
      refine lv_aload_n hx hb dX7_set_84 rfl (lv_at hl 1 rfl) ?_
      refine gf_RX7_21 hx hb hB hown hW dX7_set_85 ?_
      refine lv_iload_n hx hb dX7_set_88 rfl (lv_at hl 2 rfl) ?_
      refine lv_iload_n hx hb dX7_set_89 rfl (lv_at hl 4 rfl) ?_
      obtain ⟨μ21, e_μ21, hf⟩ := op_none hf
      refine w_iast hx hb hW hV iM4.1 (fun f => iM4.2 E f _) e_μ21 dX7_set_90 (fun H locs hW hV => ?_)
      refine lv_iload hx hb dX7_set_91 (lv_at hl 0 rfl) ?_
      exact w_retI hx hb hr hlocks hW hV (Prod.mk.inj (Option.some.inj hf)).1 (Prod.mk.inj (Option.some.inj hf)).2 dX7_set_93
    · have hf := op_t y20 hf
      refine lv_aload_n hx hb dX7_set_74 rfl (lv_at hl 1 rfl) ?_
      refine gf_RX7_18 hx hb hB hown hW dX7_set_75 ?_
      refine lv_iload_n hx hb dX7_set_78 rfl (lv_at hl 2 rfl) ?_
      refine lv_iload_n hx hb dX7_set_79 rfl (lv_at hl 4 rfl) ?_
      obtain ⟨μ22, e_μ22, hf⟩ := op_none hf
      refine w_iast hx hb hW hV iM3.1 (fun f => iM3.2 E f _) e_μ22 dX7_set_80 (fun H locs hW hV => ?_)
      refine lv_goto (tgt := 91) hx hb dX7_set_81 (by decide) ?_
      refine lv_iload hx hb dX7_set_91 (lv_at hl 0 rfl) ?_
      exact w_retI hx hb hr hlocks hW hV (Prod.mk.inj (Option.some.inj hf)).1 (Prod.mk.inj (Option.some.inj hf)).2 dX7_set_93
  have c_49 : ∀ (μ_49 : Mem) (b1_49 : Int32) (b2_49 : Int32) (b3_49 : Int32) , f_X7_set_49 μ_49 b1_49 b2_49 b3_49 = some (r, μ') → ∀ (H : Heap) (locs : List Loc) (ls : Array Slot), Wd E μ_49 s H → va_S (eA E) s.heap H locs → lv_has ls 5 [(0, .ref (ead E 2000)), (1, .int b1_49), (2, .int b2_49), (3, .int b3_49)] → W p l e (headSpec (.code yX7_set cX7_set 5 (some .int) :: BIG) ({ frames := 2, cells := 0, slots := 0, locals := 43 })).room s m ([.ref (ead E 2000), .int a1, .int a2, .int a3] : List Value).toArray below meth c H locs 0 0 (MQ below (QI E r μ') ([.ref (ead E 2000), .int a1, .int a2, .int a3] : List Value).toArray s 0 0 (eA E)) (F0 m 49 ls []) := by
    intro μ_49 b1_49 b2_49 b3_49 hf H locs ls hW hV hl
    unfold f_X7_set_49 at hf
    refine lv_iload_n hx hb dX7_set_49 rfl (lv_at hl 2 rfl) ?_
    refine lv_if_ne (tgt := 62) hx hb dX7_set_50 (by decide) (fun y23 => ?_) (fun y23 => ?_)
    · have hf := op_f y23 hf
      refine lv_aload_n hx hb dX7_set_62 rfl (lv_at hl 0 rfl) ?_
      refine gf_RX7_21 hx hb hB hown hW dX7_set_63 ?_
      refine lv_iload_n hx hb dX7_set_66 rfl (lv_at hl 1 rfl) ?_
      obtain ⟨v24, e_v24, hf⟩ := op_none hf
      refine w_iald hx hb hW iM4.1 (iM4.2 E _ _) e_v24 dX7_set_67 ?_
      exact c_68 μ_49 b1_49 b2_49 b3_49 v24 hf H locs ls hW hV (lv_sub hl [0, 1, 2, 3] rfl)
    · have hf := op_t y23 hf
      refine lv_aload_n hx hb dX7_set_53 rfl (lv_at hl 0 rfl) ?_
      refine gf_RX7_18 hx hb hB hown hW dX7_set_54 ?_
      refine lv_iload_n hx hb dX7_set_57 rfl (lv_at hl 1 rfl) ?_
      obtain ⟨v25, e_v25, hf⟩ := op_none hf
      refine w_iald hx hb hW iM3.1 (iM3.2 E _ _) e_v25 dX7_set_58 ?_
      refine lv_goto (tgt := 68) hx hb dX7_set_59 (by decide) ?_
      exact c_68 μ_49 b1_49 b2_49 b3_49 v25 hf H locs ls hW hV (lv_sub hl [0, 1, 2, 3] rfl)
  obtain ⟨H, hH⟩ : ∃ H : Heap, H = s.heap := ⟨_, rfl⟩
  obtain ⟨locs, hlocs⟩ : ∃ locs : List Loc, locs = [] := ⟨_, rfl⟩
  rw [show (W p l e (headSpec (.code yX7_set cX7_set 5 (some .int) :: BIG) ({ frames := 2, cells := 0, slots := 0, locals := 43 })).room s m ([.ref (ead E 2000), .int a1, .int a2, .int a3] : List Value).toArray below meth c s.heap [] 0 0) = W p l e (headSpec (.code yX7_set cX7_set 5 (some .int) :: BIG) ({ frames := 2, cells := 0, slots := 0, locals := 43 })).room s m ([.ref (ead E 2000), .int a1, .int a2, .int a3] : List Value).toArray below meth c H locs 0 0 by rw [hH, hlocs]]
  have hV : va_S (eA E) s.heap H locs := by rw [hH, hlocs]; exact hV
  have hW : Wd E μ s H := by rw [hH]; exact hW
  unfold f_X7_set at hf
  refine lv_aload_n hx hb dX7_set_0 rfl (lv_at hl 0 rfl) ?_
  refine lv_iload_n hx hb dX7_set_1 rfl (lv_at hl 1 rfl) ?_
  obtain ⟨v26, e_27, hf⟩ := op_none hf
  refine w_callN (rn_RX7_115 (As := [.int a1]) hx hb hml hown hB hW hZ hV (k_X7_isOne l E _ a1 v26 e_27) rfl rfl ⟨(Nat.le_of_ble_eq_true rfl), (Nat.le_of_ble_eq_true rfl)⟩ (w_rec hW oM.1 (oM.2 E _ _) rfl) rfl hl.1 rfl (Nat.le_of_ble_eq_true rfl) dX7_set_2 ⟨Nat.le_refl _, Nat.le_refl _⟩) hV (fun H locs hn_v26 hW hV => ?_)
  refine lv_if_eq (tgt := 17) hx hb dX7_set_5 (by decide) (fun y28 => ?_) (fun y28 => ?_)
  · have hf := op_t y28 hf
    refine lv_iconst (v := (-1 : Int32)) hx hb dX7_set_17 (by decide) ?_
    exact w_retI hx hb hr hlocks hW hV (Prod.mk.inj (Option.some.inj hf)).1 (Prod.mk.inj (Option.some.inj hf)).2 dX7_set_18
  · have hf := op_f y28 hf
    refine lv_iload_n hx hb dX7_set_8 rfl (lv_at hl 2 rfl) ?_
    refine lv_iconst (v := (0 : Int32)) hx hb dX7_set_9 (by decide) ?_
    refine lv_iconst (v := (1 : Int32)) hx hb dX7_set_10 (by decide) ?_
    obtain ⟨v29, e_30, hf⟩ := op_none hf
    refine w_callN (rn_RX7_111 (As := [.int a2, .int (0 : Int32), .int (1 : Int32)]) hx hb hml hown hB hW hZ hV (k_X7_within l E _ a2 (0 : Int32) (1 : Int32) v29 e_30) rfl rfl ⟨(Nat.le_of_ble_eq_true rfl), (Nat.le_of_ble_eq_true rfl)⟩ rfl hl.1 rfl (Nat.le_of_ble_eq_true rfl) dX7_set_11 ⟨Nat.le_refl _, Nat.le_refl _⟩) hV (fun H locs hn_v29 hW hV => ?_)
    refine lv_if_ne (tgt := 19) hx hb dX7_set_14 (by decide) (fun y31 => ?_) (fun y31 => ?_)
    · have hf := op_f y31 hf
      refine lv_iload_n hx hb dX7_set_19 rfl (lv_at hl 2 rfl) ?_
      refine lv_if_ne (tgt := 36) hx hb dX7_set_20 (by decide) (fun y32 => ?_) (fun y32 => ?_)
      · have hf := op_f y32 hf
        refine lv_iload_n hx hb dX7_set_36 rfl (lv_at hl 3 rfl) ?_
        refine lv_iconst (v := (0 : Int32)) hx hb dX7_set_37 (by decide) ?_
        refine lv_bipush (v := (29 : Int32)) hx hb dX7_set_38 (by decide) ?_
        obtain ⟨v33, e_34, hf⟩ := op_none hf
        refine w_callN (rn_RX7_111 (As := [.int a3, .int (0 : Int32), .int (29 : Int32)]) hx hb hml hown hB hW hZ hV (k_X7_within l E _ a3 (0 : Int32) (29 : Int32) v33 e_34) rfl rfl ⟨(Nat.le_of_ble_eq_true rfl), (Nat.le_of_ble_eq_true rfl)⟩ rfl hl.1 rfl (Nat.le_of_ble_eq_true rfl) dX7_set_40 ⟨Nat.le_refl _, Nat.le_refl _⟩) hV (fun H locs hn_v33 hW hV => ?_)
        refine lv_if_ne (tgt := 49) hx hb dX7_set_43 (by decide) (fun y35 => ?_) (fun y35 => ?_)
        · have hf := op_f y35 hf
          exact c_49 μ a1 a2 a3 hf H locs ls hW hV (lv_sub hl [0, 1, 2, 3] rfl)
        · have hf := op_t y35 hf
          refine lv_bipush (v := (-2 : Int32)) hx hb dX7_set_46 (by decide) ?_
          exact w_retI hx hb hr hlocks hW hV (Prod.mk.inj (Option.some.inj hf)).1 (Prod.mk.inj (Option.some.inj hf)).2 dX7_set_48
      · have hf := op_t y32 hf
        refine lv_iload_n hx hb dX7_set_23 rfl (lv_at hl 3 rfl) ?_
        refine lv_iconst (v := (1 : Int32)) hx hb dX7_set_24 (by decide) ?_
        refine lv_bipush (v := (30 : Int32)) hx hb dX7_set_25 (by decide) ?_
        obtain ⟨v36, e_37, hf⟩ := op_none hf
        refine w_callN (rn_RX7_111 (As := [.int a3, .int (1 : Int32), .int (30 : Int32)]) hx hb hml hown hB hW hZ hV (k_X7_within l E _ a3 (1 : Int32) (30 : Int32) v36 e_37) rfl rfl ⟨(Nat.le_of_ble_eq_true rfl), (Nat.le_of_ble_eq_true rfl)⟩ rfl hl.1 rfl (Nat.le_of_ble_eq_true rfl) dX7_set_27 ⟨Nat.le_refl _, Nat.le_refl _⟩) hV (fun H locs hn_v36 hW hV => ?_)
        refine lv_if_ne (tgt := 49) hx hb dX7_set_30 (by decide) (fun y38 => ?_) (fun y38 => ?_)
        · have hf := op_f y38 hf
          exact c_49 μ a1 a2 a3 hf H locs ls hW hV (lv_sub hl [0, 1, 2, 3] rfl)
        · have hf := op_t y38 hf
          refine lv_goto (tgt := 46) hx hb dX7_set_33 (by decide) ?_
          refine lv_bipush (v := (-2 : Int32)) hx hb dX7_set_46 (by decide) ?_
          exact w_retI hx hb hr hlocks hW hV (Prod.mk.inj (Option.some.inj hf)).1 (Prod.mk.inj (Option.some.inj hf)).2 dX7_set_48
    · have hf := op_t y31 hf
      refine lv_iconst (v := (-1 : Int32)) hx hb dX7_set_17 (by decide) ?_
      exact w_retI hx hb hr hlocks hW hV (Prod.mk.inj (Option.some.inj hf)).1 (Prod.mk.inj (Option.some.inj hf)).2 dX7_set_18
set_option maxHeartbeats 8000000 in
set_option maxRecDepth 100000 in
theorem k_X7_smash (l : Launch) (E : WE) (μ : Mem) (a1 : Int32) (a2 : Int32) (r : Int32) (μ' : Mem) (hf : f_X7_smash μ a1 a2 = some (r, μ')) : Met l yX7_smash (.code yX7_smash cX7_smash 4 (some .int) :: BIG) ({ frames := 2, cells := 0, slots := 0, locals := 43 }) (PW E μ [.ref (ead E 2000), .int a1, .int a2]) (QI E r μ') 0 0 (eA E) := by
  refine Met.ofW (cc := cX7_smash) (maxL := 4) (ret := (some .int)) (by decide) rfl ?_
  intro p e s m args below meth c s₁ B hml hv
  obtain ⟨rfl, hW, hZ⟩ := hv
  have hx := B.exec
  have hb := B.bytes
  have hr := B.returns
  have hB : ∀ w ∈ BIG, w.before _ s = true := fun w h => atoms_spec (ws := (.code yX7_smash cX7_smash 4 (some .int) :: BIG)) B.pre w (List.mem_cons_of_mem _ h)
  have hown : s.vm.findClass RX7 = some m.cls := findClass_of_methodNamed B.named
  have hlocks := B.notSynchronized
  have hV : va_S (eA E) s.heap s.heap [] := va_S.rf
  have hl := lv_entry ([.ref (ead E 2000), .int a1, .int a2]) (n := 4) (Nat.le_of_ble_eq_true rfl)
  rw [lg_entry_eq]
  generalize (lg_sl ([.ref (ead E 2000), .int a1, .int a2]) ++ List.replicate (4 - (lg_sl ([.ref (ead E 2000), .int a1, .int a2])).length) Slot.unset).toArray = ls at hl ⊢
  have hl : lv_has ls 4 [(0, .ref (ead E 2000)), (1, .int a1), (2, .int a2)] := hl
  have c_31 : ∀ (μ_31 : Mem) (b3_31 : Int32) (s0_31 : Int32) (s1_31 : Int32) , f_X7_smash_31 μ_31 b3_31 s0_31 s1_31 = some (r, μ') → ∀ (H : Heap) (locs : List Loc) (ls : Array Slot), Wd E μ_31 s H → va_S (eA E) s.heap H locs → lv_has ls 4 [(3, .int b3_31)] → W p l e (headSpec (.code yX7_smash cX7_smash 4 (some .int) :: BIG) ({ frames := 2, cells := 0, slots := 0, locals := 43 })).room s m ([.ref (ead E 2000), .int a1, .int a2] : List Value).toArray below meth c H locs 0 0 (MQ below (QI E r μ') ([.ref (ead E 2000), .int a1, .int a2] : List Value).toArray s 0 0 (eA E)) (F0 m 31 ls [.int s0_31, .int s1_31, .ref (ead E 2005)]) := by
    intro μ_31 b3_31 s0_31 s1_31 hf H locs ls hW hV hl
    unfold f_X7_smash_31 at hf
    obtain ⟨μ7, e_μ7, hf⟩ := op_none hf
    refine w_iast hx hb hW hV iM5.1 (fun f => iM5.2 E f _) e_μ7 dX7_smash_31 (fun H locs hW hV => ?_)
    refine lv_iload_n hx hb dX7_smash_32 rfl (lv_at hl 0 rfl) ?_
    exact w_retI hx hb hr hlocks hW hV (Prod.mk.inj (Option.some.inj hf)).1 (Prod.mk.inj (Option.some.inj hf)).2 dX7_smash_33
  obtain ⟨H, hH⟩ : ∃ H : Heap, H = s.heap := ⟨_, rfl⟩
  obtain ⟨locs, hlocs⟩ : ∃ locs : List Loc, locs = [] := ⟨_, rfl⟩
  rw [show (W p l e (headSpec (.code yX7_smash cX7_smash 4 (some .int) :: BIG) ({ frames := 2, cells := 0, slots := 0, locals := 43 })).room s m ([.ref (ead E 2000), .int a1, .int a2] : List Value).toArray below meth c s.heap [] 0 0) = W p l e (headSpec (.code yX7_smash cX7_smash 4 (some .int) :: BIG) ({ frames := 2, cells := 0, slots := 0, locals := 43 })).room s m ([.ref (ead E 2000), .int a1, .int a2] : List Value).toArray below meth c H locs 0 0 by rw [hH, hlocs]]
  have hV : va_S (eA E) s.heap H locs := by rw [hH, hlocs]; exact hV
  have hW : Wd E μ s H := by rw [hH]; exact hW
  unfold f_X7_smash at hf
  refine lv_aload_n hx hb dX7_smash_0 rfl (lv_at hl 0 rfl) ?_
  refine lv_iload_n hx hb dX7_smash_1 rfl (lv_at hl 1 rfl) ?_
  obtain ⟨v8, e_9, hf⟩ := op_none hf
  refine w_callN (rn_RX7_115 (As := [.int a1]) hx hb hml hown hB hW hZ hV (k_X7_isOne l E _ a1 v8 e_9) rfl rfl ⟨(Nat.le_of_ble_eq_true rfl), (Nat.le_of_ble_eq_true rfl)⟩ (w_rec hW oM.1 (oM.2 E _ _) rfl) rfl hl.1 rfl (Nat.le_of_ble_eq_true rfl) dX7_smash_2 ⟨Nat.le_refl _, Nat.le_refl _⟩) hV (fun H locs hn_v8 hW hV => ?_)
  refine lv_if_ne (tgt := 10) hx hb dX7_smash_5 (by decide) (fun y10 => ?_) (fun y10 => ?_)
  · have hf := op_f y10 hf
    refine lv_aload_n hx hb dX7_smash_10 rfl (lv_at hl 0 rfl) ?_
    refine gf_RX7_24 hx hb hB hown hW dX7_smash_11 ?_
    refine lv_iload_n hx hb dX7_smash_14 rfl (lv_at hl 1 rfl) ?_
    obtain ⟨v11, e_v11, hf⟩ := op_none hf
    refine w_iald hx hb hW iM5.1 (iM5.2 E _ _) e_v11 dX7_smash_15 ?_
    refine lv_istore_n (i := 3) (lv' := [(3, .int v11), (0, .ref (ead E 2000)), (1, .int a1), (2, .int a2)]) hx hb dX7_smash_16 rfl hl (by decide) rfl (fun ls hl => ?_)
    refine lv_aload_n hx hb dX7_smash_17 rfl (lv_at hl 1 rfl) ?_
    refine gf_RX7_24 hx hb hB hown hW dX7_smash_18 ?_
    refine lv_iload_n hx hb dX7_smash_21 rfl (lv_at hl 2 rfl) ?_
    refine lv_iload_n hx hb dX7_smash_22 rfl (lv_at hl 3 rfl) ?_
    refine lv_if_eq (tgt := 30) hx hb dX7_smash_23 (by decide) (fun y12 => ?_) (fun y12 => ?_)
    · have hf := op_t y12 hf
      refine lv_iconst (v := (0 : Int32)) hx hb dX7_smash_30 (by decide) ?_
      exact c_31 μ v11 (0 : Int32) a1 hf H locs ls hW hV (lv_sub hl [0] rfl)
    · have hf := op_f y12 hf
      refine lv_iconst (v := (1 : Int32)) hx hb dX7_smash_26 (by decide) ?_
      refine lv_goto (tgt := 31) hx hb dX7_smash_27 (by decide) ?_
      exact c_31 μ v11 (1 : Int32) a1 hf H locs ls hW hV (lv_sub hl [0] rfl)
  · have hf := op_t y10 hf
    refine lv_iconst (v := (-1 : Int32)) hx hb dX7_smash_8 (by decide) ?_
    exact w_retI hx hb hr hlocks hW hV (Prod.mk.inj (Option.some.inj hf)).1 (Prod.mk.inj (Option.some.inj hf)).2 dX7_smash_9
set_option maxHeartbeats 8000000 in
set_option maxRecDepth 100000 in
theorem k_X7_listen (l : Launch) (E : WE) (μ : Mem) (a1 : Int32) (r : Int32) (μ' : Mem) (hf : f_X7_listen μ a1 = some (r, μ')) : Met l yX7_listen (.code yX7_listen cX7_listen 3 (some .int) :: BIG) ({ frames := 1, cells := 0, slots := 0, locals := 22 }) (PW E μ [.ref (ead E 2000), .int a1]) (QI E r μ') 0 0 (eA E) := by
  refine Met.ofW (cc := cX7_listen) (maxL := 3) (ret := (some .int)) (by decide) rfl ?_
  intro p e s m args below meth c s₁ B hml hv
  obtain ⟨rfl, hW, hZ⟩ := hv
  have hx := B.exec
  have hb := B.bytes
  have hr := B.returns
  have hB : ∀ w ∈ BIG, w.before _ s = true := fun w h => atoms_spec (ws := (.code yX7_listen cX7_listen 3 (some .int) :: BIG)) B.pre w (List.mem_cons_of_mem _ h)
  have hown : s.vm.findClass RX7 = some m.cls := findClass_of_methodNamed B.named
  have hlocks := B.notSynchronized
  have hV : va_S (eA E) s.heap s.heap [] := va_S.rf
  have hl := lv_entry ([.ref (ead E 2000), .int a1]) (n := 3) (Nat.le_of_ble_eq_true rfl)
  rw [lg_entry_eq]
  generalize (lg_sl ([.ref (ead E 2000), .int a1]) ++ List.replicate (3 - (lg_sl ([.ref (ead E 2000), .int a1])).length) Slot.unset).toArray = ls at hl ⊢
  have hl : lv_has ls 3 [(0, .ref (ead E 2000)), (1, .int a1)] := hl
  obtain ⟨H, hH⟩ : ∃ H : Heap, H = s.heap := ⟨_, rfl⟩
  obtain ⟨locs, hlocs⟩ : ∃ locs : List Loc, locs = [] := ⟨_, rfl⟩
  rw [show (W p l e (headSpec (.code yX7_listen cX7_listen 3 (some .int) :: BIG) ({ frames := 1, cells := 0, slots := 0, locals := 22 })).room s m ([.ref (ead E 2000), .int a1] : List Value).toArray below meth c s.heap [] 0 0) = W p l e (headSpec (.code yX7_listen cX7_listen 3 (some .int) :: BIG) ({ frames := 1, cells := 0, slots := 0, locals := 22 })).room s m ([.ref (ead E 2000), .int a1] : List Value).toArray below meth c H locs 0 0 by rw [hH, hlocs]]
  have hV : va_S (eA E) s.heap H locs := by rw [hH, hlocs]; exact hV
  have hW : Wd E μ s H := by rw [hH]; exact hW
  unfold f_X7_listen at hf
  refine lv_iload_n hx hb dX7_listen_0 rfl (lv_at hl 1 rfl) ?_
  refine lv_iconst (v := (0 : Int32)) hx hb dX7_listen_1 (by decide) ?_
  refine lv_bipush (v := (127 : Int32)) hx hb dX7_listen_2 (by decide) ?_
  obtain ⟨v6, e_7, hf⟩ := op_none hf
  refine w_callN (rn_RX7_111 (As := [.int a1, .int (0 : Int32), .int (127 : Int32)]) hx hb hml hown hB hW hZ hV (k_X7_within l E _ a1 (0 : Int32) (127 : Int32) v6 e_7) rfl rfl ⟨(Nat.le_of_ble_eq_true rfl), (Nat.le_of_ble_eq_true rfl)⟩ rfl hl.1 rfl (Nat.le_of_ble_eq_true rfl) dX7_listen_4 ⟨Nat.le_refl _, Nat.le_refl _⟩) hV (fun H locs hn_v6 hW hV => ?_)
  refine lv_if_ne (tgt := 13) hx hb dX7_listen_7 (by decide) (fun y8 => ?_) (fun y8 => ?_)
  · have hf := op_f y8 hf
    refine lv_aload_n hx hb dX7_listen_13 rfl (lv_at hl 0 rfl) ?_
    refine gf_RX7_101 hx hb hB hown hW dX7_listen_14 ?_
    obtain ⟨v9, e_v9, hf⟩ := op_none hf
    refine lv_top' (Option.some.inj e_v9) ?_
    refine lv_istore_n (i := 2) (lv' := [(2, .int v9), (0, .ref (ead E 2000)), (1, .int a1)]) hx hb dX7_listen_17 rfl hl (by decide) rfl (fun ls hl => ?_)
    refine lv_aload_n hx hb dX7_listen_18 rfl (lv_at hl 1 rfl) ?_
    refine lv_iload_n hx hb dX7_listen_19 rfl (lv_at hl 2 rfl) ?_
    obtain ⟨μ10, e_μ10, hf⟩ := op_none hf
    refine pf_RX7_101 hx hb hB hown hW hV dX7_listen_20 (fun H locs hW hV => ?_)
    rw [Option.some.inj e_μ10] at hW
    refine lv_iload_n hx hb dX7_listen_23 rfl (lv_at hl 0 rfl) ?_
    exact w_retI hx hb hr hlocks hW hV (Prod.mk.inj (Option.some.inj hf)).1 (Prod.mk.inj (Option.some.inj hf)).2 dX7_listen_24
  · have hf := op_t y8 hf
    refine lv_bipush (v := (-2 : Int32)) hx hb dX7_listen_10 (by decide) ?_
    exact w_retI hx hb hr hlocks hW hV (Prod.mk.inj (Option.some.inj hf)).1 (Prod.mk.inj (Option.some.inj hf)).2 dX7_listen_12
set_option maxHeartbeats 8000000 in
set_option maxRecDepth 100000 in
theorem k_X7_row (l : Launch) (E : WE) (μ : Mem) (a1 : Int32) (a2 : Int32) (a3 : Int32) (r : Int32) (μ' : Mem) (hf : f_X7_row μ a1 a2 a3 = some (r, μ')) : Met l yX7_row (.code yX7_row cX7_row 5 (some .int) :: BIG) ({ frames := 2, cells := 0, slots := 0, locals := 43 }) (PW E μ [.ref (ead E 2000), .int a1, .int a2, .int a3]) (QI E r μ') 0 0 (eA E) := by
  refine Met.ofW (cc := cX7_row) (maxL := 5) (ret := (some .int)) (by decide) rfl ?_
  intro p e s m args below meth c s₁ B hml hv
  obtain ⟨rfl, hW, hZ⟩ := hv
  have hx := B.exec
  have hb := B.bytes
  have hr := B.returns
  have hB : ∀ w ∈ BIG, w.before _ s = true := fun w h => atoms_spec (ws := (.code yX7_row cX7_row 5 (some .int) :: BIG)) B.pre w (List.mem_cons_of_mem _ h)
  have hown : s.vm.findClass RX7 = some m.cls := findClass_of_methodNamed B.named
  have hlocks := B.notSynchronized
  have hV : va_S (eA E) s.heap s.heap [] := va_S.rf
  have hl := lv_entry ([.ref (ead E 2000), .int a1, .int a2, .int a3]) (n := 5) (Nat.le_of_ble_eq_true rfl)
  rw [lg_entry_eq]
  generalize (lg_sl ([.ref (ead E 2000), .int a1, .int a2, .int a3]) ++ List.replicate (5 - (lg_sl ([.ref (ead E 2000), .int a1, .int a2, .int a3])).length) Slot.unset).toArray = ls at hl ⊢
  have hl : lv_has ls 5 [(0, .ref (ead E 2000)), (1, .int a1), (2, .int a2), (3, .int a3)] := hl
  obtain ⟨H, hH⟩ : ∃ H : Heap, H = s.heap := ⟨_, rfl⟩
  obtain ⟨locs, hlocs⟩ : ∃ locs : List Loc, locs = [] := ⟨_, rfl⟩
  rw [show (W p l e (headSpec (.code yX7_row cX7_row 5 (some .int) :: BIG) ({ frames := 2, cells := 0, slots := 0, locals := 43 })).room s m ([.ref (ead E 2000), .int a1, .int a2, .int a3] : List Value).toArray below meth c s.heap [] 0 0) = W p l e (headSpec (.code yX7_row cX7_row 5 (some .int) :: BIG) ({ frames := 2, cells := 0, slots := 0, locals := 43 })).room s m ([.ref (ead E 2000), .int a1, .int a2, .int a3] : List Value).toArray below meth c H locs 0 0 by rw [hH, hlocs]]
  have hV : va_S (eA E) s.heap H locs := by rw [hH, hlocs]; exact hV
  have hW : Wd E μ s H := by rw [hH]; exact hW
  unfold f_X7_row at hf
  refine lv_aload_n hx hb dX7_row_0 rfl (lv_at hl 0 rfl) ?_
  refine lv_iload_n hx hb dX7_row_1 rfl (lv_at hl 1 rfl) ?_
  obtain ⟨v14, e_15, hf⟩ := op_none hf
  refine w_callN (rn_RX7_115 (As := [.int a1]) hx hb hml hown hB hW hZ hV (k_X7_isOne l E _ a1 v14 e_15) rfl rfl ⟨(Nat.le_of_ble_eq_true rfl), (Nat.le_of_ble_eq_true rfl)⟩ (w_rec hW oM.1 (oM.2 E _ _) rfl) rfl hl.1 rfl (Nat.le_of_ble_eq_true rfl) dX7_row_2 ⟨Nat.le_refl _, Nat.le_refl _⟩) hV (fun H locs hn_v14 hW hV => ?_)
  refine lv_if_eq (tgt := 17) hx hb dX7_row_5 (by decide) (fun y16 => ?_) (fun y16 => ?_)
  · have hf := op_t y16 hf
    refine lv_iconst (v := (-1 : Int32)) hx hb dX7_row_17 (by decide) ?_
    exact w_retI hx hb hr hlocks hW hV (Prod.mk.inj (Option.some.inj hf)).1 (Prod.mk.inj (Option.some.inj hf)).2 dX7_row_18
  · have hf := op_f y16 hf
    refine lv_iload_n hx hb dX7_row_8 rfl (lv_at hl 2 rfl) ?_
    refine lv_iconst (v := (0 : Int32)) hx hb dX7_row_9 (by decide) ?_
    refine lv_iconst (v := (3 : Int32)) hx hb dX7_row_10 (by decide) ?_
    obtain ⟨v17, e_18, hf⟩ := op_none hf
    refine w_callN (rn_RX7_111 (As := [.int a2, .int (0 : Int32), .int (3 : Int32)]) hx hb hml hown hB hW hZ hV (k_X7_within l E _ a2 (0 : Int32) (3 : Int32) v17 e_18) rfl rfl ⟨(Nat.le_of_ble_eq_true rfl), (Nat.le_of_ble_eq_true rfl)⟩ rfl hl.1 rfl (Nat.le_of_ble_eq_true rfl) dX7_row_11 ⟨Nat.le_refl _, Nat.le_refl _⟩) hV (fun H locs hn_v17 hW hV => ?_)
    refine lv_if_ne (tgt := 19) hx hb dX7_row_14 (by decide) (fun y19 => ?_) (fun y19 => ?_)
    · have hf := op_f y19 hf
      refine lv_iload_n hx hb dX7_row_19 rfl (lv_at hl 3 rfl) ?_
      refine lv_iconst (v := (0 : Int32)) hx hb dX7_row_20 (by decide) ?_
      refine lv_bipush (v := (9 : Int32)) hx hb dX7_row_21 (by decide) ?_
      obtain ⟨v20, e_21, hf⟩ := op_none hf
      refine w_callN (rn_RX7_111 (As := [.int a3, .int (0 : Int32), .int (9 : Int32)]) hx hb hml hown hB hW hZ hV (k_X7_within l E _ a3 (0 : Int32) (9 : Int32) v20 e_21) rfl rfl ⟨(Nat.le_of_ble_eq_true rfl), (Nat.le_of_ble_eq_true rfl)⟩ rfl hl.1 rfl (Nat.le_of_ble_eq_true rfl) dX7_row_23 ⟨Nat.le_refl _, Nat.le_refl _⟩) hV (fun H locs hn_v20 hW hV => ?_)
      refine lv_if_ne (tgt := 32) hx hb dX7_row_26 (by decide) (fun y22 => ?_) (fun y22 => ?_)
      · have hf := op_f y22 hf
        refine lv_aload_n hx hb dX7_row_32 rfl (lv_at hl 0 rfl) ?_
        refine gf_RX7_9 hx hb hB hown hW dX7_row_33 ?_
        refine lv_iload_n hx hb dX7_row_36 rfl (lv_at hl 1 rfl) ?_
        obtain ⟨v23, e_v23, hf⟩ := op_none hf
        refine w_iald hx hb hW iM1.1 (iM1.2 E _ _) e_v23 dX7_row_37 ?_
        refine lv_bipush (v := (6 : Int32)) hx hb dX7_row_38 (by decide) ?_
        refine lv_icmp_eq (tgt := 46) hx hb dX7_row_40 (by decide) (fun y24 => ?_) (fun y24 => ?_)
        · have hf := op_t y24 hf
          refine lv_aload_n hx hb dX7_row_46 rfl (lv_at hl 0 rfl) ?_
          refine gf_RX7_33 hx hb hB hown hW dX7_row_47 ?_
          refine lv_iconst (v := (4 : Int32)) hx hb dX7_row_50 (by decide) ?_
          refine lv_iload_n hx hb dX7_row_51 rfl (lv_at hl 1 rfl) ?_
          refine lv_imul hx hb dX7_row_52 ?_
          refine lv_iload_n hx hb dX7_row_53 rfl (lv_at hl 2 rfl) ?_
          refine lv_iadd hx hb dX7_row_54 ?_
          obtain ⟨v25, e_v25, hf⟩ := op_none hf
          refine w_iald hx hb hW iM8.1 (iM8.2 E _ _) e_v25 dX7_row_55 ?_
          refine lv_istore (i := 4) (lv' := [(4, .int v25), (0, .ref (ead E 2000)), (1, .int a1), (2, .int a2), (3, .int a3)]) hx hb dX7_row_56 hl (by decide) rfl (fun ls hl => ?_)
          refine lv_aload_n hx hb dX7_row_58 rfl (lv_at hl 1 rfl) ?_
          refine gf_RX7_33 hx hb hB hown hW dX7_row_59 ?_
          refine lv_iconst (v := (4 : Int32)) hx hb dX7_row_62 (by decide) ?_
          refine lv_iload_n hx hb dX7_row_63 rfl (lv_at hl 2 rfl) ?_
          refine lv_imul hx hb dX7_row_64 ?_
          refine lv_iload_n hx hb dX7_row_65 rfl (lv_at hl 3 rfl) ?_
          refine lv_iadd hx hb dX7_row_66 ?_
          refine lv_iload_n hx hb dX7_row_67 rfl (lv_at hl 4 rfl) ?_
          obtain ⟨μ26, e_μ26, hf⟩ := op_none hf
          refine w_iast hx hb hW hV iM8.1 (fun f => iM8.2 E f _) e_μ26 dX7_row_68 (fun H locs hW hV => ?_)
          refine lv_iload hx hb dX7_row_69 (lv_at hl 0 rfl) ?_
          exact w_retI hx hb hr hlocks hW hV (Prod.mk.inj (Option.some.inj hf)).1 (Prod.mk.inj (Option.some.inj hf)).2 dX7_row_71
        · have hf := op_f y24 hf
          refine lv_bipush (v := (-3 : Int32)) hx hb dX7_row_43 (by decide) ?_
          exact w_retI hx hb hr hlocks hW hV (Prod.mk.inj (Option.some.inj hf)).1 (Prod.mk.inj (Option.some.inj hf)).2 dX7_row_45
      · have hf := op_t y22 hf
        refine lv_bipush (v := (-2 : Int32)) hx hb dX7_row_29 (by decide) ?_
        exact w_retI hx hb hr hlocks hW hV (Prod.mk.inj (Option.some.inj hf)).1 (Prod.mk.inj (Option.some.inj hf)).2 dX7_row_31
    · have hf := op_t y19 hf
      refine lv_iconst (v := (-1 : Int32)) hx hb dX7_row_17 (by decide) ?_
      exact w_retI hx hb hr hlocks hW hV (Prod.mk.inj (Option.some.inj hf)).1 (Prod.mk.inj (Option.some.inj hf)).2 dX7_row_18
set_option maxHeartbeats 8000000 in
set_option maxRecDepth 100000 in
theorem k_X7_feed (l : Launch) (E : WE) (μ : Mem) (a1 : Int32) (r : Int32) (μ' : Mem) (hf : f_X7_feed μ a1 = some (r, μ')) : Met l yX7_feed (.code yX7_feed cX7_feed 2 (some .int) :: BIG) ({ frames := 1, cells := 0, slots := 0, locals := 22 }) (PW E μ [.ref (ead E 2000), .int a1]) (QI E r μ') 0 0 (eA E) := by
  refine Met.ofW (cc := cX7_feed) (maxL := 2) (ret := (some .int)) (by decide) rfl ?_
  intro p e s m args below meth c s₁ B hml hv
  obtain ⟨rfl, hW, hZ⟩ := hv
  have hx := B.exec
  have hb := B.bytes
  have hr := B.returns
  have hB : ∀ w ∈ BIG, w.before _ s = true := fun w h => atoms_spec (ws := (.code yX7_feed cX7_feed 2 (some .int) :: BIG)) B.pre w (List.mem_cons_of_mem _ h)
  have hown : s.vm.findClass RX7 = some m.cls := findClass_of_methodNamed B.named
  have hlocks := B.notSynchronized
  have hV : va_S (eA E) s.heap s.heap [] := va_S.rf
  have hl := lv_entry ([.ref (ead E 2000), .int a1]) (n := 2) (Nat.le_of_ble_eq_true rfl)
  rw [lg_entry_eq]
  generalize (lg_sl ([.ref (ead E 2000), .int a1]) ++ List.replicate (2 - (lg_sl ([.ref (ead E 2000), .int a1])).length) Slot.unset).toArray = ls at hl ⊢
  have hl : lv_has ls 2 [(0, .ref (ead E 2000)), (1, .int a1)] := hl
  obtain ⟨H, hH⟩ : ∃ H : Heap, H = s.heap := ⟨_, rfl⟩
  obtain ⟨locs, hlocs⟩ : ∃ locs : List Loc, locs = [] := ⟨_, rfl⟩
  rw [show (W p l e (headSpec (.code yX7_feed cX7_feed 2 (some .int) :: BIG) ({ frames := 1, cells := 0, slots := 0, locals := 22 })).room s m ([.ref (ead E 2000), .int a1] : List Value).toArray below meth c s.heap [] 0 0) = W p l e (headSpec (.code yX7_feed cX7_feed 2 (some .int) :: BIG) ({ frames := 1, cells := 0, slots := 0, locals := 22 })).room s m ([.ref (ead E 2000), .int a1] : List Value).toArray below meth c H locs 0 0 by rw [hH, hlocs]]
  have hV : va_S (eA E) s.heap H locs := by rw [hH, hlocs]; exact hV
  have hW : Wd E μ s H := by rw [hH]; exact hW
  unfold f_X7_feed at hf
  refine lv_iload_n hx hb dX7_feed_0 rfl (lv_at hl 1 rfl) ?_
  refine lv_iconst (v := (0 : Int32)) hx hb dX7_feed_1 (by decide) ?_
  refine lv_bipush (v := (127 : Int32)) hx hb dX7_feed_2 (by decide) ?_
  obtain ⟨v8, e_9, hf⟩ := op_none hf
  refine w_callN (rn_RX7_111 (As := [.int a1, .int (0 : Int32), .int (127 : Int32)]) hx hb hml hown hB hW hZ hV (k_X7_within l E _ a1 (0 : Int32) (127 : Int32) v8 e_9) rfl rfl ⟨(Nat.le_of_ble_eq_true rfl), (Nat.le_of_ble_eq_true rfl)⟩ rfl hl.1 rfl (Nat.le_of_ble_eq_true rfl) dX7_feed_4 ⟨Nat.le_refl _, Nat.le_refl _⟩) hV (fun H locs hn_v8 hW hV => ?_)
  refine lv_if_ne (tgt := 13) hx hb dX7_feed_7 (by decide) (fun y10 => ?_) (fun y10 => ?_)
  · have hf := op_f y10 hf
    refine lv_aload_n hx hb dX7_feed_13 rfl (lv_at hl 0 rfl) ?_
    refine gf_RX7_129 hx hb hB hown hW dX7_feed_14 ?_
    refine lv_bipush (v := (100 : Int32)) hx hb dX7_feed_17 (by decide) ?_
    refine lv_icmp_ne (tgt := 25) hx hb dX7_feed_19 (by decide) (fun y11 => ?_) (fun y11 => ?_)
    · have hf := op_f y11 hf
      refine lv_aload_n hx hb dX7_feed_25 rfl (lv_at hl 0 rfl) ?_
      refine gf_RX7_36 hx hb hB hown hW dX7_feed_26 ?_
      refine lv_aload_n hx hb dX7_feed_29 rfl (lv_at hl 0 rfl) ?_
      refine lv_dup hx hb dX7_feed_30 rfl ?_
      refine gf_RX7_129 hx hb hB hown hW dX7_feed_31 ?_
      obtain ⟨v12, e_v12, hf⟩ := op_none hf
      refine lv_top' (Option.some.inj e_v12) ?_
      refine lv_dup_x1 hx hb dX7_feed_34 rfl rfl ?_
      refine lv_iconst (v := (1 : Int32)) hx hb dX7_feed_35 (by decide) ?_
      refine lv_iadd hx hb dX7_feed_36 ?_
      obtain ⟨μ13, e_μ13, hf⟩ := op_none hf
      refine pf_RX7_129 hx hb hB hown hW hV dX7_feed_37 (fun H locs hW hV => ?_)
      rw [Option.some.inj e_μ13] at hW
      refine lv_iload_n hx hb dX7_feed_40 rfl (lv_at hl 1 rfl) ?_
      obtain ⟨μ14, e_μ14, hf⟩ := op_none hf
      refine w_iast hx hb hW hV iM12.1 (fun f => iM12.2 E f _) e_μ14 dX7_feed_41 (fun H locs hW hV => ?_)
      refine lv_aload_n hx hb dX7_feed_42 rfl (lv_at hl 0 rfl) ?_
      refine gf_RX7_129 hx hb hB hown hW dX7_feed_43 ?_
      exact w_retI hx hb hr hlocks hW hV (Prod.mk.inj (Option.some.inj hf)).1 (Prod.mk.inj (Option.some.inj hf)).2 dX7_feed_46
    · have hf := op_t y11 hf
      refine lv_bipush (v := (-4 : Int32)) hx hb dX7_feed_22 (by decide) ?_
      exact w_retI hx hb hr hlocks hW hV (Prod.mk.inj (Option.some.inj hf)).1 (Prod.mk.inj (Option.some.inj hf)).2 dX7_feed_24
  · have hf := op_t y10 hf
    refine lv_bipush (v := (-2 : Int32)) hx hb dX7_feed_10 (by decide) ?_
    exact w_retI hx hb hr hlocks hW hV (Prod.mk.inj (Option.some.inj hf)).1 (Prod.mk.inj (Option.some.inj hf)).2 dX7_feed_12
set_option maxHeartbeats 8000000 in
set_option maxRecDepth 100000 in
theorem k_X7_is (l : Launch) (E : WE) (μ : Mem) (a1 : Int32) (r : Int32) (μ' : Mem) (hf : f_X7_is μ a1 = some (r, μ')) : Met l yX7_is (.code yX7_is cX7_is 2 (some .boolean) :: BIG) ({ frames := 0, cells := 0, slots := 0, locals := 0 }) (PW E μ [.ref (ead E 2000), .int a1]) (QN E .boolean r μ') 0 0 (eA E) := by
  refine Met.ofW (cc := cX7_is) (maxL := 2) (ret := (some .boolean)) (by decide) rfl ?_
  intro p e s m args below meth c s₁ B hml hv
  obtain ⟨rfl, hW, hZ⟩ := hv
  have hx := B.exec
  have hb := B.bytes
  have hr := B.returns
  have hB : ∀ w ∈ BIG, w.before _ s = true := fun w h => atoms_spec (ws := (.code yX7_is cX7_is 2 (some .boolean) :: BIG)) B.pre w (List.mem_cons_of_mem _ h)
  have hown : s.vm.findClass RX7 = some m.cls := findClass_of_methodNamed B.named
  have hlocks := B.notSynchronized
  have hV : va_S (eA E) s.heap s.heap [] := va_S.rf
  have hl := lv_entry ([.ref (ead E 2000), .int a1]) (n := 2) (Nat.le_of_ble_eq_true rfl)
  rw [lg_entry_eq]
  generalize (lg_sl ([.ref (ead E 2000), .int a1]) ++ List.replicate (2 - (lg_sl ([.ref (ead E 2000), .int a1])).length) Slot.unset).toArray = ls at hl ⊢
  have hl : lv_has ls 2 [(0, .ref (ead E 2000)), (1, .int a1)] := hl
  obtain ⟨H, hH⟩ : ∃ H : Heap, H = s.heap := ⟨_, rfl⟩
  obtain ⟨locs, hlocs⟩ : ∃ locs : List Loc, locs = [] := ⟨_, rfl⟩
  rw [show (W p l e (headSpec (.code yX7_is cX7_is 2 (some .boolean) :: BIG) ({ frames := 0, cells := 0, slots := 0, locals := 0 })).room s m ([.ref (ead E 2000), .int a1] : List Value).toArray below meth c s.heap [] 0 0) = W p l e (headSpec (.code yX7_is cX7_is 2 (some .boolean) :: BIG) ({ frames := 0, cells := 0, slots := 0, locals := 0 })).room s m ([.ref (ead E 2000), .int a1] : List Value).toArray below meth c H locs 0 0 by rw [hH, hlocs]]
  have hV : va_S (eA E) s.heap H locs := by rw [hH, hlocs]; exact hV
  have hW : Wd E μ s H := by rw [hH]; exact hW
  unfold f_X7_is at hf
  refine lv_aload_n hx hb dX7_is_0 rfl (lv_at hl 0 rfl) ?_
  refine gf_RX7_132 hx hb hB hown hW dX7_is_1 ?_
  refine lv_aload_n hx hb dX7_is_4 rfl (lv_at hl 0 rfl) ?_
  refine gf_RX7_129 hx hb hB hown hW dX7_is_5 ?_
  refine lv_icmp_eq (tgt := 24) hx hb dX7_is_8 (by decide) (fun y5 => ?_) (fun y5 => ?_)
  · have hf := op_t y5 hf
    refine lv_iconst (v := (0 : Int32)) hx hb dX7_is_24 (by decide) ?_
    exact w_retN hx hb hr hlocks hW hV (by decide) (Prod.mk.inj (Option.some.inj hf)).1 (Prod.mk.inj (Option.some.inj hf)).2 dX7_is_25
  · have hf := op_f y5 hf
    refine lv_aload_n hx hb dX7_is_11 rfl (lv_at hl 0 rfl) ?_
    refine gf_RX7_36 hx hb hB hown hW dX7_is_12 ?_
    refine lv_aload_n hx hb dX7_is_15 rfl (lv_at hl 0 rfl) ?_
    refine gf_RX7_132 hx hb hB hown hW dX7_is_16 ?_
    obtain ⟨v6, e_v6, hf⟩ := op_none hf
    refine w_iald hx hb hW iM12.1 (iM12.2 E _ _) e_v6 dX7_is_19 ?_
    refine lv_iload_n hx hb dX7_is_20 rfl (lv_at hl 1 rfl) ?_
    refine lv_icmp_eq (tgt := 26) hx hb dX7_is_21 (by decide) (fun y7 => ?_) (fun y7 => ?_)
    · have hf := op_t y7 hf
      refine lv_aload_n hx hb dX7_is_26 rfl (lv_at hl 0 rfl) ?_
      refine lv_dup hx hb dX7_is_27 rfl ?_
      refine gf_RX7_132 hx hb hB hown hW dX7_is_28 ?_
      refine lv_iconst (v := (1 : Int32)) hx hb dX7_is_31 (by decide) ?_
      refine lv_iadd hx hb dX7_is_32 ?_
      obtain ⟨μ8, e_μ8, hf⟩ := op_none hf
      refine pf_RX7_132 hx hb hB hown hW hV dX7_is_33 (fun H locs hW hV => ?_)
      rw [Option.some.inj e_μ8] at hW
      refine lv_iconst (v := (1 : Int32)) hx hb dX7_is_36 (by decide) ?_
      exact w_retN hx hb hr hlocks hW hV (by decide) (Prod.mk.inj (Option.some.inj hf)).1 (Prod.mk.inj (Option.some.inj hf)).2 dX7_is_37
    · have hf := op_f y7 hf
      refine lv_iconst (v := (0 : Int32)) hx hb dX7_is_24 (by decide) ?_
      exact w_retN hx hb hr hlocks hW hV (by decide) (Prod.mk.inj (Option.some.inj hf)).1 (Prod.mk.inj (Option.some.inj hf)).2 dX7_is_25
set_option maxHeartbeats 8000000 in
set_option maxRecDepth 100000 in
theorem k_X7_isDigit (l : Launch) (E : WE) (μ : Mem) (r : Int32) (hf : f_X7_isDigit μ = some r) : Met l yX7_isDigit (.code yX7_isDigit cX7_isDigit 1 (some .boolean) :: BIG) ({ frames := 0, cells := 0, slots := 0, locals := 0 }) (PW E μ [.ref (ead E 2000)]) (QN E .boolean r μ) 0 0 (eA E) := by
  refine Met.ofW (cc := cX7_isDigit) (maxL := 1) (ret := (some .boolean)) (by decide) rfl ?_
  intro p e s m args below meth c s₁ B hml hv
  obtain ⟨rfl, hW, hZ⟩ := hv
  have hx := B.exec
  have hb := B.bytes
  have hr := B.returns
  have hB : ∀ w ∈ BIG, w.before _ s = true := fun w h => atoms_spec (ws := (.code yX7_isDigit cX7_isDigit 1 (some .boolean) :: BIG)) B.pre w (List.mem_cons_of_mem _ h)
  have hown : s.vm.findClass RX7 = some m.cls := findClass_of_methodNamed B.named
  have hlocks := B.notSynchronized
  have hV : va_S (eA E) s.heap s.heap [] := va_S.rf
  have hl := lv_entry ([.ref (ead E 2000)]) (n := 1) (Nat.le_of_ble_eq_true rfl)
  rw [lg_entry_eq]
  generalize (lg_sl ([.ref (ead E 2000)]) ++ List.replicate (1 - (lg_sl ([.ref (ead E 2000)])).length) Slot.unset).toArray = ls at hl ⊢
  have hl : lv_has ls 1 [(0, .ref (ead E 2000))] := hl
  obtain ⟨H, hH⟩ : ∃ H : Heap, H = s.heap := ⟨_, rfl⟩
  obtain ⟨locs, hlocs⟩ : ∃ locs : List Loc, locs = [] := ⟨_, rfl⟩
  rw [show (W p l e (headSpec (.code yX7_isDigit cX7_isDigit 1 (some .boolean) :: BIG) ({ frames := 0, cells := 0, slots := 0, locals := 0 })).room s m ([.ref (ead E 2000)] : List Value).toArray below meth c s.heap [] 0 0) = W p l e (headSpec (.code yX7_isDigit cX7_isDigit 1 (some .boolean) :: BIG) ({ frames := 0, cells := 0, slots := 0, locals := 0 })).room s m ([.ref (ead E 2000)] : List Value).toArray below meth c H locs 0 0 by rw [hH, hlocs]]
  have hV : va_S (eA E) s.heap H locs := by rw [hH, hlocs]; exact hV
  have hW : Wd E μ s H := by rw [hH]; exact hW
  unfold f_X7_isDigit at hf
  refine lv_aload_n hx hb dX7_isDigit_0 rfl (lv_at hl 0 rfl) ?_
  refine gf_RX7_132 hx hb hB hown hW dX7_isDigit_1 ?_
  refine lv_aload_n hx hb dX7_isDigit_4 rfl (lv_at hl 0 rfl) ?_
  refine gf_RX7_129 hx hb hB hown hW dX7_isDigit_5 ?_
  refine lv_icmp_ge (tgt := 43) hx hb dX7_isDigit_8 (by decide) (fun y6 => ?_) (fun y6 => ?_)
  · have hf := op_t y6 hf
    refine lv_iconst (v := (0 : Int32)) hx hb dX7_isDigit_43 (by decide) ?_
    exact w_retN hx hb hr hlocks hW hV (by decide) (Option.some.inj hf) rfl dX7_isDigit_44
  · have hf := op_f y6 hf
    refine lv_aload_n hx hb dX7_isDigit_11 rfl (lv_at hl 0 rfl) ?_
    refine gf_RX7_36 hx hb hB hown hW dX7_isDigit_12 ?_
    refine lv_aload_n hx hb dX7_isDigit_15 rfl (lv_at hl 0 rfl) ?_
    refine gf_RX7_132 hx hb hB hown hW dX7_isDigit_16 ?_
    obtain ⟨v7, e_v7, hf⟩ := op_none hf
    refine w_iald hx hb hW iM12.1 (iM12.2 E _ _) e_v7 dX7_isDigit_19 ?_
    refine lv_bipush (v := (48 : Int32)) hx hb dX7_isDigit_20 (by decide) ?_
    refine lv_icmp_lt (tgt := 43) hx hb dX7_isDigit_22 (by decide) (fun y8 => ?_) (fun y8 => ?_)
    · have hf := op_t y8 hf
      refine lv_iconst (v := (0 : Int32)) hx hb dX7_isDigit_43 (by decide) ?_
      exact w_retN hx hb hr hlocks hW hV (by decide) (Option.some.inj hf) rfl dX7_isDigit_44
    · have hf := op_f y8 hf
      refine lv_aload_n hx hb dX7_isDigit_25 rfl (lv_at hl 0 rfl) ?_
      refine gf_RX7_36 hx hb hB hown hW dX7_isDigit_26 ?_
      refine lv_aload_n hx hb dX7_isDigit_29 rfl (lv_at hl 0 rfl) ?_
      refine gf_RX7_132 hx hb hB hown hW dX7_isDigit_30 ?_
      obtain ⟨v9, e_v9, hf⟩ := op_none hf
      refine w_iald hx hb hW iM12.1 (iM12.2 E _ _) e_v9 dX7_isDigit_33 ?_
      refine lv_bipush (v := (57 : Int32)) hx hb dX7_isDigit_34 (by decide) ?_
      refine lv_icmp_gt (tgt := 43) hx hb dX7_isDigit_36 (by decide) (fun y10 => ?_) (fun y10 => ?_)
      · have hf := op_t y10 hf
        refine lv_iconst (v := (0 : Int32)) hx hb dX7_isDigit_43 (by decide) ?_
        exact w_retN hx hb hr hlocks hW hV (by decide) (Option.some.inj hf) rfl dX7_isDigit_44
      · have hf := op_f y10 hf
        refine lv_iconst (v := (1 : Int32)) hx hb dX7_isDigit_39 (by decide) ?_
        refine lv_goto (tgt := 44) hx hb dX7_isDigit_40 (by decide) ?_
        exact w_retN hx hb hr hlocks hW hV (by decide) (Option.some.inj hf) rfl dX7_isDigit_44
set_option maxHeartbeats 8000000 in
set_option maxRecDepth 100000 in
theorem k_X7_isNumber (l : Launch) (E : WE) (μ : Mem) (r : Int32) (μ' : Mem) (hf : f_X7_isNumber μ = some (r, μ')) : Met l yX7_isNumber (.code yX7_isNumber cX7_isNumber 1 (some .boolean) :: BIG) ({ frames := 1, cells := 0, slots := 0, locals := 20 }) (PW E μ [.ref (ead E 2000)]) (QN E .boolean r μ') 0 0 (eA E) := by
  refine Met.ofW (cc := cX7_isNumber) (maxL := 1) (ret := (some .boolean)) (by decide) rfl ?_
  intro p e s m args below meth c s₁ B hml hv
  obtain ⟨rfl, hW, hZ⟩ := hv
  have hx := B.exec
  have hb := B.bytes
  have hr := B.returns
  have hB : ∀ w ∈ BIG, w.before _ s = true := fun w h => atoms_spec (ws := (.code yX7_isNumber cX7_isNumber 1 (some .boolean) :: BIG)) B.pre w (List.mem_cons_of_mem _ h)
  have hown : s.vm.findClass RX7 = some m.cls := findClass_of_methodNamed B.named
  have hlocks := B.notSynchronized
  have hV : va_S (eA E) s.heap s.heap [] := va_S.rf
  have hl := lv_entry ([.ref (ead E 2000)]) (n := 1) (Nat.le_of_ble_eq_true rfl)
  rw [lg_entry_eq]
  generalize (lg_sl ([.ref (ead E 2000)]) ++ List.replicate (1 - (lg_sl ([.ref (ead E 2000)])).length) Slot.unset).toArray = ls at hl ⊢
  have hl : lv_has ls 1 [(0, .ref (ead E 2000))] := hl
  have c_72 : ∀ (μ_72 : Mem) , f_X7_isNumber_72 μ_72 = some (r, μ') → ∀ (H : Heap) (locs : List Loc) (ls : Array Slot), Wd E μ_72 s H → va_S (eA E) s.heap H locs → lv_has ls 1 [(0, .ref (ead E 2000))] → W p l e (headSpec (.code yX7_isNumber cX7_isNumber 1 (some .boolean) :: BIG) ({ frames := 1, cells := 0, slots := 0, locals := 20 })).room s m ([.ref (ead E 2000)] : List Value).toArray below meth c H locs 0 0 (MQ below (QN E .boolean r μ') ([.ref (ead E 2000)] : List Value).toArray s 0 0 (eA E)) (F0 m 72 ls []) := by
    intro μ_72 hf H locs ls hW hV hl
    unfold f_X7_isNumber_72 at hf
    refine lv_aload_n hx hb dX7_isNumber_72 rfl (lv_at hl 0 rfl) ?_
    refine gf_RX7_138 hx hb hB hown hW dX7_isNumber_73 ?_
    refine lv_if_le (tgt := 83) hx hb dX7_isNumber_76 (by decide) (fun y12 => ?_) (fun y12 => ?_)
    · have hf := op_t y12 hf
      refine lv_iconst (v := (0 : Int32)) hx hb dX7_isNumber_83 (by decide) ?_
      exact w_retN hx hb hr hlocks hW hV (by decide) (Prod.mk.inj (Option.some.inj hf)).1 (Prod.mk.inj (Option.some.inj hf)).2 dX7_isNumber_84
    · have hf := op_f y12 hf
      refine lv_iconst (v := (1 : Int32)) hx hb dX7_isNumber_79 (by decide) ?_
      refine lv_goto (tgt := 84) hx hb dX7_isNumber_80 (by decide) ?_
      exact w_retN hx hb hr hlocks hW hV (by decide) (Prod.mk.inj (Option.some.inj hf)).1 (Prod.mk.inj (Option.some.inj hf)).2 dX7_isNumber_84
  have c_10 : ∀ (n_10 : Nat) (μ_10 : Mem) , f_X7_isNumber_10 n_10 μ_10 = some (r, μ') → ∀ (H : Heap) (locs : List Loc) (ls : Array Slot), Wd E μ_10 s H → va_S (eA E) s.heap H locs → lv_has ls 1 [(0, .ref (ead E 2000))] → W p l e (headSpec (.code yX7_isNumber cX7_isNumber 1 (some .boolean) :: BIG) ({ frames := 1, cells := 0, slots := 0, locals := 20 })).room s m ([.ref (ead E 2000)] : List Value).toArray below meth c H locs 0 0 (MQ below (QN E .boolean r μ') ([.ref (ead E 2000)] : List Value).toArray s 0 0 (eA E)) (F0 m 10 ls []) := by
    intro n_10
    induction n_10 with
    | zero =>
      intro μ_10 hf H locs ls hW hV hl
      cases hf
    | succ n_10 ih_10 =>
      intro μ_10 hf H locs ls hW hV hl
      rw [f_X7_isNumber_10] at hf
      refine lv_aload_n hx hb dX7_isNumber_10 rfl (lv_at hl 0 rfl) ?_
      refine gf_RX7_138 hx hb hB hown hW dX7_isNumber_11 ?_
      refine lv_iconst (v := (2 : Int32)) hx hb dX7_isNumber_14 (by decide) ?_
      refine lv_icmp_ge (tgt := 72) hx hb dX7_isNumber_15 (by decide) (fun y13 => ?_) (fun y13 => ?_)
      · have hf := op_t y13 hf
        exact c_72 μ_10 hf H locs ls hW hV (lv_sub hl [0] rfl)
      · have hf := op_f y13 hf
        refine lv_aload_n hx hb dX7_isNumber_18 rfl (lv_at hl 0 rfl) ?_
        obtain ⟨v14, e_15, hf⟩ := op_none hf
        refine w_callN (rn_RX7_141 (As := []) hx hb hml hown hB hW hZ hV (k_X7_isDigit l E _ v14 e_15) rfl rfl ⟨(Nat.le_of_ble_eq_true rfl), (Nat.le_of_ble_eq_true rfl)⟩ (w_rec hW oM.1 (oM.2 E _ _) rfl) rfl hl.1 rfl (Nat.le_of_ble_eq_true rfl) dX7_isNumber_19 ⟨Nat.le_refl _, Nat.le_refl _⟩) hV (fun H locs hn_v14 hW hV => ?_)
        refine lv_if_eq (tgt := 72) hx hb dX7_isNumber_22 (by decide) (fun y16 => ?_) (fun y16 => ?_)
        · have hf := op_t y16 hf
          exact c_72 μ_10 hf H locs ls hW hV (lv_sub hl [0] rfl)
        · have hf := op_f y16 hf
          refine lv_aload_n hx hb dX7_isNumber_25 rfl (lv_at hl 0 rfl) ?_
          refine lv_bipush (v := (10 : Int32)) hx hb dX7_isNumber_26 (by decide) ?_
          refine lv_aload_n hx hb dX7_isNumber_28 rfl (lv_at hl 0 rfl) ?_
          refine gf_RX7_135 hx hb hB hown hW dX7_isNumber_29 ?_
          refine lv_imul hx hb dX7_isNumber_32 ?_
          refine lv_aload_n hx hb dX7_isNumber_33 rfl (lv_at hl 0 rfl) ?_
          refine gf_RX7_36 hx hb hB hown hW dX7_isNumber_34 ?_
          refine lv_aload_n hx hb dX7_isNumber_37 rfl (lv_at hl 0 rfl) ?_
          refine gf_RX7_132 hx hb hB hown hW dX7_isNumber_38 ?_
          obtain ⟨v17, e_v17, hf⟩ := op_none hf
          refine w_iald hx hb hW iM12.1 (iM12.2 E _ _) e_v17 dX7_isNumber_41 ?_
          refine lv_iadd hx hb dX7_isNumber_42 ?_
          refine lv_bipush (v := (48 : Int32)) hx hb dX7_isNumber_43 (by decide) ?_
          refine lv_isub hx hb dX7_isNumber_45 ?_
          obtain ⟨μ18, e_μ18, hf⟩ := op_none hf
          refine pf_RX7_135 hx hb hB hown hW hV dX7_isNumber_46 (fun H locs hW hV => ?_)
          rw [Option.some.inj e_μ18] at hW
          refine lv_aload_n hx hb dX7_isNumber_49 rfl (lv_at hl 0 rfl) ?_
          refine lv_dup hx hb dX7_isNumber_50 rfl ?_
          refine gf_RX7_132 hx hb hB hown hW dX7_isNumber_51 ?_
          refine lv_iconst (v := (1 : Int32)) hx hb dX7_isNumber_54 (by decide) ?_
          refine lv_iadd hx hb dX7_isNumber_55 ?_
          obtain ⟨μ19, e_μ19, hf⟩ := op_none hf
          refine pf_RX7_132 hx hb hB hown hW hV dX7_isNumber_56 (fun H locs hW hV => ?_)
          rw [Option.some.inj e_μ19] at hW
          refine lv_aload_n hx hb dX7_isNumber_59 rfl (lv_at hl 0 rfl) ?_
          refine lv_dup hx hb dX7_isNumber_60 rfl ?_
          refine gf_RX7_138 hx hb hB hown hW dX7_isNumber_61 ?_
          refine lv_iconst (v := (1 : Int32)) hx hb dX7_isNumber_64 (by decide) ?_
          refine lv_iadd hx hb dX7_isNumber_65 ?_
          obtain ⟨μ20, e_μ20, hf⟩ := op_none hf
          refine pf_RX7_138 hx hb hB hown hW hV dX7_isNumber_66 (fun H locs hW hV => ?_)
          rw [Option.some.inj e_μ20] at hW
          refine lv_goto (tgt := 10) hx hb dX7_isNumber_69 (by decide) ?_
          exact ih_10 μ20 hf H locs ls hW hV (lv_sub hl [0] rfl)
  obtain ⟨H, hH⟩ : ∃ H : Heap, H = s.heap := ⟨_, rfl⟩
  obtain ⟨locs, hlocs⟩ : ∃ locs : List Loc, locs = [] := ⟨_, rfl⟩
  rw [show (W p l e (headSpec (.code yX7_isNumber cX7_isNumber 1 (some .boolean) :: BIG) ({ frames := 1, cells := 0, slots := 0, locals := 20 })).room s m ([.ref (ead E 2000)] : List Value).toArray below meth c s.heap [] 0 0) = W p l e (headSpec (.code yX7_isNumber cX7_isNumber 1 (some .boolean) :: BIG) ({ frames := 1, cells := 0, slots := 0, locals := 20 })).room s m ([.ref (ead E 2000)] : List Value).toArray below meth c H locs 0 0 by rw [hH, hlocs]]
  have hV : va_S (eA E) s.heap H locs := by rw [hH, hlocs]; exact hV
  have hW : Wd E μ s H := by rw [hH]; exact hW
  unfold f_X7_isNumber at hf
  refine lv_aload_n hx hb dX7_isNumber_0 rfl (lv_at hl 0 rfl) ?_
  refine lv_iconst (v := (0 : Int32)) hx hb dX7_isNumber_1 (by decide) ?_
  obtain ⟨μ21, e_μ21, hf⟩ := op_none hf
  refine pf_RX7_135 hx hb hB hown hW hV dX7_isNumber_2 (fun H locs hW hV => ?_)
  rw [Option.some.inj e_μ21] at hW
  refine lv_aload_n hx hb dX7_isNumber_5 rfl (lv_at hl 0 rfl) ?_
  refine lv_iconst (v := (0 : Int32)) hx hb dX7_isNumber_6 (by decide) ?_
  obtain ⟨μ22, e_μ22, hf⟩ := op_none hf
  refine pf_RX7_138 hx hb hB hown hW hV dX7_isNumber_7 (fun H locs hW hV => ?_)
  rw [Option.some.inj e_μ22] at hW
  exact c_10 FU μ22 hf H locs ls hW hV (lv_sub hl [0] rfl)
set_option maxHeartbeats 8000000 in
set_option maxRecDepth 100000 in
theorem k_X7_isAll (l : Launch) (E : WE) (μ : Mem) (k1 : Nat) (h1 : k1 < 9) (r : Int32) (μ' : Mem) (hf : f_X7_isAll μ k1 = some (r, μ')) : Met l yX7_isAll (.code yX7_isAll cX7_isAll 3 (some .boolean) :: BIG) ({ frames := 4, cells := 0, slots := 0, locals := 85 }) (PW E μ [.ref (ead E 2000), .ref (adS E k1)]) (QN E .boolean r μ') 0 0 (eA E) := by
  refine Met.ofW (cc := cX7_isAll) (maxL := 3) (ret := (some .boolean)) (by decide) rfl ?_
  intro p e s m args below meth c s₁ B hml hv
  obtain ⟨rfl, hW, hZ⟩ := hv
  have hx := B.exec
  have hb := B.bytes
  have hr := B.returns
  have hB : ∀ w ∈ BIG, w.before _ s = true := fun w h => atoms_spec (ws := (.code yX7_isAll cX7_isAll 3 (some .boolean) :: BIG)) B.pre w (List.mem_cons_of_mem _ h)
  have hown : s.vm.findClass RX7 = some m.cls := findClass_of_methodNamed B.named
  have hlocks := B.notSynchronized
  have hV : va_S (eA E) s.heap s.heap [] := va_S.rf
  have hl := lv_entry ([.ref (ead E 2000), .ref (adS E k1)]) (n := 3) (Nat.le_of_ble_eq_true rfl)
  rw [lg_entry_eq]
  generalize (lg_sl ([.ref (ead E 2000), .ref (adS E k1)]) ++ List.replicate (3 - (lg_sl ([.ref (ead E 2000), .ref (adS E k1)])).length) Slot.unset).toArray = ls at hl ⊢
  have hl : lv_has ls 3 [(0, .ref (ead E 2000)), (1, .ref (adS E k1))] := hl
  have c_2 : ∀ (n_2 : Nat) (μ_2 : Mem) (b2_2 : Int32) , f_X7_isAll_2 k1 n_2 μ_2 b2_2 = some (r, μ') → ∀ (H : Heap) (locs : List Loc) (ls : Array Slot), Wd E μ_2 s H → va_S (eA E) s.heap H locs → lv_has ls 3 [(0, .ref (ead E 2000)), (1, .ref (adS E k1)), (2, .int b2_2)] → W p l e (headSpec (.code yX7_isAll cX7_isAll 3 (some .boolean) :: BIG) ({ frames := 4, cells := 0, slots := 0, locals := 85 })).room s m ([.ref (ead E 2000), .ref (adS E k1)] : List Value).toArray below meth c H locs 0 0 (MQ below (QN E .boolean r μ') ([.ref (ead E 2000), .ref (adS E k1)] : List Value).toArray s 0 0 (eA E)) (F0 m 2 ls []) := by
    intro n_2
    induction n_2 with
    | zero =>
      intro μ_2 b2_2 hf H locs ls hW hV hl
      cases hf
    | succ n_2 ih_2 =>
      intro μ_2 b2_2 hf H locs ls hW hV hl
      rw [f_X7_isAll_2] at hf
      refine lv_iload_n hx hb dX7_isAll_2 rfl (lv_at hl 2 rfl) ?_
      refine lv_aload_n hx hb dX7_isAll_3 rfl (lv_at hl 1 rfl) ?_
      obtain ⟨v12, e_13, hf⟩ := op_none hf
      refine w_callI (rn_RX7_145 (As := []) hx hb hml hown hB hW hZ hV (k_J0_length_8abf5 l E _ k1 h1 v12 e_13) rfl rfl ⟨(Nat.le_of_ble_eq_true rfl), (Nat.le_of_ble_eq_true rfl)⟩ (w_recS hZ hV h1) rfl hl.1 rfl (Nat.le_of_ble_eq_true rfl) dX7_isAll_4 ⟨Nat.le_refl _, Nat.le_refl _⟩) hV (fun H locs hW hV => ?_)
      refine lv_icmp_ge (tgt := 30) hx hb dX7_isAll_7 (by decide) (fun y14 => ?_) (fun y14 => ?_)
      · have hf := op_t y14 hf
        refine lv_iconst (v := (1 : Int32)) hx hb dX7_isAll_30 (by decide) ?_
        exact w_retN hx hb hr hlocks hW hV (by decide) (Prod.mk.inj (Option.some.inj hf)).1 (Prod.mk.inj (Option.some.inj hf)).2 dX7_isAll_31
      · have hf := op_f y14 hf
        refine lv_aload_n hx hb dX7_isAll_10 rfl (lv_at hl 0 rfl) ?_
        refine lv_aload_n hx hb dX7_isAll_11 rfl (lv_at hl 1 rfl) ?_
        refine lv_iload_n hx hb dX7_isAll_12 rfl (lv_at hl 2 rfl) ?_
        obtain ⟨v15, e_16, hf⟩ := op_none hf
        refine w_callN (rn_RX7_150 (As := [.int b2_2]) hx hb hml hown hB hW hZ hV (k_J0_charAt_5068e l E _ k1 b2_2 h1 v15 e_16) rfl rfl ⟨(Nat.le_of_ble_eq_true rfl), (Nat.le_of_ble_eq_true rfl)⟩ (w_recS hZ hV h1) rfl hl.1 rfl (Nat.le_of_ble_eq_true rfl) dX7_isAll_13 ⟨Nat.le_refl _, Nat.le_refl _⟩) hV (fun H locs hn_v15 hW hV => ?_)
        obtain ⟨p20, e_19, hf⟩ := op_none hf
        refine w_callN (rn_RX7_154 (As := [.int v15]) hx hb hml hown hB hW hZ hV (k_X7_is l E _ v15 p20.1 p20.2 e_19) rfl rfl ⟨(Nat.le_of_ble_eq_true rfl), (Nat.le_of_ble_eq_true rfl)⟩ (w_rec hW oM.1 (oM.2 E _ _) rfl) rfl hl.1 rfl (Nat.le_of_ble_eq_true rfl) dX7_isAll_16 ⟨Nat.le_refl _, Nat.le_refl _⟩) hV (fun H locs hn_p20_1 hW hV => ?_)
        refine lv_if_ne (tgt := 24) hx hb dX7_isAll_19 (by decide) (fun y21 => ?_) (fun y21 => ?_)
        · have hf := op_f y21 hf
          obtain ⟨v22, e_v22, hf⟩ := op_none hf
          refine lv_iinc (v := v22) (lv' := [(2, .int v22), (0, .ref (ead E 2000)), (1, .ref (adS E k1))]) hx hb dX7_isAll_24 hl (k := 2) rfl (by rw [← Option.some.inj e_v22]; rfl) (by decide) rfl (fun ls hl => ?_)
          refine lv_goto (tgt := 2) hx hb dX7_isAll_27 (by decide) ?_
          exact ih_2 p20.2 v22 hf H locs ls hW hV (lv_sub hl [1, 2, 0] rfl)
        · have hf := op_t y21 hf
          refine lv_iconst (v := (0 : Int32)) hx hb dX7_isAll_22 (by decide) ?_
          exact w_retN hx hb hr hlocks hW hV (by decide) (Prod.mk.inj (Option.some.inj hf)).1 (Prod.mk.inj (Option.some.inj hf)).2 dX7_isAll_23
  obtain ⟨H, hH⟩ : ∃ H : Heap, H = s.heap := ⟨_, rfl⟩
  obtain ⟨locs, hlocs⟩ : ∃ locs : List Loc, locs = [] := ⟨_, rfl⟩
  rw [show (W p l e (headSpec (.code yX7_isAll cX7_isAll 3 (some .boolean) :: BIG) ({ frames := 4, cells := 0, slots := 0, locals := 85 })).room s m ([.ref (ead E 2000), .ref (adS E k1)] : List Value).toArray below meth c s.heap [] 0 0) = W p l e (headSpec (.code yX7_isAll cX7_isAll 3 (some .boolean) :: BIG) ({ frames := 4, cells := 0, slots := 0, locals := 85 })).room s m ([.ref (ead E 2000), .ref (adS E k1)] : List Value).toArray below meth c H locs 0 0 by rw [hH, hlocs]]
  have hV : va_S (eA E) s.heap H locs := by rw [hH, hlocs]; exact hV
  have hW : Wd E μ s H := by rw [hH]; exact hW
  unfold f_X7_isAll at hf
  refine lv_iconst (v := (0 : Int32)) hx hb dX7_isAll_0 (by decide) ?_
  refine lv_istore_n (i := 2) (lv' := [(2, .int (0 : Int32)), (0, .ref (ead E 2000)), (1, .ref (adS E k1))]) hx hb dX7_isAll_1 rfl hl (by decide) rfl (fun ls hl => ?_)
  exact c_2 FU μ (0 : Int32) hf H locs ls hW hV (lv_sub hl [1, 2, 0] rfl)
set_option maxHeartbeats 8000000 in
set_option maxRecDepth 100000 in
theorem k_X7_codes (l : Launch) (E : WE) (μ : Mem) (a1 : Int32) (r : Int32) (μ' : Mem) (hf : f_X7_codes μ a1 = some (r, μ')) : Met l yX7_codes (.code yX7_codes cX7_codes 2 (some .boolean) :: BIG) ({ frames := 0, cells := 0, slots := 0, locals := 0 }) (PW E μ [.ref (ead E 2000), .int a1]) (QN E .boolean r μ') 0 0 (eA E) := by
  refine Met.ofW (cc := cX7_codes) (maxL := 2) (ret := (some .boolean)) (by decide) rfl ?_
  intro p e s m args below meth c s₁ B hml hv
  obtain ⟨rfl, hW, hZ⟩ := hv
  have hx := B.exec
  have hb := B.bytes
  have hr := B.returns
  have hB : ∀ w ∈ BIG, w.before _ s = true := fun w h => atoms_spec (ws := (.code yX7_codes cX7_codes 2 (some .boolean) :: BIG)) B.pre w (List.mem_cons_of_mem _ h)
  have hown : s.vm.findClass RX7 = some m.cls := findClass_of_methodNamed B.named
  have hlocks := B.notSynchronized
  have hV : va_S (eA E) s.heap s.heap [] := va_S.rf
  have hl := lv_entry ([.ref (ead E 2000), .int a1]) (n := 2) (Nat.le_of_ble_eq_true rfl)
  rw [lg_entry_eq]
  generalize (lg_sl ([.ref (ead E 2000), .int a1]) ++ List.replicate (2 - (lg_sl ([.ref (ead E 2000), .int a1])).length) Slot.unset).toArray = ls at hl ⊢
  have hl : lv_has ls 2 [(0, .ref (ead E 2000)), (1, .int a1)] := hl
  obtain ⟨H, hH⟩ : ∃ H : Heap, H = s.heap := ⟨_, rfl⟩
  obtain ⟨locs, hlocs⟩ : ∃ locs : List Loc, locs = [] := ⟨_, rfl⟩
  rw [show (W p l e (headSpec (.code yX7_codes cX7_codes 2 (some .boolean) :: BIG) ({ frames := 0, cells := 0, slots := 0, locals := 0 })).room s m ([.ref (ead E 2000), .int a1] : List Value).toArray below meth c s.heap [] 0 0) = W p l e (headSpec (.code yX7_codes cX7_codes 2 (some .boolean) :: BIG) ({ frames := 0, cells := 0, slots := 0, locals := 0 })).room s m ([.ref (ead E 2000), .int a1] : List Value).toArray below meth c H locs 0 0 by rw [hH, hlocs]]
  have hV : va_S (eA E) s.heap H locs := by rw [hH, hlocs]; exact hV
  have hW : Wd E μ s H := by rw [hH]; exact hW
  unfold f_X7_codes at hf
  refine lv_aload_n hx hb dX7_codes_0 rfl (lv_at hl 0 rfl) ?_
  refine gf_RX7_54 hx hb hB hown hW dX7_codes_1 ?_
  refine lv_aload_n hx hb dX7_codes_4 rfl (lv_at hl 0 rfl) ?_
  refine lv_dup hx hb dX7_codes_5 rfl ?_
  refine gf_RX7_157 hx hb hB hown hW dX7_codes_6 ?_
  obtain ⟨v4, e_v4, hf⟩ := op_none hf
  refine lv_top' (Option.some.inj e_v4) ?_
  refine lv_dup_x1 hx hb dX7_codes_9 rfl rfl ?_
  refine lv_iconst (v := (1 : Int32)) hx hb dX7_codes_10 (by decide) ?_
  refine lv_iadd hx hb dX7_codes_11 ?_
  obtain ⟨μ5, e_μ5, hf⟩ := op_none hf
  refine pf_RX7_157 hx hb hB hown hW hV dX7_codes_12 (fun H locs hW hV => ?_)
  rw [Option.some.inj e_μ5] at hW
  refine lv_iload_n hx hb dX7_codes_15 rfl (lv_at hl 1 rfl) ?_
  obtain ⟨μ6, e_μ6, hf⟩ := op_none hf
  refine w_iast hx hb hW hV iM24.1 (fun f => iM24.2 E f _) e_μ6 dX7_codes_16 (fun H locs hW hV => ?_)
  refine lv_iconst (v := (1 : Int32)) hx hb dX7_codes_17 (by decide) ?_
  exact w_retN hx hb hr hlocks hW hV (by decide) (Prod.mk.inj (Option.some.inj hf)).1 (Prod.mk.inj (Option.some.inj hf)).2 dX7_codes_18
set_option maxHeartbeats 8000000 in
set_option maxRecDepth 100000 in
theorem k_X7_isTest (l : Launch) (E : WE) (μ : Mem) (r : Int32) (μ' : Mem) (hf : f_X7_isTest μ = some (r, μ')) : Met l yX7_isTest (.code yX7_isTest cX7_isTest 3 (some .boolean) :: BIG) ({ frames := 4, cells := 0, slots := 0, locals := 106 }) (PW E μ [.ref (ead E 2000)]) (QN E .boolean r μ') 0 0 (eA E) := by
  refine Met.ofW (cc := cX7_isTest) (maxL := 3) (ret := (some .boolean)) (by decide) rfl ?_
  intro p e s m args below meth c s₁ B hml hv
  obtain ⟨rfl, hW, hZ⟩ := hv
  have hx := B.exec
  have hb := B.bytes
  have hr := B.returns
  have hB : ∀ w ∈ BIG, w.before _ s = true := fun w h => atoms_spec (ws := (.code yX7_isTest cX7_isTest 3 (some .boolean) :: BIG)) B.pre w (List.mem_cons_of_mem _ h)
  have hown : s.vm.findClass RX7 = some m.cls := findClass_of_methodNamed B.named
  have hlocks := B.notSynchronized
  have hV : va_S (eA E) s.heap s.heap [] := va_S.rf
  have hl := lv_entry ([.ref (ead E 2000)]) (n := 3) (Nat.le_of_ble_eq_true rfl)
  rw [lg_entry_eq]
  generalize (lg_sl ([.ref (ead E 2000)]) ++ List.replicate (3 - (lg_sl ([.ref (ead E 2000)])).length) Slot.unset).toArray = ls at hl ⊢
  have hl : lv_has ls 3 [(0, .ref (ead E 2000))] := hl
  have c_99 : ∀ (μ_99 : Mem) (b1_99 : Int32) (s0_99 : Int32) , f_X7_isTest_99 μ_99 b1_99 s0_99 = some (r, μ') → ∀ (H : Heap) (locs : List Loc) (ls : Array Slot), Wd E μ_99 s H → va_S (eA E) s.heap H locs → lv_has ls 3 [(0, .ref (ead E 2000)), (1, .int b1_99)] → W p l e (headSpec (.code yX7_isTest cX7_isTest 3 (some .boolean) :: BIG) ({ frames := 4, cells := 0, slots := 0, locals := 106 })).room s m ([.ref (ead E 2000)] : List Value).toArray below meth c H locs 0 0 (MQ below (QN E .boolean r μ') ([.ref (ead E 2000)] : List Value).toArray s 0 0 (eA E)) (F0 m 99 ls [.int s0_99]) := by
    intro μ_99 b1_99 s0_99 hf H locs ls hW hV hl
    unfold f_X7_isTest_99 at hf
    refine lv_istore_n (i := 2) (lv' := [(2, .int s0_99), (0, .ref (ead E 2000)), (1, .int b1_99)]) hx hb dX7_isTest_99 rfl hl (by decide) rfl (fun ls hl => ?_)
    refine lv_iload_n hx hb dX7_isTest_100 rfl (lv_at hl 0 rfl) ?_
    refine lv_if_ge (tgt := 106) hx hb dX7_isTest_101 (by decide) (fun y27 => ?_) (fun y27 => ?_)
    · have hf := op_t y27 hf
      refine lv_aload_n hx hb dX7_isTest_106 rfl (lv_at hl 1 rfl) ?_
      refine lv_dup hx hb dX7_isTest_107 rfl ?_
      refine gf_RX7_132 hx hb hB hown hW dX7_isTest_108 ?_
      refine lv_iconst (v := (1 : Int32)) hx hb dX7_isTest_111 (by decide) ?_
      refine lv_iadd hx hb dX7_isTest_112 ?_
      obtain ⟨μ28, e_μ28, hf⟩ := op_none hf
      refine pf_RX7_132 hx hb hB hown hW hV dX7_isTest_113 (fun H locs hW hV => ?_)
      rw [Option.some.inj e_μ28] at hW
      refine lv_aload_n hx hb dX7_isTest_116 rfl (lv_at hl 1 rfl) ?_
      obtain ⟨p32, e_31, hf⟩ := op_none hf
      refine w_callN (rn_RX7_167 (As := []) hx hb hml hown hB hW hZ hV (k_X7_isNumber l E _ p32.1 p32.2 e_31) rfl rfl ⟨(Nat.le_of_ble_eq_true rfl), (Nat.le_of_ble_eq_true rfl)⟩ (w_rec hW oM.1 (oM.2 E _ _) rfl) rfl hl.1 rfl (Nat.le_of_ble_eq_true rfl) dX7_isTest_117 ⟨Nat.le_refl _, Nat.le_refl _⟩) hV (fun H locs hn_p32_1 hW hV => ?_)
      refine lv_if_eq (tgt := 151) hx hb dX7_isTest_120 (by decide) (fun y33 => ?_) (fun y33 => ?_)
      · have hf := op_t y33 hf
        refine lv_iconst (v := (0 : Int32)) hx hb dX7_isTest_151 (by decide) ?_
        exact w_retN hx hb hr hlocks hW hV (by decide) (Prod.mk.inj (Option.some.inj hf)).1 (Prod.mk.inj (Option.some.inj hf)).2 dX7_isTest_152
      · have hf := op_f y33 hf
        refine lv_aload_n hx hb dX7_isTest_123 rfl (lv_at hl 1 rfl) ?_
        refine lv_iconst (v := (3 : Int32)) hx hb dX7_isTest_124 (by decide) ?_
        refine lv_sipush (v := (300 : Int32)) hx hb dX7_isTest_125 (by decide) ?_
        refine lv_iload_n hx hb dX7_isTest_128 rfl (lv_at hl 2 rfl) ?_
        refine lv_imul hx hb dX7_isTest_129 ?_
        refine lv_iadd hx hb dX7_isTest_130 ?_
        refine lv_bipush (v := (100 : Int32)) hx hb dX7_isTest_131 (by decide) ?_
        refine lv_iload_n hx hb dX7_isTest_133 rfl (lv_at hl 0 rfl) ?_
        refine lv_imul hx hb dX7_isTest_134 ?_
        refine lv_iadd hx hb dX7_isTest_135 ?_
        refine lv_aload_n hx hb dX7_isTest_136 rfl (lv_at hl 1 rfl) ?_
        refine gf_RX7_135 hx hb hB hown hW dX7_isTest_137 ?_
        refine lv_iadd hx hb dX7_isTest_140 ?_
        obtain ⟨p37, e_36, hf⟩ := op_none hf
        refine w_callN (rn_RX7_170 (As := [.int ((((3 : Int32) + ((300 : Int32) * b1_99)) + ((100 : Int32) * s0_99)) + (gI p32.2 2000 14))]) hx hb hml hown hB hW hZ hV (k_X7_codes l E _ ((((3 : Int32) + ((300 : Int32) * b1_99)) + ((100 : Int32) * s0_99)) + (gI p32.2 2000 14)) p37.1 p37.2 e_36) rfl rfl ⟨(Nat.le_of_ble_eq_true rfl), (Nat.le_of_ble_eq_true rfl)⟩ (w_rec hW oM.1 (oM.2 E _ _) rfl) rfl hl.1 rfl (Nat.le_of_ble_eq_true rfl) dX7_isTest_141 ⟨Nat.le_refl _, Nat.le_refl _⟩) hV (fun H locs hn_p37_1 hW hV => ?_)
        refine lv_if_eq (tgt := 151) hx hb dX7_isTest_144 (by decide) (fun y38 => ?_) (fun y38 => ?_)
        · have hf := op_t y38 hf
          refine lv_iconst (v := (0 : Int32)) hx hb dX7_isTest_151 (by decide) ?_
          exact w_retN hx hb hr hlocks hW hV (by decide) (Prod.mk.inj (Option.some.inj hf)).1 (Prod.mk.inj (Option.some.inj hf)).2 dX7_isTest_152
        · have hf := op_f y38 hf
          refine lv_iconst (v := (1 : Int32)) hx hb dX7_isTest_147 (by decide) ?_
          refine lv_goto (tgt := 152) hx hb dX7_isTest_148 (by decide) ?_
          exact w_retN hx hb hr hlocks hW hV (by decide) (Prod.mk.inj (Option.some.inj hf)).1 (Prod.mk.inj (Option.some.inj hf)).2 dX7_isTest_152
    · have hf := op_f y27 hf
      refine lv_iconst (v := (0 : Int32)) hx hb dX7_isTest_104 (by decide) ?_
      exact w_retN hx hb hr hlocks hW hV (by decide) (Prod.mk.inj (Option.some.inj hf)).1 (Prod.mk.inj (Option.some.inj hf)).2 dX7_isTest_105
  have c_98 : ∀ (μ_98 : Mem) (b1_98 : Int32) , f_X7_isTest_98 μ_98 b1_98 = some (r, μ') → ∀ (H : Heap) (locs : List Loc) (ls : Array Slot), Wd E μ_98 s H → va_S (eA E) s.heap H locs → lv_has ls 3 [(0, .ref (ead E 2000)), (1, .int b1_98)] → W p l e (headSpec (.code yX7_isTest cX7_isTest 3 (some .boolean) :: BIG) ({ frames := 4, cells := 0, slots := 0, locals := 106 })).room s m ([.ref (ead E 2000)] : List Value).toArray below meth c H locs 0 0 (MQ below (QN E .boolean r μ') ([.ref (ead E 2000)] : List Value).toArray s 0 0 (eA E)) (F0 m 98 ls []) := by
    intro μ_98 b1_98 hf H locs ls hW hV hl
    unfold f_X7_isTest_98 at hf
    refine lv_iconst (v := (-1 : Int32)) hx hb dX7_isTest_98 (by decide) ?_
    exact c_99 μ_98 b1_98 (-1 : Int32) hf H locs ls hW hV (lv_sub hl [0, 1] rfl)
  have c_41 : ∀ (μ_41 : Mem) (s0_41 : Int32) , f_X7_isTest_41 μ_41 s0_41 = some (r, μ') → ∀ (H : Heap) (locs : List Loc) (ls : Array Slot), Wd E μ_41 s H → va_S (eA E) s.heap H locs → lv_has ls 3 [(0, .ref (ead E 2000))] → W p l e (headSpec (.code yX7_isTest cX7_isTest 3 (some .boolean) :: BIG) ({ frames := 4, cells := 0, slots := 0, locals := 106 })).room s m ([.ref (ead E 2000)] : List Value).toArray below meth c H locs 0 0 (MQ below (QN E .boolean r μ') ([.ref (ead E 2000)] : List Value).toArray s 0 0 (eA E)) (F0 m 41 ls [.int s0_41]) := by
    intro μ_41 s0_41 hf H locs ls hW hV hl
    unfold f_X7_isTest_41 at hf
    refine lv_istore_n (i := 1) (lv' := [(1, .int s0_41), (0, .ref (ead E 2000))]) hx hb dX7_isTest_41 rfl hl (by decide) rfl (fun ls hl => ?_)
    refine lv_iload_n hx hb dX7_isTest_42 rfl (lv_at hl 0 rfl) ?_
    refine lv_if_ge (tgt := 48) hx hb dX7_isTest_43 (by decide) (fun y39 => ?_) (fun y39 => ?_)
    · have hf := op_t y39 hf
      refine lv_aload_n hx hb dX7_isTest_48 rfl (lv_at hl 1 rfl) ?_
      refine lv_dup hx hb dX7_isTest_49 rfl ?_
      refine gf_RX7_132 hx hb hB hown hW dX7_isTest_50 ?_
      refine lv_iconst (v := (1 : Int32)) hx hb dX7_isTest_53 (by decide) ?_
      refine lv_iadd hx hb dX7_isTest_54 ?_
      obtain ⟨μ40, e_μ40, hf⟩ := op_none hf
      refine pf_RX7_132 hx hb hB hown hW hV dX7_isTest_55 (fun H locs hW hV => ?_)
      rw [Option.some.inj e_μ40] at hW
      refine lv_aload_n hx hb dX7_isTest_58 rfl (lv_at hl 1 rfl) ?_
      refine gf_RX7_132 hx hb hB hown hW dX7_isTest_59 ?_
      refine lv_aload_n hx hb dX7_isTest_62 rfl (lv_at hl 1 rfl) ?_
      refine gf_RX7_129 hx hb hB hown hW dX7_isTest_63 ?_
      refine lv_icmp_ge (tgt := 98) hx hb dX7_isTest_66 (by decide) (fun y41 => ?_) (fun y41 => ?_)
      · have hf := op_t y41 hf
        exact c_98 μ40 s0_41 hf H locs ls hW hV (lv_sub hl [1, 0] rfl)
      · have hf := op_f y41 hf
        refine lv_aload_n hx hb dX7_isTest_69 rfl (lv_at hl 1 rfl) ?_
        refine gf_RX7_36 hx hb hB hown hW dX7_isTest_70 ?_
        refine lv_aload_n hx hb dX7_isTest_73 rfl (lv_at hl 1 rfl) ?_
        refine gf_RX7_132 hx hb hB hown hW dX7_isTest_74 ?_
        obtain ⟨v42, e_v42, hf⟩ := op_none hf
        refine w_iald hx hb hW iM12.1 (iM12.2 E _ _) e_v42 dX7_isTest_77 ?_
        refine lv_if_le (tgt := 98) hx hb dX7_isTest_78 (by decide) (fun y43 => ?_) (fun y43 => ?_)
        · have hf := op_t y43 hf
          exact c_98 μ40 s0_41 hf H locs ls hW hV (lv_sub hl [1, 0] rfl)
        · have hf := op_f y43 hf
          refine w_ldcS hx hb hown hZ (List.mem_of_getElem? (i := 10) rfl) dX7_isTest_81 ?_
          refine lv_aload_n hx hb dX7_isTest_83 rfl (lv_at hl 1 rfl) ?_
          refine gf_RX7_36 hx hb hB hown hW dX7_isTest_84 ?_
          refine lv_aload_n hx hb dX7_isTest_87 rfl (lv_at hl 1 rfl) ?_
          refine gf_RX7_132 hx hb hB hown hW dX7_isTest_88 ?_
          obtain ⟨v44, e_v44, hf⟩ := op_none hf
          refine w_iald hx hb hW iM12.1 (iM12.2 E _ _) e_v44 dX7_isTest_91 ?_
          obtain ⟨v45, e_46, hf⟩ := op_none hf
          refine w_callI (rn_RX7_162 (As := [.int v44]) hx hb hml hown hB hW hZ hV (k_J0_indexOf_0f7a4 l E _ 5 v44 (by decide) v45 e_46) rfl rfl ⟨(Nat.le_of_ble_eq_true rfl), (Nat.le_of_ble_eq_true rfl)⟩ (w_recS hZ hV (by decide)) rfl hl.1 rfl (Nat.le_of_ble_eq_true rfl) dX7_isTest_92 ⟨Nat.le_refl _, Nat.le_refl _⟩) hV (fun H locs hW hV => ?_)
          refine lv_goto (tgt := 99) hx hb dX7_isTest_95 (by decide) ?_
          exact c_99 μ40 s0_41 v45 hf H locs ls hW hV (lv_sub hl [1, 0] rfl)
    · have hf := op_f y39 hf
      refine lv_iconst (v := (0 : Int32)) hx hb dX7_isTest_46 (by decide) ?_
      exact w_retN hx hb hr hlocks hW hV (by decide) (Prod.mk.inj (Option.some.inj hf)).1 (Prod.mk.inj (Option.some.inj hf)).2 dX7_isTest_47
  have c_40 : ∀ (μ_40 : Mem) , f_X7_isTest_40 μ_40 = some (r, μ') → ∀ (H : Heap) (locs : List Loc) (ls : Array Slot), Wd E μ_40 s H → va_S (eA E) s.heap H locs → lv_has ls 3 [(0, .ref (ead E 2000))] → W p l e (headSpec (.code yX7_isTest cX7_isTest 3 (some .boolean) :: BIG) ({ frames := 4, cells := 0, slots := 0, locals := 106 })).room s m ([.ref (ead E 2000)] : List Value).toArray below meth c H locs 0 0 (MQ below (QN E .boolean r μ') ([.ref (ead E 2000)] : List Value).toArray s 0 0 (eA E)) (F0 m 40 ls []) := by
    intro μ_40 hf H locs ls hW hV hl
    unfold f_X7_isTest_40 at hf
    refine lv_iconst (v := (-1 : Int32)) hx hb dX7_isTest_40 (by decide) ?_
    exact c_41 μ_40 (-1 : Int32) hf H locs ls hW hV (lv_sub hl [0] rfl)
  obtain ⟨H, hH⟩ : ∃ H : Heap, H = s.heap := ⟨_, rfl⟩
  obtain ⟨locs, hlocs⟩ : ∃ locs : List Loc, locs = [] := ⟨_, rfl⟩
  rw [show (W p l e (headSpec (.code yX7_isTest cX7_isTest 3 (some .boolean) :: BIG) ({ frames := 4, cells := 0, slots := 0, locals := 106 })).room s m ([.ref (ead E 2000)] : List Value).toArray below meth c s.heap [] 0 0) = W p l e (headSpec (.code yX7_isTest cX7_isTest 3 (some .boolean) :: BIG) ({ frames := 4, cells := 0, slots := 0, locals := 106 })).room s m ([.ref (ead E 2000)] : List Value).toArray below meth c H locs 0 0 by rw [hH, hlocs]]
  have hV : va_S (eA E) s.heap H locs := by rw [hH, hlocs]; exact hV
  have hW : Wd E μ s H := by rw [hH]; exact hW
  unfold f_X7_isTest at hf
  refine lv_aload_n hx hb dX7_isTest_0 rfl (lv_at hl 0 rfl) ?_
  refine gf_RX7_132 hx hb hB hown hW dX7_isTest_1 ?_
  refine lv_aload_n hx hb dX7_isTest_4 rfl (lv_at hl 0 rfl) ?_
  refine gf_RX7_129 hx hb hB hown hW dX7_isTest_5 ?_
  refine lv_icmp_ge (tgt := 40) hx hb dX7_isTest_8 (by decide) (fun y47 => ?_) (fun y47 => ?_)
  · have hf := op_t y47 hf
    exact c_40 μ hf H locs ls hW hV (lv_sub hl [0] rfl)
  · have hf := op_f y47 hf
    refine lv_aload_n hx hb dX7_isTest_11 rfl (lv_at hl 0 rfl) ?_
    refine gf_RX7_36 hx hb hB hown hW dX7_isTest_12 ?_
    refine lv_aload_n hx hb dX7_isTest_15 rfl (lv_at hl 0 rfl) ?_
    refine gf_RX7_132 hx hb hB hown hW dX7_isTest_16 ?_
    obtain ⟨v48, e_v48, hf⟩ := op_none hf
    refine w_iald hx hb hW iM12.1 (iM12.2 E _ _) e_v48 dX7_isTest_19 ?_
    refine lv_if_le (tgt := 40) hx hb dX7_isTest_20 (by decide) (fun y49 => ?_) (fun y49 => ?_)
    · have hf := op_t y49 hf
      exact c_40 μ hf H locs ls hW hV (lv_sub hl [0] rfl)
    · have hf := op_f y49 hf
      refine w_ldcS hx hb hown hZ (List.mem_of_getElem? (i := 9) rfl) dX7_isTest_23 ?_
      refine lv_aload_n hx hb dX7_isTest_25 rfl (lv_at hl 0 rfl) ?_
      refine gf_RX7_36 hx hb hB hown hW dX7_isTest_26 ?_
      refine lv_aload_n hx hb dX7_isTest_29 rfl (lv_at hl 0 rfl) ?_
      refine gf_RX7_132 hx hb hB hown hW dX7_isTest_30 ?_
      obtain ⟨v50, e_v50, hf⟩ := op_none hf
      refine w_iald hx hb hW iM12.1 (iM12.2 E _ _) e_v50 dX7_isTest_33 ?_
      obtain ⟨v51, e_52, hf⟩ := op_none hf
      refine w_callI (rn_RX7_162 (As := [.int v50]) hx hb hml hown hB hW hZ hV (k_J0_indexOf_0f7a4 l E _ 4 v50 (by decide) v51 e_52) rfl rfl ⟨(Nat.le_of_ble_eq_true rfl), (Nat.le_of_ble_eq_true rfl)⟩ (w_recS hZ hV (by decide)) rfl hl.1 rfl (Nat.le_of_ble_eq_true rfl) dX7_isTest_34 ⟨Nat.le_refl _, Nat.le_refl _⟩) hV (fun H locs hW hV => ?_)
      refine lv_goto (tgt := 41) hx hb dX7_isTest_37 (by decide) ?_
      exact c_41 μ v51 hf H locs ls hW hV (lv_sub hl [0] rfl)
set_option maxHeartbeats 8000000 in
set_option maxRecDepth 100000 in
theorem k_X7_isOpened (l : Launch) (E : WE) (μ : Mem) (a1 : Int32) (r : Int32) (μ' : Mem) (hf : f_X7_isOpened μ a1 = some (r, μ')) : Met l yX7_isOpened (.code yX7_isOpened cX7_isOpened 2 (some .boolean) :: BIG) ({ frames := 1, cells := 0, slots := 0, locals := 21 }) (PW E μ [.ref (ead E 2000), .int a1]) (QN E .boolean r μ') 0 0 (eA E) := by
  refine Met.ofW (cc := cX7_isOpened) (maxL := 2) (ret := (some .boolean)) (by decide) rfl ?_
  intro p e s m args below meth c s₁ B hml hv
  obtain ⟨rfl, hW, hZ⟩ := hv
  have hx := B.exec
  have hb := B.bytes
  have hr := B.returns
  have hB : ∀ w ∈ BIG, w.before _ s = true := fun w h => atoms_spec (ws := (.code yX7_isOpened cX7_isOpened 2 (some .boolean) :: BIG)) B.pre w (List.mem_cons_of_mem _ h)
  have hown : s.vm.findClass RX7 = some m.cls := findClass_of_methodNamed B.named
  have hlocks := B.notSynchronized
  have hV : va_S (eA E) s.heap s.heap [] := va_S.rf
  have hl := lv_entry ([.ref (ead E 2000), .int a1]) (n := 2) (Nat.le_of_ble_eq_true rfl)
  rw [lg_entry_eq]
  generalize (lg_sl ([.ref (ead E 2000), .int a1]) ++ List.replicate (2 - (lg_sl ([.ref (ead E 2000), .int a1])).length) Slot.unset).toArray = ls at hl ⊢
  have hl : lv_has ls 2 [(0, .ref (ead E 2000)), (1, .int a1)] := hl
  obtain ⟨H, hH⟩ : ∃ H : Heap, H = s.heap := ⟨_, rfl⟩
  obtain ⟨locs, hlocs⟩ : ∃ locs : List Loc, locs = [] := ⟨_, rfl⟩
  rw [show (W p l e (headSpec (.code yX7_isOpened cX7_isOpened 2 (some .boolean) :: BIG) ({ frames := 1, cells := 0, slots := 0, locals := 21 })).room s m ([.ref (ead E 2000), .int a1] : List Value).toArray below meth c s.heap [] 0 0) = W p l e (headSpec (.code yX7_isOpened cX7_isOpened 2 (some .boolean) :: BIG) ({ frames := 1, cells := 0, slots := 0, locals := 21 })).room s m ([.ref (ead E 2000), .int a1] : List Value).toArray below meth c H locs 0 0 by rw [hH, hlocs]]
  have hV : va_S (eA E) s.heap H locs := by rw [hH, hlocs]; exact hV
  have hW : Wd E μ s H := by rw [hH]; exact hW
  unfold f_X7_isOpened at hf
  refine lv_aload_n hx hb dX7_isOpened_0 rfl (lv_at hl 0 rfl) ?_
  refine gf_RX7_173 hx hb hB hown hW dX7_isOpened_1 ?_
  refine lv_iconst (v := (4 : Int32)) hx hb dX7_isOpened_4 (by decide) ?_
  refine lv_icmp_eq (tgt := 16) hx hb dX7_isOpened_5 (by decide) (fun y8 => ?_) (fun y8 => ?_)
  · have hf := op_t y8 hf
    refine lv_iconst (v := (0 : Int32)) hx hb dX7_isOpened_16 (by decide) ?_
    exact w_retN hx hb hr hlocks hW hV (by decide) (Prod.mk.inj (Option.some.inj hf)).1 (Prod.mk.inj (Option.some.inj hf)).2 dX7_isOpened_17
  · have hf := op_f y8 hf
    refine lv_aload_n hx hb dX7_isOpened_8 rfl (lv_at hl 0 rfl) ?_
    refine lv_iload_n hx hb dX7_isOpened_9 rfl (lv_at hl 1 rfl) ?_
    obtain ⟨p12, e_11, hf⟩ := op_none hf
    refine w_callN (rn_RX7_154 (As := [.int a1]) hx hb hml hown hB hW hZ hV (k_X7_is l E _ a1 p12.1 p12.2 e_11) rfl rfl ⟨(Nat.le_of_ble_eq_true rfl), (Nat.le_of_ble_eq_true rfl)⟩ (w_rec hW oM.1 (oM.2 E _ _) rfl) rfl hl.1 rfl (Nat.le_of_ble_eq_true rfl) dX7_isOpened_10 ⟨Nat.le_refl _, Nat.le_refl _⟩) hV (fun H locs hn_p12_1 hW hV => ?_)
    refine lv_if_ne (tgt := 18) hx hb dX7_isOpened_13 (by decide) (fun y13 => ?_) (fun y13 => ?_)
    · have hf := op_f y13 hf
      refine lv_aload_n hx hb dX7_isOpened_18 rfl (lv_at hl 0 rfl) ?_
      refine lv_dup hx hb dX7_isOpened_19 rfl ?_
      refine gf_RX7_173 hx hb hB hown hW dX7_isOpened_20 ?_
      refine lv_iconst (v := (1 : Int32)) hx hb dX7_isOpened_23 (by decide) ?_
      refine lv_iadd hx hb dX7_isOpened_24 ?_
      obtain ⟨μ14, e_μ14, hf⟩ := op_none hf
      refine pf_RX7_173 hx hb hB hown hW hV dX7_isOpened_25 (fun H locs hW hV => ?_)
      rw [Option.some.inj e_μ14] at hW
      refine lv_iconst (v := (1 : Int32)) hx hb dX7_isOpened_28 (by decide) ?_
      exact w_retN hx hb hr hlocks hW hV (by decide) (Prod.mk.inj (Option.some.inj hf)).1 (Prod.mk.inj (Option.some.inj hf)).2 dX7_isOpened_29
    · have hf := op_t y13 hf
      refine lv_iconst (v := (0 : Int32)) hx hb dX7_isOpened_16 (by decide) ?_
      exact w_retN hx hb hr hlocks hW hV (by decide) (Prod.mk.inj (Option.some.inj hf)).1 (Prod.mk.inj (Option.some.inj hf)).2 dX7_isOpened_17
set_option maxHeartbeats 8000000 in
set_option maxRecDepth 100000 in
theorem kg_efs (l : Launch) (E : WE) : ∀ d : Nat, (∀ (μ : Mem) (r : Int32) (μ' : Mem) , (G_efs d).1 μ = some (r, μ') → Met l yX7_isE (.code yX7_isE cX7_isE 1 (some .boolean) :: BIG) ({ frames := 5 + d, cells := 0, slots := 0, locals := 128 + d * 21 }) (PW E μ [.ref (ead E 2000)]) (QN E .boolean r μ') 0 0 (eA E)) ∧ (∀ (μ : Mem) (r : Int32) (μ' : Mem) , (G_efs d).2.1 μ = some (r, μ') → Met l yX7_isT (.code yX7_isT cX7_isT 1 (some .boolean) :: BIG) ({ frames := 5 + d, cells := 0, slots := 0, locals := 128 + d * 21 }) (PW E μ [.ref (ead E 2000)]) (QN E .boolean r μ') 0 0 (eA E)) ∧ (∀ (μ : Mem) (r : Int32) (μ' : Mem) , (G_efs d).2.2 μ = some (r, μ') → Met l yX7_isF (.code yX7_isF cX7_isF 2 (some .boolean) :: BIG) ({ frames := 5 + d, cells := 0, slots := 0, locals := 128 + d * 21 }) (PW E μ [.ref (ead E 2000)]) (QN E .boolean r μ') 0 0 (eA E)) := by
  intro d
  induction d with
  | zero =>
    refine ⟨?_, ?_, ?_⟩
    · intro μ r μ' hf
      cases hf
    · intro μ r μ' hf
      cases hf
    · intro μ r μ' hf
      cases hf
  | succ d ih =>
    obtain ⟨G, hG⟩ : ∃ G : (Mem → Option (Int32 × Mem)) × (Mem → Option (Int32 × Mem)) × (Mem → Option (Int32 × Mem)), G = G_efs d := ⟨_, rfl⟩
    rw [← hG] at ih
    refine ⟨?_, ?_, ?_⟩
    · intro μ r μ' hf
      have hf : b_X7_isE G μ = some (r, μ') := by rw [hG]; exact hf
      unfold b_X7_isE at hf
      refine Met.ofW (cc := cX7_isE) (maxL := 1) (ret := (some .boolean)) (by decide) rfl ?_
      intro p e s m args below meth c s₁ B hml hv
      obtain ⟨rfl, hW, hZ⟩ := hv
      have hx := B.exec
      have hb := B.bytes
      have hr := B.returns
      have hB : ∀ w ∈ BIG, w.before _ s = true := fun w h => atoms_spec (ws := (.code yX7_isE cX7_isE 1 (some .boolean) :: BIG)) B.pre w (List.mem_cons_of_mem _ h)
      have hown : s.vm.findClass RX7 = some m.cls := findClass_of_methodNamed B.named
      have hlocks := B.notSynchronized
      have hV : va_S (eA E) s.heap s.heap [] := va_S.rf
      have hl := lv_entry ([.ref (ead E 2000)]) (n := 1) (Nat.le_of_ble_eq_true rfl)
      rw [lg_entry_eq]
      generalize (lg_sl ([.ref (ead E 2000)]) ++ List.replicate (1 - (lg_sl ([.ref (ead E 2000)])).length) Slot.unset).toArray = ls at hl ⊢
      have hl : lv_has ls 1 [(0, .ref (ead E 2000))] := hl
      have c_9 : ∀ (n_9 : Nat) (μ_9 : Mem) , f_X7_isE_9 G n_9 μ_9 = some (r, μ') → ∀ (H : Heap) (locs : List Loc) (ls : Array Slot), Wd E μ_9 s H → va_S (eA E) s.heap H locs → lv_has ls 1 [(0, .ref (ead E 2000))] → W p l e (headSpec (.code yX7_isE cX7_isE 1 (some .boolean) :: BIG) ({ frames := 5 + (d + 1), cells := 0, slots := 0, locals := 128 + (d + 1) * 21 })).room s m ([.ref (ead E 2000)] : List Value).toArray below meth c H locs 0 0 (MQ below (QN E .boolean r μ') ([.ref (ead E 2000)] : List Value).toArray s 0 0 (eA E)) (F0 m 9 ls []) := by
        intro n_9
        induction n_9 with
        | zero =>
          intro μ_9 hf H locs ls hW hV hl
          cases hf
        | succ n_9 ih_9 =>
          intro μ_9 hf H locs ls hW hV hl
          rw [f_X7_isE_9] at hf
          refine lv_aload_n hx hb dX7_isE_9 rfl (lv_at hl 0 rfl) ?_
          refine lv_bipush (v := (124 : Int32)) hx hb dX7_isE_10 (by decide) ?_
          obtain ⟨p24, e_23, hf⟩ := op_none hf
          refine w_callN (rn_RX7_154 (As := [.int (124 : Int32)]) hx hb hml hown hB hW hZ hV (k_X7_is l E _ (124 : Int32) p24.1 p24.2 e_23) rfl rfl ⟨(by dsimp only [headSpec]; omega), (by dsimp only [headSpec]; omega)⟩ (w_rec hW oM.1 (oM.2 E _ _) rfl) rfl hl.1 rfl (Nat.le_of_ble_eq_true rfl) dX7_isE_12 ⟨Nat.le_refl _, Nat.le_refl _⟩) hV (fun H locs hn_p24_1 hW hV => ?_)
          refine lv_if_eq (tgt := 35) hx hb dX7_isE_15 (by decide) (fun y25 => ?_) (fun y25 => ?_)
          · have hf := op_t y25 hf
            refine lv_iconst (v := (1 : Int32)) hx hb dX7_isE_35 (by decide) ?_
            exact w_retN hx hb hr hlocks hW hV (by decide) (Prod.mk.inj (Option.some.inj hf)).1 (Prod.mk.inj (Option.some.inj hf)).2 dX7_isE_36
          · have hf := op_f y25 hf
            refine lv_aload_n hx hb dX7_isE_18 rfl (lv_at hl 0 rfl) ?_
            obtain ⟨p29, e_28, hf⟩ := op_none hf
            refine w_callN (rn_RX7_188 (As := []) hx hb hml hown hB hW hZ hV (ih.2.1 _ p29.1 p29.2 e_28) rfl rfl ⟨(by dsimp only [headSpec]; omega), (by dsimp only [headSpec]; omega)⟩ (w_rec hW oM.1 (oM.2 E _ _) rfl) rfl hl.1 rfl (Nat.le_of_ble_eq_true rfl) dX7_isE_19 ⟨Nat.le_refl _, Nat.le_refl _⟩) hV (fun H locs hn_p29_1 hW hV => ?_)
            refine lv_if_eq (tgt := 33) hx hb dX7_isE_22 (by decide) (fun y30 => ?_) (fun y30 => ?_)
            · have hf := op_t y30 hf
              refine lv_iconst (v := (0 : Int32)) hx hb dX7_isE_33 (by decide) ?_
              exact w_retN hx hb hr hlocks hW hV (by decide) (Prod.mk.inj (Option.some.inj hf)).1 (Prod.mk.inj (Option.some.inj hf)).2 dX7_isE_34
            · have hf := op_f y30 hf
              refine lv_aload_n hx hb dX7_isE_25 rfl (lv_at hl 0 rfl) ?_
              refine lv_iconst (v := (2 : Int32)) hx hb dX7_isE_26 (by decide) ?_
              obtain ⟨p34, e_33, hf⟩ := op_none hf
              refine w_callN (rn_RX7_170 (As := [.int (2 : Int32)]) hx hb hml hown hB hW hZ hV (k_X7_codes l E _ (2 : Int32) p34.1 p34.2 e_33) rfl rfl ⟨(by dsimp only [headSpec]; omega), (by dsimp only [headSpec]; omega)⟩ (w_rec hW oM.1 (oM.2 E _ _) rfl) rfl hl.1 rfl (Nat.le_of_ble_eq_true rfl) dX7_isE_27 ⟨Nat.le_refl _, Nat.le_refl _⟩) hV (fun H locs hn_p34_1 hW hV => ?_)
              refine lv_if_ne (tgt := 9) hx hb dX7_isE_30 (by decide) (fun y35 => ?_) (fun y35 => ?_)
              · have hf := op_f y35 hf
                exact ih_9 p34.2 hf H locs ls hW hV (lv_sub hl [0] rfl)
              · have hf := op_t y35 hf
                refine lv_iconst (v := (0 : Int32)) hx hb dX7_isE_33 (by decide) ?_
                exact w_retN hx hb hr hlocks hW hV (by decide) (Prod.mk.inj (Option.some.inj hf)).1 (Prod.mk.inj (Option.some.inj hf)).2 dX7_isE_34
      obtain ⟨H, hH⟩ : ∃ H : Heap, H = s.heap := ⟨_, rfl⟩
      obtain ⟨locs, hlocs⟩ : ∃ locs : List Loc, locs = [] := ⟨_, rfl⟩
      rw [show (W p l e (headSpec (.code yX7_isE cX7_isE 1 (some .boolean) :: BIG) ({ frames := 5 + (d + 1), cells := 0, slots := 0, locals := 128 + (d + 1) * 21 })).room s m ([.ref (ead E 2000)] : List Value).toArray below meth c s.heap [] 0 0) = W p l e (headSpec (.code yX7_isE cX7_isE 1 (some .boolean) :: BIG) ({ frames := 5 + (d + 1), cells := 0, slots := 0, locals := 128 + (d + 1) * 21 })).room s m ([.ref (ead E 2000)] : List Value).toArray below meth c H locs 0 0 by rw [hH, hlocs]]
      have hV : va_S (eA E) s.heap H locs := by rw [hH, hlocs]; exact hV
      have hW : Wd E μ s H := by rw [hH]; exact hW
      refine lv_aload_n hx hb dX7_isE_0 rfl (lv_at hl 0 rfl) ?_
      obtain ⟨p39, e_38, hf⟩ := op_none hf
      refine w_callN (rn_RX7_188 (As := []) hx hb hml hown hB hW hZ hV (ih.2.1 _ p39.1 p39.2 e_38) rfl rfl ⟨(by dsimp only [headSpec]; omega), (by dsimp only [headSpec]; omega)⟩ (w_rec hW oM.1 (oM.2 E _ _) rfl) rfl hl.1 rfl (Nat.le_of_ble_eq_true rfl) dX7_isE_1 ⟨Nat.le_refl _, Nat.le_refl _⟩) hV (fun H locs hn_p39_1 hW hV => ?_)
      refine lv_if_ne (tgt := 9) hx hb dX7_isE_4 (by decide) (fun y40 => ?_) (fun y40 => ?_)
      · have hf := op_f y40 hf
        exact c_9 FU p39.2 hf H locs ls hW hV (lv_sub hl [0] rfl)
      · have hf := op_t y40 hf
        refine lv_iconst (v := (0 : Int32)) hx hb dX7_isE_7 (by decide) ?_
        exact w_retN hx hb hr hlocks hW hV (by decide) (Prod.mk.inj (Option.some.inj hf)).1 (Prod.mk.inj (Option.some.inj hf)).2 dX7_isE_8
    · intro μ r μ' hf
      have hf : b_X7_isT G μ = some (r, μ') := by rw [hG]; exact hf
      unfold b_X7_isT at hf
      refine Met.ofW (cc := cX7_isT) (maxL := 1) (ret := (some .boolean)) (by decide) rfl ?_
      intro p e s m args below meth c s₁ B hml hv
      obtain ⟨rfl, hW, hZ⟩ := hv
      have hx := B.exec
      have hb := B.bytes
      have hr := B.returns
      have hB : ∀ w ∈ BIG, w.before _ s = true := fun w h => atoms_spec (ws := (.code yX7_isT cX7_isT 1 (some .boolean) :: BIG)) B.pre w (List.mem_cons_of_mem _ h)
      have hown : s.vm.findClass RX7 = some m.cls := findClass_of_methodNamed B.named
      have hlocks := B.notSynchronized
      have hV : va_S (eA E) s.heap s.heap [] := va_S.rf
      have hl := lv_entry ([.ref (ead E 2000)]) (n := 1) (Nat.le_of_ble_eq_true rfl)
      rw [lg_entry_eq]
      generalize (lg_sl ([.ref (ead E 2000)]) ++ List.replicate (1 - (lg_sl ([.ref (ead E 2000)])).length) Slot.unset).toArray = ls at hl ⊢
      have hl : lv_has ls 1 [(0, .ref (ead E 2000))] := hl
      have c_9 : ∀ (n_9 : Nat) (μ_9 : Mem) , f_X7_isT_9 G n_9 μ_9 = some (r, μ') → ∀ (H : Heap) (locs : List Loc) (ls : Array Slot), Wd E μ_9 s H → va_S (eA E) s.heap H locs → lv_has ls 1 [(0, .ref (ead E 2000))] → W p l e (headSpec (.code yX7_isT cX7_isT 1 (some .boolean) :: BIG) ({ frames := 5 + (d + 1), cells := 0, slots := 0, locals := 128 + (d + 1) * 21 })).room s m ([.ref (ead E 2000)] : List Value).toArray below meth c H locs 0 0 (MQ below (QN E .boolean r μ') ([.ref (ead E 2000)] : List Value).toArray s 0 0 (eA E)) (F0 m 9 ls []) := by
        intro n_9
        induction n_9 with
        | zero =>
          intro μ_9 hf H locs ls hW hV hl
          cases hf
        | succ n_9 ih_9 =>
          intro μ_9 hf H locs ls hW hV hl
          rw [f_X7_isT_9] at hf
          refine lv_aload_n hx hb dX7_isT_9 rfl (lv_at hl 0 rfl) ?_
          refine lv_bipush (v := (38 : Int32)) hx hb dX7_isT_10 (by decide) ?_
          obtain ⟨p24, e_23, hf⟩ := op_none hf
          refine w_callN (rn_RX7_154 (As := [.int (38 : Int32)]) hx hb hml hown hB hW hZ hV (k_X7_is l E _ (38 : Int32) p24.1 p24.2 e_23) rfl rfl ⟨(by dsimp only [headSpec]; omega), (by dsimp only [headSpec]; omega)⟩ (w_rec hW oM.1 (oM.2 E _ _) rfl) rfl hl.1 rfl (Nat.le_of_ble_eq_true rfl) dX7_isT_12 ⟨Nat.le_refl _, Nat.le_refl _⟩) hV (fun H locs hn_p24_1 hW hV => ?_)
          refine lv_if_eq (tgt := 35) hx hb dX7_isT_15 (by decide) (fun y25 => ?_) (fun y25 => ?_)
          · have hf := op_t y25 hf
            refine lv_iconst (v := (1 : Int32)) hx hb dX7_isT_35 (by decide) ?_
            exact w_retN hx hb hr hlocks hW hV (by decide) (Prod.mk.inj (Option.some.inj hf)).1 (Prod.mk.inj (Option.some.inj hf)).2 dX7_isT_36
          · have hf := op_f y25 hf
            refine lv_aload_n hx hb dX7_isT_18 rfl (lv_at hl 0 rfl) ?_
            obtain ⟨p29, e_28, hf⟩ := op_none hf
            refine w_callN (rn_RX7_179 (As := []) hx hb hml hown hB hW hZ hV (ih.2.2 _ p29.1 p29.2 e_28) rfl rfl ⟨(by dsimp only [headSpec]; omega), (by dsimp only [headSpec]; omega)⟩ (w_rec hW oM.1 (oM.2 E _ _) rfl) rfl hl.1 rfl (Nat.le_of_ble_eq_true rfl) dX7_isT_19 ⟨Nat.le_refl _, Nat.le_refl _⟩) hV (fun H locs hn_p29_1 hW hV => ?_)
            refine lv_if_eq (tgt := 33) hx hb dX7_isT_22 (by decide) (fun y30 => ?_) (fun y30 => ?_)
            · have hf := op_t y30 hf
              refine lv_iconst (v := (0 : Int32)) hx hb dX7_isT_33 (by decide) ?_
              exact w_retN hx hb hr hlocks hW hV (by decide) (Prod.mk.inj (Option.some.inj hf)).1 (Prod.mk.inj (Option.some.inj hf)).2 dX7_isT_34
            · have hf := op_f y30 hf
              refine lv_aload_n hx hb dX7_isT_25 rfl (lv_at hl 0 rfl) ?_
              refine lv_iconst (v := (1 : Int32)) hx hb dX7_isT_26 (by decide) ?_
              obtain ⟨p34, e_33, hf⟩ := op_none hf
              refine w_callN (rn_RX7_170 (As := [.int (1 : Int32)]) hx hb hml hown hB hW hZ hV (k_X7_codes l E _ (1 : Int32) p34.1 p34.2 e_33) rfl rfl ⟨(by dsimp only [headSpec]; omega), (by dsimp only [headSpec]; omega)⟩ (w_rec hW oM.1 (oM.2 E _ _) rfl) rfl hl.1 rfl (Nat.le_of_ble_eq_true rfl) dX7_isT_27 ⟨Nat.le_refl _, Nat.le_refl _⟩) hV (fun H locs hn_p34_1 hW hV => ?_)
              refine lv_if_ne (tgt := 9) hx hb dX7_isT_30 (by decide) (fun y35 => ?_) (fun y35 => ?_)
              · have hf := op_f y35 hf
                exact ih_9 p34.2 hf H locs ls hW hV (lv_sub hl [0] rfl)
              · have hf := op_t y35 hf
                refine lv_iconst (v := (0 : Int32)) hx hb dX7_isT_33 (by decide) ?_
                exact w_retN hx hb hr hlocks hW hV (by decide) (Prod.mk.inj (Option.some.inj hf)).1 (Prod.mk.inj (Option.some.inj hf)).2 dX7_isT_34
      obtain ⟨H, hH⟩ : ∃ H : Heap, H = s.heap := ⟨_, rfl⟩
      obtain ⟨locs, hlocs⟩ : ∃ locs : List Loc, locs = [] := ⟨_, rfl⟩
      rw [show (W p l e (headSpec (.code yX7_isT cX7_isT 1 (some .boolean) :: BIG) ({ frames := 5 + (d + 1), cells := 0, slots := 0, locals := 128 + (d + 1) * 21 })).room s m ([.ref (ead E 2000)] : List Value).toArray below meth c s.heap [] 0 0) = W p l e (headSpec (.code yX7_isT cX7_isT 1 (some .boolean) :: BIG) ({ frames := 5 + (d + 1), cells := 0, slots := 0, locals := 128 + (d + 1) * 21 })).room s m ([.ref (ead E 2000)] : List Value).toArray below meth c H locs 0 0 by rw [hH, hlocs]]
      have hV : va_S (eA E) s.heap H locs := by rw [hH, hlocs]; exact hV
      have hW : Wd E μ s H := by rw [hH]; exact hW
      refine lv_aload_n hx hb dX7_isT_0 rfl (lv_at hl 0 rfl) ?_
      obtain ⟨p39, e_38, hf⟩ := op_none hf
      refine w_callN (rn_RX7_179 (As := []) hx hb hml hown hB hW hZ hV (ih.2.2 _ p39.1 p39.2 e_38) rfl rfl ⟨(by dsimp only [headSpec]; omega), (by dsimp only [headSpec]; omega)⟩ (w_rec hW oM.1 (oM.2 E _ _) rfl) rfl hl.1 rfl (Nat.le_of_ble_eq_true rfl) dX7_isT_1 ⟨Nat.le_refl _, Nat.le_refl _⟩) hV (fun H locs hn_p39_1 hW hV => ?_)
      refine lv_if_ne (tgt := 9) hx hb dX7_isT_4 (by decide) (fun y40 => ?_) (fun y40 => ?_)
      · have hf := op_f y40 hf
        exact c_9 FU p39.2 hf H locs ls hW hV (lv_sub hl [0] rfl)
      · have hf := op_t y40 hf
        refine lv_iconst (v := (0 : Int32)) hx hb dX7_isT_7 (by decide) ?_
        exact w_retN hx hb hr hlocks hW hV (by decide) (Prod.mk.inj (Option.some.inj hf)).1 (Prod.mk.inj (Option.some.inj hf)).2 dX7_isT_8
    · intro μ r μ' hf
      have hf : b_X7_isF G μ = some (r, μ') := by rw [hG]; exact hf
      unfold b_X7_isF at hf
      refine Met.ofW (cc := cX7_isF) (maxL := 2) (ret := (some .boolean)) (by decide) rfl ?_
      intro p e s m args below meth c s₁ B hml hv
      obtain ⟨rfl, hW, hZ⟩ := hv
      have hx := B.exec
      have hb := B.bytes
      have hr := B.returns
      have hB : ∀ w ∈ BIG, w.before _ s = true := fun w h => atoms_spec (ws := (.code yX7_isF cX7_isF 2 (some .boolean) :: BIG)) B.pre w (List.mem_cons_of_mem _ h)
      have hown : s.vm.findClass RX7 = some m.cls := findClass_of_methodNamed B.named
      have hlocks := B.notSynchronized
      have hV : va_S (eA E) s.heap s.heap [] := va_S.rf
      have hl := lv_entry ([.ref (ead E 2000)]) (n := 2) (Nat.le_of_ble_eq_true rfl)
      rw [lg_entry_eq]
      generalize (lg_sl ([.ref (ead E 2000)]) ++ List.replicate (2 - (lg_sl ([.ref (ead E 2000)])).length) Slot.unset).toArray = ls at hl ⊢
      have hl : lv_has ls 2 [(0, .ref (ead E 2000))] := hl
      have c_72 : ∀ (μ_72 : Mem) (b1_72 : Int32) (hzb1_72 : narrow .boolean (.int b1_72) = .int b1_72) , f_X7_isF_72 G μ_72 b1_72 = some (r, μ') → ∀ (H : Heap) (locs : List Loc) (ls : Array Slot), Wd E μ_72 s H → va_S (eA E) s.heap H locs → lv_has ls 2 [(0, .ref (ead E 2000)), (1, .int b1_72)] → W p l e (headSpec (.code yX7_isF cX7_isF 2 (some .boolean) :: BIG) ({ frames := 5 + (d + 1), cells := 0, slots := 0, locals := 128 + (d + 1) * 21 })).room s m ([.ref (ead E 2000)] : List Value).toArray below meth c H locs 0 0 (MQ below (QN E .boolean r μ') ([.ref (ead E 2000)] : List Value).toArray s 0 0 (eA E)) (F0 m 72 ls []) := by
        intro μ_72 b1_72 hzb1_72 hf H locs ls hW hV hl
        unfold f_X7_isF_72 at hf
        refine lv_aload_n hx hb dX7_isF_72 rfl (lv_at hl 0 rfl) ?_
        refine lv_dup hx hb dX7_isF_73 rfl ?_
        refine gf_RX7_173 hx hb hB hown hW dX7_isF_74 ?_
        refine lv_iconst (v := (1 : Int32)) hx hb dX7_isF_77 (by decide) ?_
        refine lv_isub hx hb dX7_isF_78 ?_
        obtain ⟨μ36, e_μ36, hf⟩ := op_none hf
        refine pf_RX7_173 hx hb hB hown hW hV dX7_isF_79 (fun H locs hW hV => ?_)
        rw [Option.some.inj e_μ36] at hW
        refine lv_iload_n hx hb dX7_isF_82 rfl (lv_at hl 1 rfl) ?_
        exact w_retN hx hb hr hlocks hW hV hzb1_72 (Prod.mk.inj (Option.some.inj hf)).1 (Prod.mk.inj (Option.some.inj hf)).2 dX7_isF_83
      have c_29 : ∀ (μ_29 : Mem) (s0_29 : Int32) (hzs0_29 : narrow .boolean (.int s0_29) = .int s0_29) , f_X7_isF_29 G μ_29 s0_29 = some (r, μ') → ∀ (H : Heap) (locs : List Loc) (ls : Array Slot), Wd E μ_29 s H → va_S (eA E) s.heap H locs → lv_has ls 2 [(0, .ref (ead E 2000))] → W p l e (headSpec (.code yX7_isF cX7_isF 2 (some .boolean) :: BIG) ({ frames := 5 + (d + 1), cells := 0, slots := 0, locals := 128 + (d + 1) * 21 })).room s m ([.ref (ead E 2000)] : List Value).toArray below meth c H locs 0 0 (MQ below (QN E .boolean r μ') ([.ref (ead E 2000)] : List Value).toArray s 0 0 (eA E)) (F0 m 29 ls [.int s0_29]) := by
        intro μ_29 s0_29 hzs0_29 hf H locs ls hW hV hl
        unfold f_X7_isF_29 at hf
        refine lv_istore_n (i := 1) (lv' := [(1, .int s0_29), (0, .ref (ead E 2000))]) hx hb dX7_isF_29 rfl hl (by decide) rfl (fun ls hl => ?_)
        refine lv_goto (tgt := 72) hx hb dX7_isF_30 (by decide) ?_
        exact c_72 μ_29 s0_29 hzs0_29 hf H locs ls hW hV (lv_sub hl [1, 0] rfl)
      have c_28 : ∀ (μ_28 : Mem) , f_X7_isF_28 G μ_28 = some (r, μ') → ∀ (H : Heap) (locs : List Loc) (ls : Array Slot), Wd E μ_28 s H → va_S (eA E) s.heap H locs → lv_has ls 2 [(0, .ref (ead E 2000))] → W p l e (headSpec (.code yX7_isF cX7_isF 2 (some .boolean) :: BIG) ({ frames := 5 + (d + 1), cells := 0, slots := 0, locals := 128 + (d + 1) * 21 })).room s m ([.ref (ead E 2000)] : List Value).toArray below meth c H locs 0 0 (MQ below (QN E .boolean r μ') ([.ref (ead E 2000)] : List Value).toArray s 0 0 (eA E)) (F0 m 28 ls []) := by
        intro μ_28 hf H locs ls hW hV hl
        unfold f_X7_isF_28 at hf
        refine lv_iconst (v := (0 : Int32)) hx hb dX7_isF_28 (by decide) ?_
        exact c_29 μ_28 (0 : Int32) (by decide) hf H locs ls hW hV (lv_sub hl [0] rfl)
      have c_63 : ∀ (μ_63 : Mem) (s0_63 : Int32) (hzs0_63 : narrow .boolean (.int s0_63) = .int s0_63) , f_X7_isF_63 G μ_63 s0_63 = some (r, μ') → ∀ (H : Heap) (locs : List Loc) (ls : Array Slot), Wd E μ_63 s H → va_S (eA E) s.heap H locs → lv_has ls 2 [(0, .ref (ead E 2000))] → W p l e (headSpec (.code yX7_isF cX7_isF 2 (some .boolean) :: BIG) ({ frames := 5 + (d + 1), cells := 0, slots := 0, locals := 128 + (d + 1) * 21 })).room s m ([.ref (ead E 2000)] : List Value).toArray below meth c H locs 0 0 (MQ below (QN E .boolean r μ') ([.ref (ead E 2000)] : List Value).toArray s 0 0 (eA E)) (F0 m 63 ls [.int s0_63]) := by
        intro μ_63 s0_63 hzs0_63 hf H locs ls hW hV hl
        unfold f_X7_isF_63 at hf
        refine lv_istore_n (i := 1) (lv' := [(1, .int s0_63), (0, .ref (ead E 2000))]) hx hb dX7_isF_63 rfl hl (by decide) rfl (fun ls hl => ?_)
        refine lv_goto (tgt := 72) hx hb dX7_isF_64 (by decide) ?_
        exact c_72 μ_63 s0_63 hzs0_63 hf H locs ls hW hV (lv_sub hl [1, 0] rfl)
      have c_62 : ∀ (μ_62 : Mem) , f_X7_isF_62 G μ_62 = some (r, μ') → ∀ (H : Heap) (locs : List Loc) (ls : Array Slot), Wd E μ_62 s H → va_S (eA E) s.heap H locs → lv_has ls 2 [(0, .ref (ead E 2000))] → W p l e (headSpec (.code yX7_isF cX7_isF 2 (some .boolean) :: BIG) ({ frames := 5 + (d + 1), cells := 0, slots := 0, locals := 128 + (d + 1) * 21 })).room s m ([.ref (ead E 2000)] : List Value).toArray below meth c H locs 0 0 (MQ below (QN E .boolean r μ') ([.ref (ead E 2000)] : List Value).toArray s 0 0 (eA E)) (F0 m 62 ls []) := by
        intro μ_62 hf H locs ls hW hV hl
        unfold f_X7_isF_62 at hf
        refine lv_iconst (v := (0 : Int32)) hx hb dX7_isF_62 (by decide) ?_
        exact c_63 μ_62 (0 : Int32) (by decide) hf H locs ls hW hV (lv_sub hl [0] rfl)
      obtain ⟨H, hH⟩ : ∃ H : Heap, H = s.heap := ⟨_, rfl⟩
      obtain ⟨locs, hlocs⟩ : ∃ locs : List Loc, locs = [] := ⟨_, rfl⟩
      rw [show (W p l e (headSpec (.code yX7_isF cX7_isF 2 (some .boolean) :: BIG) ({ frames := 5 + (d + 1), cells := 0, slots := 0, locals := 128 + (d + 1) * 21 })).room s m ([.ref (ead E 2000)] : List Value).toArray below meth c s.heap [] 0 0) = W p l e (headSpec (.code yX7_isF cX7_isF 2 (some .boolean) :: BIG) ({ frames := 5 + (d + 1), cells := 0, slots := 0, locals := 128 + (d + 1) * 21 })).room s m ([.ref (ead E 2000)] : List Value).toArray below meth c H locs 0 0 by rw [hH, hlocs]]
      have hV : va_S (eA E) s.heap H locs := by rw [hH, hlocs]; exact hV
      have hW : Wd E μ s H := by rw [hH]; exact hW
      refine lv_aload_n hx hb dX7_isF_0 rfl (lv_at hl 0 rfl) ?_
      refine lv_bipush (v := (33 : Int32)) hx hb dX7_isF_1 (by decide) ?_
      obtain ⟨p40, e_39, hf⟩ := op_none hf
      refine w_callN (rn_RX7_176 (As := [.int (33 : Int32)]) hx hb hml hown hB hW hZ hV (k_X7_isOpened l E _ (33 : Int32) p40.1 p40.2 e_39) rfl rfl ⟨(by dsimp only [headSpec]; omega), (by dsimp only [headSpec]; omega)⟩ (w_rec hW oM.1 (oM.2 E _ _) rfl) rfl hl.1 rfl (Nat.le_of_ble_eq_true rfl) dX7_isF_3 ⟨Nat.le_refl _, Nat.le_refl _⟩) hV (fun H locs hn_p40_1 hW hV => ?_)
      refine lv_if_eq (tgt := 33) hx hb dX7_isF_6 (by decide) (fun y41 => ?_) (fun y41 => ?_)
      · have hf := op_t y41 hf
        refine lv_aload_n hx hb dX7_isF_33 rfl (lv_at hl 0 rfl) ?_
        refine lv_bipush (v := (40 : Int32)) hx hb dX7_isF_34 (by decide) ?_
        obtain ⟨p45, e_44, hf⟩ := op_none hf
        refine w_callN (rn_RX7_176 (As := [.int (40 : Int32)]) hx hb hml hown hB hW hZ hV (k_X7_isOpened l E _ (40 : Int32) p45.1 p45.2 e_44) rfl rfl ⟨(by dsimp only [headSpec]; omega), (by dsimp only [headSpec]; omega)⟩ (w_rec hW oM.1 (oM.2 E _ _) rfl) rfl hl.1 rfl (Nat.le_of_ble_eq_true rfl) dX7_isF_36 ⟨Nat.le_refl _, Nat.le_refl _⟩) hV (fun H locs hn_p45_1 hW hV => ?_)
        refine lv_if_eq (tgt := 67) hx hb dX7_isF_39 (by decide) (fun y46 => ?_) (fun y46 => ?_)
        · have hf := op_t y46 hf
          refine lv_aload_n hx hb dX7_isF_67 rfl (lv_at hl 0 rfl) ?_
          obtain ⟨p50, e_49, hf⟩ := op_none hf
          refine w_callN (rn_RX7_185 (As := []) hx hb hml hown hB hW hZ hV (k_X7_isTest l E _ p50.1 p50.2 e_49) rfl rfl ⟨(by dsimp only [headSpec]; omega), (by dsimp only [headSpec]; omega)⟩ (w_rec hW oM.1 (oM.2 E _ _) rfl) rfl hl.1 rfl (Nat.le_of_ble_eq_true rfl) dX7_isF_68 ⟨Nat.le_refl _, Nat.le_refl _⟩) hV (fun H locs hn_p50_1 hW hV => ?_)
          exact w_retN hx hb hr hlocks hW hV hn_p50_1 (Prod.mk.inj (Option.some.inj hf)).1 (Prod.mk.inj (Option.some.inj hf)).2 dX7_isF_71
        · have hf := op_f y46 hf
          refine lv_aload_n hx hb dX7_isF_42 rfl (lv_at hl 0 rfl) ?_
          obtain ⟨p54, e_53, hf⟩ := op_none hf
          refine w_callN (rn_RX7_182 (As := []) hx hb hml hown hB hW hZ hV (ih.1 _ p54.1 p54.2 e_53) rfl rfl ⟨(by dsimp only [headSpec]; omega), (by dsimp only [headSpec]; omega)⟩ (w_rec hW oM.1 (oM.2 E _ _) rfl) rfl hl.1 rfl (Nat.le_of_ble_eq_true rfl) dX7_isF_43 ⟨Nat.le_refl _, Nat.le_refl _⟩) hV (fun H locs hn_p54_1 hW hV => ?_)
          refine lv_if_eq (tgt := 62) hx hb dX7_isF_46 (by decide) (fun y55 => ?_) (fun y55 => ?_)
          · have hf := op_t y55 hf
            exact c_62 p54.2 hf H locs ls hW hV (lv_sub hl [0] rfl)
          · have hf := op_f y55 hf
            refine lv_aload_n hx hb dX7_isF_49 rfl (lv_at hl 0 rfl) ?_
            refine lv_bipush (v := (41 : Int32)) hx hb dX7_isF_50 (by decide) ?_
            obtain ⟨p59, e_58, hf⟩ := op_none hf
            refine w_callN (rn_RX7_154 (As := [.int (41 : Int32)]) hx hb hml hown hB hW hZ hV (k_X7_is l E _ (41 : Int32) p59.1 p59.2 e_58) rfl rfl ⟨(by dsimp only [headSpec]; omega), (by dsimp only [headSpec]; omega)⟩ (w_rec hW oM.1 (oM.2 E _ _) rfl) rfl hl.1 rfl (Nat.le_of_ble_eq_true rfl) dX7_isF_52 ⟨Nat.le_refl _, Nat.le_refl _⟩) hV (fun H locs hn_p59_1 hW hV => ?_)
            refine lv_if_eq (tgt := 62) hx hb dX7_isF_55 (by decide) (fun y60 => ?_) (fun y60 => ?_)
            · have hf := op_t y60 hf
              exact c_62 p59.2 hf H locs ls hW hV (lv_sub hl [0] rfl)
            · have hf := op_f y60 hf
              refine lv_iconst (v := (1 : Int32)) hx hb dX7_isF_58 (by decide) ?_
              refine lv_goto (tgt := 63) hx hb dX7_isF_59 (by decide) ?_
              exact c_63 p59.2 (1 : Int32) (by decide) hf H locs ls hW hV (lv_sub hl [0] rfl)
      · have hf := op_f y41 hf
        refine lv_aload_n hx hb dX7_isF_9 rfl (lv_at hl 0 rfl) ?_
        obtain ⟨p64, e_63, hf⟩ := op_none hf
        refine w_callN (rn_RX7_179 (As := []) hx hb hml hown hB hW hZ hV (ih.2.2 _ p64.1 p64.2 e_63) rfl rfl ⟨(by dsimp only [headSpec]; omega), (by dsimp only [headSpec]; omega)⟩ (w_rec hW oM.1 (oM.2 E _ _) rfl) rfl hl.1 rfl (Nat.le_of_ble_eq_true rfl) dX7_isF_10 ⟨Nat.le_refl _, Nat.le_refl _⟩) hV (fun H locs hn_p64_1 hW hV => ?_)
        refine lv_if_eq (tgt := 28) hx hb dX7_isF_13 (by decide) (fun y65 => ?_) (fun y65 => ?_)
        · have hf := op_t y65 hf
          exact c_28 p64.2 hf H locs ls hW hV (lv_sub hl [0] rfl)
        · have hf := op_f y65 hf
          refine lv_aload_n hx hb dX7_isF_16 rfl (lv_at hl 0 rfl) ?_
          refine lv_iconst (v := (0 : Int32)) hx hb dX7_isF_17 (by decide) ?_
          obtain ⟨p69, e_68, hf⟩ := op_none hf
          refine w_callN (rn_RX7_170 (As := [.int (0 : Int32)]) hx hb hml hown hB hW hZ hV (k_X7_codes l E _ (0 : Int32) p69.1 p69.2 e_68) rfl rfl ⟨(by dsimp only [headSpec]; omega), (by dsimp only [headSpec]; omega)⟩ (w_rec hW oM.1 (oM.2 E _ _) rfl) rfl hl.1 rfl (Nat.le_of_ble_eq_true rfl) dX7_isF_18 ⟨Nat.le_refl _, Nat.le_refl _⟩) hV (fun H locs hn_p69_1 hW hV => ?_)
          refine lv_if_eq (tgt := 28) hx hb dX7_isF_21 (by decide) (fun y70 => ?_) (fun y70 => ?_)
          · have hf := op_t y70 hf
            exact c_28 p69.2 hf H locs ls hW hV (lv_sub hl [0] rfl)
          · have hf := op_f y70 hf
            refine lv_iconst (v := (1 : Int32)) hx hb dX7_isF_24 (by decide) ?_
            refine lv_goto (tgt := 29) hx hb dX7_isF_25 (by decide) ?_
            exact c_29 p69.2 (1 : Int32) (by decide) hf H locs ls hW hV (lv_sub hl [0] rfl)
theorem k_X7_isE (l : Launch) (E : WE) (μ : Mem) (r : Int32) (μ' : Mem) (hf : f_X7_isE μ = some (r, μ')) : Met l yX7_isE (.code yX7_isE cX7_isE 1 (some .boolean) :: BIG) ({ frames := 29, cells := 0, slots := 0, locals := 632 }) (PW E μ [.ref (ead E 2000)]) (QN E .boolean r μ') 0 0 (eA E) := (kg_efs l E 24).1 μ r μ' hf
theorem k_X7_isT (l : Launch) (E : WE) (μ : Mem) (r : Int32) (μ' : Mem) (hf : f_X7_isT μ = some (r, μ')) : Met l yX7_isT (.code yX7_isT cX7_isT 1 (some .boolean) :: BIG) ({ frames := 29, cells := 0, slots := 0, locals := 632 }) (PW E μ [.ref (ead E 2000)]) (QN E .boolean r μ') 0 0 (eA E) := (kg_efs l E 24).2.1 μ r μ' hf
theorem k_X7_isF (l : Launch) (E : WE) (μ : Mem) (r : Int32) (μ' : Mem) (hf : f_X7_isF μ = some (r, μ')) : Met l yX7_isF (.code yX7_isF cX7_isF 2 (some .boolean) :: BIG) ({ frames := 29, cells := 0, slots := 0, locals := 632 }) (PW E μ [.ref (ead E 2000)]) (QN E .boolean r μ') 0 0 (eA E) := (kg_efs l E 24).2.2 μ r μ' hf
