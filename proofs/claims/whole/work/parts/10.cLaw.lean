set_option maxHeartbeats 16000000 in
set_option maxRecDepth 100000 in
theorem law_walk {p : Program} {e : Env} {s : State} {m : MethodId} {below : List Frame} {meth : Method} {c : Code} (l : Launch) {b L : Nat} {xs : Nat → Int32} (C0 : lw_At p s m meth c b L xs) (E : WE) (hE : eA E = fun q : Nat => s.heap.size ≤ q) (hZ : Stat E s s.heap) (μ μ' : Mem) (hf : f_L_law L xs μ = some (1, μ')) : ∀ (H : Heap) (locs : List Loc) (ls : Array Slot), Wd E μ s H → va_S (eA E) s.heap H locs → lv_has ls 4 [(2, .ref (ead E 2000)), (1, .ref (ead E 1)), (0, .ref b)] → W p l e room_1 s m #[Value.ref b] below meth c H locs 400 8000 (lw_Z below #[Value.ref b] s) (F0 m 16 ls []) := by
  obtain ⟨hx, hb, hr, hml, hown, hts, hX, hbl, hlocks, hgv⟩ := id C0
  have hB : ∀ w ∈ BIG, w.before #[Value.ref b] s = true := fun w h => hts w (big_tbl w h)
  have hbA : ¬ eA E b := by rw [hE]; exact Nat.not_le.mpr hbl
  have hend : ∀ (H : Heap) (locs : List Loc) (ls : Array Slot) (pc : Nat), va_S (eA E) s.heap H locs → decode code pc = .ok (.ireturn, 1) → W p l e room_1 s m #[Value.ref b] below meth c H locs 400 8000 (lw_Z below #[Value.ref b] s) (F0 m pc ls [.int 1]) := by
    intro H locs ls pc hV hd
    refine va_forget (fun q hq => by have h := hV.2.2 q hq; rw [hE] at h; exact h) ?_
    refine W.widen (k := 600000) (n := 7302250) (Nat.le_of_ble_eq_true rfl) (Nat.le_of_ble_eq_true rfl) ?_
    exact lw_ret hx hb hr hlocks hd
  have c_18 : ∀ (n_18 : Nat) (μ_18 : Mem) (b3_18 : Int32) , f_L_law_18 L xs n_18 μ_18 b3_18 = some (1, μ') → ∀ (H : Heap) (locs : List Loc) (ls : Array Slot), Wd E μ_18 s H → va_S (eA E) s.heap H locs → lv_has ls 4 [(0, .ref b), (1, .ref (ead E 1)), (2, .ref (ead E 2000)), (3, .int b3_18)] → W p l e room_1 s m #[Value.ref b] below meth c H locs 400 8000 (lw_Z below #[Value.ref b] s) (F0 m 18 ls []) := by
    intro n_18
    induction n_18 with
    | zero =>
      intro μ_18 b3_18 hf H locs ls hW hV hl
      cases hf
    | succ n_18 ih_18 =>
      have c_1326 : ∀ (μ_1326 : Mem) (b3_1326 : Int32) , f_L_law_1326 L xs (fun μ z0 => f_L_law_18 L xs n_18 μ z0) μ_1326 b3_1326 = some (1, μ') → ∀ (H : Heap) (locs : List Loc) (ls : Array Slot), Wd E μ_1326 s H → va_S (eA E) s.heap H locs → lv_has ls 4 [(0, .ref b), (1, .ref (ead E 1)), (2, .ref (ead E 2000)), (3, .int b3_1326)] → W p l e room_1 s m #[Value.ref b] below meth c H locs 400 8000 (lw_Z below #[Value.ref b] s) (F0 m 1326 ls []) := by
        intro μ_1326 b3_1326 hf H locs ls hW hV hl
        unfold f_L_law_1326 at hf
        obtain ⟨v443, e_v443, hf⟩ := op_none hf
        refine lv_iinc (v := v443) (lv' := [(3, .int v443), (0, .ref b), (1, .ref (ead E 1)), (2, .ref (ead E 2000))]) hx hb dL_law_1326 hl (k := 3) rfl (by rw [← Option.some.inj e_v443]; rfl) (by decide) rfl (fun ls hl => ?_)
        refine lv_goto (tgt := 18) hx hb dL_law_1329 (by decide) ?_
        exact ih_18 μ_1326 v443 hf H locs ls hW hV (lv_sub hl [1, 2, 3, 0] rfl)
      have c_350 : ∀ (μ_350 : Mem) (b3_350 : Int32) (s0_350 : Int32) (s1_350 : Int32) (s3_350 : Int32) , f_L_law_350 L xs (fun μ z0 => f_L_law_18 L xs n_18 μ z0) μ_350 b3_350 s0_350 s1_350 s3_350 = some (1, μ') → ∀ (H : Heap) (locs : List Loc) (ls : Array Slot), Wd E μ_350 s H → va_S (eA E) s.heap H locs → lv_has ls 4 [(0, .ref b), (1, .ref (ead E 1)), (2, .ref (ead E 2000)), (3, .int b3_350)] → W p l e room_1 s m #[Value.ref b] below meth c H locs 400 8000 (lw_Z below #[Value.ref b] s) (F0 m 350 ls [.int s0_350, .int s1_350, .ref (ead E 2000), .int s3_350]) := by
        intro μ_350 b3_350 s0_350 s1_350 s3_350 hf H locs ls hW hV hl
        unfold f_L_law_350 at hf
        obtain ⟨p447, e_446, hf⟩ := op_none hf
        refine w_callI (rn_RL_32 (As := [.int s1_350, .int s0_350]) hx hb hml hown hB hW hZ hV (k_X7_smash l E _ s1_350 s0_350 p447.1 p447.2 e_446) rfl rfl ⟨(Nat.le_of_ble_eq_true rfl), (Nat.le_of_ble_eq_true rfl)⟩ (w_rec hW oM.1 (oM.2 E _ _) rfl) rfl hl.1 rfl (Nat.le_of_ble_eq_true rfl) dL_law_350 ⟨Nat.le_of_ble_eq_true rfl, Nat.le_of_ble_eq_true rfl⟩) hV (fun H locs hW hV => ?_)
        refine lv_icmp_eq (tgt := 1326) hx hb dL_law_353 (by decide) (fun y448 => ?_) (fun y448 => ?_)
        · have hf := op_t y448 hf
          exact c_1326 p447.2 b3_350 hf H locs ls hW hV (lv_sub hl [0, 1, 2, 3] rfl)
        · have hf := op_f y448 hf
          refine lv_iconst (v := (0 : Int32)) hx hb dL_law_356 (by decide) ?_
          exact absurd (Prod.mk.inj (Option.some.inj hf)).1 (by decide)
      have c_328 : ∀ (μ_328 : Mem) (b3_328 : Int32) (s0_328 : Int32) (s1_328 : Int32) , f_L_law_328 L xs (fun μ z0 => f_L_law_18 L xs n_18 μ z0) μ_328 b3_328 s0_328 s1_328 = some (1, μ') → ∀ (H : Heap) (locs : List Loc) (ls : Array Slot), Wd E μ_328 s H → va_S (eA E) s.heap H locs → lv_has ls 4 [(0, .ref b), (1, .ref (ead E 1)), (2, .ref (ead E 2000)), (3, .int b3_328)] → W p l e room_1 s m #[Value.ref b] below meth c H locs 400 8000 (lw_Z below #[Value.ref b] s) (F0 m 328 ls [.int s0_328, .int s1_328, .ref (ead E 1)]) := by
        intro μ_328 b3_328 s0_328 s1_328 hf H locs ls hW hV hl
        unfold f_L_law_328 at hf
        obtain ⟨p452, e_451, hf⟩ := op_none hf
        refine w_callI (rn_RL_28 (As := [.int s1_328, .int s0_328]) hx hb hml hown hB hW hZ hV (k_X6_smash l E _ s1_328 s0_328 p452.1 p452.2 e_451) rfl rfl ⟨(Nat.le_of_ble_eq_true rfl), (Nat.le_of_ble_eq_true rfl)⟩ (w_rec hW oX.1 (oX.2 E _ _) rfl) rfl hl.1 rfl (Nat.le_of_ble_eq_true rfl) dL_law_328 ⟨Nat.le_of_ble_eq_true rfl, Nat.le_of_ble_eq_true rfl⟩) hV (fun H locs hW hV => ?_)
        refine lv_aload_n hx hb dL_law_331 rfl (lv_at hl 2 rfl) ?_
        refine lv_aload_n hx hb dL_law_332 rfl (lv_at hl 0 rfl) ?_
        refine lv_iload_n hx hb dL_law_333 rfl (lv_at hl 3 rfl) ?_
        refine lv_iconst (v := (1 : Int32)) hx hb dL_law_334 (by decide) ?_
        refine lv_iadd hx hb dL_law_335 ?_
        obtain ⟨v453, e_v453, hf⟩ := op_none hf
        refine w_sld hx hb hX hbl hbA hV e_v453 dL_law_336 ?_
        refine lv_aload_n hx hb dL_law_337 rfl (lv_at hl 0 rfl) ?_
        refine lv_iload_n hx hb dL_law_338 rfl (lv_at hl 3 rfl) ?_
        refine lv_iconst (v := (2 : Int32)) hx hb dL_law_339 (by decide) ?_
        refine lv_iadd hx hb dL_law_340 ?_
        obtain ⟨v454, e_v454, hf⟩ := op_none hf
        refine w_sld hx hb hX hbl hbA hV e_v454 dL_law_341 ?_
        refine lv_if_eq (tgt := 349) hx hb dL_law_342 (by decide) (fun y455 => ?_) (fun y455 => ?_)
        · have hf := op_t y455 hf
          refine lv_iconst (v := (0 : Int32)) hx hb dL_law_349 (by decide) ?_
          exact c_350 p452.2 b3_328 (0 : Int32) v453 p452.1 hf H locs ls hW hV (lv_sub hl [0, 1, 2, 3] rfl)
        · have hf := op_f y455 hf
          refine lv_iconst (v := (1 : Int32)) hx hb dL_law_345 (by decide) ?_
          refine lv_goto (tgt := 350) hx hb dL_law_346 (by decide) ?_
          exact c_350 p452.2 b3_328 (1 : Int32) v453 p452.1 hf H locs ls hW hV (lv_sub hl [0, 1, 2, 3] rfl)
      have c_721 : ∀ (μ_721 : Mem) (b3_721 : Int32) (s0_721 : Int32) (s1_721 : Int32) (s2_721 : Int32) (s4_721 : Int32) , f_L_law_721 L xs (fun μ z0 => f_L_law_18 L xs n_18 μ z0) μ_721 b3_721 s0_721 s1_721 s2_721 s4_721 = some (1, μ') → ∀ (H : Heap) (locs : List Loc) (ls : Array Slot), Wd E μ_721 s H → va_S (eA E) s.heap H locs → lv_has ls 4 [(0, .ref b), (1, .ref (ead E 1)), (2, .ref (ead E 2000)), (3, .int b3_721)] → W p l e room_1 s m #[Value.ref b] below meth c H locs 400 8000 (lw_Z below #[Value.ref b] s) (F0 m 721 ls [.int s0_721, .int s1_721, .int s2_721, .ref (ead E 2000), .int s4_721]) := by
        intro μ_721 b3_721 s0_721 s1_721 s2_721 s4_721 hf H locs ls hW hV hl
        unfold f_L_law_721 at hf
        obtain ⟨p459, e_458, hf⟩ := op_none hf
        refine w_callI (rn_RL_83 (As := [.int s2_721, .int s1_721, .int s0_721]) hx hb hml hown hB hW hZ hV (k_X7_hear l E _ s2_721 s1_721 s0_721 p459.1 p459.2 e_458) rfl rfl ⟨(Nat.le_of_ble_eq_true rfl), (Nat.le_of_ble_eq_true rfl)⟩ (w_rec hW oM.1 (oM.2 E _ _) rfl) rfl hl.1 rfl (Nat.le_of_ble_eq_true rfl) dL_law_721 ⟨Nat.le_of_ble_eq_true rfl, Nat.le_of_ble_eq_true rfl⟩) hV (fun H locs hW hV => ?_)
        refine lv_icmp_eq (tgt := 1326) hx hb dL_law_724 (by decide) (fun y460 => ?_) (fun y460 => ?_)
        · have hf := op_t y460 hf
          exact c_1326 p459.2 b3_721 hf H locs ls hW hV (lv_sub hl [0, 1, 2, 3] rfl)
        · have hf := op_f y460 hf
          refine lv_iconst (v := (0 : Int32)) hx hb dL_law_727 (by decide) ?_
          exact absurd (Prod.mk.inj (Option.some.inj hf)).1 (by decide)
      have c_694 : ∀ (μ_694 : Mem) (b3_694 : Int32) (s0_694 : Int32) (s1_694 : Int32) (s2_694 : Int32) , f_L_law_694 L xs (fun μ z0 => f_L_law_18 L xs n_18 μ z0) μ_694 b3_694 s0_694 s1_694 s2_694 = some (1, μ') → ∀ (H : Heap) (locs : List Loc) (ls : Array Slot), Wd E μ_694 s H → va_S (eA E) s.heap H locs → lv_has ls 4 [(0, .ref b), (1, .ref (ead E 1)), (2, .ref (ead E 2000)), (3, .int b3_694)] → W p l e room_1 s m #[Value.ref b] below meth c H locs 400 8000 (lw_Z below #[Value.ref b] s) (F0 m 694 ls [.int s0_694, .int s1_694, .int s2_694, .ref (ead E 1)]) := by
        intro μ_694 b3_694 s0_694 s1_694 s2_694 hf H locs ls hW hV hl
        unfold f_L_law_694 at hf
        obtain ⟨p464, e_463, hf⟩ := op_none hf
        refine w_callI (rn_RL_79 (As := [.int s2_694, .int s1_694, .int s0_694]) hx hb hml hown hB hW hZ hV (k_X6_hear l E _ s2_694 s1_694 s0_694 p464.1 p464.2 e_463) rfl rfl ⟨(Nat.le_of_ble_eq_true rfl), (Nat.le_of_ble_eq_true rfl)⟩ (w_rec hW oX.1 (oX.2 E _ _) rfl) rfl hl.1 rfl (Nat.le_of_ble_eq_true rfl) dL_law_694 ⟨Nat.le_of_ble_eq_true rfl, Nat.le_of_ble_eq_true rfl⟩) hV (fun H locs hW hV => ?_)
        refine lv_aload_n hx hb dL_law_697 rfl (lv_at hl 2 rfl) ?_
        refine lv_aload_n hx hb dL_law_698 rfl (lv_at hl 0 rfl) ?_
        refine lv_iload_n hx hb dL_law_699 rfl (lv_at hl 3 rfl) ?_
        refine lv_iconst (v := (1 : Int32)) hx hb dL_law_700 (by decide) ?_
        refine lv_iadd hx hb dL_law_701 ?_
        obtain ⟨v465, e_v465, hf⟩ := op_none hf
        refine w_sld hx hb hX hbl hbA hV e_v465 dL_law_702 ?_
        refine lv_aload_n hx hb dL_law_703 rfl (lv_at hl 0 rfl) ?_
        refine lv_iload_n hx hb dL_law_704 rfl (lv_at hl 3 rfl) ?_
        refine lv_iconst (v := (2 : Int32)) hx hb dL_law_705 (by decide) ?_
        refine lv_iadd hx hb dL_law_706 ?_
        obtain ⟨v466, e_v466, hf⟩ := op_none hf
        refine w_sld hx hb hX hbl hbA hV e_v466 dL_law_707 ?_
        refine lv_aload_n hx hb dL_law_708 rfl (lv_at hl 0 rfl) ?_
        refine lv_iload_n hx hb dL_law_709 rfl (lv_at hl 3 rfl) ?_
        refine lv_iconst (v := (3 : Int32)) hx hb dL_law_710 (by decide) ?_
        refine lv_iadd hx hb dL_law_711 ?_
        obtain ⟨v467, e_v467, hf⟩ := op_none hf
        refine w_sld hx hb hX hbl hbA hV e_v467 dL_law_712 ?_
        refine lv_if_eq (tgt := 720) hx hb dL_law_713 (by decide) (fun y468 => ?_) (fun y468 => ?_)
        · have hf := op_t y468 hf
          refine lv_iconst (v := (0 : Int32)) hx hb dL_law_720 (by decide) ?_
          exact c_721 p464.2 b3_694 (0 : Int32) v466 v465 p464.1 hf H locs ls hW hV (lv_sub hl [0, 1, 2, 3] rfl)
        · have hf := op_f y468 hf
          refine lv_iconst (v := (1 : Int32)) hx hb dL_law_716 (by decide) ?_
          refine lv_goto (tgt := 721) hx hb dL_law_717 (by decide) ?_
          exact c_721 p464.2 b3_694 (1 : Int32) v466 v465 p464.1 hf H locs ls hW hV (lv_sub hl [0, 1, 2, 3] rfl)
      intro μ_18 b3_18 hf H locs ls hW hV hl
      rw [f_L_law_18] at hf
      refine lv_iload_n hx hb dL_law_18 rfl (lv_at hl 3 rfl) ?_
      refine lv_aload_n hx hb dL_law_19 rfl (lv_at hl 0 rfl) ?_
      refine va_slen hx hb hX hbl hbA hV dL_law_20 ?_
      refine lv_bipush (v := (6 : Int32)) hx hb dL_law_21 (by decide) ?_
      refine lv_isub hx hb dL_law_23 ?_
      refine lv_icmp_gt (tgt := 1332) hx hb dL_law_24 (by decide) (fun y469 => ?_) (fun y469 => ?_)
      · have hf := op_t y469 hf
        refine lv_iconst (v := (1 : Int32)) hx hb dL_law_1332 (by decide) ?_
        exact hend H locs ls 1333 hV dL_law_1333
      · have hf := op_f y469 hf
        refine lv_aload_n hx hb dL_law_27 rfl (lv_at hl 0 rfl) ?_
        refine lv_iload_n hx hb dL_law_28 rfl (lv_at hl 3 rfl) ?_
        obtain ⟨v470, e_v470, hf⟩ := op_none hf
        refine w_sld hx hb hX hbl hbA hV e_v470 dL_law_29 ?_
        refine lv_bipush (v := (63 : Int32)) hx hb dL_law_30 (by decide) ?_
        refine lv_iand hx hb dL_law_32 ?_
        obtain ⟨v471, e_v471, hf⟩ := op_none hf
        refine lv_top' (Option.some.inj e_v471) ?_
        by_cases y472 : v471 = (0 : Int32)
        · have hf := op_t y472 hf
          refine lv_tableIn (tgt := 180) (off := 147) hx hb dL_law_33 (by rw [y472]; decide) (by rw [y472]; decide) (by rw [y472]; rfl) (by decide) ?_
          refine lv_aload_n hx hb dL_law_180 rfl (lv_at hl 1 rfl) ?_
          refine lv_aload_n hx hb dL_law_181 rfl (lv_at hl 0 rfl) ?_
          refine lv_iload_n hx hb dL_law_182 rfl (lv_at hl 3 rfl) ?_
          refine lv_iconst (v := (1 : Int32)) hx hb dL_law_183 (by decide) ?_
          refine lv_iadd hx hb dL_law_184 ?_
          obtain ⟨v473, e_v473, hf⟩ := op_none hf
          refine w_sld hx hb hX hbl hbA hV e_v473 dL_law_185 ?_
          refine lv_aload_n hx hb dL_law_186 rfl (lv_at hl 0 rfl) ?_
          refine lv_iload_n hx hb dL_law_187 rfl (lv_at hl 3 rfl) ?_
          refine lv_iconst (v := (2 : Int32)) hx hb dL_law_188 (by decide) ?_
          refine lv_iadd hx hb dL_law_189 ?_
          obtain ⟨v474, e_v474, hf⟩ := op_none hf
          refine w_sld hx hb hX hbl hbA hV e_v474 dL_law_190 ?_
          refine lv_aload_n hx hb dL_law_191 rfl (lv_at hl 0 rfl) ?_
          refine lv_iload_n hx hb dL_law_192 rfl (lv_at hl 3 rfl) ?_
          refine lv_iconst (v := (3 : Int32)) hx hb dL_law_193 (by decide) ?_
          refine lv_iadd hx hb dL_law_194 ?_
          obtain ⟨v475, e_v475, hf⟩ := op_none hf
          refine w_sld hx hb hX hbl hbA hV e_v475 dL_law_195 ?_
          refine lv_aload_n hx hb dL_law_196 rfl (lv_at hl 0 rfl) ?_
          refine lv_iload_n hx hb dL_law_197 rfl (lv_at hl 3 rfl) ?_
          refine lv_iconst (v := (4 : Int32)) hx hb dL_law_198 (by decide) ?_
          refine lv_iadd hx hb dL_law_199 ?_
          obtain ⟨v476, e_v476, hf⟩ := op_none hf
          refine w_sld hx hb hX hbl hbA hV e_v476 dL_law_200 ?_
          obtain ⟨p480, e_479, hf⟩ := op_none hf
          refine w_callI (rn_RL_13 (As := [.int v473, .int v474, .int v475, .int v476]) hx hb hml hown hB hW hZ hV (k_X6_egg l E _ v473 v474 v475 v476 p480.1 p480.2 e_479) rfl rfl ⟨(Nat.le_of_ble_eq_true rfl), (Nat.le_of_ble_eq_true rfl)⟩ (w_rec hW oX.1 (oX.2 E _ _) rfl) rfl hl.1 rfl (Nat.le_of_ble_eq_true rfl) dL_law_201 ⟨Nat.le_of_ble_eq_true rfl, Nat.le_of_ble_eq_true rfl⟩) hV (fun H locs hW hV => ?_)
          refine lv_aload_n hx hb dL_law_204 rfl (lv_at hl 2 rfl) ?_
          refine lv_aload_n hx hb dL_law_205 rfl (lv_at hl 0 rfl) ?_
          refine lv_iload_n hx hb dL_law_206 rfl (lv_at hl 3 rfl) ?_
          refine lv_iconst (v := (1 : Int32)) hx hb dL_law_207 (by decide) ?_
          refine lv_iadd hx hb dL_law_208 ?_
          obtain ⟨v481, e_v481, hf⟩ := op_none hf
          refine w_sld hx hb hX hbl hbA hV e_v481 dL_law_209 ?_
          refine lv_aload_n hx hb dL_law_210 rfl (lv_at hl 0 rfl) ?_
          refine lv_iload_n hx hb dL_law_211 rfl (lv_at hl 3 rfl) ?_
          refine lv_iconst (v := (2 : Int32)) hx hb dL_law_212 (by decide) ?_
          refine lv_iadd hx hb dL_law_213 ?_
          obtain ⟨v482, e_v482, hf⟩ := op_none hf
          refine w_sld hx hb hX hbl hbA hV e_v482 dL_law_214 ?_
          refine lv_aload_n hx hb dL_law_215 rfl (lv_at hl 0 rfl) ?_
          refine lv_iload_n hx hb dL_law_216 rfl (lv_at hl 3 rfl) ?_
          refine lv_iconst (v := (3 : Int32)) hx hb dL_law_217 (by decide) ?_
          refine lv_iadd hx hb dL_law_218 ?_
          obtain ⟨v483, e_v483, hf⟩ := op_none hf
          refine w_sld hx hb hX hbl hbA hV e_v483 dL_law_219 ?_
          refine lv_aload_n hx hb dL_law_220 rfl (lv_at hl 0 rfl) ?_
          refine lv_iload_n hx hb dL_law_221 rfl (lv_at hl 3 rfl) ?_
          refine lv_iconst (v := (4 : Int32)) hx hb dL_law_222 (by decide) ?_
          refine lv_iadd hx hb dL_law_223 ?_
          obtain ⟨v484, e_v484, hf⟩ := op_none hf
          refine w_sld hx hb hX hbl hbA hV e_v484 dL_law_224 ?_
          obtain ⟨p488, e_487, hf⟩ := op_none hf
          refine w_callI (rn_RL_17 (As := [.int v481, .int v482, .int v483, .int v484]) hx hb hml hown hB hW hZ hV (k_X7_egg l E _ v481 v482 v483 v484 p488.1 p488.2 e_487) rfl rfl ⟨(Nat.le_of_ble_eq_true rfl), (Nat.le_of_ble_eq_true rfl)⟩ (w_rec hW oM.1 (oM.2 E _ _) rfl) rfl hl.1 rfl (Nat.le_of_ble_eq_true rfl) dL_law_225 ⟨Nat.le_of_ble_eq_true rfl, Nat.le_of_ble_eq_true rfl⟩) hV (fun H locs hW hV => ?_)
          refine lv_icmp_eq (tgt := 1326) hx hb dL_law_228 (by decide) (fun y489 => ?_) (fun y489 => ?_)
          · have hf := op_t y489 hf
            exact c_1326 p488.2 b3_18 hf H locs ls hW hV (lv_sub hl [0, 1, 2, 3] rfl)
          · have hf := op_f y489 hf
            refine lv_iconst (v := (0 : Int32)) hx hb dL_law_231 (by decide) ?_
            exact absurd (Prod.mk.inj (Option.some.inj hf)).1 (by decide)
        have hf := op_f y472 hf
        by_cases y490 : v471 = (1 : Int32)
        · have hf := op_t y490 hf
          refine lv_tableIn (tgt := 233) (off := 200) hx hb dL_law_33 (by rw [y490]; decide) (by rw [y490]; decide) (by rw [y490]; rfl) (by decide) ?_
          refine lv_aload_n hx hb dL_law_233 rfl (lv_at hl 1 rfl) ?_
          refine lv_aload_n hx hb dL_law_234 rfl (lv_at hl 0 rfl) ?_
          refine lv_iload_n hx hb dL_law_235 rfl (lv_at hl 3 rfl) ?_
          refine lv_iconst (v := (1 : Int32)) hx hb dL_law_236 (by decide) ?_
          refine lv_iadd hx hb dL_law_237 ?_
          obtain ⟨v491, e_v491, hf⟩ := op_none hf
          refine w_sld hx hb hX hbl hbA hV e_v491 dL_law_238 ?_
          refine lv_aload_n hx hb dL_law_239 rfl (lv_at hl 0 rfl) ?_
          refine lv_iload_n hx hb dL_law_240 rfl (lv_at hl 3 rfl) ?_
          refine lv_iconst (v := (2 : Int32)) hx hb dL_law_241 (by decide) ?_
          refine lv_iadd hx hb dL_law_242 ?_
          obtain ⟨v492, e_v492, hf⟩ := op_none hf
          refine w_sld hx hb hX hbl hbA hV e_v492 dL_law_243 ?_
          obtain ⟨p496, e_495, hf⟩ := op_none hf
          refine w_callI (rn_RL_18 (As := [.int v491, .int v492]) hx hb hml hown hB hW hZ hV (k_X6_of l E _ v491 v492 p496.1 p496.2 e_495) rfl rfl ⟨(Nat.le_of_ble_eq_true rfl), (Nat.le_of_ble_eq_true rfl)⟩ (w_rec hW oX.1 (oX.2 E _ _) rfl) rfl hl.1 rfl (Nat.le_of_ble_eq_true rfl) dL_law_244 ⟨Nat.le_of_ble_eq_true rfl, Nat.le_of_ble_eq_true rfl⟩) hV (fun H locs hW hV => ?_)
          refine lv_aload_n hx hb dL_law_247 rfl (lv_at hl 2 rfl) ?_
          refine lv_aload_n hx hb dL_law_248 rfl (lv_at hl 0 rfl) ?_
          refine lv_iload_n hx hb dL_law_249 rfl (lv_at hl 3 rfl) ?_
          refine lv_iconst (v := (1 : Int32)) hx hb dL_law_250 (by decide) ?_
          refine lv_iadd hx hb dL_law_251 ?_
          obtain ⟨v497, e_v497, hf⟩ := op_none hf
          refine w_sld hx hb hX hbl hbA hV e_v497 dL_law_252 ?_
          refine lv_aload_n hx hb dL_law_253 rfl (lv_at hl 0 rfl) ?_
          refine lv_iload_n hx hb dL_law_254 rfl (lv_at hl 3 rfl) ?_
          refine lv_iconst (v := (2 : Int32)) hx hb dL_law_255 (by decide) ?_
          refine lv_iadd hx hb dL_law_256 ?_
          obtain ⟨v498, e_v498, hf⟩ := op_none hf
          refine w_sld hx hb hX hbl hbA hV e_v498 dL_law_257 ?_
          obtain ⟨p502, e_501, hf⟩ := op_none hf
          refine w_callI (rn_RL_22 (As := [.int v497, .int v498]) hx hb hml hown hB hW hZ hV (k_X7_of l E _ v497 v498 p502.1 p502.2 e_501) rfl rfl ⟨(Nat.le_of_ble_eq_true rfl), (Nat.le_of_ble_eq_true rfl)⟩ (w_rec hW oM.1 (oM.2 E _ _) rfl) rfl hl.1 rfl (Nat.le_of_ble_eq_true rfl) dL_law_258 ⟨Nat.le_of_ble_eq_true rfl, Nat.le_of_ble_eq_true rfl⟩) hV (fun H locs hW hV => ?_)
          refine lv_icmp_eq (tgt := 1326) hx hb dL_law_261 (by decide) (fun y503 => ?_) (fun y503 => ?_)
          · have hf := op_t y503 hf
            exact c_1326 p502.2 b3_18 hf H locs ls hW hV (lv_sub hl [0, 1, 2, 3] rfl)
          · have hf := op_f y503 hf
            refine lv_iconst (v := (0 : Int32)) hx hb dL_law_264 (by decide) ?_
            exact absurd (Prod.mk.inj (Option.some.inj hf)).1 (by decide)
        have hf := op_f y490 hf
        by_cases y504 : v471 = (2 : Int32)
        · have hf := op_t y504 hf
          refine lv_tableIn (tgt := 266) (off := 233) hx hb dL_law_33 (by rw [y504]; decide) (by rw [y504]; decide) (by rw [y504]; rfl) (by decide) ?_
          refine lv_aload_n hx hb dL_law_266 rfl (lv_at hl 1 rfl) ?_
          refine lv_aload_n hx hb dL_law_267 rfl (lv_at hl 0 rfl) ?_
          refine lv_iload_n hx hb dL_law_268 rfl (lv_at hl 3 rfl) ?_
          refine lv_iconst (v := (1 : Int32)) hx hb dL_law_269 (by decide) ?_
          refine lv_iadd hx hb dL_law_270 ?_
          obtain ⟨v505, e_v505, hf⟩ := op_none hf
          refine w_sld hx hb hX hbl hbA hV e_v505 dL_law_271 ?_
          refine lv_aload_n hx hb dL_law_272 rfl (lv_at hl 0 rfl) ?_
          refine lv_iload_n hx hb dL_law_273 rfl (lv_at hl 3 rfl) ?_
          refine lv_iconst (v := (2 : Int32)) hx hb dL_law_274 (by decide) ?_
          refine lv_iadd hx hb dL_law_275 ?_
          obtain ⟨v506, e_v506, hf⟩ := op_none hf
          refine w_sld hx hb hX hbl hbA hV e_v506 dL_law_276 ?_
          refine lv_aload_n hx hb dL_law_277 rfl (lv_at hl 0 rfl) ?_
          refine lv_iload_n hx hb dL_law_278 rfl (lv_at hl 3 rfl) ?_
          refine lv_iconst (v := (3 : Int32)) hx hb dL_law_279 (by decide) ?_
          refine lv_iadd hx hb dL_law_280 ?_
          obtain ⟨v507, e_v507, hf⟩ := op_none hf
          refine w_sld hx hb hX hbl hbA hV e_v507 dL_law_281 ?_
          obtain ⟨p511, e_510, hf⟩ := op_none hf
          refine w_callI (rn_RL_23 (As := [.int v505, .int v506, .int v507]) hx hb hml hown hB hW hZ hV (k_X6_set l E _ v505 v506 v507 p511.1 p511.2 e_510) rfl rfl ⟨(Nat.le_of_ble_eq_true rfl), (Nat.le_of_ble_eq_true rfl)⟩ (w_rec hW oX.1 (oX.2 E _ _) rfl) rfl hl.1 rfl (Nat.le_of_ble_eq_true rfl) dL_law_282 ⟨Nat.le_of_ble_eq_true rfl, Nat.le_of_ble_eq_true rfl⟩) hV (fun H locs hW hV => ?_)
          refine lv_aload_n hx hb dL_law_285 rfl (lv_at hl 2 rfl) ?_
          refine lv_aload_n hx hb dL_law_286 rfl (lv_at hl 0 rfl) ?_
          refine lv_iload_n hx hb dL_law_287 rfl (lv_at hl 3 rfl) ?_
          refine lv_iconst (v := (1 : Int32)) hx hb dL_law_288 (by decide) ?_
          refine lv_iadd hx hb dL_law_289 ?_
          obtain ⟨v512, e_v512, hf⟩ := op_none hf
          refine w_sld hx hb hX hbl hbA hV e_v512 dL_law_290 ?_
          refine lv_aload_n hx hb dL_law_291 rfl (lv_at hl 0 rfl) ?_
          refine lv_iload_n hx hb dL_law_292 rfl (lv_at hl 3 rfl) ?_
          refine lv_iconst (v := (2 : Int32)) hx hb dL_law_293 (by decide) ?_
          refine lv_iadd hx hb dL_law_294 ?_
          obtain ⟨v513, e_v513, hf⟩ := op_none hf
          refine w_sld hx hb hX hbl hbA hV e_v513 dL_law_295 ?_
          refine lv_aload_n hx hb dL_law_296 rfl (lv_at hl 0 rfl) ?_
          refine lv_iload_n hx hb dL_law_297 rfl (lv_at hl 3 rfl) ?_
          refine lv_iconst (v := (3 : Int32)) hx hb dL_law_298 (by decide) ?_
          refine lv_iadd hx hb dL_law_299 ?_
          obtain ⟨v514, e_v514, hf⟩ := op_none hf
          refine w_sld hx hb hX hbl hbA hV e_v514 dL_law_300 ?_
          obtain ⟨p518, e_517, hf⟩ := op_none hf
          refine w_callI (rn_RL_27 (As := [.int v512, .int v513, .int v514]) hx hb hml hown hB hW hZ hV (k_X7_set l E _ v512 v513 v514 p518.1 p518.2 e_517) rfl rfl ⟨(Nat.le_of_ble_eq_true rfl), (Nat.le_of_ble_eq_true rfl)⟩ (w_rec hW oM.1 (oM.2 E _ _) rfl) rfl hl.1 rfl (Nat.le_of_ble_eq_true rfl) dL_law_301 ⟨Nat.le_of_ble_eq_true rfl, Nat.le_of_ble_eq_true rfl⟩) hV (fun H locs hW hV => ?_)
          refine lv_icmp_eq (tgt := 1326) hx hb dL_law_304 (by decide) (fun y519 => ?_) (fun y519 => ?_)
          · have hf := op_t y519 hf
            exact c_1326 p518.2 b3_18 hf H locs ls hW hV (lv_sub hl [0, 1, 2, 3] rfl)
          · have hf := op_f y519 hf
            refine lv_iconst (v := (0 : Int32)) hx hb dL_law_307 (by decide) ?_
            exact absurd (Prod.mk.inj (Option.some.inj hf)).1 (by decide)
        have hf := op_f y504 hf
        by_cases y520 : v471 = (3 : Int32)
        · have hf := op_t y520 hf
          refine lv_tableIn (tgt := 309) (off := 276) hx hb dL_law_33 (by rw [y520]; decide) (by rw [y520]; decide) (by rw [y520]; rfl) (by decide) ?_
          refine lv_aload_n hx hb dL_law_309 rfl (lv_at hl 1 rfl) ?_
          refine lv_aload_n hx hb dL_law_310 rfl (lv_at hl 0 rfl) ?_
          refine lv_iload_n hx hb dL_law_311 rfl (lv_at hl 3 rfl) ?_
          refine lv_iconst (v := (1 : Int32)) hx hb dL_law_312 (by decide) ?_
          refine lv_iadd hx hb dL_law_313 ?_
          obtain ⟨v521, e_v521, hf⟩ := op_none hf
          refine w_sld hx hb hX hbl hbA hV e_v521 dL_law_314 ?_
          refine lv_aload_n hx hb dL_law_315 rfl (lv_at hl 0 rfl) ?_
          refine lv_iload_n hx hb dL_law_316 rfl (lv_at hl 3 rfl) ?_
          refine lv_iconst (v := (2 : Int32)) hx hb dL_law_317 (by decide) ?_
          refine lv_iadd hx hb dL_law_318 ?_
          obtain ⟨v522, e_v522, hf⟩ := op_none hf
          refine w_sld hx hb hX hbl hbA hV e_v522 dL_law_319 ?_
          refine lv_if_eq (tgt := 327) hx hb dL_law_320 (by decide) (fun y523 => ?_) (fun y523 => ?_)
          · have hf := op_t y523 hf
            refine lv_iconst (v := (0 : Int32)) hx hb dL_law_327 (by decide) ?_
            exact c_328 μ_18 b3_18 (0 : Int32) v521 hf H locs ls hW hV (lv_sub hl [0, 1, 2, 3] rfl)
          · have hf := op_f y523 hf
            refine lv_iconst (v := (1 : Int32)) hx hb dL_law_323 (by decide) ?_
            refine lv_goto (tgt := 328) hx hb dL_law_324 (by decide) ?_
            exact c_328 μ_18 b3_18 (1 : Int32) v521 hf H locs ls hW hV (lv_sub hl [0, 1, 2, 3] rfl)
        have hf := op_f y520 hf
        by_cases y524 : v471 = (4 : Int32)
        · have hf := op_t y524 hf
          refine lv_tableIn (tgt := 358) (off := 325) hx hb dL_law_33 (by rw [y524]; decide) (by rw [y524]; decide) (by rw [y524]; rfl) (by decide) ?_
          refine lv_aload_n hx hb dL_law_358 rfl (lv_at hl 1 rfl) ?_
          refine lv_aload_n hx hb dL_law_359 rfl (lv_at hl 0 rfl) ?_
          refine lv_iload_n hx hb dL_law_360 rfl (lv_at hl 3 rfl) ?_
          refine lv_iconst (v := (1 : Int32)) hx hb dL_law_361 (by decide) ?_
          refine lv_iadd hx hb dL_law_362 ?_
          obtain ⟨v525, e_v525, hf⟩ := op_none hf
          refine w_sld hx hb hX hbl hbA hV e_v525 dL_law_363 ?_
          obtain ⟨p529, e_528, hf⟩ := op_none hf
          refine w_callI (rn_RL_33 (As := [.int v525]) hx hb hml hown hB hW hZ hV (k_X6_listen l E _ v525 p529.1 p529.2 e_528) rfl rfl ⟨(Nat.le_of_ble_eq_true rfl), (Nat.le_of_ble_eq_true rfl)⟩ (w_rec hW oX.1 (oX.2 E _ _) rfl) rfl hl.1 rfl (Nat.le_of_ble_eq_true rfl) dL_law_364 ⟨Nat.le_of_ble_eq_true rfl, Nat.le_of_ble_eq_true rfl⟩) hV (fun H locs hW hV => ?_)
          refine lv_aload_n hx hb dL_law_367 rfl (lv_at hl 2 rfl) ?_
          refine lv_aload_n hx hb dL_law_368 rfl (lv_at hl 0 rfl) ?_
          refine lv_iload_n hx hb dL_law_369 rfl (lv_at hl 3 rfl) ?_
          refine lv_iconst (v := (1 : Int32)) hx hb dL_law_370 (by decide) ?_
          refine lv_iadd hx hb dL_law_371 ?_
          obtain ⟨v530, e_v530, hf⟩ := op_none hf
          refine w_sld hx hb hX hbl hbA hV e_v530 dL_law_372 ?_
          obtain ⟨p534, e_533, hf⟩ := op_none hf
          refine w_callI (rn_RL_37 (As := [.int v530]) hx hb hml hown hB hW hZ hV (k_X7_listen l E _ v530 p534.1 p534.2 e_533) rfl rfl ⟨(Nat.le_of_ble_eq_true rfl), (Nat.le_of_ble_eq_true rfl)⟩ (w_rec hW oM.1 (oM.2 E _ _) rfl) rfl hl.1 rfl (Nat.le_of_ble_eq_true rfl) dL_law_373 ⟨Nat.le_of_ble_eq_true rfl, Nat.le_of_ble_eq_true rfl⟩) hV (fun H locs hW hV => ?_)
          refine lv_icmp_eq (tgt := 1326) hx hb dL_law_376 (by decide) (fun y535 => ?_) (fun y535 => ?_)
          · have hf := op_t y535 hf
            exact c_1326 p534.2 b3_18 hf H locs ls hW hV (lv_sub hl [0, 1, 2, 3] rfl)
          · have hf := op_f y535 hf
            refine lv_iconst (v := (0 : Int32)) hx hb dL_law_379 (by decide) ?_
            exact absurd (Prod.mk.inj (Option.some.inj hf)).1 (by decide)
        have hf := op_f y524 hf
        by_cases y536 : v471 = (5 : Int32)
        · have hf := op_t y536 hf
          refine lv_tableIn (tgt := 381) (off := 348) hx hb dL_law_33 (by rw [y536]; decide) (by rw [y536]; decide) (by rw [y536]; rfl) (by decide) ?_
          refine lv_aload_n hx hb dL_law_381 rfl (lv_at hl 1 rfl) ?_
          refine lv_aload_n hx hb dL_law_382 rfl (lv_at hl 0 rfl) ?_
          refine lv_iload_n hx hb dL_law_383 rfl (lv_at hl 3 rfl) ?_
          refine lv_iconst (v := (1 : Int32)) hx hb dL_law_384 (by decide) ?_
          refine lv_iadd hx hb dL_law_385 ?_
          obtain ⟨v537, e_v537, hf⟩ := op_none hf
          refine w_sld hx hb hX hbl hbA hV e_v537 dL_law_386 ?_
          refine lv_aload_n hx hb dL_law_387 rfl (lv_at hl 0 rfl) ?_
          refine lv_iload_n hx hb dL_law_388 rfl (lv_at hl 3 rfl) ?_
          refine lv_iconst (v := (2 : Int32)) hx hb dL_law_389 (by decide) ?_
          refine lv_iadd hx hb dL_law_390 ?_
          obtain ⟨v538, e_v538, hf⟩ := op_none hf
          refine w_sld hx hb hX hbl hbA hV e_v538 dL_law_391 ?_
          refine lv_aload_n hx hb dL_law_392 rfl (lv_at hl 0 rfl) ?_
          refine lv_iload_n hx hb dL_law_393 rfl (lv_at hl 3 rfl) ?_
          refine lv_iconst (v := (3 : Int32)) hx hb dL_law_394 (by decide) ?_
          refine lv_iadd hx hb dL_law_395 ?_
          obtain ⟨v539, e_v539, hf⟩ := op_none hf
          refine w_sld hx hb hX hbl hbA hV e_v539 dL_law_396 ?_
          obtain ⟨p543, e_542, hf⟩ := op_none hf
          refine w_callI (rn_RL_38 (As := [.int v537, .int v538, .int v539]) hx hb hml hown hB hW hZ hV (k_X6_row l E _ v537 v538 v539 p543.1 p543.2 e_542) rfl rfl ⟨(Nat.le_of_ble_eq_true rfl), (Nat.le_of_ble_eq_true rfl)⟩ (w_rec hW oX.1 (oX.2 E _ _) rfl) rfl hl.1 rfl (Nat.le_of_ble_eq_true rfl) dL_law_397 ⟨Nat.le_of_ble_eq_true rfl, Nat.le_of_ble_eq_true rfl⟩) hV (fun H locs hW hV => ?_)
          refine lv_aload_n hx hb dL_law_400 rfl (lv_at hl 2 rfl) ?_
          refine lv_aload_n hx hb dL_law_401 rfl (lv_at hl 0 rfl) ?_
          refine lv_iload_n hx hb dL_law_402 rfl (lv_at hl 3 rfl) ?_
          refine lv_iconst (v := (1 : Int32)) hx hb dL_law_403 (by decide) ?_
          refine lv_iadd hx hb dL_law_404 ?_
          obtain ⟨v544, e_v544, hf⟩ := op_none hf
          refine w_sld hx hb hX hbl hbA hV e_v544 dL_law_405 ?_
          refine lv_aload_n hx hb dL_law_406 rfl (lv_at hl 0 rfl) ?_
          refine lv_iload_n hx hb dL_law_407 rfl (lv_at hl 3 rfl) ?_
          refine lv_iconst (v := (2 : Int32)) hx hb dL_law_408 (by decide) ?_
          refine lv_iadd hx hb dL_law_409 ?_
          obtain ⟨v545, e_v545, hf⟩ := op_none hf
          refine w_sld hx hb hX hbl hbA hV e_v545 dL_law_410 ?_
          refine lv_aload_n hx hb dL_law_411 rfl (lv_at hl 0 rfl) ?_
          refine lv_iload_n hx hb dL_law_412 rfl (lv_at hl 3 rfl) ?_
          refine lv_iconst (v := (3 : Int32)) hx hb dL_law_413 (by decide) ?_
          refine lv_iadd hx hb dL_law_414 ?_
          obtain ⟨v546, e_v546, hf⟩ := op_none hf
          refine w_sld hx hb hX hbl hbA hV e_v546 dL_law_415 ?_
          obtain ⟨p550, e_549, hf⟩ := op_none hf
          refine w_callI (rn_RL_41 (As := [.int v544, .int v545, .int v546]) hx hb hml hown hB hW hZ hV (k_X7_row l E _ v544 v545 v546 p550.1 p550.2 e_549) rfl rfl ⟨(Nat.le_of_ble_eq_true rfl), (Nat.le_of_ble_eq_true rfl)⟩ (w_rec hW oM.1 (oM.2 E _ _) rfl) rfl hl.1 rfl (Nat.le_of_ble_eq_true rfl) dL_law_416 ⟨Nat.le_of_ble_eq_true rfl, Nat.le_of_ble_eq_true rfl⟩) hV (fun H locs hW hV => ?_)
          refine lv_icmp_eq (tgt := 1326) hx hb dL_law_419 (by decide) (fun y551 => ?_) (fun y551 => ?_)
          · have hf := op_t y551 hf
            exact c_1326 p550.2 b3_18 hf H locs ls hW hV (lv_sub hl [0, 1, 2, 3] rfl)
          · have hf := op_f y551 hf
            refine lv_iconst (v := (0 : Int32)) hx hb dL_law_422 (by decide) ?_
            exact absurd (Prod.mk.inj (Option.some.inj hf)).1 (by decide)
        have hf := op_f y536 hf
        by_cases y552 : v471 = (6 : Int32)
        · have hf := op_t y552 hf
          refine lv_tableIn (tgt := 424) (off := 391) hx hb dL_law_33 (by rw [y552]; decide) (by rw [y552]; decide) (by rw [y552]; rfl) (by decide) ?_
          refine lv_aload_n hx hb dL_law_424 rfl (lv_at hl 1 rfl) ?_
          refine lv_aload_n hx hb dL_law_425 rfl (lv_at hl 0 rfl) ?_
          refine lv_iload_n hx hb dL_law_426 rfl (lv_at hl 3 rfl) ?_
          refine lv_iconst (v := (1 : Int32)) hx hb dL_law_427 (by decide) ?_
          refine lv_iadd hx hb dL_law_428 ?_
          obtain ⟨v553, e_v553, hf⟩ := op_none hf
          refine w_sld hx hb hX hbl hbA hV e_v553 dL_law_429 ?_
          obtain ⟨p557, e_556, hf⟩ := op_none hf
          refine w_callI (rn_RL_42 (As := [.int v553]) hx hb hml hown hB hW hZ hV (k_X6_feed l E _ v553 p557.1 p557.2 e_556) rfl rfl ⟨(Nat.le_of_ble_eq_true rfl), (Nat.le_of_ble_eq_true rfl)⟩ (w_rec hW oX.1 (oX.2 E _ _) rfl) rfl hl.1 rfl (Nat.le_of_ble_eq_true rfl) dL_law_430 ⟨Nat.le_of_ble_eq_true rfl, Nat.le_of_ble_eq_true rfl⟩) hV (fun H locs hW hV => ?_)
          refine lv_aload_n hx hb dL_law_433 rfl (lv_at hl 2 rfl) ?_
          refine lv_aload_n hx hb dL_law_434 rfl (lv_at hl 0 rfl) ?_
          refine lv_iload_n hx hb dL_law_435 rfl (lv_at hl 3 rfl) ?_
          refine lv_iconst (v := (1 : Int32)) hx hb dL_law_436 (by decide) ?_
          refine lv_iadd hx hb dL_law_437 ?_
          obtain ⟨v558, e_v558, hf⟩ := op_none hf
          refine w_sld hx hb hX hbl hbA hV e_v558 dL_law_438 ?_
          obtain ⟨p562, e_561, hf⟩ := op_none hf
          refine w_callI (rn_RL_45 (As := [.int v558]) hx hb hml hown hB hW hZ hV (k_X7_feed l E _ v558 p562.1 p562.2 e_561) rfl rfl ⟨(Nat.le_of_ble_eq_true rfl), (Nat.le_of_ble_eq_true rfl)⟩ (w_rec hW oM.1 (oM.2 E _ _) rfl) rfl hl.1 rfl (Nat.le_of_ble_eq_true rfl) dL_law_439 ⟨Nat.le_of_ble_eq_true rfl, Nat.le_of_ble_eq_true rfl⟩) hV (fun H locs hW hV => ?_)
          refine lv_icmp_eq (tgt := 1326) hx hb dL_law_442 (by decide) (fun y563 => ?_) (fun y563 => ?_)
          · have hf := op_t y563 hf
            exact c_1326 p562.2 b3_18 hf H locs ls hW hV (lv_sub hl [0, 1, 2, 3] rfl)
          · have hf := op_f y563 hf
            refine lv_iconst (v := (0 : Int32)) hx hb dL_law_445 (by decide) ?_
            exact absurd (Prod.mk.inj (Option.some.inj hf)).1 (by decide)
        have hf := op_f y552 hf
        by_cases y564 : v471 = (7 : Int32)
        · have hf := op_t y564 hf
          refine lv_tableIn (tgt := 447) (off := 414) hx hb dL_law_33 (by rw [y564]; decide) (by rw [y564]; decide) (by rw [y564]; rfl) (by decide) ?_
          refine lv_aload_n hx hb dL_law_447 rfl (lv_at hl 1 rfl) ?_
          obtain ⟨p568, e_567, hf⟩ := op_none hf
          refine w_callI (rn_RL_46 (As := []) hx hb hml hown hB hW hZ hV (k_X6_store l E _ p568.1 p568.2 e_567) rfl rfl ⟨(Nat.le_of_ble_eq_true rfl), (Nat.le_of_ble_eq_true rfl)⟩ (w_rec hW oX.1 (oX.2 E _ _) rfl) rfl hl.1 rfl (Nat.le_of_ble_eq_true rfl) dL_law_448 ⟨Nat.le_of_ble_eq_true rfl, Nat.le_of_ble_eq_true rfl⟩) hV (fun H locs hW hV => ?_)
          refine lv_aload_n hx hb dL_law_451 rfl (lv_at hl 2 rfl) ?_
          obtain ⟨p572, e_571, hf⟩ := op_none hf
          refine w_callI (rn_RL_50 (As := []) hx hb hml hown hB hW hZ hV (k_X7_store l E _ p572.1 p572.2 e_571) rfl rfl ⟨(Nat.le_of_ble_eq_true rfl), (Nat.le_of_ble_eq_true rfl)⟩ (w_rec hW oM.1 (oM.2 E _ _) rfl) rfl hl.1 rfl (Nat.le_of_ble_eq_true rfl) dL_law_452 ⟨Nat.le_of_ble_eq_true rfl, Nat.le_of_ble_eq_true rfl⟩) hV (fun H locs hW hV => ?_)
          refine lv_icmp_eq (tgt := 1326) hx hb dL_law_455 (by decide) (fun y573 => ?_) (fun y573 => ?_)
          · have hf := op_t y573 hf
            exact c_1326 p572.2 b3_18 hf H locs ls hW hV (lv_sub hl [0, 1, 2, 3] rfl)
          · have hf := op_f y573 hf
            refine lv_iconst (v := (0 : Int32)) hx hb dL_law_458 (by decide) ?_
            exact absurd (Prod.mk.inj (Option.some.inj hf)).1 (by decide)
        have hf := op_f y564 hf
        by_cases y574 : v471 = (8 : Int32)
        · have hf := op_t y574 hf
          refine lv_tableIn (tgt := 460) (off := 427) hx hb dL_law_33 (by rw [y574]; decide) (by rw [y574]; decide) (by rw [y574]; rfl) (by decide) ?_
          refine lv_aload_n hx hb dL_law_460 rfl (lv_at hl 1 rfl) ?_
          refine lv_aload_n hx hb dL_law_461 rfl (lv_at hl 0 rfl) ?_
          refine lv_iload_n hx hb dL_law_462 rfl (lv_at hl 3 rfl) ?_
          refine lv_iconst (v := (1 : Int32)) hx hb dL_law_463 (by decide) ?_
          refine lv_iadd hx hb dL_law_464 ?_
          obtain ⟨v575, e_v575, hf⟩ := op_none hf
          refine w_sld hx hb hX hbl hbA hV e_v575 dL_law_465 ?_
          obtain ⟨p579, e_578, hf⟩ := op_none hf
          refine w_callI (rn_RL_51 (As := [.int v575]) hx hb hml hown hB hW hZ hV (k_X6_told l E _ v575 p579.1 p579.2 e_578) rfl rfl ⟨(Nat.le_of_ble_eq_true rfl), (Nat.le_of_ble_eq_true rfl)⟩ (w_rec hW oX.1 (oX.2 E _ _) rfl) rfl hl.1 rfl (Nat.le_of_ble_eq_true rfl) dL_law_466 ⟨Nat.le_of_ble_eq_true rfl, Nat.le_of_ble_eq_true rfl⟩) hV (fun H locs hW hV => ?_)
          refine lv_aload_n hx hb dL_law_469 rfl (lv_at hl 2 rfl) ?_
          refine lv_aload_n hx hb dL_law_470 rfl (lv_at hl 0 rfl) ?_
          refine lv_iload_n hx hb dL_law_471 rfl (lv_at hl 3 rfl) ?_
          refine lv_iconst (v := (1 : Int32)) hx hb dL_law_472 (by decide) ?_
          refine lv_iadd hx hb dL_law_473 ?_
          obtain ⟨v580, e_v580, hf⟩ := op_none hf
          refine w_sld hx hb hX hbl hbA hV e_v580 dL_law_474 ?_
          obtain ⟨p584, e_583, hf⟩ := op_none hf
          refine w_callI (rn_RL_54 (As := [.int v580]) hx hb hml hown hB hW hZ hV (k_X7_told l E _ v580 p584.1 p584.2 e_583) rfl rfl ⟨(Nat.le_of_ble_eq_true rfl), (Nat.le_of_ble_eq_true rfl)⟩ (w_rec hW oM.1 (oM.2 E _ _) rfl) rfl hl.1 rfl (Nat.le_of_ble_eq_true rfl) dL_law_475 ⟨Nat.le_of_ble_eq_true rfl, Nat.le_of_ble_eq_true rfl⟩) hV (fun H locs hW hV => ?_)
          refine lv_icmp_eq (tgt := 1326) hx hb dL_law_478 (by decide) (fun y585 => ?_) (fun y585 => ?_)
          · have hf := op_t y585 hf
            exact c_1326 p584.2 b3_18 hf H locs ls hW hV (lv_sub hl [0, 1, 2, 3] rfl)
          · have hf := op_f y585 hf
            refine lv_iconst (v := (0 : Int32)) hx hb dL_law_481 (by decide) ?_
            exact absurd (Prod.mk.inj (Option.some.inj hf)).1 (by decide)
        have hf := op_f y574 hf
        by_cases y586 : v471 = (9 : Int32)
        · have hf := op_t y586 hf
          refine lv_tableIn (tgt := 483) (off := 450) hx hb dL_law_33 (by rw [y586]; decide) (by rw [y586]; decide) (by rw [y586]; rfl) (by decide) ?_
          refine lv_aload_n hx hb dL_law_483 rfl (lv_at hl 1 rfl) ?_
          refine lv_aload_n hx hb dL_law_484 rfl (lv_at hl 0 rfl) ?_
          refine lv_iload_n hx hb dL_law_485 rfl (lv_at hl 3 rfl) ?_
          refine lv_iconst (v := (1 : Int32)) hx hb dL_law_486 (by decide) ?_
          refine lv_iadd hx hb dL_law_487 ?_
          obtain ⟨v587, e_v587, hf⟩ := op_none hf
          refine w_sld hx hb hX hbl hbA hV e_v587 dL_law_488 ?_
          obtain ⟨p591, e_590, hf⟩ := op_none hf
          refine w_callI (rn_RL_55 (As := [.int v587]) hx hb hml hown hB hW hZ hV (k_X6_pass l E _ v587 p591.1 p591.2 e_590) rfl rfl ⟨(Nat.le_of_ble_eq_true rfl), (Nat.le_of_ble_eq_true rfl)⟩ (w_rec hW oX.1 (oX.2 E _ _) rfl) rfl hl.1 rfl (Nat.le_of_ble_eq_true rfl) dL_law_489 ⟨Nat.le_of_ble_eq_true rfl, Nat.le_of_ble_eq_true rfl⟩) hV (fun H locs hW hV => ?_)
          refine lv_aload_n hx hb dL_law_492 rfl (lv_at hl 2 rfl) ?_
          refine lv_aload_n hx hb dL_law_493 rfl (lv_at hl 0 rfl) ?_
          refine lv_iload_n hx hb dL_law_494 rfl (lv_at hl 3 rfl) ?_
          refine lv_iconst (v := (1 : Int32)) hx hb dL_law_495 (by decide) ?_
          refine lv_iadd hx hb dL_law_496 ?_
          obtain ⟨v592, e_v592, hf⟩ := op_none hf
          refine w_sld hx hb hX hbl hbA hV e_v592 dL_law_497 ?_
          obtain ⟨p596, e_595, hf⟩ := op_none hf
          refine w_callI (rn_RL_58 (As := [.int v592]) hx hb hml hown hB hW hZ hV (k_X7_pass l E _ v592 p596.1 p596.2 e_595) rfl rfl ⟨(Nat.le_of_ble_eq_true rfl), (Nat.le_of_ble_eq_true rfl)⟩ (w_rec hW oM.1 (oM.2 E _ _) rfl) rfl hl.1 rfl (Nat.le_of_ble_eq_true rfl) dL_law_498 ⟨Nat.le_of_ble_eq_true rfl, Nat.le_of_ble_eq_true rfl⟩) hV (fun H locs hW hV => ?_)
          refine lv_icmp_eq (tgt := 1326) hx hb dL_law_501 (by decide) (fun y597 => ?_) (fun y597 => ?_)
          · have hf := op_t y597 hf
            exact c_1326 p596.2 b3_18 hf H locs ls hW hV (lv_sub hl [0, 1, 2, 3] rfl)
          · have hf := op_f y597 hf
            refine lv_iconst (v := (0 : Int32)) hx hb dL_law_504 (by decide) ?_
            exact absurd (Prod.mk.inj (Option.some.inj hf)).1 (by decide)
        have hf := op_f y586 hf
        by_cases y598 : v471 = (10 : Int32)
        · have hf := op_t y598 hf
          refine lv_tableIn (tgt := 506) (off := 473) hx hb dL_law_33 (by rw [y598]; decide) (by rw [y598]; decide) (by rw [y598]; rfl) (by decide) ?_
          refine lv_aload_n hx hb dL_law_506 rfl (lv_at hl 1 rfl) ?_
          refine lv_aload_n hx hb dL_law_507 rfl (lv_at hl 0 rfl) ?_
          refine lv_iload_n hx hb dL_law_508 rfl (lv_at hl 3 rfl) ?_
          refine lv_iconst (v := (1 : Int32)) hx hb dL_law_509 (by decide) ?_
          refine lv_iadd hx hb dL_law_510 ?_
          obtain ⟨v599, e_v599, hf⟩ := op_none hf
          refine w_sld hx hb hX hbl hbA hV e_v599 dL_law_511 ?_
          refine lv_aload_n hx hb dL_law_512 rfl (lv_at hl 0 rfl) ?_
          refine lv_iload_n hx hb dL_law_513 rfl (lv_at hl 3 rfl) ?_
          refine lv_iconst (v := (2 : Int32)) hx hb dL_law_514 (by decide) ?_
          refine lv_iadd hx hb dL_law_515 ?_
          obtain ⟨v600, e_v600, hf⟩ := op_none hf
          refine w_sld hx hb hX hbl hbA hV e_v600 dL_law_516 ?_
          obtain ⟨p604, e_603, hf⟩ := op_none hf
          refine w_callI (rn_RL_59 (As := [.int v599, .int v600]) hx hb hml hown hB hW hZ hV (k_X6_on l E _ v599 v600 p604.1 p604.2 e_603) rfl rfl ⟨(Nat.le_of_ble_eq_true rfl), (Nat.le_of_ble_eq_true rfl)⟩ (w_rec hW oX.1 (oX.2 E _ _) rfl) rfl hl.1 rfl (Nat.le_of_ble_eq_true rfl) dL_law_517 ⟨Nat.le_of_ble_eq_true rfl, Nat.le_of_ble_eq_true rfl⟩) hV (fun H locs hW hV => ?_)
          refine lv_aload_n hx hb dL_law_520 rfl (lv_at hl 2 rfl) ?_
          refine lv_aload_n hx hb dL_law_521 rfl (lv_at hl 0 rfl) ?_
          refine lv_iload_n hx hb dL_law_522 rfl (lv_at hl 3 rfl) ?_
          refine lv_iconst (v := (1 : Int32)) hx hb dL_law_523 (by decide) ?_
          refine lv_iadd hx hb dL_law_524 ?_
          obtain ⟨v605, e_v605, hf⟩ := op_none hf
          refine w_sld hx hb hX hbl hbA hV e_v605 dL_law_525 ?_
          refine lv_aload_n hx hb dL_law_526 rfl (lv_at hl 0 rfl) ?_
          refine lv_iload_n hx hb dL_law_527 rfl (lv_at hl 3 rfl) ?_
          refine lv_iconst (v := (2 : Int32)) hx hb dL_law_528 (by decide) ?_
          refine lv_iadd hx hb dL_law_529 ?_
          obtain ⟨v606, e_v606, hf⟩ := op_none hf
          refine w_sld hx hb hX hbl hbA hV e_v606 dL_law_530 ?_
          obtain ⟨p610, e_609, hf⟩ := op_none hf
          refine w_callI (rn_RL_62 (As := [.int v605, .int v606]) hx hb hml hown hB hW hZ hV (k_X7_on l E _ v605 v606 p610.1 p610.2 e_609) rfl rfl ⟨(Nat.le_of_ble_eq_true rfl), (Nat.le_of_ble_eq_true rfl)⟩ (w_rec hW oM.1 (oM.2 E _ _) rfl) rfl hl.1 rfl (Nat.le_of_ble_eq_true rfl) dL_law_531 ⟨Nat.le_of_ble_eq_true rfl, Nat.le_of_ble_eq_true rfl⟩) hV (fun H locs hW hV => ?_)
          refine lv_icmp_eq (tgt := 1326) hx hb dL_law_534 (by decide) (fun y611 => ?_) (fun y611 => ?_)
          · have hf := op_t y611 hf
            exact c_1326 p610.2 b3_18 hf H locs ls hW hV (lv_sub hl [0, 1, 2, 3] rfl)
          · have hf := op_f y611 hf
            refine lv_iconst (v := (0 : Int32)) hx hb dL_law_537 (by decide) ?_
            exact absurd (Prod.mk.inj (Option.some.inj hf)).1 (by decide)
        have hf := op_f y598 hf
        by_cases y612 : v471 = (11 : Int32)
        · have hf := op_t y612 hf
          refine lv_tableIn (tgt := 539) (off := 506) hx hb dL_law_33 (by rw [y612]; decide) (by rw [y612]; decide) (by rw [y612]; rfl) (by decide) ?_
          refine lv_aload_n hx hb dL_law_539 rfl (lv_at hl 1 rfl) ?_
          refine lv_aload_n hx hb dL_law_540 rfl (lv_at hl 0 rfl) ?_
          refine lv_iload_n hx hb dL_law_541 rfl (lv_at hl 3 rfl) ?_
          refine lv_iconst (v := (1 : Int32)) hx hb dL_law_542 (by decide) ?_
          refine lv_iadd hx hb dL_law_543 ?_
          obtain ⟨v613, e_v613, hf⟩ := op_none hf
          refine w_sld hx hb hX hbl hbA hV e_v613 dL_law_544 ?_
          refine lv_aload_n hx hb dL_law_545 rfl (lv_at hl 0 rfl) ?_
          refine lv_iload_n hx hb dL_law_546 rfl (lv_at hl 3 rfl) ?_
          refine lv_iconst (v := (2 : Int32)) hx hb dL_law_547 (by decide) ?_
          refine lv_iadd hx hb dL_law_548 ?_
          obtain ⟨v614, e_v614, hf⟩ := op_none hf
          refine w_sld hx hb hX hbl hbA hV e_v614 dL_law_549 ?_
          refine lv_i2l hx hb dL_law_550 rfl ?_
          refine lv_bipush (v := (32 : Int32)) hx hb dL_law_551 (by decide) ?_
          refine lv_lshl hx hb dL_law_553 rfl ?_
          refine lv_aload_n hx hb dL_law_554 rfl (lv_at hl 0 rfl) ?_
          refine lv_iload_n hx hb dL_law_555 rfl (lv_at hl 3 rfl) ?_
          refine lv_iconst (v := (3 : Int32)) hx hb dL_law_556 (by decide) ?_
          refine lv_iadd hx hb dL_law_557 ?_
          obtain ⟨v615, e_v615, hf⟩ := op_none hf
          refine w_sld hx hb hX hbl hbA hV e_v615 dL_law_558 ?_
          refine lv_i2l hx hb dL_law_559 rfl ?_
          refine lv_ldc2 (v := (4294967295 : Int64)) hx hb hown (hB _ q_8a137cc3) dL_law_560 ?_
          refine lv_land hx hb dL_law_563 ?_
          refine lv_lor hx hb dL_law_564 ?_
          obtain ⟨p619, e_618, hf⟩ := op_none hf
          refine w_callL (rn_RL_65 (As := [.int v613, .long ((v614.toInt64 <<< ((32 : Int32).toInt64 &&& 63)) ||| (v615.toInt64 &&& (4294967295 : Int64)))]) hx hb hml hown hB hW hZ hV (k_X6_often l E _ v613 ((v614.toInt64 <<< ((32 : Int32).toInt64 &&& 63)) ||| (v615.toInt64 &&& (4294967295 : Int64))) p619.1 p619.2 e_618) rfl rfl ⟨(Nat.le_of_ble_eq_true rfl), (Nat.le_of_ble_eq_true rfl)⟩ (w_rec hW oX.1 (oX.2 E _ _) rfl) rfl hl.1 rfl (Nat.le_of_ble_eq_true rfl) dL_law_565 ⟨Nat.le_of_ble_eq_true rfl, Nat.le_of_ble_eq_true rfl⟩) hV (fun H locs hW hV => ?_)
          refine lv_aload_n hx hb dL_law_568 rfl (lv_at hl 2 rfl) ?_
          refine lv_aload_n hx hb dL_law_569 rfl (lv_at hl 0 rfl) ?_
          refine lv_iload_n hx hb dL_law_570 rfl (lv_at hl 3 rfl) ?_
          refine lv_iconst (v := (1 : Int32)) hx hb dL_law_571 (by decide) ?_
          refine lv_iadd hx hb dL_law_572 ?_
          obtain ⟨v620, e_v620, hf⟩ := op_none hf
          refine w_sld hx hb hX hbl hbA hV e_v620 dL_law_573 ?_
          refine lv_aload_n hx hb dL_law_574 rfl (lv_at hl 0 rfl) ?_
          refine lv_iload_n hx hb dL_law_575 rfl (lv_at hl 3 rfl) ?_
          refine lv_iconst (v := (2 : Int32)) hx hb dL_law_576 (by decide) ?_
          refine lv_iadd hx hb dL_law_577 ?_
          obtain ⟨v621, e_v621, hf⟩ := op_none hf
          refine w_sld hx hb hX hbl hbA hV e_v621 dL_law_578 ?_
          refine lv_i2l hx hb dL_law_579 rfl ?_
          refine lv_bipush (v := (32 : Int32)) hx hb dL_law_580 (by decide) ?_
          refine lv_lshl hx hb dL_law_582 rfl ?_
          refine lv_aload_n hx hb dL_law_583 rfl (lv_at hl 0 rfl) ?_
          refine lv_iload_n hx hb dL_law_584 rfl (lv_at hl 3 rfl) ?_
          refine lv_iconst (v := (3 : Int32)) hx hb dL_law_585 (by decide) ?_
          refine lv_iadd hx hb dL_law_586 ?_
          obtain ⟨v622, e_v622, hf⟩ := op_none hf
          refine w_sld hx hb hX hbl hbA hV e_v622 dL_law_587 ?_
          refine lv_i2l hx hb dL_law_588 rfl ?_
          refine lv_ldc2 (v := (4294967295 : Int64)) hx hb hown (hB _ q_8a137cc3) dL_law_589 ?_
          refine lv_land hx hb dL_law_592 ?_
          refine lv_lor hx hb dL_law_593 ?_
          obtain ⟨p626, e_625, hf⟩ := op_none hf
          refine w_callL (rn_RL_69 (As := [.int v620, .long ((v621.toInt64 <<< ((32 : Int32).toInt64 &&& 63)) ||| (v622.toInt64 &&& (4294967295 : Int64)))]) hx hb hml hown hB hW hZ hV (k_X7_often l E _ v620 ((v621.toInt64 <<< ((32 : Int32).toInt64 &&& 63)) ||| (v622.toInt64 &&& (4294967295 : Int64))) p626.1 p626.2 e_625) rfl rfl ⟨(Nat.le_of_ble_eq_true rfl), (Nat.le_of_ble_eq_true rfl)⟩ (w_rec hW oM.1 (oM.2 E _ _) rfl) rfl hl.1 rfl (Nat.le_of_ble_eq_true rfl) dL_law_594 ⟨Nat.le_of_ble_eq_true rfl, Nat.le_of_ble_eq_true rfl⟩) hV (fun H locs hW hV => ?_)
          refine W.lcmp hx hb dL_law_597 ?_
          refine lv_if_eq (tgt := 1326) hx hb dL_law_598 (by decide) (fun y627 => ?_) (fun y627 => ?_)
          · have hf := op_t y627 hf
            exact c_1326 p626.2 b3_18 hf H locs ls hW hV (lv_sub hl [0, 1, 2, 3] rfl)
          · have hf := op_f y627 hf
            refine lv_iconst (v := (0 : Int32)) hx hb dL_law_601 (by decide) ?_
            exact absurd (Prod.mk.inj (Option.some.inj hf)).1 (by decide)
        have hf := op_f y612 hf
        by_cases y628 : v471 = (12 : Int32)
        · have hf := op_t y628 hf
          refine lv_tableIn (tgt := 603) (off := 570) hx hb dL_law_33 (by rw [y628]; decide) (by rw [y628]; decide) (by rw [y628]; rfl) (by decide) ?_
          refine lv_aload_n hx hb dL_law_603 rfl (lv_at hl 1 rfl) ?_
          refine lv_aload_n hx hb dL_law_604 rfl (lv_at hl 0 rfl) ?_
          refine lv_iload_n hx hb dL_law_605 rfl (lv_at hl 3 rfl) ?_
          refine lv_iconst (v := (1 : Int32)) hx hb dL_law_606 (by decide) ?_
          refine lv_iadd hx hb dL_law_607 ?_
          obtain ⟨v629, e_v629, hf⟩ := op_none hf
          refine w_sld hx hb hX hbl hbA hV e_v629 dL_law_608 ?_
          refine lv_aload_n hx hb dL_law_609 rfl (lv_at hl 0 rfl) ?_
          refine lv_iload_n hx hb dL_law_610 rfl (lv_at hl 3 rfl) ?_
          refine lv_iconst (v := (2 : Int32)) hx hb dL_law_611 (by decide) ?_
          refine lv_iadd hx hb dL_law_612 ?_
          obtain ⟨v630, e_v630, hf⟩ := op_none hf
          refine w_sld hx hb hX hbl hbA hV e_v630 dL_law_613 ?_
          obtain ⟨p634, e_633, hf⟩ := op_none hf
          refine w_callL (rn_RL_70 (As := [.int v629, .int v630]) hx hb hml hown hB hW hZ hV (k_X6_together l E _ v629 v630 p634.1 p634.2 e_633) rfl rfl ⟨(Nat.le_of_ble_eq_true rfl), (Nat.le_of_ble_eq_true rfl)⟩ (w_rec hW oX.1 (oX.2 E _ _) rfl) rfl hl.1 rfl (Nat.le_of_ble_eq_true rfl) dL_law_614 ⟨Nat.le_of_ble_eq_true rfl, Nat.le_of_ble_eq_true rfl⟩) hV (fun H locs hW hV => ?_)
          refine lv_aload_n hx hb dL_law_617 rfl (lv_at hl 2 rfl) ?_
          refine lv_aload_n hx hb dL_law_618 rfl (lv_at hl 0 rfl) ?_
          refine lv_iload_n hx hb dL_law_619 rfl (lv_at hl 3 rfl) ?_
          refine lv_iconst (v := (1 : Int32)) hx hb dL_law_620 (by decide) ?_
          refine lv_iadd hx hb dL_law_621 ?_
          obtain ⟨v635, e_v635, hf⟩ := op_none hf
          refine w_sld hx hb hX hbl hbA hV e_v635 dL_law_622 ?_
          refine lv_aload_n hx hb dL_law_623 rfl (lv_at hl 0 rfl) ?_
          refine lv_iload_n hx hb dL_law_624 rfl (lv_at hl 3 rfl) ?_
          refine lv_iconst (v := (2 : Int32)) hx hb dL_law_625 (by decide) ?_
          refine lv_iadd hx hb dL_law_626 ?_
          obtain ⟨v636, e_v636, hf⟩ := op_none hf
          refine w_sld hx hb hX hbl hbA hV e_v636 dL_law_627 ?_
          obtain ⟨p640, e_639, hf⟩ := op_none hf
          refine w_callL (rn_RL_74 (As := [.int v635, .int v636]) hx hb hml hown hB hW hZ hV (k_X7_together l E _ v635 v636 p640.1 p640.2 e_639) rfl rfl ⟨(Nat.le_of_ble_eq_true rfl), (Nat.le_of_ble_eq_true rfl)⟩ (w_rec hW oM.1 (oM.2 E _ _) rfl) rfl hl.1 rfl (Nat.le_of_ble_eq_true rfl) dL_law_628 ⟨Nat.le_of_ble_eq_true rfl, Nat.le_of_ble_eq_true rfl⟩) hV (fun H locs hW hV => ?_)
          refine W.lcmp hx hb dL_law_631 ?_
          refine lv_if_eq (tgt := 1326) hx hb dL_law_632 (by decide) (fun y641 => ?_) (fun y641 => ?_)
          · have hf := op_t y641 hf
            exact c_1326 p640.2 b3_18 hf H locs ls hW hV (lv_sub hl [0, 1, 2, 3] rfl)
          · have hf := op_f y641 hf
            refine lv_iconst (v := (0 : Int32)) hx hb dL_law_635 (by decide) ?_
            exact absurd (Prod.mk.inj (Option.some.inj hf)).1 (by decide)
        have hf := op_f y628 hf
        by_cases y642 : v471 = (13 : Int32)
        · have hf := op_t y642 hf
          refine lv_tableIn (tgt := 637) (off := 604) hx hb dL_law_33 (by rw [y642]; decide) (by rw [y642]; decide) (by rw [y642]; rfl) (by decide) ?_
          refine lv_aload_n hx hb dL_law_637 rfl (lv_at hl 1 rfl) ?_
          refine lv_aload_n hx hb dL_law_638 rfl (lv_at hl 0 rfl) ?_
          refine lv_iload_n hx hb dL_law_639 rfl (lv_at hl 3 rfl) ?_
          refine lv_iconst (v := (1 : Int32)) hx hb dL_law_640 (by decide) ?_
          refine lv_iadd hx hb dL_law_641 ?_
          obtain ⟨v643, e_v643, hf⟩ := op_none hf
          refine w_sld hx hb hX hbl hbA hV e_v643 dL_law_642 ?_
          refine lv_aload_n hx hb dL_law_643 rfl (lv_at hl 0 rfl) ?_
          refine lv_iload_n hx hb dL_law_644 rfl (lv_at hl 3 rfl) ?_
          refine lv_iconst (v := (2 : Int32)) hx hb dL_law_645 (by decide) ?_
          refine lv_iadd hx hb dL_law_646 ?_
          obtain ⟨v644, e_v644, hf⟩ := op_none hf
          refine w_sld hx hb hX hbl hbA hV e_v644 dL_law_647 ?_
          obtain ⟨p648, e_647, hf⟩ := op_none hf
          refine w_callI (rn_RL_75 (As := [.int v643, .int v644]) hx hb hml hown hB hW hZ hV (k_X6_busy l E _ v643 v644 p648.1 p648.2 e_647) rfl rfl ⟨(Nat.le_of_ble_eq_true rfl), (Nat.le_of_ble_eq_true rfl)⟩ (w_rec hW oX.1 (oX.2 E _ _) rfl) rfl hl.1 rfl (Nat.le_of_ble_eq_true rfl) dL_law_648 ⟨Nat.le_of_ble_eq_true rfl, Nat.le_of_ble_eq_true rfl⟩) hV (fun H locs hW hV => ?_)
          refine lv_aload_n hx hb dL_law_651 rfl (lv_at hl 2 rfl) ?_
          refine lv_aload_n hx hb dL_law_652 rfl (lv_at hl 0 rfl) ?_
          refine lv_iload_n hx hb dL_law_653 rfl (lv_at hl 3 rfl) ?_
          refine lv_iconst (v := (1 : Int32)) hx hb dL_law_654 (by decide) ?_
          refine lv_iadd hx hb dL_law_655 ?_
          obtain ⟨v649, e_v649, hf⟩ := op_none hf
          refine w_sld hx hb hX hbl hbA hV e_v649 dL_law_656 ?_
          refine lv_aload_n hx hb dL_law_657 rfl (lv_at hl 0 rfl) ?_
          refine lv_iload_n hx hb dL_law_658 rfl (lv_at hl 3 rfl) ?_
          refine lv_iconst (v := (2 : Int32)) hx hb dL_law_659 (by decide) ?_
          refine lv_iadd hx hb dL_law_660 ?_
          obtain ⟨v650, e_v650, hf⟩ := op_none hf
          refine w_sld hx hb hX hbl hbA hV e_v650 dL_law_661 ?_
          obtain ⟨p654, e_653, hf⟩ := op_none hf
          refine w_callI (rn_RL_78 (As := [.int v649, .int v650]) hx hb hml hown hB hW hZ hV (k_X7_busy l E _ v649 v650 p654.1 p654.2 e_653) rfl rfl ⟨(Nat.le_of_ble_eq_true rfl), (Nat.le_of_ble_eq_true rfl)⟩ (w_rec hW oM.1 (oM.2 E _ _) rfl) rfl hl.1 rfl (Nat.le_of_ble_eq_true rfl) dL_law_662 ⟨Nat.le_of_ble_eq_true rfl, Nat.le_of_ble_eq_true rfl⟩) hV (fun H locs hW hV => ?_)
          refine lv_icmp_eq (tgt := 1326) hx hb dL_law_665 (by decide) (fun y655 => ?_) (fun y655 => ?_)
          · have hf := op_t y655 hf
            exact c_1326 p654.2 b3_18 hf H locs ls hW hV (lv_sub hl [0, 1, 2, 3] rfl)
          · have hf := op_f y655 hf
            refine lv_iconst (v := (0 : Int32)) hx hb dL_law_668 (by decide) ?_
            exact absurd (Prod.mk.inj (Option.some.inj hf)).1 (by decide)
        have hf := op_f y642 hf
        by_cases y656 : v471 = (14 : Int32)
        · have hf := op_t y656 hf
          refine lv_tableIn (tgt := 670) (off := 637) hx hb dL_law_33 (by rw [y656]; decide) (by rw [y656]; decide) (by rw [y656]; rfl) (by decide) ?_
          refine lv_aload_n hx hb dL_law_670 rfl (lv_at hl 1 rfl) ?_
          refine lv_aload_n hx hb dL_law_671 rfl (lv_at hl 0 rfl) ?_
          refine lv_iload_n hx hb dL_law_672 rfl (lv_at hl 3 rfl) ?_
          refine lv_iconst (v := (1 : Int32)) hx hb dL_law_673 (by decide) ?_
          refine lv_iadd hx hb dL_law_674 ?_
          obtain ⟨v657, e_v657, hf⟩ := op_none hf
          refine w_sld hx hb hX hbl hbA hV e_v657 dL_law_675 ?_
          refine lv_aload_n hx hb dL_law_676 rfl (lv_at hl 0 rfl) ?_
          refine lv_iload_n hx hb dL_law_677 rfl (lv_at hl 3 rfl) ?_
          refine lv_iconst (v := (2 : Int32)) hx hb dL_law_678 (by decide) ?_
          refine lv_iadd hx hb dL_law_679 ?_
          obtain ⟨v658, e_v658, hf⟩ := op_none hf
          refine w_sld hx hb hX hbl hbA hV e_v658 dL_law_680 ?_
          refine lv_aload_n hx hb dL_law_681 rfl (lv_at hl 0 rfl) ?_
          refine lv_iload_n hx hb dL_law_682 rfl (lv_at hl 3 rfl) ?_
          refine lv_iconst (v := (3 : Int32)) hx hb dL_law_683 (by decide) ?_
          refine lv_iadd hx hb dL_law_684 ?_
          obtain ⟨v659, e_v659, hf⟩ := op_none hf
          refine w_sld hx hb hX hbl hbA hV e_v659 dL_law_685 ?_
          refine lv_if_eq (tgt := 693) hx hb dL_law_686 (by decide) (fun y660 => ?_) (fun y660 => ?_)
          · have hf := op_t y660 hf
            refine lv_iconst (v := (0 : Int32)) hx hb dL_law_693 (by decide) ?_
            exact c_694 μ_18 b3_18 (0 : Int32) v658 v657 hf H locs ls hW hV (lv_sub hl [0, 1, 2, 3] rfl)
          · have hf := op_f y660 hf
            refine lv_iconst (v := (1 : Int32)) hx hb dL_law_689 (by decide) ?_
            refine lv_goto (tgt := 694) hx hb dL_law_690 (by decide) ?_
            exact c_694 μ_18 b3_18 (1 : Int32) v658 v657 hf H locs ls hW hV (lv_sub hl [0, 1, 2, 3] rfl)
        have hf := op_f y656 hf
        by_cases y661 : v471 = (15 : Int32)
        · have hf := op_t y661 hf
          refine lv_tableIn (tgt := 729) (off := 696) hx hb dL_law_33 (by rw [y661]; decide) (by rw [y661]; decide) (by rw [y661]; rfl) (by decide) ?_
          refine lv_aload_n hx hb dL_law_729 rfl (lv_at hl 1 rfl) ?_
          refine lv_aload_n hx hb dL_law_730 rfl (lv_at hl 0 rfl) ?_
          refine lv_iload_n hx hb dL_law_731 rfl (lv_at hl 3 rfl) ?_
          refine lv_iconst (v := (1 : Int32)) hx hb dL_law_732 (by decide) ?_
          refine lv_iadd hx hb dL_law_733 ?_
          obtain ⟨v662, e_v662, hf⟩ := op_none hf
          refine w_sld hx hb hX hbl hbA hV e_v662 dL_law_734 ?_
          refine lv_aload_n hx hb dL_law_735 rfl (lv_at hl 0 rfl) ?_
          refine lv_iload_n hx hb dL_law_736 rfl (lv_at hl 3 rfl) ?_
          refine lv_iconst (v := (2 : Int32)) hx hb dL_law_737 (by decide) ?_
          refine lv_iadd hx hb dL_law_738 ?_
          obtain ⟨v663, e_v663, hf⟩ := op_none hf
          refine w_sld hx hb hX hbl hbA hV e_v663 dL_law_739 ?_
          refine lv_aload_n hx hb dL_law_740 rfl (lv_at hl 0 rfl) ?_
          refine lv_iload_n hx hb dL_law_741 rfl (lv_at hl 3 rfl) ?_
          refine lv_iconst (v := (3 : Int32)) hx hb dL_law_742 (by decide) ?_
          refine lv_iadd hx hb dL_law_743 ?_
          obtain ⟨v664, e_v664, hf⟩ := op_none hf
          refine w_sld hx hb hX hbl hbA hV e_v664 dL_law_744 ?_
          obtain ⟨p668, e_667, hf⟩ := op_none hf
          refine w_callI (rn_RL_84 (As := [.int v662, .int v663, .int v664]) hx hb hml hown hB hW hZ hV (k_X6_can l E _ v662 v663 v664 p668.1 p668.2 e_667) rfl rfl ⟨(Nat.le_of_ble_eq_true rfl), (Nat.le_of_ble_eq_true rfl)⟩ (w_rec hW oX.1 (oX.2 E _ _) rfl) rfl hl.1 rfl (Nat.le_of_ble_eq_true rfl) dL_law_745 ⟨Nat.le_of_ble_eq_true rfl, Nat.le_of_ble_eq_true rfl⟩) hV (fun H locs hW hV => ?_)
          refine lv_aload_n hx hb dL_law_748 rfl (lv_at hl 2 rfl) ?_
          refine lv_aload_n hx hb dL_law_749 rfl (lv_at hl 0 rfl) ?_
          refine lv_iload_n hx hb dL_law_750 rfl (lv_at hl 3 rfl) ?_
          refine lv_iconst (v := (1 : Int32)) hx hb dL_law_751 (by decide) ?_
          refine lv_iadd hx hb dL_law_752 ?_
          obtain ⟨v669, e_v669, hf⟩ := op_none hf
          refine w_sld hx hb hX hbl hbA hV e_v669 dL_law_753 ?_
          refine lv_aload_n hx hb dL_law_754 rfl (lv_at hl 0 rfl) ?_
          refine lv_iload_n hx hb dL_law_755 rfl (lv_at hl 3 rfl) ?_
          refine lv_iconst (v := (2 : Int32)) hx hb dL_law_756 (by decide) ?_
          refine lv_iadd hx hb dL_law_757 ?_
          obtain ⟨v670, e_v670, hf⟩ := op_none hf
          refine w_sld hx hb hX hbl hbA hV e_v670 dL_law_758 ?_
          refine lv_aload_n hx hb dL_law_759 rfl (lv_at hl 0 rfl) ?_
          refine lv_iload_n hx hb dL_law_760 rfl (lv_at hl 3 rfl) ?_
          refine lv_iconst (v := (3 : Int32)) hx hb dL_law_761 (by decide) ?_
          refine lv_iadd hx hb dL_law_762 ?_
          obtain ⟨v671, e_v671, hf⟩ := op_none hf
          refine w_sld hx hb hX hbl hbA hV e_v671 dL_law_763 ?_
          obtain ⟨p675, e_674, hf⟩ := op_none hf
          refine w_callI (rn_RL_87 (As := [.int v669, .int v670, .int v671]) hx hb hml hown hB hW hZ hV (k_X7_can l E _ v669 v670 v671 p675.1 p675.2 e_674) rfl rfl ⟨(Nat.le_of_ble_eq_true rfl), (Nat.le_of_ble_eq_true rfl)⟩ (w_rec hW oM.1 (oM.2 E _ _) rfl) rfl hl.1 rfl (Nat.le_of_ble_eq_true rfl) dL_law_764 ⟨Nat.le_of_ble_eq_true rfl, Nat.le_of_ble_eq_true rfl⟩) hV (fun H locs hW hV => ?_)
          refine lv_icmp_eq (tgt := 1326) hx hb dL_law_767 (by decide) (fun y676 => ?_) (fun y676 => ?_)
          · have hf := op_t y676 hf
            exact c_1326 p675.2 b3_18 hf H locs ls hW hV (lv_sub hl [0, 1, 2, 3] rfl)
          · have hf := op_f y676 hf
            refine lv_iconst (v := (0 : Int32)) hx hb dL_law_770 (by decide) ?_
            exact absurd (Prod.mk.inj (Option.some.inj hf)).1 (by decide)
        have hf := op_f y661 hf
        by_cases y677 : v471 = (16 : Int32)
        · have hf := op_t y677 hf
          refine lv_tableIn (tgt := 772) (off := 739) hx hb dL_law_33 (by rw [y677]; decide) (by rw [y677]; decide) (by rw [y677]; rfl) (by decide) ?_
          refine lv_aload_n hx hb dL_law_772 rfl (lv_at hl 1 rfl) ?_
          refine lv_aload_n hx hb dL_law_773 rfl (lv_at hl 0 rfl) ?_
          refine lv_iload_n hx hb dL_law_774 rfl (lv_at hl 3 rfl) ?_
          refine lv_iconst (v := (1 : Int32)) hx hb dL_law_775 (by decide) ?_
          refine lv_iadd hx hb dL_law_776 ?_
          obtain ⟨v678, e_v678, hf⟩ := op_none hf
          refine w_sld hx hb hX hbl hbA hV e_v678 dL_law_777 ?_
          obtain ⟨p682, e_681, hf⟩ := op_none hf
          refine w_callL (rn_RL_88 (As := [.int v678]) hx hb hml hown hB hW hZ hV (k_X6_odds l E _ v678 p682.1 p682.2 e_681) rfl rfl ⟨(Nat.le_of_ble_eq_true rfl), (Nat.le_of_ble_eq_true rfl)⟩ (w_rec hW oX.1 (oX.2 E _ _) rfl) rfl hl.1 rfl (Nat.le_of_ble_eq_true rfl) dL_law_778 ⟨Nat.le_of_ble_eq_true rfl, Nat.le_of_ble_eq_true rfl⟩) hV (fun H locs hW hV => ?_)
          refine lv_aload_n hx hb dL_law_781 rfl (lv_at hl 2 rfl) ?_
          refine lv_aload_n hx hb dL_law_782 rfl (lv_at hl 0 rfl) ?_
          refine lv_iload_n hx hb dL_law_783 rfl (lv_at hl 3 rfl) ?_
          refine lv_iconst (v := (1 : Int32)) hx hb dL_law_784 (by decide) ?_
          refine lv_iadd hx hb dL_law_785 ?_
          obtain ⟨v683, e_v683, hf⟩ := op_none hf
          refine w_sld hx hb hX hbl hbA hV e_v683 dL_law_786 ?_
          obtain ⟨p687, e_686, hf⟩ := op_none hf
          refine w_callL (rn_RL_92 (As := [.int v683]) hx hb hml hown hB hW hZ hV (k_X7_odds l E _ v683 p687.1 p687.2 e_686) rfl rfl ⟨(Nat.le_of_ble_eq_true rfl), (Nat.le_of_ble_eq_true rfl)⟩ (w_rec hW oM.1 (oM.2 E _ _) rfl) rfl hl.1 rfl (Nat.le_of_ble_eq_true rfl) dL_law_787 ⟨Nat.le_of_ble_eq_true rfl, Nat.le_of_ble_eq_true rfl⟩) hV (fun H locs hW hV => ?_)
          refine W.lcmp hx hb dL_law_790 ?_
          refine lv_if_eq (tgt := 1326) hx hb dL_law_791 (by decide) (fun y688 => ?_) (fun y688 => ?_)
          · have hf := op_t y688 hf
            exact c_1326 p687.2 b3_18 hf H locs ls hW hV (lv_sub hl [0, 1, 2, 3] rfl)
          · have hf := op_f y688 hf
            refine lv_iconst (v := (0 : Int32)) hx hb dL_law_794 (by decide) ?_
            exact absurd (Prod.mk.inj (Option.some.inj hf)).1 (by decide)
        have hf := op_f y677 hf
        by_cases y689 : v471 = (17 : Int32)
        · have hf := op_t y689 hf
          refine lv_tableIn (tgt := 796) (off := 763) hx hb dL_law_33 (by rw [y689]; decide) (by rw [y689]; decide) (by rw [y689]; rfl) (by decide) ?_
          refine lv_aload_n hx hb dL_law_796 rfl (lv_at hl 1 rfl) ?_
          refine lv_aload_n hx hb dL_law_797 rfl (lv_at hl 0 rfl) ?_
          refine lv_iload_n hx hb dL_law_798 rfl (lv_at hl 3 rfl) ?_
          refine lv_iconst (v := (1 : Int32)) hx hb dL_law_799 (by decide) ?_
          refine lv_iadd hx hb dL_law_800 ?_
          obtain ⟨v690, e_v690, hf⟩ := op_none hf
          refine w_sld hx hb hX hbl hbA hV e_v690 dL_law_801 ?_
          refine lv_aload_n hx hb dL_law_802 rfl (lv_at hl 0 rfl) ?_
          refine lv_iload_n hx hb dL_law_803 rfl (lv_at hl 3 rfl) ?_
          refine lv_iconst (v := (2 : Int32)) hx hb dL_law_804 (by decide) ?_
          refine lv_iadd hx hb dL_law_805 ?_
          obtain ⟨v691, e_v691, hf⟩ := op_none hf
          refine w_sld hx hb hX hbl hbA hV e_v691 dL_law_806 ?_
          obtain ⟨p695, e_694, hf⟩ := op_none hf
          refine w_callL (rn_RL_93 (As := [.int v690, .int v691]) hx hb hml hown hB hW hZ hV (k_X6_mean l E _ v690 v691 p695.1 p695.2 e_694) rfl rfl ⟨(Nat.le_of_ble_eq_true rfl), (Nat.le_of_ble_eq_true rfl)⟩ (w_rec hW oX.1 (oX.2 E _ _) rfl) rfl hl.1 rfl (Nat.le_of_ble_eq_true rfl) dL_law_807 ⟨Nat.le_of_ble_eq_true rfl, Nat.le_of_ble_eq_true rfl⟩) hV (fun H locs hW hV => ?_)
          refine lv_aload_n hx hb dL_law_810 rfl (lv_at hl 2 rfl) ?_
          refine lv_aload_n hx hb dL_law_811 rfl (lv_at hl 0 rfl) ?_
          refine lv_iload_n hx hb dL_law_812 rfl (lv_at hl 3 rfl) ?_
          refine lv_iconst (v := (1 : Int32)) hx hb dL_law_813 (by decide) ?_
          refine lv_iadd hx hb dL_law_814 ?_
          obtain ⟨v696, e_v696, hf⟩ := op_none hf
          refine w_sld hx hb hX hbl hbA hV e_v696 dL_law_815 ?_
          refine lv_aload_n hx hb dL_law_816 rfl (lv_at hl 0 rfl) ?_
          refine lv_iload_n hx hb dL_law_817 rfl (lv_at hl 3 rfl) ?_
          refine lv_iconst (v := (2 : Int32)) hx hb dL_law_818 (by decide) ?_
          refine lv_iadd hx hb dL_law_819 ?_
          obtain ⟨v697, e_v697, hf⟩ := op_none hf
          refine w_sld hx hb hX hbl hbA hV e_v697 dL_law_820 ?_
          obtain ⟨p701, e_700, hf⟩ := op_none hf
          refine w_callL (rn_RL_96 (As := [.int v696, .int v697]) hx hb hml hown hB hW hZ hV (k_X7_mean l E _ v696 v697 p701.1 p701.2 e_700) rfl rfl ⟨(Nat.le_of_ble_eq_true rfl), (Nat.le_of_ble_eq_true rfl)⟩ (w_rec hW oM.1 (oM.2 E _ _) rfl) rfl hl.1 rfl (Nat.le_of_ble_eq_true rfl) dL_law_821 ⟨Nat.le_of_ble_eq_true rfl, Nat.le_of_ble_eq_true rfl⟩) hV (fun H locs hW hV => ?_)
          refine W.lcmp hx hb dL_law_824 ?_
          refine lv_if_eq (tgt := 1326) hx hb dL_law_825 (by decide) (fun y702 => ?_) (fun y702 => ?_)
          · have hf := op_t y702 hf
            exact c_1326 p701.2 b3_18 hf H locs ls hW hV (lv_sub hl [0, 1, 2, 3] rfl)
          · have hf := op_f y702 hf
            refine lv_iconst (v := (0 : Int32)) hx hb dL_law_828 (by decide) ?_
            exact absurd (Prod.mk.inj (Option.some.inj hf)).1 (by decide)
        have hf := op_f y689 hf
        by_cases y703 : v471 = (18 : Int32)
        · have hf := op_t y703 hf
          refine lv_tableIn (tgt := 830) (off := 797) hx hb dL_law_33 (by rw [y703]; decide) (by rw [y703]; decide) (by rw [y703]; rfl) (by decide) ?_
          refine lv_aload_n hx hb dL_law_830 rfl (lv_at hl 1 rfl) ?_
          refine lv_aload_n hx hb dL_law_831 rfl (lv_at hl 0 rfl) ?_
          refine lv_iload_n hx hb dL_law_832 rfl (lv_at hl 3 rfl) ?_
          refine lv_iconst (v := (1 : Int32)) hx hb dL_law_833 (by decide) ?_
          refine lv_iadd hx hb dL_law_834 ?_
          obtain ⟨v704, e_v704, hf⟩ := op_none hf
          refine w_sld hx hb hX hbl hbA hV e_v704 dL_law_835 ?_
          refine lv_aload_n hx hb dL_law_836 rfl (lv_at hl 0 rfl) ?_
          refine lv_iload_n hx hb dL_law_837 rfl (lv_at hl 3 rfl) ?_
          refine lv_iconst (v := (2 : Int32)) hx hb dL_law_838 (by decide) ?_
          refine lv_iadd hx hb dL_law_839 ?_
          obtain ⟨v705, e_v705, hf⟩ := op_none hf
          refine w_sld hx hb hX hbl hbA hV e_v705 dL_law_840 ?_
          obtain ⟨p709, e_708, hf⟩ := op_none hf
          refine w_callI (rn_RL_97 (As := [.int v704, .int v705]) hx hb hml hown hB hW hZ hV (k_X6_plan l E _ v704 v705 p709.1 p709.2 e_708) rfl rfl ⟨(Nat.le_of_ble_eq_true rfl), (Nat.le_of_ble_eq_true rfl)⟩ (w_rec hW oX.1 (oX.2 E _ _) rfl) rfl hl.1 rfl (Nat.le_of_ble_eq_true rfl) dL_law_841 ⟨Nat.le_of_ble_eq_true rfl, Nat.le_of_ble_eq_true rfl⟩) hV (fun H locs hW hV => ?_)
          refine lv_aload_n hx hb dL_law_844 rfl (lv_at hl 2 rfl) ?_
          refine lv_aload_n hx hb dL_law_845 rfl (lv_at hl 0 rfl) ?_
          refine lv_iload_n hx hb dL_law_846 rfl (lv_at hl 3 rfl) ?_
          refine lv_iconst (v := (1 : Int32)) hx hb dL_law_847 (by decide) ?_
          refine lv_iadd hx hb dL_law_848 ?_
          obtain ⟨v710, e_v710, hf⟩ := op_none hf
          refine w_sld hx hb hX hbl hbA hV e_v710 dL_law_849 ?_
          refine lv_aload_n hx hb dL_law_850 rfl (lv_at hl 0 rfl) ?_
          refine lv_iload_n hx hb dL_law_851 rfl (lv_at hl 3 rfl) ?_
          refine lv_iconst (v := (2 : Int32)) hx hb dL_law_852 (by decide) ?_
          refine lv_iadd hx hb dL_law_853 ?_
          obtain ⟨v711, e_v711, hf⟩ := op_none hf
          refine w_sld hx hb hX hbl hbA hV e_v711 dL_law_854 ?_
          obtain ⟨p715, e_714, hf⟩ := op_none hf
          refine w_callI (rn_RL_100 (As := [.int v710, .int v711]) hx hb hml hown hB hW hZ hV (k_X7_plan l E _ v710 v711 p715.1 p715.2 e_714) rfl rfl ⟨(Nat.le_of_ble_eq_true rfl), (Nat.le_of_ble_eq_true rfl)⟩ (w_rec hW oM.1 (oM.2 E _ _) rfl) rfl hl.1 rfl (Nat.le_of_ble_eq_true rfl) dL_law_855 ⟨Nat.le_of_ble_eq_true rfl, Nat.le_of_ble_eq_true rfl⟩) hV (fun H locs hW hV => ?_)
          refine lv_icmp_eq (tgt := 1326) hx hb dL_law_858 (by decide) (fun y716 => ?_) (fun y716 => ?_)
          · have hf := op_t y716 hf
            exact c_1326 p715.2 b3_18 hf H locs ls hW hV (lv_sub hl [0, 1, 2, 3] rfl)
          · have hf := op_f y716 hf
            refine lv_iconst (v := (0 : Int32)) hx hb dL_law_861 (by decide) ?_
            exact absurd (Prod.mk.inj (Option.some.inj hf)).1 (by decide)
        have hf := op_f y703 hf
        by_cases y717 : v471 = (19 : Int32)
        · have hf := op_t y717 hf
          refine lv_tableIn (tgt := 863) (off := 830) hx hb dL_law_33 (by rw [y717]; decide) (by rw [y717]; decide) (by rw [y717]; rfl) (by decide) ?_
          refine lv_aload_n hx hb dL_law_863 rfl (lv_at hl 1 rfl) ?_
          refine lv_aload_n hx hb dL_law_864 rfl (lv_at hl 0 rfl) ?_
          refine lv_iload_n hx hb dL_law_865 rfl (lv_at hl 3 rfl) ?_
          refine lv_iconst (v := (1 : Int32)) hx hb dL_law_866 (by decide) ?_
          refine lv_iadd hx hb dL_law_867 ?_
          obtain ⟨v718, e_v718, hf⟩ := op_none hf
          refine w_sld hx hb hX hbl hbA hV e_v718 dL_law_868 ?_
          obtain ⟨p722, e_721, hf⟩ := op_none hf
          refine w_callI (rn_RL_101 (As := [.int v718]) hx hb hml hown hB hW hZ hV (k_X6_ends l E _ v718 p722.1 p722.2 e_721) rfl rfl ⟨(Nat.le_of_ble_eq_true rfl), (Nat.le_of_ble_eq_true rfl)⟩ (w_rec hW oX.1 (oX.2 E _ _) rfl) rfl hl.1 rfl (Nat.le_of_ble_eq_true rfl) dL_law_869 ⟨Nat.le_of_ble_eq_true rfl, Nat.le_of_ble_eq_true rfl⟩) hV (fun H locs hW hV => ?_)
          refine lv_aload_n hx hb dL_law_872 rfl (lv_at hl 2 rfl) ?_
          refine lv_aload_n hx hb dL_law_873 rfl (lv_at hl 0 rfl) ?_
          refine lv_iload_n hx hb dL_law_874 rfl (lv_at hl 3 rfl) ?_
          refine lv_iconst (v := (1 : Int32)) hx hb dL_law_875 (by decide) ?_
          refine lv_iadd hx hb dL_law_876 ?_
          obtain ⟨v723, e_v723, hf⟩ := op_none hf
          refine w_sld hx hb hX hbl hbA hV e_v723 dL_law_877 ?_
          obtain ⟨p727, e_726, hf⟩ := op_none hf
          refine w_callI (rn_RL_104 (As := [.int v723]) hx hb hml hown hB hW hZ hV (k_X7_ends l E _ v723 p727.1 p727.2 e_726) rfl rfl ⟨(Nat.le_of_ble_eq_true rfl), (Nat.le_of_ble_eq_true rfl)⟩ (w_rec hW oM.1 (oM.2 E _ _) rfl) rfl hl.1 rfl (Nat.le_of_ble_eq_true rfl) dL_law_878 ⟨Nat.le_of_ble_eq_true rfl, Nat.le_of_ble_eq_true rfl⟩) hV (fun H locs hW hV => ?_)
          refine lv_icmp_eq (tgt := 1326) hx hb dL_law_881 (by decide) (fun y728 => ?_) (fun y728 => ?_)
          · have hf := op_t y728 hf
            exact c_1326 p727.2 b3_18 hf H locs ls hW hV (lv_sub hl [0, 1, 2, 3] rfl)
          · have hf := op_f y728 hf
            refine lv_iconst (v := (0 : Int32)) hx hb dL_law_884 (by decide) ?_
            exact absurd (Prod.mk.inj (Option.some.inj hf)).1 (by decide)
        have hf := op_f y717 hf
        by_cases y729 : v471 = (20 : Int32)
        · have hf := op_t y729 hf
          refine lv_tableIn (tgt := 886) (off := 853) hx hb dL_law_33 (by rw [y729]; decide) (by rw [y729]; decide) (by rw [y729]; rfl) (by decide) ?_
          refine lv_aload_n hx hb dL_law_886 rfl (lv_at hl 1 rfl) ?_
          refine lv_aload_n hx hb dL_law_887 rfl (lv_at hl 0 rfl) ?_
          refine lv_iload_n hx hb dL_law_888 rfl (lv_at hl 3 rfl) ?_
          refine lv_iconst (v := (1 : Int32)) hx hb dL_law_889 (by decide) ?_
          refine lv_iadd hx hb dL_law_890 ?_
          obtain ⟨v730, e_v730, hf⟩ := op_none hf
          refine w_sld hx hb hX hbl hbA hV e_v730 dL_law_891 ?_
          refine lv_aload_n hx hb dL_law_892 rfl (lv_at hl 0 rfl) ?_
          refine lv_iload_n hx hb dL_law_893 rfl (lv_at hl 3 rfl) ?_
          refine lv_iconst (v := (2 : Int32)) hx hb dL_law_894 (by decide) ?_
          refine lv_iadd hx hb dL_law_895 ?_
          obtain ⟨v731, e_v731, hf⟩ := op_none hf
          refine w_sld hx hb hX hbl hbA hV e_v731 dL_law_896 ?_
          obtain ⟨p735, e_734, hf⟩ := op_none hf
          refine w_callI (rn_RL_105 (As := [.int v730, .int v731]) hx hb hml hown hB hW hZ hV (k_X6_book l E _ v730 v731 p735.1 p735.2 e_734) rfl rfl ⟨(Nat.le_of_ble_eq_true rfl), (Nat.le_of_ble_eq_true rfl)⟩ (w_rec hW oX.1 (oX.2 E _ _) rfl) rfl hl.1 rfl (Nat.le_of_ble_eq_true rfl) dL_law_897 ⟨Nat.le_of_ble_eq_true rfl, Nat.le_of_ble_eq_true rfl⟩) hV (fun H locs hW hV => ?_)
          refine lv_aload_n hx hb dL_law_900 rfl (lv_at hl 2 rfl) ?_
          refine lv_aload_n hx hb dL_law_901 rfl (lv_at hl 0 rfl) ?_
          refine lv_iload_n hx hb dL_law_902 rfl (lv_at hl 3 rfl) ?_
          refine lv_iconst (v := (1 : Int32)) hx hb dL_law_903 (by decide) ?_
          refine lv_iadd hx hb dL_law_904 ?_
          obtain ⟨v736, e_v736, hf⟩ := op_none hf
          refine w_sld hx hb hX hbl hbA hV e_v736 dL_law_905 ?_
          refine lv_aload_n hx hb dL_law_906 rfl (lv_at hl 0 rfl) ?_
          refine lv_iload_n hx hb dL_law_907 rfl (lv_at hl 3 rfl) ?_
          refine lv_iconst (v := (2 : Int32)) hx hb dL_law_908 (by decide) ?_
          refine lv_iadd hx hb dL_law_909 ?_
          obtain ⟨v737, e_v737, hf⟩ := op_none hf
          refine w_sld hx hb hX hbl hbA hV e_v737 dL_law_910 ?_
          obtain ⟨p741, e_740, hf⟩ := op_none hf
          refine w_callI (rn_RL_108 (As := [.int v736, .int v737]) hx hb hml hown hB hW hZ hV (k_X7_book l E _ v736 v737 p741.1 p741.2 e_740) rfl rfl ⟨(Nat.le_of_ble_eq_true rfl), (Nat.le_of_ble_eq_true rfl)⟩ (w_rec hW oM.1 (oM.2 E _ _) rfl) rfl hl.1 rfl (Nat.le_of_ble_eq_true rfl) dL_law_911 ⟨Nat.le_of_ble_eq_true rfl, Nat.le_of_ble_eq_true rfl⟩) hV (fun H locs hW hV => ?_)
          refine lv_icmp_eq (tgt := 1326) hx hb dL_law_914 (by decide) (fun y742 => ?_) (fun y742 => ?_)
          · have hf := op_t y742 hf
            exact c_1326 p741.2 b3_18 hf H locs ls hW hV (lv_sub hl [0, 1, 2, 3] rfl)
          · have hf := op_f y742 hf
            refine lv_iconst (v := (0 : Int32)) hx hb dL_law_917 (by decide) ?_
            exact absurd (Prod.mk.inj (Option.some.inj hf)).1 (by decide)
        have hf := op_f y729 hf
        by_cases y743 : v471 = (21 : Int32)
        · have hf := op_t y743 hf
          refine lv_tableIn (tgt := 919) (off := 886) hx hb dL_law_33 (by rw [y743]; decide) (by rw [y743]; decide) (by rw [y743]; rfl) (by decide) ?_
          refine lv_aload_n hx hb dL_law_919 rfl (lv_at hl 1 rfl) ?_
          obtain ⟨v744, e_745, hf⟩ := op_none hf
          refine w_callI (rn_RL_109 (As := []) hx hb hml hown hB hW hZ hV (k_X6_looked l E _ v744 e_745) rfl rfl ⟨(Nat.le_of_ble_eq_true rfl), (Nat.le_of_ble_eq_true rfl)⟩ (w_rec hW oX.1 (oX.2 E _ _) rfl) rfl hl.1 rfl (Nat.le_of_ble_eq_true rfl) dL_law_920 ⟨Nat.le_of_ble_eq_true rfl, Nat.le_of_ble_eq_true rfl⟩) hV (fun H locs hW hV => ?_)
          refine lv_aload_n hx hb dL_law_923 rfl (lv_at hl 2 rfl) ?_
          obtain ⟨v746, e_747, hf⟩ := op_none hf
          refine w_callI (rn_RL_112 (As := []) hx hb hml hown hB hW hZ hV (k_X7_looked l E _ v746 e_747) rfl rfl ⟨(Nat.le_of_ble_eq_true rfl), (Nat.le_of_ble_eq_true rfl)⟩ (w_rec hW oM.1 (oM.2 E _ _) rfl) rfl hl.1 rfl (Nat.le_of_ble_eq_true rfl) dL_law_924 ⟨Nat.le_of_ble_eq_true rfl, Nat.le_of_ble_eq_true rfl⟩) hV (fun H locs hW hV => ?_)
          refine lv_icmp_eq (tgt := 1326) hx hb dL_law_927 (by decide) (fun y748 => ?_) (fun y748 => ?_)
          · have hf := op_t y748 hf
            exact c_1326 μ_18 b3_18 hf H locs ls hW hV (lv_sub hl [0, 1, 2, 3] rfl)
          · have hf := op_f y748 hf
            refine lv_iconst (v := (0 : Int32)) hx hb dL_law_930 (by decide) ?_
            exact absurd (Prod.mk.inj (Option.some.inj hf)).1 (by decide)
        have hf := op_f y743 hf
        by_cases y749 : v471 = (22 : Int32)
        · have hf := op_t y749 hf
          refine lv_tableIn (tgt := 932) (off := 899) hx hb dL_law_33 (by rw [y749]; decide) (by rw [y749]; decide) (by rw [y749]; rfl) (by decide) ?_
          refine lv_aload_n hx hb dL_law_932 rfl (lv_at hl 1 rfl) ?_
          refine lv_aload_n hx hb dL_law_933 rfl (lv_at hl 0 rfl) ?_
          refine lv_iload_n hx hb dL_law_934 rfl (lv_at hl 3 rfl) ?_
          refine lv_iconst (v := (1 : Int32)) hx hb dL_law_935 (by decide) ?_
          refine lv_iadd hx hb dL_law_936 ?_
          obtain ⟨v750, e_v750, hf⟩ := op_none hf
          refine w_sld hx hb hX hbl hbA hV e_v750 dL_law_937 ?_
          refine lv_aload_n hx hb dL_law_938 rfl (lv_at hl 0 rfl) ?_
          refine lv_iload_n hx hb dL_law_939 rfl (lv_at hl 3 rfl) ?_
          refine lv_iconst (v := (2 : Int32)) hx hb dL_law_940 (by decide) ?_
          refine lv_iadd hx hb dL_law_941 ?_
          obtain ⟨v751, e_v751, hf⟩ := op_none hf
          refine w_sld hx hb hX hbl hbA hV e_v751 dL_law_942 ?_
          obtain ⟨v752, e_753, hf⟩ := op_none hf
          refine w_callI (rn_RL_113 (As := [.int v750, .int v751]) hx hb hml hown hB hW hZ hV (k_X6_judge l E _ v750 v751 v752 e_753) rfl rfl ⟨(Nat.le_of_ble_eq_true rfl), (Nat.le_of_ble_eq_true rfl)⟩ (w_rec hW oX.1 (oX.2 E _ _) rfl) rfl hl.1 rfl (Nat.le_of_ble_eq_true rfl) dL_law_943 ⟨Nat.le_of_ble_eq_true rfl, Nat.le_of_ble_eq_true rfl⟩) hV (fun H locs hW hV => ?_)
          refine lv_aload_n hx hb dL_law_946 rfl (lv_at hl 2 rfl) ?_
          refine lv_aload_n hx hb dL_law_947 rfl (lv_at hl 0 rfl) ?_
          refine lv_iload_n hx hb dL_law_948 rfl (lv_at hl 3 rfl) ?_
          refine lv_iconst (v := (1 : Int32)) hx hb dL_law_949 (by decide) ?_
          refine lv_iadd hx hb dL_law_950 ?_
          obtain ⟨v754, e_v754, hf⟩ := op_none hf
          refine w_sld hx hb hX hbl hbA hV e_v754 dL_law_951 ?_
          refine lv_aload_n hx hb dL_law_952 rfl (lv_at hl 0 rfl) ?_
          refine lv_iload_n hx hb dL_law_953 rfl (lv_at hl 3 rfl) ?_
          refine lv_iconst (v := (2 : Int32)) hx hb dL_law_954 (by decide) ?_
          refine lv_iadd hx hb dL_law_955 ?_
          obtain ⟨v755, e_v755, hf⟩ := op_none hf
          refine w_sld hx hb hX hbl hbA hV e_v755 dL_law_956 ?_
          obtain ⟨v756, e_757, hf⟩ := op_none hf
          refine w_callI (rn_RL_116 (As := [.int v754, .int v755]) hx hb hml hown hB hW hZ hV (k_X7_judge l E _ v754 v755 v756 e_757) rfl rfl ⟨(Nat.le_of_ble_eq_true rfl), (Nat.le_of_ble_eq_true rfl)⟩ (w_rec hW oM.1 (oM.2 E _ _) rfl) rfl hl.1 rfl (Nat.le_of_ble_eq_true rfl) dL_law_957 ⟨Nat.le_of_ble_eq_true rfl, Nat.le_of_ble_eq_true rfl⟩) hV (fun H locs hW hV => ?_)
          refine lv_icmp_eq (tgt := 1326) hx hb dL_law_960 (by decide) (fun y758 => ?_) (fun y758 => ?_)
          · have hf := op_t y758 hf
            exact c_1326 μ_18 b3_18 hf H locs ls hW hV (lv_sub hl [0, 1, 2, 3] rfl)
          · have hf := op_f y758 hf
            refine lv_iconst (v := (0 : Int32)) hx hb dL_law_963 (by decide) ?_
            exact absurd (Prod.mk.inj (Option.some.inj hf)).1 (by decide)
        have hf := op_f y749 hf
        by_cases y759 : v471 = (23 : Int32)
        · have hf := op_t y759 hf
          refine lv_tableIn (tgt := 965) (off := 932) hx hb dL_law_33 (by rw [y759]; decide) (by rw [y759]; decide) (by rw [y759]; rfl) (by decide) ?_
          refine lv_aload_n hx hb dL_law_965 rfl (lv_at hl 1 rfl) ?_
          obtain ⟨p763, e_762, hf⟩ := op_none hf
          refine w_callI (rn_RL_117 (As := []) hx hb hml hown hB hW hZ hV (k_X6_image l E _ p763.1 p763.2 e_762) rfl rfl ⟨(Nat.le_of_ble_eq_true rfl), (Nat.le_of_ble_eq_true rfl)⟩ (w_rec hW oX.1 (oX.2 E _ _) rfl) rfl hl.1 rfl (Nat.le_of_ble_eq_true rfl) dL_law_966 ⟨Nat.le_of_ble_eq_true rfl, Nat.le_of_ble_eq_true rfl⟩) hV (fun H locs hW hV => ?_)
          refine lv_aload_n hx hb dL_law_969 rfl (lv_at hl 2 rfl) ?_
          obtain ⟨p767, e_766, hf⟩ := op_none hf
          refine w_callI (rn_RL_120 (As := []) hx hb hml hown hB hW hZ hV (k_X7_image l E _ p767.1 p767.2 e_766) rfl rfl ⟨(Nat.le_of_ble_eq_true rfl), (Nat.le_of_ble_eq_true rfl)⟩ (w_rec hW oM.1 (oM.2 E _ _) rfl) rfl hl.1 rfl (Nat.le_of_ble_eq_true rfl) dL_law_970 ⟨Nat.le_of_ble_eq_true rfl, Nat.le_of_ble_eq_true rfl⟩) hV (fun H locs hW hV => ?_)
          refine lv_icmp_eq (tgt := 1326) hx hb dL_law_973 (by decide) (fun y768 => ?_) (fun y768 => ?_)
          · have hf := op_t y768 hf
            exact c_1326 p767.2 b3_18 hf H locs ls hW hV (lv_sub hl [0, 1, 2, 3] rfl)
          · have hf := op_f y768 hf
            refine lv_iconst (v := (0 : Int32)) hx hb dL_law_976 (by decide) ?_
            exact absurd (Prod.mk.inj (Option.some.inj hf)).1 (by decide)
        have hf := op_f y759 hf
        by_cases y769 : v471 = (24 : Int32)
        · have hf := op_t y769 hf
          refine lv_tableIn (tgt := 978) (off := 945) hx hb dL_law_33 (by rw [y769]; decide) (by rw [y769]; decide) (by rw [y769]; rfl) (by decide) ?_
          refine lv_aload_n hx hb dL_law_978 rfl (lv_at hl 1 rfl) ?_
          obtain ⟨p773, e_772, hf⟩ := op_none hf
          refine w_callI (rn_RL_121 (As := []) hx hb hml hown hB hW hZ hV (k_X6_undo l E _ p773.1 p773.2 e_772) rfl rfl ⟨(Nat.le_of_ble_eq_true rfl), (Nat.le_of_ble_eq_true rfl)⟩ (w_rec hW oX.1 (oX.2 E _ _) rfl) rfl hl.1 rfl (Nat.le_of_ble_eq_true rfl) dL_law_979 ⟨Nat.le_of_ble_eq_true rfl, Nat.le_of_ble_eq_true rfl⟩) hV (fun H locs hW hV => ?_)
          refine lv_aload_n hx hb dL_law_982 rfl (lv_at hl 2 rfl) ?_
          obtain ⟨p777, e_776, hf⟩ := op_none hf
          refine w_callI (rn_RL_124 (As := []) hx hb hml hown hB hW hZ hV (k_X7_undo l E _ p777.1 p777.2 e_776) rfl rfl ⟨(Nat.le_of_ble_eq_true rfl), (Nat.le_of_ble_eq_true rfl)⟩ (w_rec hW oM.1 (oM.2 E _ _) rfl) rfl hl.1 rfl (Nat.le_of_ble_eq_true rfl) dL_law_983 ⟨Nat.le_of_ble_eq_true rfl, Nat.le_of_ble_eq_true rfl⟩) hV (fun H locs hW hV => ?_)
          refine lv_icmp_eq (tgt := 1326) hx hb dL_law_986 (by decide) (fun y778 => ?_) (fun y778 => ?_)
          · have hf := op_t y778 hf
            exact c_1326 p777.2 b3_18 hf H locs ls hW hV (lv_sub hl [0, 1, 2, 3] rfl)
          · have hf := op_f y778 hf
            refine lv_iconst (v := (0 : Int32)) hx hb dL_law_989 (by decide) ?_
            exact absurd (Prod.mk.inj (Option.some.inj hf)).1 (by decide)
        have hf := op_f y769 hf
        by_cases y779 : v471 = (25 : Int32)
        · have hf := op_t y779 hf
          refine lv_tableIn (tgt := 991) (off := 958) hx hb dL_law_33 (by rw [y779]; decide) (by rw [y779]; decide) (by rw [y779]; rfl) (by decide) ?_
          refine lv_aload_n hx hb dL_law_991 rfl (lv_at hl 1 rfl) ?_
          refine lv_aload_n hx hb dL_law_992 rfl (lv_at hl 0 rfl) ?_
          refine lv_iload_n hx hb dL_law_993 rfl (lv_at hl 3 rfl) ?_
          refine lv_iconst (v := (1 : Int32)) hx hb dL_law_994 (by decide) ?_
          refine lv_iadd hx hb dL_law_995 ?_
          obtain ⟨v780, e_v780, hf⟩ := op_none hf
          refine w_sld hx hb hX hbl hbA hV e_v780 dL_law_996 ?_
          refine lv_aload_n hx hb dL_law_997 rfl (lv_at hl 0 rfl) ?_
          refine lv_iload_n hx hb dL_law_998 rfl (lv_at hl 3 rfl) ?_
          refine lv_iconst (v := (2 : Int32)) hx hb dL_law_999 (by decide) ?_
          refine lv_iadd hx hb dL_law_1000 ?_
          obtain ⟨v781, e_v781, hf⟩ := op_none hf
          refine w_sld hx hb hX hbl hbA hV e_v781 dL_law_1001 ?_
          refine lv_aload_n hx hb dL_law_1002 rfl (lv_at hl 0 rfl) ?_
          refine lv_iload_n hx hb dL_law_1003 rfl (lv_at hl 3 rfl) ?_
          refine lv_iconst (v := (3 : Int32)) hx hb dL_law_1004 (by decide) ?_
          refine lv_iadd hx hb dL_law_1005 ?_
          obtain ⟨v782, e_v782, hf⟩ := op_none hf
          refine w_sld hx hb hX hbl hbA hV e_v782 dL_law_1006 ?_
          obtain ⟨p786, e_785, hf⟩ := op_none hf
          refine w_callI (rn_RL_125 (As := [.int v780, .int v781, .int v782]) hx hb hml hown hB hW hZ hV (k_X6_act l E _ v780 v781 v782 p786.1 p786.2 e_785) rfl rfl ⟨(Nat.le_of_ble_eq_true rfl), (Nat.le_of_ble_eq_true rfl)⟩ (w_rec hW oX.1 (oX.2 E _ _) rfl) rfl hl.1 rfl (Nat.le_of_ble_eq_true rfl) dL_law_1007 ⟨Nat.le_of_ble_eq_true rfl, Nat.le_of_ble_eq_true rfl⟩) hV (fun H locs hW hV => ?_)
          refine lv_aload_n hx hb dL_law_1010 rfl (lv_at hl 2 rfl) ?_
          refine lv_aload_n hx hb dL_law_1011 rfl (lv_at hl 0 rfl) ?_
          refine lv_iload_n hx hb dL_law_1012 rfl (lv_at hl 3 rfl) ?_
          refine lv_iconst (v := (1 : Int32)) hx hb dL_law_1013 (by decide) ?_
          refine lv_iadd hx hb dL_law_1014 ?_
          obtain ⟨v787, e_v787, hf⟩ := op_none hf
          refine w_sld hx hb hX hbl hbA hV e_v787 dL_law_1015 ?_
          refine lv_aload_n hx hb dL_law_1016 rfl (lv_at hl 0 rfl) ?_
          refine lv_iload_n hx hb dL_law_1017 rfl (lv_at hl 3 rfl) ?_
          refine lv_iconst (v := (2 : Int32)) hx hb dL_law_1018 (by decide) ?_
          refine lv_iadd hx hb dL_law_1019 ?_
          obtain ⟨v788, e_v788, hf⟩ := op_none hf
          refine w_sld hx hb hX hbl hbA hV e_v788 dL_law_1020 ?_
          refine lv_aload_n hx hb dL_law_1021 rfl (lv_at hl 0 rfl) ?_
          refine lv_iload_n hx hb dL_law_1022 rfl (lv_at hl 3 rfl) ?_
          refine lv_iconst (v := (3 : Int32)) hx hb dL_law_1023 (by decide) ?_
          refine lv_iadd hx hb dL_law_1024 ?_
          obtain ⟨v789, e_v789, hf⟩ := op_none hf
          refine w_sld hx hb hX hbl hbA hV e_v789 dL_law_1025 ?_
          obtain ⟨p793, e_792, hf⟩ := op_none hf
          refine w_callI (rn_RL_128 (As := [.int v787, .int v788, .int v789]) hx hb hml hown hB hW hZ hV (k_X7_act l E _ v787 v788 v789 p793.1 p793.2 e_792) rfl rfl ⟨(Nat.le_of_ble_eq_true rfl), (Nat.le_of_ble_eq_true rfl)⟩ (w_rec hW oM.1 (oM.2 E _ _) rfl) rfl hl.1 rfl (Nat.le_of_ble_eq_true rfl) dL_law_1026 ⟨Nat.le_of_ble_eq_true rfl, Nat.le_of_ble_eq_true rfl⟩) hV (fun H locs hW hV => ?_)
          refine lv_icmp_eq (tgt := 1326) hx hb dL_law_1029 (by decide) (fun y794 => ?_) (fun y794 => ?_)
          · have hf := op_t y794 hf
            exact c_1326 p793.2 b3_18 hf H locs ls hW hV (lv_sub hl [0, 1, 2, 3] rfl)
          · have hf := op_f y794 hf
            refine lv_iconst (v := (0 : Int32)) hx hb dL_law_1032 (by decide) ?_
            exact absurd (Prod.mk.inj (Option.some.inj hf)).1 (by decide)
        have hf := op_f y779 hf
        by_cases y795 : v471 = (26 : Int32)
        · have hf := op_t y795 hf
          refine lv_tableIn (tgt := 1034) (off := 1001) hx hb dL_law_33 (by rw [y795]; decide) (by rw [y795]; decide) (by rw [y795]; rfl) (by decide) ?_
          refine lv_aload_n hx hb dL_law_1034 rfl (lv_at hl 1 rfl) ?_
          refine lv_aload_n hx hb dL_law_1035 rfl (lv_at hl 0 rfl) ?_
          refine lv_iload_n hx hb dL_law_1036 rfl (lv_at hl 3 rfl) ?_
          refine lv_iconst (v := (1 : Int32)) hx hb dL_law_1037 (by decide) ?_
          refine lv_iadd hx hb dL_law_1038 ?_
          obtain ⟨v796, e_v796, hf⟩ := op_none hf
          refine w_sld hx hb hX hbl hbA hV e_v796 dL_law_1039 ?_
          obtain ⟨v797, e_798, hf⟩ := op_none hf
          refine w_callI (rn_RL_129 (As := [.int v796]) hx hb hml hown hB hW hZ hV (k_X6_trace l E _ v796 v797 e_798) rfl rfl ⟨(Nat.le_of_ble_eq_true rfl), (Nat.le_of_ble_eq_true rfl)⟩ (w_rec hW oX.1 (oX.2 E _ _) rfl) rfl hl.1 rfl (Nat.le_of_ble_eq_true rfl) dL_law_1040 ⟨Nat.le_of_ble_eq_true rfl, Nat.le_of_ble_eq_true rfl⟩) hV (fun H locs hW hV => ?_)
          refine lv_aload_n hx hb dL_law_1043 rfl (lv_at hl 2 rfl) ?_
          refine lv_aload_n hx hb dL_law_1044 rfl (lv_at hl 0 rfl) ?_
          refine lv_iload_n hx hb dL_law_1045 rfl (lv_at hl 3 rfl) ?_
          refine lv_iconst (v := (1 : Int32)) hx hb dL_law_1046 (by decide) ?_
          refine lv_iadd hx hb dL_law_1047 ?_
          obtain ⟨v799, e_v799, hf⟩ := op_none hf
          refine w_sld hx hb hX hbl hbA hV e_v799 dL_law_1048 ?_
          obtain ⟨v800, e_801, hf⟩ := op_none hf
          refine w_callI (rn_RL_132 (As := [.int v799]) hx hb hml hown hB hW hZ hV (k_X7_trace l E _ v799 v800 e_801) rfl rfl ⟨(Nat.le_of_ble_eq_true rfl), (Nat.le_of_ble_eq_true rfl)⟩ (w_rec hW oM.1 (oM.2 E _ _) rfl) rfl hl.1 rfl (Nat.le_of_ble_eq_true rfl) dL_law_1049 ⟨Nat.le_of_ble_eq_true rfl, Nat.le_of_ble_eq_true rfl⟩) hV (fun H locs hW hV => ?_)
          refine lv_icmp_eq (tgt := 1326) hx hb dL_law_1052 (by decide) (fun y802 => ?_) (fun y802 => ?_)
          · have hf := op_t y802 hf
            exact c_1326 μ_18 b3_18 hf H locs ls hW hV (lv_sub hl [0, 1, 2, 3] rfl)
          · have hf := op_f y802 hf
            refine lv_iconst (v := (0 : Int32)) hx hb dL_law_1055 (by decide) ?_
            exact absurd (Prod.mk.inj (Option.some.inj hf)).1 (by decide)
        have hf := op_f y795 hf
        by_cases y803 : v471 = (27 : Int32)
        · have hf := op_t y803 hf
          refine lv_tableIn (tgt := 1057) (off := 1024) hx hb dL_law_33 (by rw [y803]; decide) (by rw [y803]; decide) (by rw [y803]; rfl) (by decide) ?_
          refine lv_aload_n hx hb dL_law_1057 rfl (lv_at hl 1 rfl) ?_
          refine lv_aload_n hx hb dL_law_1058 rfl (lv_at hl 0 rfl) ?_
          refine lv_iload_n hx hb dL_law_1059 rfl (lv_at hl 3 rfl) ?_
          refine lv_iconst (v := (1 : Int32)) hx hb dL_law_1060 (by decide) ?_
          refine lv_iadd hx hb dL_law_1061 ?_
          obtain ⟨v804, e_v804, hf⟩ := op_none hf
          refine w_sld hx hb hX hbl hbA hV e_v804 dL_law_1062 ?_
          refine lv_aload_n hx hb dL_law_1063 rfl (lv_at hl 0 rfl) ?_
          refine lv_iload_n hx hb dL_law_1064 rfl (lv_at hl 3 rfl) ?_
          refine lv_iconst (v := (2 : Int32)) hx hb dL_law_1065 (by decide) ?_
          refine lv_iadd hx hb dL_law_1066 ?_
          obtain ⟨v805, e_v805, hf⟩ := op_none hf
          refine w_sld hx hb hX hbl hbA hV e_v805 dL_law_1067 ?_
          obtain ⟨v806, e_807, hf⟩ := op_none hf
          refine w_callI (rn_RL_133 (As := [.int v804, .int v805]) hx hb hml hown hB hW hZ hV (k_X6_taken l E _ v804 v805 v806 e_807) rfl rfl ⟨(Nat.le_of_ble_eq_true rfl), (Nat.le_of_ble_eq_true rfl)⟩ (w_rec hW oX.1 (oX.2 E _ _) rfl) rfl hl.1 rfl (Nat.le_of_ble_eq_true rfl) dL_law_1068 ⟨Nat.le_of_ble_eq_true rfl, Nat.le_of_ble_eq_true rfl⟩) hV (fun H locs hW hV => ?_)
          refine lv_aload_n hx hb dL_law_1071 rfl (lv_at hl 2 rfl) ?_
          refine lv_aload_n hx hb dL_law_1072 rfl (lv_at hl 0 rfl) ?_
          refine lv_iload_n hx hb dL_law_1073 rfl (lv_at hl 3 rfl) ?_
          refine lv_iconst (v := (1 : Int32)) hx hb dL_law_1074 (by decide) ?_
          refine lv_iadd hx hb dL_law_1075 ?_
          obtain ⟨v808, e_v808, hf⟩ := op_none hf
          refine w_sld hx hb hX hbl hbA hV e_v808 dL_law_1076 ?_
          refine lv_aload_n hx hb dL_law_1077 rfl (lv_at hl 0 rfl) ?_
          refine lv_iload_n hx hb dL_law_1078 rfl (lv_at hl 3 rfl) ?_
          refine lv_iconst (v := (2 : Int32)) hx hb dL_law_1079 (by decide) ?_
          refine lv_iadd hx hb dL_law_1080 ?_
          obtain ⟨v809, e_v809, hf⟩ := op_none hf
          refine w_sld hx hb hX hbl hbA hV e_v809 dL_law_1081 ?_
          obtain ⟨v810, e_811, hf⟩ := op_none hf
          refine w_callI (rn_RL_136 (As := [.int v808, .int v809]) hx hb hml hown hB hW hZ hV (k_X7_taken l E _ v808 v809 v810 e_811) rfl rfl ⟨(Nat.le_of_ble_eq_true rfl), (Nat.le_of_ble_eq_true rfl)⟩ (w_rec hW oM.1 (oM.2 E _ _) rfl) rfl hl.1 rfl (Nat.le_of_ble_eq_true rfl) dL_law_1082 ⟨Nat.le_of_ble_eq_true rfl, Nat.le_of_ble_eq_true rfl⟩) hV (fun H locs hW hV => ?_)
          refine lv_icmp_eq (tgt := 1326) hx hb dL_law_1085 (by decide) (fun y812 => ?_) (fun y812 => ?_)
          · have hf := op_t y812 hf
            exact c_1326 μ_18 b3_18 hf H locs ls hW hV (lv_sub hl [0, 1, 2, 3] rfl)
          · have hf := op_f y812 hf
            refine lv_iconst (v := (0 : Int32)) hx hb dL_law_1088 (by decide) ?_
            exact absurd (Prod.mk.inj (Option.some.inj hf)).1 (by decide)
        have hf := op_f y803 hf
        by_cases y813 : v471 = (28 : Int32)
        · have hf := op_t y813 hf
          refine lv_tableIn (tgt := 1090) (off := 1057) hx hb dL_law_33 (by rw [y813]; decide) (by rw [y813]; decide) (by rw [y813]; rfl) (by decide) ?_
          refine lv_aload_n hx hb dL_law_1090 rfl (lv_at hl 1 rfl) ?_
          refine lv_aload_n hx hb dL_law_1091 rfl (lv_at hl 0 rfl) ?_
          refine lv_iload_n hx hb dL_law_1092 rfl (lv_at hl 3 rfl) ?_
          refine lv_iconst (v := (1 : Int32)) hx hb dL_law_1093 (by decide) ?_
          refine lv_iadd hx hb dL_law_1094 ?_
          obtain ⟨v814, e_v814, hf⟩ := op_none hf
          refine w_sld hx hb hX hbl hbA hV e_v814 dL_law_1095 ?_
          obtain ⟨v815, e_816, hf⟩ := op_none hf
          refine w_callI (rn_RL_137 (As := [.int v814]) hx hb hml hown hB hW hZ hV (k_X6_count l E _ v814 v815 e_816) rfl rfl ⟨(Nat.le_of_ble_eq_true rfl), (Nat.le_of_ble_eq_true rfl)⟩ (w_rec hW oX.1 (oX.2 E _ _) rfl) rfl hl.1 rfl (Nat.le_of_ble_eq_true rfl) dL_law_1096 ⟨Nat.le_of_ble_eq_true rfl, Nat.le_of_ble_eq_true rfl⟩) hV (fun H locs hW hV => ?_)
          refine lv_aload_n hx hb dL_law_1099 rfl (lv_at hl 2 rfl) ?_
          refine lv_aload_n hx hb dL_law_1100 rfl (lv_at hl 0 rfl) ?_
          refine lv_iload_n hx hb dL_law_1101 rfl (lv_at hl 3 rfl) ?_
          refine lv_iconst (v := (1 : Int32)) hx hb dL_law_1102 (by decide) ?_
          refine lv_iadd hx hb dL_law_1103 ?_
          obtain ⟨v817, e_v817, hf⟩ := op_none hf
          refine w_sld hx hb hX hbl hbA hV e_v817 dL_law_1104 ?_
          obtain ⟨v818, e_819, hf⟩ := op_none hf
          refine w_callI (rn_RL_140 (As := [.int v817]) hx hb hml hown hB hW hZ hV (k_X7_count l E _ v817 v818 e_819) rfl rfl ⟨(Nat.le_of_ble_eq_true rfl), (Nat.le_of_ble_eq_true rfl)⟩ (w_rec hW oM.1 (oM.2 E _ _) rfl) rfl hl.1 rfl (Nat.le_of_ble_eq_true rfl) dL_law_1105 ⟨Nat.le_of_ble_eq_true rfl, Nat.le_of_ble_eq_true rfl⟩) hV (fun H locs hW hV => ?_)
          refine lv_icmp_eq (tgt := 1326) hx hb dL_law_1108 (by decide) (fun y820 => ?_) (fun y820 => ?_)
          · have hf := op_t y820 hf
            exact c_1326 μ_18 b3_18 hf H locs ls hW hV (lv_sub hl [0, 1, 2, 3] rfl)
          · have hf := op_f y820 hf
            refine lv_iconst (v := (0 : Int32)) hx hb dL_law_1111 (by decide) ?_
            exact absurd (Prod.mk.inj (Option.some.inj hf)).1 (by decide)
        have hf := op_f y813 hf
        by_cases y821 : v471 = (29 : Int32)
        · have hf := op_t y821 hf
          refine lv_tableIn (tgt := 1113) (off := 1080) hx hb dL_law_33 (by rw [y821]; decide) (by rw [y821]; decide) (by rw [y821]; rfl) (by decide) ?_
          refine lv_aload_n hx hb dL_law_1113 rfl (lv_at hl 1 rfl) ?_
          refine lv_aload_n hx hb dL_law_1114 rfl (lv_at hl 0 rfl) ?_
          refine lv_iload_n hx hb dL_law_1115 rfl (lv_at hl 3 rfl) ?_
          refine lv_iconst (v := (1 : Int32)) hx hb dL_law_1116 (by decide) ?_
          refine lv_iadd hx hb dL_law_1117 ?_
          obtain ⟨v822, e_v822, hf⟩ := op_none hf
          refine w_sld hx hb hX hbl hbA hV e_v822 dL_law_1118 ?_
          refine lv_aload_n hx hb dL_law_1119 rfl (lv_at hl 0 rfl) ?_
          refine lv_iload_n hx hb dL_law_1120 rfl (lv_at hl 3 rfl) ?_
          refine lv_iconst (v := (2 : Int32)) hx hb dL_law_1121 (by decide) ?_
          refine lv_iadd hx hb dL_law_1122 ?_
          obtain ⟨v823, e_v823, hf⟩ := op_none hf
          refine w_sld hx hb hX hbl hbA hV e_v823 dL_law_1123 ?_
          refine lv_aload_n hx hb dL_law_1124 rfl (lv_at hl 0 rfl) ?_
          refine lv_iload_n hx hb dL_law_1125 rfl (lv_at hl 3 rfl) ?_
          refine lv_iconst (v := (3 : Int32)) hx hb dL_law_1126 (by decide) ?_
          refine lv_iadd hx hb dL_law_1127 ?_
          obtain ⟨v824, e_v824, hf⟩ := op_none hf
          refine w_sld hx hb hX hbl hbA hV e_v824 dL_law_1128 ?_
          obtain ⟨p828, e_827, hf⟩ := op_none hf
          refine w_callI (rn_RL_141 (As := [.int v822, .int v823, .int v824]) hx hb hml hown hB hW hZ hV (k_X6_tape l E _ v822 v823 v824 p828.1 p828.2 e_827) rfl rfl ⟨(Nat.le_of_ble_eq_true rfl), (Nat.le_of_ble_eq_true rfl)⟩ (w_rec hW oX.1 (oX.2 E _ _) rfl) rfl hl.1 rfl (Nat.le_of_ble_eq_true rfl) dL_law_1129 ⟨Nat.le_of_ble_eq_true rfl, Nat.le_of_ble_eq_true rfl⟩) hV (fun H locs hW hV => ?_)
          refine lv_aload_n hx hb dL_law_1132 rfl (lv_at hl 2 rfl) ?_
          refine lv_aload_n hx hb dL_law_1133 rfl (lv_at hl 0 rfl) ?_
          refine lv_iload_n hx hb dL_law_1134 rfl (lv_at hl 3 rfl) ?_
          refine lv_iconst (v := (1 : Int32)) hx hb dL_law_1135 (by decide) ?_
          refine lv_iadd hx hb dL_law_1136 ?_
          obtain ⟨v829, e_v829, hf⟩ := op_none hf
          refine w_sld hx hb hX hbl hbA hV e_v829 dL_law_1137 ?_
          refine lv_aload_n hx hb dL_law_1138 rfl (lv_at hl 0 rfl) ?_
          refine lv_iload_n hx hb dL_law_1139 rfl (lv_at hl 3 rfl) ?_
          refine lv_iconst (v := (2 : Int32)) hx hb dL_law_1140 (by decide) ?_
          refine lv_iadd hx hb dL_law_1141 ?_
          obtain ⟨v830, e_v830, hf⟩ := op_none hf
          refine w_sld hx hb hX hbl hbA hV e_v830 dL_law_1142 ?_
          refine lv_aload_n hx hb dL_law_1143 rfl (lv_at hl 0 rfl) ?_
          refine lv_iload_n hx hb dL_law_1144 rfl (lv_at hl 3 rfl) ?_
          refine lv_iconst (v := (3 : Int32)) hx hb dL_law_1145 (by decide) ?_
          refine lv_iadd hx hb dL_law_1146 ?_
          obtain ⟨v831, e_v831, hf⟩ := op_none hf
          refine w_sld hx hb hX hbl hbA hV e_v831 dL_law_1147 ?_
          obtain ⟨p835, e_834, hf⟩ := op_none hf
          refine w_callI (rn_RL_144 (As := [.int v829, .int v830, .int v831]) hx hb hml hown hB hW hZ hV (k_X7_tape l E _ v829 v830 v831 p835.1 p835.2 e_834) rfl rfl ⟨(Nat.le_of_ble_eq_true rfl), (Nat.le_of_ble_eq_true rfl)⟩ (w_rec hW oM.1 (oM.2 E _ _) rfl) rfl hl.1 rfl (Nat.le_of_ble_eq_true rfl) dL_law_1148 ⟨Nat.le_of_ble_eq_true rfl, Nat.le_of_ble_eq_true rfl⟩) hV (fun H locs hW hV => ?_)
          refine lv_icmp_eq (tgt := 1326) hx hb dL_law_1151 (by decide) (fun y836 => ?_) (fun y836 => ?_)
          · have hf := op_t y836 hf
            exact c_1326 p835.2 b3_18 hf H locs ls hW hV (lv_sub hl [0, 1, 2, 3] rfl)
          · have hf := op_f y836 hf
            refine lv_iconst (v := (0 : Int32)) hx hb dL_law_1154 (by decide) ?_
            exact absurd (Prod.mk.inj (Option.some.inj hf)).1 (by decide)
        have hf := op_f y821 hf
        by_cases y837 : v471 = (30 : Int32)
        · have hf := op_t y837 hf
          refine lv_tableIn (tgt := 1156) (off := 1123) hx hb dL_law_33 (by rw [y837]; decide) (by rw [y837]; decide) (by rw [y837]; rfl) (by decide) ?_
          refine lv_aload_n hx hb dL_law_1156 rfl (lv_at hl 1 rfl) ?_
          refine lv_aload_n hx hb dL_law_1157 rfl (lv_at hl 0 rfl) ?_
          refine lv_iload_n hx hb dL_law_1158 rfl (lv_at hl 3 rfl) ?_
          refine lv_iconst (v := (1 : Int32)) hx hb dL_law_1159 (by decide) ?_
          refine lv_iadd hx hb dL_law_1160 ?_
          obtain ⟨v838, e_v838, hf⟩ := op_none hf
          refine w_sld hx hb hX hbl hbA hV e_v838 dL_law_1161 ?_
          refine lv_aload_n hx hb dL_law_1162 rfl (lv_at hl 0 rfl) ?_
          refine lv_iload_n hx hb dL_law_1163 rfl (lv_at hl 3 rfl) ?_
          refine lv_iconst (v := (2 : Int32)) hx hb dL_law_1164 (by decide) ?_
          refine lv_iadd hx hb dL_law_1165 ?_
          obtain ⟨v839, e_v839, hf⟩ := op_none hf
          refine w_sld hx hb hX hbl hbA hV e_v839 dL_law_1166 ?_
          refine lv_aload_n hx hb dL_law_1167 rfl (lv_at hl 0 rfl) ?_
          refine lv_iload_n hx hb dL_law_1168 rfl (lv_at hl 3 rfl) ?_
          refine lv_iconst (v := (3 : Int32)) hx hb dL_law_1169 (by decide) ?_
          refine lv_iadd hx hb dL_law_1170 ?_
          obtain ⟨v840, e_v840, hf⟩ := op_none hf
          refine w_sld hx hb hX hbl hbA hV e_v840 dL_law_1171 ?_
          refine lv_i2l hx hb dL_law_1172 rfl ?_
          refine lv_bipush (v := (32 : Int32)) hx hb dL_law_1173 (by decide) ?_
          refine lv_lshl hx hb dL_law_1175 rfl ?_
          refine lv_aload_n hx hb dL_law_1176 rfl (lv_at hl 0 rfl) ?_
          refine lv_iload_n hx hb dL_law_1177 rfl (lv_at hl 3 rfl) ?_
          refine lv_iconst (v := (4 : Int32)) hx hb dL_law_1178 (by decide) ?_
          refine lv_iadd hx hb dL_law_1179 ?_
          obtain ⟨v841, e_v841, hf⟩ := op_none hf
          refine w_sld hx hb hX hbl hbA hV e_v841 dL_law_1180 ?_
          refine lv_i2l hx hb dL_law_1181 rfl ?_
          refine lv_ldc2 (v := (4294967295 : Int64)) hx hb hown (hB _ q_8a137cc3) dL_law_1182 ?_
          refine lv_land hx hb dL_law_1185 ?_
          refine lv_lor hx hb dL_law_1186 ?_
          obtain ⟨p845, e_844, hf⟩ := op_none hf
          refine w_callI (rn_RL_145 (As := [.int v838, .int v839, .long ((v840.toInt64 <<< ((32 : Int32).toInt64 &&& 63)) ||| (v841.toInt64 &&& (4294967295 : Int64)))]) hx hb hml hown hB hW hZ hV (k_X6_item l E _ v838 v839 ((v840.toInt64 <<< ((32 : Int32).toInt64 &&& 63)) ||| (v841.toInt64 &&& (4294967295 : Int64))) p845.1 p845.2 e_844) rfl rfl ⟨(Nat.le_of_ble_eq_true rfl), (Nat.le_of_ble_eq_true rfl)⟩ (w_rec hW oX.1 (oX.2 E _ _) rfl) rfl hl.1 rfl (Nat.le_of_ble_eq_true rfl) dL_law_1187 ⟨Nat.le_of_ble_eq_true rfl, Nat.le_of_ble_eq_true rfl⟩) hV (fun H locs hW hV => ?_)
          refine lv_aload_n hx hb dL_law_1190 rfl (lv_at hl 2 rfl) ?_
          refine lv_aload_n hx hb dL_law_1191 rfl (lv_at hl 0 rfl) ?_
          refine lv_iload_n hx hb dL_law_1192 rfl (lv_at hl 3 rfl) ?_
          refine lv_iconst (v := (1 : Int32)) hx hb dL_law_1193 (by decide) ?_
          refine lv_iadd hx hb dL_law_1194 ?_
          obtain ⟨v846, e_v846, hf⟩ := op_none hf
          refine w_sld hx hb hX hbl hbA hV e_v846 dL_law_1195 ?_
          refine lv_aload_n hx hb dL_law_1196 rfl (lv_at hl 0 rfl) ?_
          refine lv_iload_n hx hb dL_law_1197 rfl (lv_at hl 3 rfl) ?_
          refine lv_iconst (v := (2 : Int32)) hx hb dL_law_1198 (by decide) ?_
          refine lv_iadd hx hb dL_law_1199 ?_
          obtain ⟨v847, e_v847, hf⟩ := op_none hf
          refine w_sld hx hb hX hbl hbA hV e_v847 dL_law_1200 ?_
          refine lv_aload_n hx hb dL_law_1201 rfl (lv_at hl 0 rfl) ?_
          refine lv_iload_n hx hb dL_law_1202 rfl (lv_at hl 3 rfl) ?_
          refine lv_iconst (v := (3 : Int32)) hx hb dL_law_1203 (by decide) ?_
          refine lv_iadd hx hb dL_law_1204 ?_
          obtain ⟨v848, e_v848, hf⟩ := op_none hf
          refine w_sld hx hb hX hbl hbA hV e_v848 dL_law_1205 ?_
          refine lv_i2l hx hb dL_law_1206 rfl ?_
          refine lv_bipush (v := (32 : Int32)) hx hb dL_law_1207 (by decide) ?_
          refine lv_lshl hx hb dL_law_1209 rfl ?_
          refine lv_aload_n hx hb dL_law_1210 rfl (lv_at hl 0 rfl) ?_
          refine lv_iload_n hx hb dL_law_1211 rfl (lv_at hl 3 rfl) ?_
          refine lv_iconst (v := (4 : Int32)) hx hb dL_law_1212 (by decide) ?_
          refine lv_iadd hx hb dL_law_1213 ?_
          obtain ⟨v849, e_v849, hf⟩ := op_none hf
          refine w_sld hx hb hX hbl hbA hV e_v849 dL_law_1214 ?_
          refine lv_i2l hx hb dL_law_1215 rfl ?_
          refine lv_ldc2 (v := (4294967295 : Int64)) hx hb hown (hB _ q_8a137cc3) dL_law_1216 ?_
          refine lv_land hx hb dL_law_1219 ?_
          refine lv_lor hx hb dL_law_1220 ?_
          obtain ⟨p853, e_852, hf⟩ := op_none hf
          refine w_callI (rn_RL_149 (As := [.int v846, .int v847, .long ((v848.toInt64 <<< ((32 : Int32).toInt64 &&& 63)) ||| (v849.toInt64 &&& (4294967295 : Int64)))]) hx hb hml hown hB hW hZ hV (k_X7_item l E _ v846 v847 ((v848.toInt64 <<< ((32 : Int32).toInt64 &&& 63)) ||| (v849.toInt64 &&& (4294967295 : Int64))) p853.1 p853.2 e_852) rfl rfl ⟨(Nat.le_of_ble_eq_true rfl), (Nat.le_of_ble_eq_true rfl)⟩ (w_rec hW oM.1 (oM.2 E _ _) rfl) rfl hl.1 rfl (Nat.le_of_ble_eq_true rfl) dL_law_1221 ⟨Nat.le_of_ble_eq_true rfl, Nat.le_of_ble_eq_true rfl⟩) hV (fun H locs hW hV => ?_)
          refine lv_icmp_eq (tgt := 1326) hx hb dL_law_1224 (by decide) (fun y854 => ?_) (fun y854 => ?_)
          · have hf := op_t y854 hf
            exact c_1326 p853.2 b3_18 hf H locs ls hW hV (lv_sub hl [0, 1, 2, 3] rfl)
          · have hf := op_f y854 hf
            refine lv_iconst (v := (0 : Int32)) hx hb dL_law_1227 (by decide) ?_
            exact absurd (Prod.mk.inj (Option.some.inj hf)).1 (by decide)
        have hf := op_f y837 hf
        by_cases y855 : v471 = (31 : Int32)
        · have hf := op_t y855 hf
          refine lv_tableIn (tgt := 1229) (off := 1196) hx hb dL_law_33 (by rw [y855]; decide) (by rw [y855]; decide) (by rw [y855]; rfl) (by decide) ?_
          refine lv_aload_n hx hb dL_law_1229 rfl (lv_at hl 1 rfl) ?_
          refine lv_aload_n hx hb dL_law_1230 rfl (lv_at hl 0 rfl) ?_
          refine lv_iload_n hx hb dL_law_1231 rfl (lv_at hl 3 rfl) ?_
          refine lv_iconst (v := (1 : Int32)) hx hb dL_law_1232 (by decide) ?_
          refine lv_iadd hx hb dL_law_1233 ?_
          obtain ⟨v856, e_v856, hf⟩ := op_none hf
          refine w_sld hx hb hX hbl hbA hV e_v856 dL_law_1234 ?_
          refine lv_aload_n hx hb dL_law_1235 rfl (lv_at hl 0 rfl) ?_
          refine lv_iload_n hx hb dL_law_1236 rfl (lv_at hl 3 rfl) ?_
          refine lv_iconst (v := (2 : Int32)) hx hb dL_law_1237 (by decide) ?_
          refine lv_iadd hx hb dL_law_1238 ?_
          obtain ⟨v857, e_v857, hf⟩ := op_none hf
          refine w_sld hx hb hX hbl hbA hV e_v857 dL_law_1239 ?_
          obtain ⟨v858, e_859, hf⟩ := op_none hf
          refine w_callL (rn_RL_150 (As := [.int v856, .int v857]) hx hb hml hown hB hW hZ hV (k_X6_read l E _ v856 v857 v858 e_859) rfl rfl ⟨(Nat.le_of_ble_eq_true rfl), (Nat.le_of_ble_eq_true rfl)⟩ (w_rec hW oX.1 (oX.2 E _ _) rfl) rfl hl.1 rfl (Nat.le_of_ble_eq_true rfl) dL_law_1240 ⟨Nat.le_of_ble_eq_true rfl, Nat.le_of_ble_eq_true rfl⟩) hV (fun H locs hW hV => ?_)
          refine lv_aload_n hx hb dL_law_1243 rfl (lv_at hl 2 rfl) ?_
          refine lv_aload_n hx hb dL_law_1244 rfl (lv_at hl 0 rfl) ?_
          refine lv_iload_n hx hb dL_law_1245 rfl (lv_at hl 3 rfl) ?_
          refine lv_iconst (v := (1 : Int32)) hx hb dL_law_1246 (by decide) ?_
          refine lv_iadd hx hb dL_law_1247 ?_
          obtain ⟨v860, e_v860, hf⟩ := op_none hf
          refine w_sld hx hb hX hbl hbA hV e_v860 dL_law_1248 ?_
          refine lv_aload_n hx hb dL_law_1249 rfl (lv_at hl 0 rfl) ?_
          refine lv_iload_n hx hb dL_law_1250 rfl (lv_at hl 3 rfl) ?_
          refine lv_iconst (v := (2 : Int32)) hx hb dL_law_1251 (by decide) ?_
          refine lv_iadd hx hb dL_law_1252 ?_
          obtain ⟨v861, e_v861, hf⟩ := op_none hf
          refine w_sld hx hb hX hbl hbA hV e_v861 dL_law_1253 ?_
          obtain ⟨v862, e_863, hf⟩ := op_none hf
          refine w_callL (rn_RL_153 (As := [.int v860, .int v861]) hx hb hml hown hB hW hZ hV (k_X7_read l E _ v860 v861 v862 e_863) rfl rfl ⟨(Nat.le_of_ble_eq_true rfl), (Nat.le_of_ble_eq_true rfl)⟩ (w_rec hW oM.1 (oM.2 E _ _) rfl) rfl hl.1 rfl (Nat.le_of_ble_eq_true rfl) dL_law_1254 ⟨Nat.le_of_ble_eq_true rfl, Nat.le_of_ble_eq_true rfl⟩) hV (fun H locs hW hV => ?_)
          refine W.lcmp hx hb dL_law_1257 ?_
          refine lv_if_eq (tgt := 1326) hx hb dL_law_1258 (by decide) (fun y864 => ?_) (fun y864 => ?_)
          · have hf := op_t y864 hf
            exact c_1326 μ_18 b3_18 hf H locs ls hW hV (lv_sub hl [0, 1, 2, 3] rfl)
          · have hf := op_f y864 hf
            refine lv_iconst (v := (0 : Int32)) hx hb dL_law_1261 (by decide) ?_
            exact absurd (Prod.mk.inj (Option.some.inj hf)).1 (by decide)
        have hf := op_f y855 hf
        by_cases y865 : v471 = (32 : Int32)
        · have hf := op_t y865 hf
          refine lv_tableIn (tgt := 1263) (off := 1230) hx hb dL_law_33 (by rw [y865]; decide) (by rw [y865]; decide) (by rw [y865]; rfl) (by decide) ?_
          refine lv_aload_n hx hb dL_law_1263 rfl (lv_at hl 1 rfl) ?_
          refine lv_aload_n hx hb dL_law_1264 rfl (lv_at hl 0 rfl) ?_
          refine lv_iload_n hx hb dL_law_1265 rfl (lv_at hl 3 rfl) ?_
          refine lv_iconst (v := (1 : Int32)) hx hb dL_law_1266 (by decide) ?_
          refine lv_iadd hx hb dL_law_1267 ?_
          obtain ⟨v866, e_v866, hf⟩ := op_none hf
          refine w_sld hx hb hX hbl hbA hV e_v866 dL_law_1268 ?_
          refine lv_aload_n hx hb dL_law_1269 rfl (lv_at hl 0 rfl) ?_
          refine lv_iload_n hx hb dL_law_1270 rfl (lv_at hl 3 rfl) ?_
          refine lv_iconst (v := (2 : Int32)) hx hb dL_law_1271 (by decide) ?_
          refine lv_iadd hx hb dL_law_1272 ?_
          obtain ⟨v867, e_v867, hf⟩ := op_none hf
          refine w_sld hx hb hX hbl hbA hV e_v867 dL_law_1273 ?_
          refine lv_aload_n hx hb dL_law_1274 rfl (lv_at hl 0 rfl) ?_
          refine lv_iload_n hx hb dL_law_1275 rfl (lv_at hl 3 rfl) ?_
          refine lv_iconst (v := (3 : Int32)) hx hb dL_law_1276 (by decide) ?_
          refine lv_iadd hx hb dL_law_1277 ?_
          obtain ⟨v868, e_v868, hf⟩ := op_none hf
          refine w_sld hx hb hX hbl hbA hV e_v868 dL_law_1278 ?_
          refine lv_aload_n hx hb dL_law_1279 rfl (lv_at hl 0 rfl) ?_
          refine lv_iload_n hx hb dL_law_1280 rfl (lv_at hl 3 rfl) ?_
          refine lv_iconst (v := (4 : Int32)) hx hb dL_law_1281 (by decide) ?_
          refine lv_iadd hx hb dL_law_1282 ?_
          obtain ⟨v869, e_v869, hf⟩ := op_none hf
          refine w_sld hx hb hX hbl hbA hV e_v869 dL_law_1283 ?_
          refine lv_aload_n hx hb dL_law_1284 rfl (lv_at hl 0 rfl) ?_
          refine lv_iload_n hx hb dL_law_1285 rfl (lv_at hl 3 rfl) ?_
          refine lv_iconst (v := (5 : Int32)) hx hb dL_law_1286 (by decide) ?_
          refine lv_iadd hx hb dL_law_1287 ?_
          obtain ⟨v870, e_v870, hf⟩ := op_none hf
          refine w_sld hx hb hX hbl hbA hV e_v870 dL_law_1288 ?_
          obtain ⟨p874, e_873, hf⟩ := op_none hf
          refine w_callI (rn_RL_154 (As := [.int v866, .int v867, .int v868, .int v869, .int v870]) hx hb hml hown hB hW hZ hV (k_X6_shift l E _ v866 v867 v868 v869 v870 p874.1 p874.2 e_873) rfl rfl ⟨(Nat.le_of_ble_eq_true rfl), (Nat.le_of_ble_eq_true rfl)⟩ (w_rec hW oX.1 (oX.2 E _ _) rfl) rfl hl.1 rfl (Nat.le_of_ble_eq_true rfl) dL_law_1289 ⟨Nat.le_of_ble_eq_true rfl, Nat.le_of_ble_eq_true rfl⟩) hV (fun H locs hW hV => ?_)
          refine lv_aload_n hx hb dL_law_1292 rfl (lv_at hl 2 rfl) ?_
          refine lv_aload_n hx hb dL_law_1293 rfl (lv_at hl 0 rfl) ?_
          refine lv_iload_n hx hb dL_law_1294 rfl (lv_at hl 3 rfl) ?_
          refine lv_iconst (v := (1 : Int32)) hx hb dL_law_1295 (by decide) ?_
          refine lv_iadd hx hb dL_law_1296 ?_
          obtain ⟨v875, e_v875, hf⟩ := op_none hf
          refine w_sld hx hb hX hbl hbA hV e_v875 dL_law_1297 ?_
          refine lv_aload_n hx hb dL_law_1298 rfl (lv_at hl 0 rfl) ?_
          refine lv_iload_n hx hb dL_law_1299 rfl (lv_at hl 3 rfl) ?_
          refine lv_iconst (v := (2 : Int32)) hx hb dL_law_1300 (by decide) ?_
          refine lv_iadd hx hb dL_law_1301 ?_
          obtain ⟨v876, e_v876, hf⟩ := op_none hf
          refine w_sld hx hb hX hbl hbA hV e_v876 dL_law_1302 ?_
          refine lv_aload_n hx hb dL_law_1303 rfl (lv_at hl 0 rfl) ?_
          refine lv_iload_n hx hb dL_law_1304 rfl (lv_at hl 3 rfl) ?_
          refine lv_iconst (v := (3 : Int32)) hx hb dL_law_1305 (by decide) ?_
          refine lv_iadd hx hb dL_law_1306 ?_
          obtain ⟨v877, e_v877, hf⟩ := op_none hf
          refine w_sld hx hb hX hbl hbA hV e_v877 dL_law_1307 ?_
          refine lv_aload_n hx hb dL_law_1308 rfl (lv_at hl 0 rfl) ?_
          refine lv_iload_n hx hb dL_law_1309 rfl (lv_at hl 3 rfl) ?_
          refine lv_iconst (v := (4 : Int32)) hx hb dL_law_1310 (by decide) ?_
          refine lv_iadd hx hb dL_law_1311 ?_
          obtain ⟨v878, e_v878, hf⟩ := op_none hf
          refine w_sld hx hb hX hbl hbA hV e_v878 dL_law_1312 ?_
          refine lv_aload_n hx hb dL_law_1313 rfl (lv_at hl 0 rfl) ?_
          refine lv_iload_n hx hb dL_law_1314 rfl (lv_at hl 3 rfl) ?_
          refine lv_iconst (v := (5 : Int32)) hx hb dL_law_1315 (by decide) ?_
          refine lv_iadd hx hb dL_law_1316 ?_
          obtain ⟨v879, e_v879, hf⟩ := op_none hf
          refine w_sld hx hb hX hbl hbA hV e_v879 dL_law_1317 ?_
          obtain ⟨p883, e_882, hf⟩ := op_none hf
          refine w_callI (rn_RL_158 (As := [.int v875, .int v876, .int v877, .int v878, .int v879]) hx hb hml hown hB hW hZ hV (k_X7_shift l E _ v875 v876 v877 v878 v879 p883.1 p883.2 e_882) rfl rfl ⟨(Nat.le_of_ble_eq_true rfl), (Nat.le_of_ble_eq_true rfl)⟩ (w_rec hW oM.1 (oM.2 E _ _) rfl) rfl hl.1 rfl (Nat.le_of_ble_eq_true rfl) dL_law_1318 ⟨Nat.le_of_ble_eq_true rfl, Nat.le_of_ble_eq_true rfl⟩) hV (fun H locs hW hV => ?_)
          refine lv_icmp_eq (tgt := 1326) hx hb dL_law_1321 (by decide) (fun y884 => ?_) (fun y884 => ?_)
          · have hf := op_t y884 hf
            exact c_1326 p883.2 b3_18 hf H locs ls hW hV (lv_sub hl [0, 1, 2, 3] rfl)
          · have hf := op_f y884 hf
            refine lv_iconst (v := (0 : Int32)) hx hb dL_law_1324 (by decide) ?_
            exact absurd (Prod.mk.inj (Option.some.inj hf)).1 (by decide)
        have hf := op_f y865 hf
        refine lv_tableOut (tgt := 1326) hx hb dL_law_33 (by have a_y472 := lv_neT (a := 0) y472 (by decide); have a_y490 := lv_neT (a := 1) y490 (by decide); have a_y504 := lv_neT (a := 2) y504 (by decide); have a_y520 := lv_neT (a := 3) y520 (by decide); have a_y524 := lv_neT (a := 4) y524 (by decide); have a_y536 := lv_neT (a := 5) y536 (by decide); have a_y552 := lv_neT (a := 6) y552 (by decide); have a_y564 := lv_neT (a := 7) y564 (by decide); have a_y574 := lv_neT (a := 8) y574 (by decide); have a_y586 := lv_neT (a := 9) y586 (by decide); have a_y598 := lv_neT (a := 10) y598 (by decide); have a_y612 := lv_neT (a := 11) y612 (by decide); have a_y628 := lv_neT (a := 12) y628 (by decide); have a_y642 := lv_neT (a := 13) y642 (by decide); have a_y656 := lv_neT (a := 14) y656 (by decide); have a_y661 := lv_neT (a := 15) y661 (by decide); have a_y677 := lv_neT (a := 16) y677 (by decide); have a_y689 := lv_neT (a := 17) y689 (by decide); have a_y703 := lv_neT (a := 18) y703 (by decide); have a_y717 := lv_neT (a := 19) y717 (by decide); have a_y729 := lv_neT (a := 20) y729 (by decide); have a_y743 := lv_neT (a := 21) y743 (by decide); have a_y749 := lv_neT (a := 22) y749 (by decide); have a_y759 := lv_neT (a := 23) y759 (by decide); have a_y769 := lv_neT (a := 24) y769 (by decide); have a_y779 := lv_neT (a := 25) y779 (by decide); have a_y795 := lv_neT (a := 26) y795 (by decide); have a_y803 := lv_neT (a := 27) y803 (by decide); have a_y813 := lv_neT (a := 28) y813 (by decide); have a_y821 := lv_neT (a := 29) y821 (by decide); have a_y837 := lv_neT (a := 30) y837 (by decide); have a_y855 := lv_neT (a := 31) y855 (by decide); have a_y865 := lv_neT (a := 32) y865 (by decide); omega) (by decide) ?_
        exact c_1326 μ_18 b3_18 hf H locs ls hW hV (lv_sub hl [0, 1, 2, 3] rfl)
  intro H locs ls hW hV hl
  unfold f_L_law at hf
  refine lv_iconst (v := (0 : Int32)) hx hb dL_law_16 (by decide) ?_
  refine lv_istore_n (i := 3) (lv' := [(3, .int (0 : Int32)), (2, .ref (ead E 2000)), (1, .ref (ead E 1)), (0, .ref b)]) hx hb dL_law_17 rfl hl (by decide) rfl (fun ls hl => ?_)
  exact c_18 FU μ (0 : Int32) hf H locs ls hW hV (lv_sub hl [3, 2, 1, 0] rfl)
