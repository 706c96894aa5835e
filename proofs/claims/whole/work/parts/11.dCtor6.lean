set_option maxHeartbeats 16000000 in
set_option maxRecDepth 100000 in
theorem kc_X6_init (l : Launch) (E : WE) (h0 b : Nat) : Met l yX6_init (.code yX6_init cX6_init 2 none :: BIG) ({ frames := 3, cells := 156, slots := 1874, locals := 81 }) (PC E h0 b (.inr (6, [.null, .null, .null, .int 0, .null, .null, .int 0, .null, .null])) [.ref h0] NWC) (QC E h0 b (e_X6_init E b) (c_X6_init E b)) 156 1874 (fun q => q = h0 ∨ b ≤ q) := by
  refine Met.ofW (cc := cX6_init) (maxL := 2) (ret := none) (by decide) rfl ?_
  intro p e s m args below meth c s₁ B hml hv
  obtain ⟨rfl, h1, h2, h3, hK, hN⟩ := hv
  have hx := B.exec
  have hb := B.bytes
  have hr := B.returns
  have hB : ∀ w ∈ BIG, w.before _ s = true := fun w h => atoms_spec (ws := (.code yX6_init cX6_init 2 none :: BIG)) B.pre w (List.mem_cons_of_mem _ h)
  have hown : s.vm.findClass RX6 = some m.cls := findClass_of_methodNamed B.named
  have hlocks := B.notSynchronized
  have hin : meth.name = "<init>" := (name_of_methodNamed B.named B.method).1
  have hC := CR.start (E := E) h1 h2 h3 (fun q => q = h0 ∨ b ≤ q)
  have hl := lv_entry ([.ref h0]) (n := 2) (Nat.le_of_ble_eq_true rfl)
  rw [lg_entry_eq]
  generalize (lg_sl ([.ref h0]) ++ List.replicate (2 - (lg_sl ([.ref h0])).length) Slot.unset).toArray = ls at hl ⊢
  have hl : lv_has ls 2 [(0, .ref h0)] := hl
  refine lv_aload_n hx hb dX6_init_0 rfl (lv_at hl 0 rfl) ?_
  refine W.objInit hx hb hown (hB _ q_83d8ee00) (hB _ q_e68b0fb7) (hB _ q_f29cc5b5) rfl (by rw [hml]; exact hl.1) rfl dX6_init_1 (Nat.le_of_ble_eq_true rfl) (Nat.le_of_ble_eq_true rfl) ?_
  refine W.eq (g2 := F0 m 4 ls []) rfl ?_
  refine lv_aload_n hx hb dX6_init_4 rfl (lv_at hl 0 rfl) ?_
  refine cr_new (ci := 2) (fs := [.int 0, .null, .int 0, .int 0, .int 0, .null, .null, .null]) (C := RX2) (T := TX2) (N := 8) (a := b + 0) hx hb hB hown hK hC in_RX2 tyX2 tyX2_ok q_c27b49dc q_2dd6ea4f q_d27e9d3e rfl (fun j hj => by rcases (show j = 0 ∨ j = 1 ∨ j = 2 ∨ j = 3 ∨ j = 4 ∨ j = 5 ∨ j = 6 ∨ j = 7 by omega) with rfl | rfl | rfl | rfl | rfl | rfl | rfl | rfl <;> rfl) (rfl) (Nat.le_of_ble_eq_true rfl) (Nat.le_of_ble_eq_true rfl) dX6_init_5 (fun H hC => ?_)
  refine W.widen (k := 1) (n := 8) (Nat.le_of_ble_eq_true rfl) (Nat.le_of_ble_eq_true rfl) ?_
  refine lv_dup hx hb dX6_init_8 rfl ?_
  refine cr_callv (a := (b + 0)) (b1 := (b + 1)) (va_runIN (own := RX6) (host := "WoundEggs") (As := []) (rest := [.ref (b + 0), .ref h0]) ⟨hx, hb, hml, hown, hB⟩ (kc_X2_init l E (b + 0) (b + 1)) ⟨va_cnB 0 hB (big_code q_8ede87a9) rfl rfl rfl (hN.2.2.2 _ (List.mem_of_getElem? (i := 0) rfl)) (hB _ q_d27e9d3e) ⟨by decide +kernel, by decide +kernel, by decide +kernel⟩ ⟨Nat.le_of_ble_eq_true rfl, Nat.le_of_ble_eq_true rfl⟩, rfl, hB _ q_b45a5f35⟩ ⟨PC.blind E (b + 0) (b + 1) _ _ NWC.calling, fun U hU hWm => ⟨rfl, by rw [hU]; have h := hC.2.1 0 _ (by rw [List.getElem?_append_right (by exact Nat.le_refl _)]; rfl); exact h, by rw [hU, hC.2.2.1, List.length_append, List.length_singleton, List.length_nil], by omega, hK.moved hWm.alike, hN.moved hWm⟩⟩ rfl rfl hl.1 rfl (lv_room (Nat.le_of_ble_eq_true rfl)) dX6_init_9 ⟨Nat.le_of_ble_eq_true rfl, Nat.le_of_ble_eq_true rfl⟩) (fun _ h => h) hC (fun q h => Or.inr h) (rfl) rfl (fun H locs hC => ?_)
  refine W.widen (k := 38) (n := 200) (Nat.le_of_ble_eq_true rfl) (Nat.le_of_ble_eq_true rfl) ?_
  obtain ⟨cs1, ec1⟩ : ∃ z : List va_E, z = [] ++ ((e_X2_init E (b + 1) :: c_X2_init E (b + 1)) : List va_E) := ⟨_, rfl⟩
  rw [← ec1] at hC
  have nc1 : cs1.length = 38 := by rw [ec1, List.length_append]; rfl
  have o1 : cs1[0]? = some (e_X2_init E (b + 1)) := by rw [ec1]; rfl
  refine cr_putF (v := .ref (b + 0)) (ty := .object RX2) (fs := [.null, .null, .null, .int 0, .null, .null, .int 0, .null, .null]) hx hb hB hown hK hC (Or.inl rfl) rfl in_RX6 tyX6 tyX6_ok nmX6 0 (by decide) q_0e7303f1 rfl hin rfl (by decide +kernel) rfl rfl (Nat.le_of_ble_eq_true rfl) dX6_init_12 (fun H locs hC => ?_)
  have hC : CR E (fun q => q = h0 ∨ b ≤ q) h0 b (.inr (6, [.ref (b + 0), .null, .null, .int 0, .null, .null, .int 0, .null, .null])) cs1 s.heap H locs := hC
  refine lv_aload_n hx hb dX6_init_15 rfl (lv_at hl 0 rfl) ?_
  refine cr_new (ci := 2) (fs := [.int 0, .null, .int 0, .int 0, .int 0, .null, .null, .null]) (C := RX2) (T := TX2) (N := 8) (a := b + 38) hx hb hB hown hK hC in_RX2 tyX2 tyX2_ok q_c27b49dc q_2dd6ea4f q_d27e9d3e rfl (fun j hj => by rcases (show j = 0 ∨ j = 1 ∨ j = 2 ∨ j = 3 ∨ j = 4 ∨ j = 5 ∨ j = 6 ∨ j = 7 by omega) with rfl | rfl | rfl | rfl | rfl | rfl | rfl | rfl <;> rfl) (by rw [nc1]) (Nat.le_of_ble_eq_true rfl) (Nat.le_of_ble_eq_true rfl) dX6_init_16 (fun H hC => ?_)
  refine W.widen (k := 39) (n := 208) (Nat.le_of_ble_eq_true rfl) (Nat.le_of_ble_eq_true rfl) ?_
  refine lv_dup hx hb dX6_init_19 rfl ?_
  refine cr_callv (a := (b + 38)) (b1 := (b + 39)) (va_runIN (own := RX6) (host := "WoundEggs") (As := []) (rest := [.ref (b + 38), .ref h0]) ⟨hx, hb, hml, hown, hB⟩ (kc_X2_init l E (b + 38) (b + 39)) ⟨va_cnB 0 hB (big_code q_8ede87a9) rfl rfl rfl (hN.2.2.2 _ (List.mem_of_getElem? (i := 0) rfl)) (hB _ q_d27e9d3e) ⟨by decide +kernel, by decide +kernel, by decide +kernel⟩ ⟨Nat.le_of_ble_eq_true rfl, Nat.le_of_ble_eq_true rfl⟩, rfl, hB _ q_b45a5f35⟩ ⟨PC.blind E (b + 38) (b + 39) _ _ NWC.calling, fun U hU hWm => ⟨rfl, by rw [hU]; have h := hC.2.1 38 _ (by rw [List.getElem?_append_right (by rw [nc1]; exact Nat.le_refl _)]; rw [nc1]; rfl); exact h, by rw [hU, hC.2.2.1, List.length_append, List.length_singleton, nc1], by omega, hK.moved hWm.alike, hN.moved hWm⟩⟩ rfl rfl hl.1 rfl (lv_room (Nat.le_of_ble_eq_true rfl)) dX6_init_20 ⟨Nat.le_of_ble_eq_true rfl, Nat.le_of_ble_eq_true rfl⟩) (fun _ h => h) hC (fun q h => Or.inr h) (by rw [nc1]) rfl (fun H locs hC => ?_)
  refine W.widen (k := 76) (n := 400) (Nat.le_of_ble_eq_true rfl) (Nat.le_of_ble_eq_true rfl) ?_
  obtain ⟨cs2, ec2⟩ : ∃ z : List va_E, z = cs1 ++ ((e_X2_init E (b + 39) :: c_X2_init E (b + 39)) : List va_E) := ⟨_, rfl⟩
  rw [← ec2] at hC
  have nc2 : cs2.length = 76 := by rw [ec2, List.length_append, nc1]; rfl
  have o2 : cs2[38]? = some (e_X2_init E (b + 39)) := by rw [ec2, List.getElem?_append_right (by rw [nc1]; decide), nc1]; rfl
  refine cr_putF (v := .ref (b + 38)) (ty := .object RX2) (fs := [.ref (b + 0), .null, .null, .int 0, .null, .null, .int 0, .null, .null]) hx hb hB hown hK hC (Or.inl rfl) rfl in_RX6 tyX6 tyX6_ok nmX6 1 (by decide) q_86da6d12 rfl hin rfl (by decide +kernel) rfl rfl (Nat.le_of_ble_eq_true rfl) dX6_init_23 (fun H locs hC => ?_)
  have hC : CR E (fun q => q = h0 ∨ b ≤ q) h0 b (.inr (6, [.ref (b + 0), .ref (b + 38), .null, .int 0, .null, .null, .int 0, .null, .null])) cs2 s.heap H locs := hC
  refine lv_aload_n hx hb dX6_init_26 rfl (lv_at hl 0 rfl) ?_
  refine cr_new (ci := 2) (fs := [.int 0, .null, .int 0, .int 0, .int 0, .null, .null, .null]) (C := RX2) (T := TX2) (N := 8) (a := b + 76) hx hb hB hown hK hC in_RX2 tyX2 tyX2_ok q_c27b49dc q_2dd6ea4f q_d27e9d3e rfl (fun j hj => by rcases (show j = 0 ∨ j = 1 ∨ j = 2 ∨ j = 3 ∨ j = 4 ∨ j = 5 ∨ j = 6 ∨ j = 7 by omega) with rfl | rfl | rfl | rfl | rfl | rfl | rfl | rfl <;> rfl) (by rw [nc2]) (Nat.le_of_ble_eq_true rfl) (Nat.le_of_ble_eq_true rfl) dX6_init_27 (fun H hC => ?_)
  refine W.widen (k := 77) (n := 408) (Nat.le_of_ble_eq_true rfl) (Nat.le_of_ble_eq_true rfl) ?_
  refine lv_dup hx hb dX6_init_30 rfl ?_
  refine cr_callv (a := (b + 76)) (b1 := (b + 77)) (va_runIN (own := RX6) (host := "WoundEggs") (As := []) (rest := [.ref (b + 76), .ref h0]) ⟨hx, hb, hml, hown, hB⟩ (kc_X2_init l E (b + 76) (b + 77)) ⟨va_cnB 0 hB (big_code q_8ede87a9) rfl rfl rfl (hN.2.2.2 _ (List.mem_of_getElem? (i := 0) rfl)) (hB _ q_d27e9d3e) ⟨by decide +kernel, by decide +kernel, by decide +kernel⟩ ⟨Nat.le_of_ble_eq_true rfl, Nat.le_of_ble_eq_true rfl⟩, rfl, hB _ q_b45a5f35⟩ ⟨PC.blind E (b + 76) (b + 77) _ _ NWC.calling, fun U hU hWm => ⟨rfl, by rw [hU]; have h := hC.2.1 76 _ (by rw [List.getElem?_append_right (by rw [nc2]; exact Nat.le_refl _)]; rw [nc2]; rfl); exact h, by rw [hU, hC.2.2.1, List.length_append, List.length_singleton, nc2], by omega, hK.moved hWm.alike, hN.moved hWm⟩⟩ rfl rfl hl.1 rfl (lv_room (Nat.le_of_ble_eq_true rfl)) dX6_init_31 ⟨Nat.le_of_ble_eq_true rfl, Nat.le_of_ble_eq_true rfl⟩) (fun _ h => h) hC (fun q h => Or.inr h) (by rw [nc2]) rfl (fun H locs hC => ?_)
  refine W.widen (k := 114) (n := 600) (Nat.le_of_ble_eq_true rfl) (Nat.le_of_ble_eq_true rfl) ?_
  obtain ⟨cs3, ec3⟩ : ∃ z : List va_E, z = cs2 ++ ((e_X2_init E (b + 77) :: c_X2_init E (b + 77)) : List va_E) := ⟨_, rfl⟩
  rw [← ec3] at hC
  have nc3 : cs3.length = 114 := by rw [ec3, List.length_append, nc2]; rfl
  have o3 : cs3[76]? = some (e_X2_init E (b + 77)) := by rw [ec3, List.getElem?_append_right (by rw [nc2]; decide), nc2]; rfl
  refine cr_putF (v := .ref (b + 76)) (ty := .object RX2) (fs := [.ref (b + 0), .ref (b + 38), .null, .int 0, .null, .null, .int 0, .null, .null]) hx hb hB hown hK hC (Or.inl rfl) rfl in_RX6 tyX6 tyX6_ok nmX6 2 (by decide) q_fadfbd3a rfl hin rfl (by decide +kernel) rfl rfl (Nat.le_of_ble_eq_true rfl) dX6_init_34 (fun H locs hC => ?_)
  have hC : CR E (fun q => q = h0 ∨ b ≤ q) h0 b (.inr (6, [.ref (b + 0), .ref (b + 38), .ref (b + 76), .int 0, .null, .null, .int 0, .null, .null])) cs3 s.heap H locs := hC
  refine lv_aload_n hx hb dX6_init_37 rfl (lv_at hl 0 rfl) ?_
  refine lv_iconst (v := (0 : Int32)) hx hb dX6_init_38 (by decide) ?_
  refine cr_put (v := .int (0 : Int32)) (ty := .boolean) (fs := [.ref (b + 0), .ref (b + 38), .ref (b + 76), .int 0, .null, .null, .int 0, .null, .null]) hx hb hB hown hK hC (Or.inl rfl) rfl in_RX6 tyX6 tyX6_ok nmX6 3 (by decide) q_e42d6ebf rfl (by decide +kernel) rfl rfl (Nat.le_of_ble_eq_true rfl) dX6_init_39 (fun H locs hC => ?_)
  have hC : CR E (fun q => q = h0 ∨ b ≤ q) h0 b (.inr (6, [.ref (b + 0), .ref (b + 38), .ref (b + 76), .int (0 : Int32), .null, .null, .int 0, .null, .null])) cs3 s.heap H locs := hC
  refine lv_aload_n hx hb dX6_init_42 rfl (lv_at hl 0 rfl) ?_
  refine cr_new (ci := 5) (fs := [.null, .int 0, .int 0]) (C := RX5) (T := TX5) (N := 3) (a := b + 114) hx hb hB hown hK hC in_RX5 tyX5 tyX5_ok q_d40cce06 q_fee21220 q_5f14f758 rfl (fun j hj => by rcases (show j = 0 ∨ j = 1 ∨ j = 2 by omega) with rfl | rfl | rfl <;> rfl) (by rw [nc3]) (Nat.le_of_ble_eq_true rfl) (Nat.le_of_ble_eq_true rfl) dX6_init_43 (fun H hC => ?_)
  refine W.widen (k := 115) (n := 603) (Nat.le_of_ble_eq_true rfl) (Nat.le_of_ble_eq_true rfl) ?_
  refine lv_dup hx hb dX6_init_46 rfl ?_
  refine cr_callv (a := (b + 114)) (b1 := (b + 115)) (va_runIN (own := RX6) (host := "WoundEggs") (As := []) (rest := [.ref (b + 114), .ref h0]) ⟨hx, hb, hml, hown, hB⟩ (kc_X5_init l E (b + 114) (b + 115)) ⟨va_cnB 0 hB (big_code q_8eef7f7a) rfl rfl rfl (hN.2.2.2 _ (List.mem_of_getElem? (i := 1) rfl)) (hB _ q_5f14f758) ⟨by decide +kernel, by decide +kernel, by decide +kernel⟩ ⟨Nat.le_of_ble_eq_true rfl, Nat.le_of_ble_eq_true rfl⟩, rfl, hB _ q_055bdb82⟩ ⟨PC.blind E (b + 114) (b + 115) _ _ NWC.calling, fun U hU hWm => ⟨rfl, by rw [hU]; have h := hC.2.1 114 _ (by rw [List.getElem?_append_right (by rw [nc3]; exact Nat.le_refl _)]; rw [nc3]; rfl); exact h, by rw [hU, hC.2.2.1, List.length_append, List.length_singleton, nc3], by omega, hK.moved hWm.alike, hN.moved hWm⟩⟩ rfl rfl hl.1 rfl (lv_room (Nat.le_of_ble_eq_true rfl)) dX6_init_47 ⟨Nat.le_of_ble_eq_true rfl, Nat.le_of_ble_eq_true rfl⟩) (fun _ h => h) hC (fun q h => Or.inr h) (by rw [nc3]) rfl (fun H locs hC => ?_)
  refine W.widen (k := 116) (n := 703) (Nat.le_of_ble_eq_true rfl) (Nat.le_of_ble_eq_true rfl) ?_
  obtain ⟨cs4, ec4⟩ : ∃ z : List va_E, z = cs3 ++ ((e_X5_init E (b + 115) :: c_X5_init E (b + 115)) : List va_E) := ⟨_, rfl⟩
  rw [← ec4] at hC
  have nc4 : cs4.length = 116 := by rw [ec4, List.length_append, nc3]; rfl
  have o4 : cs4[114]? = some (e_X5_init E (b + 115)) := by rw [ec4, List.getElem?_append_right (by rw [nc3]; decide), nc3]; rfl
  refine cr_putF (v := .ref (b + 114)) (ty := .object RX5) (fs := [.ref (b + 0), .ref (b + 38), .ref (b + 76), .int (0 : Int32), .null, .null, .int 0, .null, .null]) hx hb hB hown hK hC (Or.inl rfl) rfl in_RX6 tyX6 tyX6_ok nmX6 4 (by decide) q_e28d2317 rfl hin rfl (by decide +kernel) rfl rfl (Nat.le_of_ble_eq_true rfl) dX6_init_50 (fun H locs hC => ?_)
  have hC : CR E (fun q => q = h0 ∨ b ≤ q) h0 b (.inr (6, [.ref (b + 0), .ref (b + 38), .ref (b + 76), .int (0 : Int32), .ref (b + 114), .null, .int 0, .null, .null])) cs4 s.heap H locs := hC
  refine lv_aload_n hx hb dX6_init_53 rfl (lv_at hl 0 rfl) ?_
  refine lv_bipush (v := (6 : Int32)) hx hb dX6_init_54 (by decide) ?_
  refine cr_newq (C := RX3) (t := 5) (N' := 6) (a := b + 116) hx hb hB hown hK hC q_73a175dc hN.1 rfl (by decide) (by decide) (by decide) (by rw [nc4]) (Nat.le_of_ble_eq_true rfl) (Nat.le_of_ble_eq_true rfl) dX6_init_56 (fun H hC => ?_)
  refine W.widen (k := 117) (n := 709) (Nat.le_of_ble_eq_true rfl) (Nat.le_of_ble_eq_true rfl) ?_
  obtain ⟨cs5, ec5⟩ : ∃ z : List va_E, z = cs4 ++ ([.inl (ecy E 5, 6, .inr (.inr (.inr (.inr (fun _ => none)))))] : List va_E) := ⟨_, rfl⟩
  rw [← ec5] at hC
  have nc5 : cs5.length = 117 := by rw [ec5, List.length_append, nc4]; rfl
  have g116_5 : cs5[116]? = some (.inl (ecy E 5, 6, .inr (.inr (.inr (.inr (fun _ => none)))))) := by rw [ec5, List.getElem?_append_right (by rw [nc4]; decide)]; rw [nc4]; rfl
  refine cr_putF (v := .ref (b + 116)) (ty := .array (.object RX3)) (fs := [.ref (b + 0), .ref (b + 38), .ref (b + 76), .int (0 : Int32), .ref (b + 114), .null, .int 0, .null, .null]) hx hb hB hown hK hC (Or.inl rfl) rfl in_RX6 tyX6 tyX6_ok nmX6 5 (by decide) q_b513bb73 rfl hin rfl (by decide +kernel) rfl rfl (Nat.le_of_ble_eq_true rfl) dX6_init_59 (fun H locs hC => ?_)
  have hC : CR E (fun q => q = h0 ∨ b ≤ q) h0 b (.inr (6, [.ref (b + 0), .ref (b + 38), .ref (b + 76), .int (0 : Int32), .ref (b + 114), .ref (b + 116), .int 0, .null, .null])) cs5 s.heap H locs := hC
  refine lv_aload_n hx hb dX6_init_62 rfl (lv_at hl 0 rfl) ?_
  refine lv_iconst (v := (0 : Int32)) hx hb dX6_init_63 (by decide) ?_
  refine cr_put (v := .int (0 : Int32)) (ty := .int) (fs := [.ref (b + 0), .ref (b + 38), .ref (b + 76), .int (0 : Int32), .ref (b + 114), .ref (b + 116), .int 0, .null, .null]) hx hb hB hown hK hC (Or.inl rfl) rfl in_RX6 tyX6 tyX6_ok nmX6 6 (by decide) q_87c3905a rfl (by decide +kernel) rfl rfl (Nat.le_of_ble_eq_true rfl) dX6_init_64 (fun H locs hC => ?_)
  have hC : CR E (fun q => q = h0 ∨ b ≤ q) h0 b (.inr (6, [.ref (b + 0), .ref (b + 38), .ref (b + 76), .int (0 : Int32), .ref (b + 114), .ref (b + 116), .int (0 : Int32), .null, .null])) cs5 s.heap H locs := hC
  refine lv_aload_n hx hb dX6_init_67 rfl (lv_at hl 0 rfl) ?_
  refine cr_new (ci := 0) (fs := [.null, .int 0, .int 0, .int 0, .int 0]) (C := RX0) (T := TX0) (N := 5) (a := b + 117) hx hb hB hown hK hC in_RX0 tyX0 tyX0_ok q_c5594c29 q_98a5d644 q_82b0ef51 rfl (fun j hj => by rcases (show j = 0 ∨ j = 1 ∨ j = 2 ∨ j = 3 ∨ j = 4 by omega) with rfl | rfl | rfl | rfl | rfl <;> rfl) (by rw [nc5]) (Nat.le_of_ble_eq_true rfl) (Nat.le_of_ble_eq_true rfl) dX6_init_68 (fun H hC => ?_)
  refine W.widen (k := 118) (n := 714) (Nat.le_of_ble_eq_true rfl) (Nat.le_of_ble_eq_true rfl) ?_
  refine lv_dup hx hb dX6_init_71 rfl ?_
  refine cr_callv (a := (b + 117)) (b1 := (b + 118)) (va_runIN (own := RX6) (host := "WoundEggs") (As := []) (rest := [.ref (b + 117), .ref h0]) ⟨hx, hb, hml, hown, hB⟩ (kc_X0_init l E (b + 117) (b + 118)) ⟨va_cnB 0 hB (big_code q_8f8f8007) rfl rfl rfl (hN.2.2.2 _ (List.mem_of_getElem? (i := 2) rfl)) (hB _ q_82b0ef51) ⟨by decide +kernel, by decide +kernel, by decide +kernel⟩ ⟨Nat.le_of_ble_eq_true rfl, Nat.le_of_ble_eq_true rfl⟩, rfl, hB _ q_203a6b26⟩ ⟨PC.blind E (b + 117) (b + 118) _ _ NWC.calling, fun U hU hWm => ⟨rfl, by rw [hU]; have h := hC.2.1 117 _ (by rw [List.getElem?_append_right (by rw [nc5]; exact Nat.le_refl _)]; rw [nc5]; rfl); exact h, by rw [hU, hC.2.2.1, List.length_append, List.length_singleton, nc5], by omega, hK.moved hWm.alike, hN.moved hWm⟩⟩ rfl rfl hl.1 rfl (lv_room (Nat.le_of_ble_eq_true rfl)) dX6_init_72 ⟨Nat.le_of_ble_eq_true rfl, Nat.le_of_ble_eq_true rfl⟩) (fun _ h => h) hC (fun q h => Or.inr h) (by rw [nc5]) rfl (fun H locs hC => ?_)
  refine W.widen (k := 119) (n := 734) (Nat.le_of_ble_eq_true rfl) (Nat.le_of_ble_eq_true rfl) ?_
  obtain ⟨cs6, ec6⟩ : ∃ z : List va_E, z = cs5 ++ ((e_X0_init E (b + 118) :: c_X0_init E (b + 118)) : List va_E) := ⟨_, rfl⟩
  rw [← ec6] at hC
  have nc6 : cs6.length = 119 := by rw [ec6, List.length_append, nc5]; rfl
  have g116_6 : cs6[116]? = some (.inl (ecy E 5, 6, .inr (.inr (.inr (.inr (fun _ => none)))))) := by rw [ec6, List.getElem?_append_left (by rw [nc5]; decide)]; exact g116_5
  have o6 : cs6[117]? = some (e_X0_init E (b + 118)) := by rw [ec6, List.getElem?_append_right (by rw [nc5]; decide), nc5]; rfl
  refine cr_putF (v := .ref (b + 117)) (ty := .object RX0) (fs := [.ref (b + 0), .ref (b + 38), .ref (b + 76), .int (0 : Int32), .ref (b + 114), .ref (b + 116), .int (0 : Int32), .null, .null]) hx hb hB hown hK hC (Or.inl rfl) rfl in_RX6 tyX6 tyX6_ok nmX6 7 (by decide) q_3c45b74b rfl hin rfl (by decide +kernel) rfl rfl (Nat.le_of_ble_eq_true rfl) dX6_init_75 (fun H locs hC => ?_)
  have hC : CR E (fun q => q = h0 ∨ b ≤ q) h0 b (.inr (6, [.ref (b + 0), .ref (b + 38), .ref (b + 76), .int (0 : Int32), .ref (b + 114), .ref (b + 116), .int (0 : Int32), .ref (b + 117), .null])) cs6 s.heap H locs := hC
  refine lv_aload_n hx hb dX6_init_78 rfl (lv_at hl 0 rfl) ?_
  refine lv_bipush (v := (6 : Int32)) hx hb dX6_init_79 (by decide) ?_
  refine cr_newq (C := RX4) (t := 6) (N' := 6) (a := b + 119) hx hb hB hown hK hC q_377c885b hN.2.1 rfl (by decide) (by decide) (by decide) (by rw [nc6]) (Nat.le_of_ble_eq_true rfl) (Nat.le_of_ble_eq_true rfl) dX6_init_81 (fun H hC => ?_)
  refine W.widen (k := 120) (n := 740) (Nat.le_of_ble_eq_true rfl) (Nat.le_of_ble_eq_true rfl) ?_
  obtain ⟨cs7, ec7⟩ : ∃ z : List va_E, z = cs6 ++ ([.inl (ecy E 6, 6, .inr (.inr (.inr (.inr (fun _ => none)))))] : List va_E) := ⟨_, rfl⟩
  rw [← ec7] at hC
  have nc7 : cs7.length = 120 := by rw [ec7, List.length_append, nc6]; rfl
  have g116_7 : cs7[116]? = some (.inl (ecy E 5, 6, .inr (.inr (.inr (.inr (fun _ => none)))))) := by rw [ec7, List.getElem?_append_left (by rw [nc6]; decide)]; exact g116_6
  have g119_7 : cs7[119]? = some (.inl (ecy E 6, 6, .inr (.inr (.inr (.inr (fun _ => none)))))) := by rw [ec7, List.getElem?_append_right (by rw [nc6]; decide)]; rw [nc6]; rfl
  refine cr_putF (v := .ref (b + 119)) (ty := .array (.object RX4)) (fs := [.ref (b + 0), .ref (b + 38), .ref (b + 76), .int (0 : Int32), .ref (b + 114), .ref (b + 116), .int (0 : Int32), .ref (b + 117), .null]) hx hb hB hown hK hC (Or.inl rfl) rfl in_RX6 tyX6 tyX6_ok nmX6 8 (by decide) q_3dcb828b rfl hin rfl (by decide +kernel) rfl rfl (Nat.le_of_ble_eq_true rfl) dX6_init_84 (fun H locs hC => ?_)
  have hC : CR E (fun q => q = h0 ∨ b ≤ q) h0 b (.inr (6, [.ref (b + 0), .ref (b + 38), .ref (b + 76), .int (0 : Int32), .ref (b + 114), .ref (b + 116), .int (0 : Int32), .ref (b + 117), .ref (b + 119)])) cs7 s.heap H locs := hC
  refine lv_iconst (v := (0 : Int32)) hx hb dX6_init_87 (by decide) ?_
  refine lv_istore_n (lv' := [(1, .int (0 : Int32)), (0, .ref h0)]) hx hb dX6_init_88 rfl hl (by decide) rfl (fun ls hl => ?_)
  refine lv_iload_n hx hb dX6_init_89 rfl (lv_at hl 0 rfl) ?_
  refine lv_bipush (v := (6 : Int32)) hx hb dX6_init_90 (by decide) ?_
  refine lv_icmp_ge (tgt := 114) hx hb dX6_init_92 (by decide) (fun h => absurd h (by decide)) (fun _ => ?_)
  refine lv_aload_n hx hb dX6_init_95 rfl (lv_at hl 1 rfl) ?_
  refine cr_get hx hb hB hown hK hC rfl in_RX6 5 (by decide) q_b513bb73 rfl dX6_init_96 ?_
  refine lv_iload_n hx hb dX6_init_99 rfl (lv_at hl 0 rfl) ?_
  refine cr_new (ci := 3) (fs := [.int 0, .int 0, .null, .null, .null, .int 0]) (C := RX3) (T := TX3) (N := 6) (a := b + 120) hx hb hB hown hK hC in_RX3 tyX3 tyX3_ok q_73a175dc q_68294a22 q_106b7259 rfl (fun j hj => by rcases (show j = 0 ∨ j = 1 ∨ j = 2 ∨ j = 3 ∨ j = 4 ∨ j = 5 by omega) with rfl | rfl | rfl | rfl | rfl | rfl <;> rfl) (by rw [nc7]) (Nat.le_of_ble_eq_true rfl) (Nat.le_of_ble_eq_true rfl) dX6_init_100 (fun H hC => ?_)
  refine W.widen (k := 121) (n := 746) (Nat.le_of_ble_eq_true rfl) (Nat.le_of_ble_eq_true rfl) ?_
  refine lv_dup hx hb dX6_init_103 rfl ?_
  refine cr_callv (a := (b + 120)) (b1 := (b + 121)) (va_runIN (own := RX6) (host := "WoundEggs") (As := []) (rest := [.ref (b + 120), .int (0 : Int32), .ref (b + 116)]) ⟨hx, hb, hml, hown, hB⟩ (kc_X3_init l E (b + 120) (b + 121)) ⟨va_cnB 0 hB (big_code q_378d4b7c) rfl rfl rfl (hN.2.2.2 _ (List.mem_of_getElem? (i := 3) rfl)) (hB _ q_106b7259) ⟨by decide +kernel, by decide +kernel, by decide +kernel⟩ ⟨Nat.le_of_ble_eq_true rfl, Nat.le_of_ble_eq_true rfl⟩, rfl, hB _ q_44227f2d⟩ ⟨PC.blind E (b + 120) (b + 121) _ _ NWC.calling, fun U hU hWm => ⟨rfl, by rw [hU]; have h := hC.2.1 120 _ (by rw [List.getElem?_append_right (by rw [nc7]; exact Nat.le_refl _)]; rw [nc7]; rfl); exact h, by rw [hU, hC.2.2.1, List.length_append, List.length_singleton, nc7], by omega, hK.moved hWm.alike, hN.moved hWm⟩⟩ rfl rfl hl.1 rfl (lv_room (Nat.le_of_ble_eq_true rfl)) dX6_init_104 ⟨Nat.le_of_ble_eq_true rfl, Nat.le_of_ble_eq_true rfl⟩) (fun _ h => h) hC (fun q h => Or.inr h) (by rw [nc7]) rfl (fun H locs hC => ?_)
  refine W.widen (k := 124) (n := 866) (Nat.le_of_ble_eq_true rfl) (Nat.le_of_ble_eq_true rfl) ?_
  obtain ⟨cs8, ec8⟩ : ∃ z : List va_E, z = cs7 ++ ((e_X3_init E (b + 121) :: c_X3_init E (b + 121)) : List va_E) := ⟨_, rfl⟩
  rw [← ec8] at hC
  have nc8 : cs8.length = 124 := by rw [ec8, List.length_append, nc7]; rfl
  have g116_8 : cs8[116]? = some (.inl (ecy E 5, 6, .inr (.inr (.inr (.inr (fun _ => none)))))) := by rw [ec8, List.getElem?_append_left (by rw [nc7]; decide)]; exact g116_7
  have g119_8 : cs8[119]? = some (.inl (ecy E 6, 6, .inr (.inr (.inr (.inr (fun _ => none)))))) := by rw [ec8, List.getElem?_append_left (by rw [nc7]; decide)]; exact g119_7
  have o8 : cs8[120]? = some (e_X3_init E (b + 121)) := by rw [ec8, List.getElem?_append_right (by rw [nc7]; decide), nc7]; rfl
  refine cr_aast (t := 5) (n := 6) (f := (fun _ => none)) (j := 116) (qk := 120) hx hb hK hC (fun q h => Or.inr h) (g116_8) rfl (o8) rfl rfl rfl (by unfold vp_in; decide) dX6_init_107 (fun H locs hC => ?_)
  obtain ⟨cs9, ec9⟩ : ∃ z : List va_E, z = cs8.set 116 (.inl (ecy E 5, 6, .inr (.inr (.inr (.inr (va_up (fun _ => none) 0 (some (b + 120)))))))) := ⟨_, rfl⟩
  replace hC : CR E (fun q => q = h0 ∨ b ≤ q) h0 b (.inr (6, [.ref (b + 0), .ref (b + 38), .ref (b + 76), .int (0 : Int32), .ref (b + 114), .ref (b + 116), .int (0 : Int32), .ref (b + 117), .ref (b + 119)])) cs9 s.heap H locs := by rw [ec9]; exact hC
  have nc9 : cs9.length = 124 := by rw [ec9, List.length_set, nc8]
  have g116_9 : cs9[116]? = some (.inl (ecy E 5, 6, .inr (.inr (.inr (.inr (va_up (fun _ => none) 0 (some (b + 120)))))))) := by rw [ec9, List.getElem?_set_self (by rw [nc8]; decide)]
  have g119_9 : cs9[119]? = some (.inl (ecy E 6, 6, .inr (.inr (.inr (.inr (fun _ => none)))))) := by rw [ec9, List.getElem?_set_ne (by decide)]; exact g119_8
  refine lv_iinc (v := (1 : Int32)) (lv' := [(1, .int (1 : Int32)), (0, .ref h0)]) hx hb dX6_init_108 hl (k := 0) rfl (by decide) (by decide) rfl (fun ls hl => ?_)
  refine lv_goto (tgt := 89) hx hb dX6_init_111 (by decide) ?_
  refine lv_iload_n hx hb dX6_init_89 rfl (lv_at hl 0 rfl) ?_
  refine lv_bipush (v := (6 : Int32)) hx hb dX6_init_90 (by decide) ?_
  refine lv_icmp_ge (tgt := 114) hx hb dX6_init_92 (by decide) (fun h => absurd h (by decide)) (fun _ => ?_)
  refine lv_aload_n hx hb dX6_init_95 rfl (lv_at hl 1 rfl) ?_
  refine cr_get hx hb hB hown hK hC rfl in_RX6 5 (by decide) q_b513bb73 rfl dX6_init_96 ?_
  refine lv_iload_n hx hb dX6_init_99 rfl (lv_at hl 0 rfl) ?_
  refine cr_new (ci := 3) (fs := [.int 0, .int 0, .null, .null, .null, .int 0]) (C := RX3) (T := TX3) (N := 6) (a := b + 124) hx hb hB hown hK hC in_RX3 tyX3 tyX3_ok q_73a175dc q_68294a22 q_106b7259 rfl (fun j hj => by rcases (show j = 0 ∨ j = 1 ∨ j = 2 ∨ j = 3 ∨ j = 4 ∨ j = 5 by omega) with rfl | rfl | rfl | rfl | rfl | rfl <;> rfl) (by rw [nc9]) (Nat.le_of_ble_eq_true rfl) (Nat.le_of_ble_eq_true rfl) dX6_init_100 (fun H hC => ?_)
  refine W.widen (k := 125) (n := 872) (Nat.le_of_ble_eq_true rfl) (Nat.le_of_ble_eq_true rfl) ?_
  refine lv_dup hx hb dX6_init_103 rfl ?_
  refine cr_callv (a := (b + 124)) (b1 := (b + 125)) (va_runIN (own := RX6) (host := "WoundEggs") (As := []) (rest := [.ref (b + 124), .int (1 : Int32), .ref (b + 116)]) ⟨hx, hb, hml, hown, hB⟩ (kc_X3_init l E (b + 124) (b + 125)) ⟨va_cnB 0 hB (big_code q_378d4b7c) rfl rfl rfl (hN.2.2.2 _ (List.mem_of_getElem? (i := 3) rfl)) (hB _ q_106b7259) ⟨by decide +kernel, by decide +kernel, by decide +kernel⟩ ⟨Nat.le_of_ble_eq_true rfl, Nat.le_of_ble_eq_true rfl⟩, rfl, hB _ q_44227f2d⟩ ⟨PC.blind E (b + 124) (b + 125) _ _ NWC.calling, fun U hU hWm => ⟨rfl, by rw [hU]; have h := hC.2.1 124 _ (by rw [List.getElem?_append_right (by rw [nc9]; exact Nat.le_refl _)]; rw [nc9]; rfl); exact h, by rw [hU, hC.2.2.1, List.length_append, List.length_singleton, nc9], by omega, hK.moved hWm.alike, hN.moved hWm⟩⟩ rfl rfl hl.1 rfl (lv_room (Nat.le_of_ble_eq_true rfl)) dX6_init_104 ⟨Nat.le_of_ble_eq_true rfl, Nat.le_of_ble_eq_true rfl⟩) (fun _ h => h) hC (fun q h => Or.inr h) (by rw [nc9]) rfl (fun H locs hC => ?_)
  refine W.widen (k := 128) (n := 992) (Nat.le_of_ble_eq_true rfl) (Nat.le_of_ble_eq_true rfl) ?_
  obtain ⟨cs10, ec10⟩ : ∃ z : List va_E, z = cs9 ++ ((e_X3_init E (b + 125) :: c_X3_init E (b + 125)) : List va_E) := ⟨_, rfl⟩
  rw [← ec10] at hC
  have nc10 : cs10.length = 128 := by rw [ec10, List.length_append, nc9]; rfl
  have g116_10 : cs10[116]? = some (.inl (ecy E 5, 6, .inr (.inr (.inr (.inr (va_up (fun _ => none) 0 (some (b + 120)))))))) := by rw [ec10, List.getElem?_append_left (by rw [nc9]; decide)]; exact g116_9
  have g119_10 : cs10[119]? = some (.inl (ecy E 6, 6, .inr (.inr (.inr (.inr (fun _ => none)))))) := by rw [ec10, List.getElem?_append_left (by rw [nc9]; decide)]; exact g119_9
  have o10 : cs10[124]? = some (e_X3_init E (b + 125)) := by rw [ec10, List.getElem?_append_right (by rw [nc9]; decide), nc9]; rfl
  refine cr_aast (t := 5) (n := 6) (f := (va_up (fun _ => none) 0 (some (b + 120)))) (j := 116) (qk := 124) hx hb hK hC (fun q h => Or.inr h) (g116_10) rfl (o10) rfl rfl rfl (by unfold vp_in; decide) dX6_init_107 (fun H locs hC => ?_)
  obtain ⟨cs11, ec11⟩ : ∃ z : List va_E, z = cs10.set 116 (.inl (ecy E 5, 6, .inr (.inr (.inr (.inr (va_up (va_up (fun _ => none) 0 (some (b + 120))) 1 (some (b + 124)))))))) := ⟨_, rfl⟩
  replace hC : CR E (fun q => q = h0 ∨ b ≤ q) h0 b (.inr (6, [.ref (b + 0), .ref (b + 38), .ref (b + 76), .int (0 : Int32), .ref (b + 114), .ref (b + 116), .int (0 : Int32), .ref (b + 117), .ref (b + 119)])) cs11 s.heap H locs := by rw [ec11]; exact hC
  have nc11 : cs11.length = 128 := by rw [ec11, List.length_set, nc10]
  have g116_11 : cs11[116]? = some (.inl (ecy E 5, 6, .inr (.inr (.inr (.inr (va_up (va_up (fun _ => none) 0 (some (b + 120))) 1 (some (b + 124)))))))) := by rw [ec11, List.getElem?_set_self (by rw [nc10]; decide)]
  have g119_11 : cs11[119]? = some (.inl (ecy E 6, 6, .inr (.inr (.inr (.inr (fun _ => none)))))) := by rw [ec11, List.getElem?_set_ne (by decide)]; exact g119_10
  refine lv_iinc (v := (2 : Int32)) (lv' := [(1, .int (2 : Int32)), (0, .ref h0)]) hx hb dX6_init_108 hl (k := 0) rfl (by decide) (by decide) rfl (fun ls hl => ?_)
  refine lv_goto (tgt := 89) hx hb dX6_init_111 (by decide) ?_
  refine lv_iload_n hx hb dX6_init_89 rfl (lv_at hl 0 rfl) ?_
  refine lv_bipush (v := (6 : Int32)) hx hb dX6_init_90 (by decide) ?_
  refine lv_icmp_ge (tgt := 114) hx hb dX6_init_92 (by decide) (fun h => absurd h (by decide)) (fun _ => ?_)
  refine lv_aload_n hx hb dX6_init_95 rfl (lv_at hl 1 rfl) ?_
  refine cr_get hx hb hB hown hK hC rfl in_RX6 5 (by decide) q_b513bb73 rfl dX6_init_96 ?_
  refine lv_iload_n hx hb dX6_init_99 rfl (lv_at hl 0 rfl) ?_
  refine cr_new (ci := 3) (fs := [.int 0, .int 0, .null, .null, .null, .int 0]) (C := RX3) (T := TX3) (N := 6) (a := b + 128) hx hb hB hown hK hC in_RX3 tyX3 tyX3_ok q_73a175dc q_68294a22 q_106b7259 rfl (fun j hj => by rcases (show j = 0 ∨ j = 1 ∨ j = 2 ∨ j = 3 ∨ j = 4 ∨ j = 5 by omega) with rfl | rfl | rfl | rfl | rfl | rfl <;> rfl) (by rw [nc11]) (Nat.le_of_ble_eq_true rfl) (Nat.le_of_ble_eq_true rfl) dX6_init_100 (fun H hC => ?_)
  refine W.widen (k := 129) (n := 998) (Nat.le_of_ble_eq_true rfl) (Nat.le_of_ble_eq_true rfl) ?_
  refine lv_dup hx hb dX6_init_103 rfl ?_
  refine cr_callv (a := (b + 128)) (b1 := (b + 129)) (va_runIN (own := RX6) (host := "WoundEggs") (As := []) (rest := [.ref (b + 128), .int (2 : Int32), .ref (b + 116)]) ⟨hx, hb, hml, hown, hB⟩ (kc_X3_init l E (b + 128) (b + 129)) ⟨va_cnB 0 hB (big_code q_378d4b7c) rfl rfl rfl (hN.2.2.2 _ (List.mem_of_getElem? (i := 3) rfl)) (hB _ q_106b7259) ⟨by decide +kernel, by decide +kernel, by decide +kernel⟩ ⟨Nat.le_of_ble_eq_true rfl, Nat.le_of_ble_eq_true rfl⟩, rfl, hB _ q_44227f2d⟩ ⟨PC.blind E (b + 128) (b + 129) _ _ NWC.calling, fun U hU hWm => ⟨rfl, by rw [hU]; have h := hC.2.1 128 _ (by rw [List.getElem?_append_right (by rw [nc11]; exact Nat.le_refl _)]; rw [nc11]; rfl); exact h, by rw [hU, hC.2.2.1, List.length_append, List.length_singleton, nc11], by omega, hK.moved hWm.alike, hN.moved hWm⟩⟩ rfl rfl hl.1 rfl (lv_room (Nat.le_of_ble_eq_true rfl)) dX6_init_104 ⟨Nat.le_of_ble_eq_true rfl, Nat.le_of_ble_eq_true rfl⟩) (fun _ h => h) hC (fun q h => Or.inr h) (by rw [nc11]) rfl (fun H locs hC => ?_)
  refine W.widen (k := 132) (n := 1118) (Nat.le_of_ble_eq_true rfl) (Nat.le_of_ble_eq_true rfl) ?_
  obtain ⟨cs12, ec12⟩ : ∃ z : List va_E, z = cs11 ++ ((e_X3_init E (b + 129) :: c_X3_init E (b + 129)) : List va_E) := ⟨_, rfl⟩
  rw [← ec12] at hC
  have nc12 : cs12.length = 132 := by rw [ec12, List.length_append, nc11]; rfl
  have g116_12 : cs12[116]? = some (.inl (ecy E 5, 6, .inr (.inr (.inr (.inr (va_up (va_up (fun _ => none) 0 (some (b + 120))) 1 (some (b + 124)))))))) := by rw [ec12, List.getElem?_append_left (by rw [nc11]; decide)]; exact g116_11
  have g119_12 : cs12[119]? = some (.inl (ecy E 6, 6, .inr (.inr (.inr (.inr (fun _ => none)))))) := by rw [ec12, List.getElem?_append_left (by rw [nc11]; decide)]; exact g119_11
  have o12 : cs12[128]? = some (e_X3_init E (b + 129)) := by rw [ec12, List.getElem?_append_right (by rw [nc11]; decide), nc11]; rfl
  refine cr_aast (t := 5) (n := 6) (f := (va_up (va_up (fun _ => none) 0 (some (b + 120))) 1 (some (b + 124)))) (j := 116) (qk := 128) hx hb hK hC (fun q h => Or.inr h) (g116_12) rfl (o12) rfl rfl rfl (by unfold vp_in; decide) dX6_init_107 (fun H locs hC => ?_)
  obtain ⟨cs13, ec13⟩ : ∃ z : List va_E, z = cs12.set 116 (.inl (ecy E 5, 6, .inr (.inr (.inr (.inr (va_up (va_up (va_up (fun _ => none) 0 (some (b + 120))) 1 (some (b + 124))) 2 (some (b + 128)))))))) := ⟨_, rfl⟩
  replace hC : CR E (fun q => q = h0 ∨ b ≤ q) h0 b (.inr (6, [.ref (b + 0), .ref (b + 38), .ref (b + 76), .int (0 : Int32), .ref (b + 114), .ref (b + 116), .int (0 : Int32), .ref (b + 117), .ref (b + 119)])) cs13 s.heap H locs := by rw [ec13]; exact hC
  have nc13 : cs13.length = 132 := by rw [ec13, List.length_set, nc12]
  have g116_13 : cs13[116]? = some (.inl (ecy E 5, 6, .inr (.inr (.inr (.inr (va_up (va_up (va_up (fun _ => none) 0 (some (b + 120))) 1 (some (b + 124))) 2 (some (b + 128)))))))) := by rw [ec13, List.getElem?_set_self (by rw [nc12]; decide)]
  have g119_13 : cs13[119]? = some (.inl (ecy E 6, 6, .inr (.inr (.inr (.inr (fun _ => none)))))) := by rw [ec13, List.getElem?_set_ne (by decide)]; exact g119_12
  refine lv_iinc (v := (3 : Int32)) (lv' := [(1, .int (3 : Int32)), (0, .ref h0)]) hx hb dX6_init_108 hl (k := 0) rfl (by decide) (by decide) rfl (fun ls hl => ?_)
  refine lv_goto (tgt := 89) hx hb dX6_init_111 (by decide) ?_
  refine lv_iload_n hx hb dX6_init_89 rfl (lv_at hl 0 rfl) ?_
  refine lv_bipush (v := (6 : Int32)) hx hb dX6_init_90 (by decide) ?_
  refine lv_icmp_ge (tgt := 114) hx hb dX6_init_92 (by decide) (fun h => absurd h (by decide)) (fun _ => ?_)
  refine lv_aload_n hx hb dX6_init_95 rfl (lv_at hl 1 rfl) ?_
  refine cr_get hx hb hB hown hK hC rfl in_RX6 5 (by decide) q_b513bb73 rfl dX6_init_96 ?_
  refine lv_iload_n hx hb dX6_init_99 rfl (lv_at hl 0 rfl) ?_
  refine cr_new (ci := 3) (fs := [.int 0, .int 0, .null, .null, .null, .int 0]) (C := RX3) (T := TX3) (N := 6) (a := b + 132) hx hb hB hown hK hC in_RX3 tyX3 tyX3_ok q_73a175dc q_68294a22 q_106b7259 rfl (fun j hj => by rcases (show j = 0 ∨ j = 1 ∨ j = 2 ∨ j = 3 ∨ j = 4 ∨ j = 5 by omega) with rfl | rfl | rfl | rfl | rfl | rfl <;> rfl) (by rw [nc13]) (Nat.le_of_ble_eq_true rfl) (Nat.le_of_ble_eq_true rfl) dX6_init_100 (fun H hC => ?_)
  refine W.widen (k := 133) (n := 1124) (Nat.le_of_ble_eq_true rfl) (Nat.le_of_ble_eq_true rfl) ?_
  refine lv_dup hx hb dX6_init_103 rfl ?_
  refine cr_callv (a := (b + 132)) (b1 := (b + 133)) (va_runIN (own := RX6) (host := "WoundEggs") (As := []) (rest := [.ref (b + 132), .int (3 : Int32), .ref (b + 116)]) ⟨hx, hb, hml, hown, hB⟩ (kc_X3_init l E (b + 132) (b + 133)) ⟨va_cnB 0 hB (big_code q_378d4b7c) rfl rfl rfl (hN.2.2.2 _ (List.mem_of_getElem? (i := 3) rfl)) (hB _ q_106b7259) ⟨by decide +kernel, by decide +kernel, by decide +kernel⟩ ⟨Nat.le_of_ble_eq_true rfl, Nat.le_of_ble_eq_true rfl⟩, rfl, hB _ q_44227f2d⟩ ⟨PC.blind E (b + 132) (b + 133) _ _ NWC.calling, fun U hU hWm => ⟨rfl, by rw [hU]; have h := hC.2.1 132 _ (by rw [List.getElem?_append_right (by rw [nc13]; exact Nat.le_refl _)]; rw [nc13]; rfl); exact h, by rw [hU, hC.2.2.1, List.length_append, List.length_singleton, nc13], by omega, hK.moved hWm.alike, hN.moved hWm⟩⟩ rfl rfl hl.1 rfl (lv_room (Nat.le_of_ble_eq_true rfl)) dX6_init_104 ⟨Nat.le_of_ble_eq_true rfl, Nat.le_of_ble_eq_true rfl⟩) (fun _ h => h) hC (fun q h => Or.inr h) (by rw [nc13]) rfl (fun H locs hC => ?_)
  refine W.widen (k := 136) (n := 1244) (Nat.le_of_ble_eq_true rfl) (Nat.le_of_ble_eq_true rfl) ?_
  obtain ⟨cs14, ec14⟩ : ∃ z : List va_E, z = cs13 ++ ((e_X3_init E (b + 133) :: c_X3_init E (b + 133)) : List va_E) := ⟨_, rfl⟩
  rw [← ec14] at hC
  have nc14 : cs14.length = 136 := by rw [ec14, List.length_append, nc13]; rfl
  have g116_14 : cs14[116]? = some (.inl (ecy E 5, 6, .inr (.inr (.inr (.inr (va_up (va_up (va_up (fun _ => none) 0 (some (b + 120))) 1 (some (b + 124))) 2 (some (b + 128)))))))) := by rw [ec14, List.getElem?_append_left (by rw [nc13]; decide)]; exact g116_13
  have g119_14 : cs14[119]? = some (.inl (ecy E 6, 6, .inr (.inr (.inr (.inr (fun _ => none)))))) := by rw [ec14, List.getElem?_append_left (by rw [nc13]; decide)]; exact g119_13
  have o14 : cs14[132]? = some (e_X3_init E (b + 133)) := by rw [ec14, List.getElem?_append_right (by rw [nc13]; decide), nc13]; rfl
  refine cr_aast (t := 5) (n := 6) (f := (va_up (va_up (va_up (fun _ => none) 0 (some (b + 120))) 1 (some (b + 124))) 2 (some (b + 128)))) (j := 116) (qk := 132) hx hb hK hC (fun q h => Or.inr h) (g116_14) rfl (o14) rfl rfl rfl (by unfold vp_in; decide) dX6_init_107 (fun H locs hC => ?_)
  obtain ⟨cs15, ec15⟩ : ∃ z : List va_E, z = cs14.set 116 (.inl (ecy E 5, 6, .inr (.inr (.inr (.inr (va_up (va_up (va_up (va_up (fun _ => none) 0 (some (b + 120))) 1 (some (b + 124))) 2 (some (b + 128))) 3 (some (b + 132)))))))) := ⟨_, rfl⟩
  replace hC : CR E (fun q => q = h0 ∨ b ≤ q) h0 b (.inr (6, [.ref (b + 0), .ref (b + 38), .ref (b + 76), .int (0 : Int32), .ref (b + 114), .ref (b + 116), .int (0 : Int32), .ref (b + 117), .ref (b + 119)])) cs15 s.heap H locs := by rw [ec15]; exact hC
  have nc15 : cs15.length = 136 := by rw [ec15, List.length_set, nc14]
  have g116_15 : cs15[116]? = some (.inl (ecy E 5, 6, .inr (.inr (.inr (.inr (va_up (va_up (va_up (va_up (fun _ => none) 0 (some (b + 120))) 1 (some (b + 124))) 2 (some (b + 128))) 3 (some (b + 132)))))))) := by rw [ec15, List.getElem?_set_self (by rw [nc14]; decide)]
  have g119_15 : cs15[119]? = some (.inl (ecy E 6, 6, .inr (.inr (.inr (.inr (fun _ => none)))))) := by rw [ec15, List.getElem?_set_ne (by decide)]; exact g119_14
  refine lv_iinc (v := (4 : Int32)) (lv' := [(1, .int (4 : Int32)), (0, .ref h0)]) hx hb dX6_init_108 hl (k := 0) rfl (by decide) (by decide) rfl (fun ls hl => ?_)
  refine lv_goto (tgt := 89) hx hb dX6_init_111 (by decide) ?_
  refine lv_iload_n hx hb dX6_init_89 rfl (lv_at hl 0 rfl) ?_
  refine lv_bipush (v := (6 : Int32)) hx hb dX6_init_90 (by decide) ?_
  refine lv_icmp_ge (tgt := 114) hx hb dX6_init_92 (by decide) (fun h => absurd h (by decide)) (fun _ => ?_)
  refine lv_aload_n hx hb dX6_init_95 rfl (lv_at hl 1 rfl) ?_
  refine cr_get hx hb hB hown hK hC rfl in_RX6 5 (by decide) q_b513bb73 rfl dX6_init_96 ?_
  refine lv_iload_n hx hb dX6_init_99 rfl (lv_at hl 0 rfl) ?_
  refine cr_new (ci := 3) (fs := [.int 0, .int 0, .null, .null, .null, .int 0]) (C := RX3) (T := TX3) (N := 6) (a := b + 136) hx hb hB hown hK hC in_RX3 tyX3 tyX3_ok q_73a175dc q_68294a22 q_106b7259 rfl (fun j hj => by rcases (show j = 0 ∨ j = 1 ∨ j = 2 ∨ j = 3 ∨ j = 4 ∨ j = 5 by omega) with rfl | rfl | rfl | rfl | rfl | rfl <;> rfl) (by rw [nc15]) (Nat.le_of_ble_eq_true rfl) (Nat.le_of_ble_eq_true rfl) dX6_init_100 (fun H hC => ?_)
  refine W.widen (k := 137) (n := 1250) (Nat.le_of_ble_eq_true rfl) (Nat.le_of_ble_eq_true rfl) ?_
  refine lv_dup hx hb dX6_init_103 rfl ?_
  refine cr_callv (a := (b + 136)) (b1 := (b + 137)) (va_runIN (own := RX6) (host := "WoundEggs") (As := []) (rest := [.ref (b + 136), .int (4 : Int32), .ref (b + 116)]) ⟨hx, hb, hml, hown, hB⟩ (kc_X3_init l E (b + 136) (b + 137)) ⟨va_cnB 0 hB (big_code q_378d4b7c) rfl rfl rfl (hN.2.2.2 _ (List.mem_of_getElem? (i := 3) rfl)) (hB _ q_106b7259) ⟨by decide +kernel, by decide +kernel, by decide +kernel⟩ ⟨Nat.le_of_ble_eq_true rfl, Nat.le_of_ble_eq_true rfl⟩, rfl, hB _ q_44227f2d⟩ ⟨PC.blind E (b + 136) (b + 137) _ _ NWC.calling, fun U hU hWm => ⟨rfl, by rw [hU]; have h := hC.2.1 136 _ (by rw [List.getElem?_append_right (by rw [nc15]; exact Nat.le_refl _)]; rw [nc15]; rfl); exact h, by rw [hU, hC.2.2.1, List.length_append, List.length_singleton, nc15], by omega, hK.moved hWm.alike, hN.moved hWm⟩⟩ rfl rfl hl.1 rfl (lv_room (Nat.le_of_ble_eq_true rfl)) dX6_init_104 ⟨Nat.le_of_ble_eq_true rfl, Nat.le_of_ble_eq_true rfl⟩) (fun _ h => h) hC (fun q h => Or.inr h) (by rw [nc15]) rfl (fun H locs hC => ?_)
  refine W.widen (k := 140) (n := 1370) (Nat.le_of_ble_eq_true rfl) (Nat.le_of_ble_eq_true rfl) ?_
  obtain ⟨cs16, ec16⟩ : ∃ z : List va_E, z = cs15 ++ ((e_X3_init E (b + 137) :: c_X3_init E (b + 137)) : List va_E) := ⟨_, rfl⟩
  rw [← ec16] at hC
  have nc16 : cs16.length = 140 := by rw [ec16, List.length_append, nc15]; rfl
  have g116_16 : cs16[116]? = some (.inl (ecy E 5, 6, .inr (.inr (.inr (.inr (va_up (va_up (va_up (va_up (fun _ => none) 0 (some (b + 120))) 1 (some (b + 124))) 2 (some (b + 128))) 3 (some (b + 132)))))))) := by rw [ec16, List.getElem?_append_left (by rw [nc15]; decide)]; exact g116_15
  have g119_16 : cs16[119]? = some (.inl (ecy E 6, 6, .inr (.inr (.inr (.inr (fun _ => none)))))) := by rw [ec16, List.getElem?_append_left (by rw [nc15]; decide)]; exact g119_15
  have o16 : cs16[136]? = some (e_X3_init E (b + 137)) := by rw [ec16, List.getElem?_append_right (by rw [nc15]; decide), nc15]; rfl
  refine cr_aast (t := 5) (n := 6) (f := (va_up (va_up (va_up (va_up (fun _ => none) 0 (some (b + 120))) 1 (some (b + 124))) 2 (some (b + 128))) 3 (some (b + 132)))) (j := 116) (qk := 136) hx hb hK hC (fun q h => Or.inr h) (g116_16) rfl (o16) rfl rfl rfl (by unfold vp_in; decide) dX6_init_107 (fun H locs hC => ?_)
  obtain ⟨cs17, ec17⟩ : ∃ z : List va_E, z = cs16.set 116 (.inl (ecy E 5, 6, .inr (.inr (.inr (.inr (va_up (va_up (va_up (va_up (va_up (fun _ => none) 0 (some (b + 120))) 1 (some (b + 124))) 2 (some (b + 128))) 3 (some (b + 132))) 4 (some (b + 136)))))))) := ⟨_, rfl⟩
  replace hC : CR E (fun q => q = h0 ∨ b ≤ q) h0 b (.inr (6, [.ref (b + 0), .ref (b + 38), .ref (b + 76), .int (0 : Int32), .ref (b + 114), .ref (b + 116), .int (0 : Int32), .ref (b + 117), .ref (b + 119)])) cs17 s.heap H locs := by rw [ec17]; exact hC
  have nc17 : cs17.length = 140 := by rw [ec17, List.length_set, nc16]
  have g116_17 : cs17[116]? = some (.inl (ecy E 5, 6, .inr (.inr (.inr (.inr (va_up (va_up (va_up (va_up (va_up (fun _ => none) 0 (some (b + 120))) 1 (some (b + 124))) 2 (some (b + 128))) 3 (some (b + 132))) 4 (some (b + 136)))))))) := by rw [ec17, List.getElem?_set_self (by rw [nc16]; decide)]
  have g119_17 : cs17[119]? = some (.inl (ecy E 6, 6, .inr (.inr (.inr (.inr (fun _ => none)))))) := by rw [ec17, List.getElem?_set_ne (by decide)]; exact g119_16
  refine lv_iinc (v := (5 : Int32)) (lv' := [(1, .int (5 : Int32)), (0, .ref h0)]) hx hb dX6_init_108 hl (k := 0) rfl (by decide) (by decide) rfl (fun ls hl => ?_)
  refine lv_goto (tgt := 89) hx hb dX6_init_111 (by decide) ?_
  refine lv_iload_n hx hb dX6_init_89 rfl (lv_at hl 0 rfl) ?_
  refine lv_bipush (v := (6 : Int32)) hx hb dX6_init_90 (by decide) ?_
  refine lv_icmp_ge (tgt := 114) hx hb dX6_init_92 (by decide) (fun h => absurd h (by decide)) (fun _ => ?_)
  refine lv_aload_n hx hb dX6_init_95 rfl (lv_at hl 1 rfl) ?_
  refine cr_get hx hb hB hown hK hC rfl in_RX6 5 (by decide) q_b513bb73 rfl dX6_init_96 ?_
  refine lv_iload_n hx hb dX6_init_99 rfl (lv_at hl 0 rfl) ?_
  refine cr_new (ci := 3) (fs := [.int 0, .int 0, .null, .null, .null, .int 0]) (C := RX3) (T := TX3) (N := 6) (a := b + 140) hx hb hB hown hK hC in_RX3 tyX3 tyX3_ok q_73a175dc q_68294a22 q_106b7259 rfl (fun j hj => by rcases (show j = 0 ∨ j = 1 ∨ j = 2 ∨ j = 3 ∨ j = 4 ∨ j = 5 by omega) with rfl | rfl | rfl | rfl | rfl | rfl <;> rfl) (by rw [nc17]) (Nat.le_of_ble_eq_true rfl) (Nat.le_of_ble_eq_true rfl) dX6_init_100 (fun H hC => ?_)
  refine W.widen (k := 141) (n := 1376) (Nat.le_of_ble_eq_true rfl) (Nat.le_of_ble_eq_true rfl) ?_
  refine lv_dup hx hb dX6_init_103 rfl ?_
  refine cr_callv (a := (b + 140)) (b1 := (b + 141)) (va_runIN (own := RX6) (host := "WoundEggs") (As := []) (rest := [.ref (b + 140), .int (5 : Int32), .ref (b + 116)]) ⟨hx, hb, hml, hown, hB⟩ (kc_X3_init l E (b + 140) (b + 141)) ⟨va_cnB 0 hB (big_code q_378d4b7c) rfl rfl rfl (hN.2.2.2 _ (List.mem_of_getElem? (i := 3) rfl)) (hB _ q_106b7259) ⟨by decide +kernel, by decide +kernel, by decide +kernel⟩ ⟨Nat.le_of_ble_eq_true rfl, Nat.le_of_ble_eq_true rfl⟩, rfl, hB _ q_44227f2d⟩ ⟨PC.blind E (b + 140) (b + 141) _ _ NWC.calling, fun U hU hWm => ⟨rfl, by rw [hU]; have h := hC.2.1 140 _ (by rw [List.getElem?_append_right (by rw [nc17]; exact Nat.le_refl _)]; rw [nc17]; rfl); exact h, by rw [hU, hC.2.2.1, List.length_append, List.length_singleton, nc17], by omega, hK.moved hWm.alike, hN.moved hWm⟩⟩ rfl rfl hl.1 rfl (lv_room (Nat.le_of_ble_eq_true rfl)) dX6_init_104 ⟨Nat.le_of_ble_eq_true rfl, Nat.le_of_ble_eq_true rfl⟩) (fun _ h => h) hC (fun q h => Or.inr h) (by rw [nc17]) rfl (fun H locs hC => ?_)
  refine W.widen (k := 144) (n := 1496) (Nat.le_of_ble_eq_true rfl) (Nat.le_of_ble_eq_true rfl) ?_
  obtain ⟨cs18, ec18⟩ : ∃ z : List va_E, z = cs17 ++ ((e_X3_init E (b + 141) :: c_X3_init E (b + 141)) : List va_E) := ⟨_, rfl⟩
  rw [← ec18] at hC
  have nc18 : cs18.length = 144 := by rw [ec18, List.length_append, nc17]; rfl
  have g116_18 : cs18[116]? = some (.inl (ecy E 5, 6, .inr (.inr (.inr (.inr (va_up (va_up (va_up (va_up (va_up (fun _ => none) 0 (some (b + 120))) 1 (some (b + 124))) 2 (some (b + 128))) 3 (some (b + 132))) 4 (some (b + 136)))))))) := by rw [ec18, List.getElem?_append_left (by rw [nc17]; decide)]; exact g116_17
  have g119_18 : cs18[119]? = some (.inl (ecy E 6, 6, .inr (.inr (.inr (.inr (fun _ => none)))))) := by rw [ec18, List.getElem?_append_left (by rw [nc17]; decide)]; exact g119_17
  have o18 : cs18[140]? = some (e_X3_init E (b + 141)) := by rw [ec18, List.getElem?_append_right (by rw [nc17]; decide), nc17]; rfl
  refine cr_aast (t := 5) (n := 6) (f := (va_up (va_up (va_up (va_up (va_up (fun _ => none) 0 (some (b + 120))) 1 (some (b + 124))) 2 (some (b + 128))) 3 (some (b + 132))) 4 (some (b + 136)))) (j := 116) (qk := 140) hx hb hK hC (fun q h => Or.inr h) (g116_18) rfl (o18) rfl rfl rfl (by unfold vp_in; decide) dX6_init_107 (fun H locs hC => ?_)
  obtain ⟨cs19, ec19⟩ : ∃ z : List va_E, z = cs18.set 116 (.inl (ecy E 5, 6, .inr (.inr (.inr (.inr (va_up (va_up (va_up (va_up (va_up (va_up (fun _ => none) 0 (some (b + 120))) 1 (some (b + 124))) 2 (some (b + 128))) 3 (some (b + 132))) 4 (some (b + 136))) 5 (some (b + 140)))))))) := ⟨_, rfl⟩
  replace hC : CR E (fun q => q = h0 ∨ b ≤ q) h0 b (.inr (6, [.ref (b + 0), .ref (b + 38), .ref (b + 76), .int (0 : Int32), .ref (b + 114), .ref (b + 116), .int (0 : Int32), .ref (b + 117), .ref (b + 119)])) cs19 s.heap H locs := by rw [ec19]; exact hC
  have nc19 : cs19.length = 144 := by rw [ec19, List.length_set, nc18]
  have g116_19 : cs19[116]? = some (.inl (ecy E 5, 6, .inr (.inr (.inr (.inr (va_up (va_up (va_up (va_up (va_up (va_up (fun _ => none) 0 (some (b + 120))) 1 (some (b + 124))) 2 (some (b + 128))) 3 (some (b + 132))) 4 (some (b + 136))) 5 (some (b + 140)))))))) := by rw [ec19, List.getElem?_set_self (by rw [nc18]; decide)]
  have g119_19 : cs19[119]? = some (.inl (ecy E 6, 6, .inr (.inr (.inr (.inr (fun _ => none)))))) := by rw [ec19, List.getElem?_set_ne (by decide)]; exact g119_18
  refine lv_iinc (v := (6 : Int32)) (lv' := [(1, .int (6 : Int32)), (0, .ref h0)]) hx hb dX6_init_108 hl (k := 0) rfl (by decide) (by decide) rfl (fun ls hl => ?_)
  refine lv_goto (tgt := 89) hx hb dX6_init_111 (by decide) ?_
  refine lv_iload_n hx hb dX6_init_89 rfl (lv_at hl 0 rfl) ?_
  refine lv_bipush (v := (6 : Int32)) hx hb dX6_init_90 (by decide) ?_
  refine lv_icmp_ge (tgt := 114) hx hb dX6_init_92 (by decide) (fun _ => ?_) (fun h => absurd (by decide) h)
  refine lv_iconst (v := (0 : Int32)) hx hb dX6_init_114 (by decide) ?_
  refine lv_istore_n (lv' := [(1, .int (0 : Int32)), (0, .ref h0)]) hx hb dX6_init_115 rfl hl (by decide) rfl (fun ls hl => ?_)
  refine lv_iload_n hx hb dX6_init_116 rfl (lv_at hl 0 rfl) ?_
  refine lv_bipush (v := (6 : Int32)) hx hb dX6_init_117 (by decide) ?_
  refine lv_icmp_ge (tgt := 141) hx hb dX6_init_119 (by decide) (fun h => absurd h (by decide)) (fun _ => ?_)
  refine lv_aload_n hx hb dX6_init_122 rfl (lv_at hl 1 rfl) ?_
  refine cr_get hx hb hB hown hK hC rfl in_RX6 8 (by decide) q_3dcb828b rfl dX6_init_123 ?_
  refine lv_iload_n hx hb dX6_init_126 rfl (lv_at hl 0 rfl) ?_
  refine cr_new (ci := 4) (fs := [.int 0, .int 0, .null]) (C := RX4) (T := TX4) (N := 3) (a := b + 144) hx hb hB hown hK hC in_RX4 tyX4 tyX4_ok q_377c885b q_3900f4a8 q_2b384744 rfl (fun j hj => by rcases (show j = 0 ∨ j = 1 ∨ j = 2 by omega) with rfl | rfl | rfl <;> rfl) (by rw [nc19]) (Nat.le_of_ble_eq_true rfl) (Nat.le_of_ble_eq_true rfl) dX6_init_127 (fun H hC => ?_)
  refine W.widen (k := 145) (n := 1499) (Nat.le_of_ble_eq_true rfl) (Nat.le_of_ble_eq_true rfl) ?_
  refine lv_dup hx hb dX6_init_130 rfl ?_
  refine cr_callv (a := (b + 144)) (b1 := (b + 145)) (va_runIN (own := RX6) (host := "WoundEggs") (As := []) (rest := [.ref (b + 144), .int (0 : Int32), .ref (b + 119)]) ⟨hx, hb, hml, hown, hB⟩ (kc_X4_init l E (b + 144) (b + 145)) ⟨va_cnB 0 hB (big_code q_550b83d2) rfl rfl rfl (hN.2.2.2 _ (List.mem_of_getElem? (i := 4) rfl)) (hB _ q_2b384744) ⟨by decide +kernel, by decide +kernel, by decide +kernel⟩ ⟨Nat.le_of_ble_eq_true rfl, Nat.le_of_ble_eq_true rfl⟩, rfl, hB _ q_2b51a235⟩ ⟨PC.blind E (b + 144) (b + 145) _ _ NWC.calling, fun U hU hWm => ⟨rfl, by rw [hU]; have h := hC.2.1 144 _ (by rw [List.getElem?_append_right (by rw [nc19]; exact Nat.le_refl _)]; rw [nc19]; rfl); exact h, by rw [hU, hC.2.2.1, List.length_append, List.length_singleton, nc19], by omega, hK.moved hWm.alike, hN.moved hWm⟩⟩ rfl rfl hl.1 rfl (lv_room (Nat.le_of_ble_eq_true rfl)) dX6_init_131 ⟨Nat.le_of_ble_eq_true rfl, Nat.le_of_ble_eq_true rfl⟩) (fun _ h => h) hC (fun q h => Or.inr h) (by rw [nc19]) rfl (fun H locs hC => ?_)
  refine W.widen (k := 146) (n := 1559) (Nat.le_of_ble_eq_true rfl) (Nat.le_of_ble_eq_true rfl) ?_
  obtain ⟨cs20, ec20⟩ : ∃ z : List va_E, z = cs19 ++ ((e_X4_init E (b + 145) :: c_X4_init E (b + 145)) : List va_E) := ⟨_, rfl⟩
  rw [← ec20] at hC
  have nc20 : cs20.length = 146 := by rw [ec20, List.length_append, nc19]; rfl
  have g116_20 : cs20[116]? = some (.inl (ecy E 5, 6, .inr (.inr (.inr (.inr (va_up (va_up (va_up (va_up (va_up (va_up (fun _ => none) 0 (some (b + 120))) 1 (some (b + 124))) 2 (some (b + 128))) 3 (some (b + 132))) 4 (some (b + 136))) 5 (some (b + 140)))))))) := by rw [ec20, List.getElem?_append_left (by rw [nc19]; decide)]; exact g116_19
  have g119_20 : cs20[119]? = some (.inl (ecy E 6, 6, .inr (.inr (.inr (.inr (fun _ => none)))))) := by rw [ec20, List.getElem?_append_left (by rw [nc19]; decide)]; exact g119_19
  have o20 : cs20[144]? = some (e_X4_init E (b + 145)) := by rw [ec20, List.getElem?_append_right (by rw [nc19]; decide), nc19]; rfl
  refine cr_aast (t := 6) (n := 6) (f := (fun _ => none)) (j := 119) (qk := 144) hx hb hK hC (fun q h => Or.inr h) (g119_20) rfl (o20) rfl rfl rfl (by unfold vp_in; decide) dX6_init_134 (fun H locs hC => ?_)
  obtain ⟨cs21, ec21⟩ : ∃ z : List va_E, z = cs20.set 119 (.inl (ecy E 6, 6, .inr (.inr (.inr (.inr (va_up (fun _ => none) 0 (some (b + 144)))))))) := ⟨_, rfl⟩
  replace hC : CR E (fun q => q = h0 ∨ b ≤ q) h0 b (.inr (6, [.ref (b + 0), .ref (b + 38), .ref (b + 76), .int (0 : Int32), .ref (b + 114), .ref (b + 116), .int (0 : Int32), .ref (b + 117), .ref (b + 119)])) cs21 s.heap H locs := by rw [ec21]; exact hC
  have nc21 : cs21.length = 146 := by rw [ec21, List.length_set, nc20]
  have g116_21 : cs21[116]? = some (.inl (ecy E 5, 6, .inr (.inr (.inr (.inr (va_up (va_up (va_up (va_up (va_up (va_up (fun _ => none) 0 (some (b + 120))) 1 (some (b + 124))) 2 (some (b + 128))) 3 (some (b + 132))) 4 (some (b + 136))) 5 (some (b + 140)))))))) := by rw [ec21, List.getElem?_set_ne (by decide)]; exact g116_20
  have g119_21 : cs21[119]? = some (.inl (ecy E 6, 6, .inr (.inr (.inr (.inr (va_up (fun _ => none) 0 (some (b + 144)))))))) := by rw [ec21, List.getElem?_set_self (by rw [nc20]; decide)]
  refine lv_iinc (v := (1 : Int32)) (lv' := [(1, .int (1 : Int32)), (0, .ref h0)]) hx hb dX6_init_135 hl (k := 0) rfl (by decide) (by decide) rfl (fun ls hl => ?_)
  refine lv_goto (tgt := 116) hx hb dX6_init_138 (by decide) ?_
  refine lv_iload_n hx hb dX6_init_116 rfl (lv_at hl 0 rfl) ?_
  refine lv_bipush (v := (6 : Int32)) hx hb dX6_init_117 (by decide) ?_
  refine lv_icmp_ge (tgt := 141) hx hb dX6_init_119 (by decide) (fun h => absurd h (by decide)) (fun _ => ?_)
  refine lv_aload_n hx hb dX6_init_122 rfl (lv_at hl 1 rfl) ?_
  refine cr_get hx hb hB hown hK hC rfl in_RX6 8 (by decide) q_3dcb828b rfl dX6_init_123 ?_
  refine lv_iload_n hx hb dX6_init_126 rfl (lv_at hl 0 rfl) ?_
  refine cr_new (ci := 4) (fs := [.int 0, .int 0, .null]) (C := RX4) (T := TX4) (N := 3) (a := b + 146) hx hb hB hown hK hC in_RX4 tyX4 tyX4_ok q_377c885b q_3900f4a8 q_2b384744 rfl (fun j hj => by rcases (show j = 0 ∨ j = 1 ∨ j = 2 by omega) with rfl | rfl | rfl <;> rfl) (by rw [nc21]) (Nat.le_of_ble_eq_true rfl) (Nat.le_of_ble_eq_true rfl) dX6_init_127 (fun H hC => ?_)
  refine W.widen (k := 147) (n := 1562) (Nat.le_of_ble_eq_true rfl) (Nat.le_of_ble_eq_true rfl) ?_
  refine lv_dup hx hb dX6_init_130 rfl ?_
  refine cr_callv (a := (b + 146)) (b1 := (b + 147)) (va_runIN (own := RX6) (host := "WoundEggs") (As := []) (rest := [.ref (b + 146), .int (1 : Int32), .ref (b + 119)]) ⟨hx, hb, hml, hown, hB⟩ (kc_X4_init l E (b + 146) (b + 147)) ⟨va_cnB 0 hB (big_code q_550b83d2) rfl rfl rfl (hN.2.2.2 _ (List.mem_of_getElem? (i := 4) rfl)) (hB _ q_2b384744) ⟨by decide +kernel, by decide +kernel, by decide +kernel⟩ ⟨Nat.le_of_ble_eq_true rfl, Nat.le_of_ble_eq_true rfl⟩, rfl, hB _ q_2b51a235⟩ ⟨PC.blind E (b + 146) (b + 147) _ _ NWC.calling, fun U hU hWm => ⟨rfl, by rw [hU]; have h := hC.2.1 146 _ (by rw [List.getElem?_append_right (by rw [nc21]; exact Nat.le_refl _)]; rw [nc21]; rfl); exact h, by rw [hU, hC.2.2.1, List.length_append, List.length_singleton, nc21], by omega, hK.moved hWm.alike, hN.moved hWm⟩⟩ rfl rfl hl.1 rfl (lv_room (Nat.le_of_ble_eq_true rfl)) dX6_init_131 ⟨Nat.le_of_ble_eq_true rfl, Nat.le_of_ble_eq_true rfl⟩) (fun _ h => h) hC (fun q h => Or.inr h) (by rw [nc21]) rfl (fun H locs hC => ?_)
  refine W.widen (k := 148) (n := 1622) (Nat.le_of_ble_eq_true rfl) (Nat.le_of_ble_eq_true rfl) ?_
  obtain ⟨cs22, ec22⟩ : ∃ z : List va_E, z = cs21 ++ ((e_X4_init E (b + 147) :: c_X4_init E (b + 147)) : List va_E) := ⟨_, rfl⟩
  rw [← ec22] at hC
  have nc22 : cs22.length = 148 := by rw [ec22, List.length_append, nc21]; rfl
  have g116_22 : cs22[116]? = some (.inl (ecy E 5, 6, .inr (.inr (.inr (.inr (va_up (va_up (va_up (va_up (va_up (va_up (fun _ => none) 0 (some (b + 120))) 1 (some (b + 124))) 2 (some (b + 128))) 3 (some (b + 132))) 4 (some (b + 136))) 5 (some (b + 140)))))))) := by rw [ec22, List.getElem?_append_left (by rw [nc21]; decide)]; exact g116_21
  have g119_22 : cs22[119]? = some (.inl (ecy E 6, 6, .inr (.inr (.inr (.inr (va_up (fun _ => none) 0 (some (b + 144)))))))) := by rw [ec22, List.getElem?_append_left (by rw [nc21]; decide)]; exact g119_21
  have o22 : cs22[146]? = some (e_X4_init E (b + 147)) := by rw [ec22, List.getElem?_append_right (by rw [nc21]; decide), nc21]; rfl
  refine cr_aast (t := 6) (n := 6) (f := (va_up (fun _ => none) 0 (some (b + 144)))) (j := 119) (qk := 146) hx hb hK hC (fun q h => Or.inr h) (g119_22) rfl (o22) rfl rfl rfl (by unfold vp_in; decide) dX6_init_134 (fun H locs hC => ?_)
  obtain ⟨cs23, ec23⟩ : ∃ z : List va_E, z = cs22.set 119 (.inl (ecy E 6, 6, .inr (.inr (.inr (.inr (va_up (va_up (fun _ => none) 0 (some (b + 144))) 1 (some (b + 146)))))))) := ⟨_, rfl⟩
  replace hC : CR E (fun q => q = h0 ∨ b ≤ q) h0 b (.inr (6, [.ref (b + 0), .ref (b + 38), .ref (b + 76), .int (0 : Int32), .ref (b + 114), .ref (b + 116), .int (0 : Int32), .ref (b + 117), .ref (b + 119)])) cs23 s.heap H locs := by rw [ec23]; exact hC
  have nc23 : cs23.length = 148 := by rw [ec23, List.length_set, nc22]
  have g116_23 : cs23[116]? = some (.inl (ecy E 5, 6, .inr (.inr (.inr (.inr (va_up (va_up (va_up (va_up (va_up (va_up (fun _ => none) 0 (some (b + 120))) 1 (some (b + 124))) 2 (some (b + 128))) 3 (some (b + 132))) 4 (some (b + 136))) 5 (some (b + 140)))))))) := by rw [ec23, List.getElem?_set_ne (by decide)]; exact g116_22
  have g119_23 : cs23[119]? = some (.inl (ecy E 6, 6, .inr (.inr (.inr (.inr (va_up (va_up (fun _ => none) 0 (some (b + 144))) 1 (some (b + 146)))))))) := by rw [ec23, List.getElem?_set_self (by rw [nc22]; decide)]
  refine lv_iinc (v := (2 : Int32)) (lv' := [(1, .int (2 : Int32)), (0, .ref h0)]) hx hb dX6_init_135 hl (k := 0) rfl (by decide) (by decide) rfl (fun ls hl => ?_)
  refine lv_goto (tgt := 116) hx hb dX6_init_138 (by decide) ?_
  refine lv_iload_n hx hb dX6_init_116 rfl (lv_at hl 0 rfl) ?_
  refine lv_bipush (v := (6 : Int32)) hx hb dX6_init_117 (by decide) ?_
  refine lv_icmp_ge (tgt := 141) hx hb dX6_init_119 (by decide) (fun h => absurd h (by decide)) (fun _ => ?_)
  refine lv_aload_n hx hb dX6_init_122 rfl (lv_at hl 1 rfl) ?_
  refine cr_get hx hb hB hown hK hC rfl in_RX6 8 (by decide) q_3dcb828b rfl dX6_init_123 ?_
  refine lv_iload_n hx hb dX6_init_126 rfl (lv_at hl 0 rfl) ?_
  refine cr_new (ci := 4) (fs := [.int 0, .int 0, .null]) (C := RX4) (T := TX4) (N := 3) (a := b + 148) hx hb hB hown hK hC in_RX4 tyX4 tyX4_ok q_377c885b q_3900f4a8 q_2b384744 rfl (fun j hj => by rcases (show j = 0 ∨ j = 1 ∨ j = 2 by omega) with rfl | rfl | rfl <;> rfl) (by rw [nc23]) (Nat.le_of_ble_eq_true rfl) (Nat.le_of_ble_eq_true rfl) dX6_init_127 (fun H hC => ?_)
  refine W.widen (k := 149) (n := 1625) (Nat.le_of_ble_eq_true rfl) (Nat.le_of_ble_eq_true rfl) ?_
  refine lv_dup hx hb dX6_init_130 rfl ?_
  refine cr_callv (a := (b + 148)) (b1 := (b + 149)) (va_runIN (own := RX6) (host := "WoundEggs") (As := []) (rest := [.ref (b + 148), .int (2 : Int32), .ref (b + 119)]) ⟨hx, hb, hml, hown, hB⟩ (kc_X4_init l E (b + 148) (b + 149)) ⟨va_cnB 0 hB (big_code q_550b83d2) rfl rfl rfl (hN.2.2.2 _ (List.mem_of_getElem? (i := 4) rfl)) (hB _ q_2b384744) ⟨by decide +kernel, by decide +kernel, by decide +kernel⟩ ⟨Nat.le_of_ble_eq_true rfl, Nat.le_of_ble_eq_true rfl⟩, rfl, hB _ q_2b51a235⟩ ⟨PC.blind E (b + 148) (b + 149) _ _ NWC.calling, fun U hU hWm => ⟨rfl, by rw [hU]; have h := hC.2.1 148 _ (by rw [List.getElem?_append_right (by rw [nc23]; exact Nat.le_refl _)]; rw [nc23]; rfl); exact h, by rw [hU, hC.2.2.1, List.length_append, List.length_singleton, nc23], by omega, hK.moved hWm.alike, hN.moved hWm⟩⟩ rfl rfl hl.1 rfl (lv_room (Nat.le_of_ble_eq_true rfl)) dX6_init_131 ⟨Nat.le_of_ble_eq_true rfl, Nat.le_of_ble_eq_true rfl⟩) (fun _ h => h) hC (fun q h => Or.inr h) (by rw [nc23]) rfl (fun H locs hC => ?_)
  refine W.widen (k := 150) (n := 1685) (Nat.le_of_ble_eq_true rfl) (Nat.le_of_ble_eq_true rfl) ?_
  obtain ⟨cs24, ec24⟩ : ∃ z : List va_E, z = cs23 ++ ((e_X4_init E (b + 149) :: c_X4_init E (b + 149)) : List va_E) := ⟨_, rfl⟩
  rw [← ec24] at hC
  have nc24 : cs24.length = 150 := by rw [ec24, List.length_append, nc23]; rfl
  have g116_24 : cs24[116]? = some (.inl (ecy E 5, 6, .inr (.inr (.inr (.inr (va_up (va_up (va_up (va_up (va_up (va_up (fun _ => none) 0 (some (b + 120))) 1 (some (b + 124))) 2 (some (b + 128))) 3 (some (b + 132))) 4 (some (b + 136))) 5 (some (b + 140)))))))) := by rw [ec24, List.getElem?_append_left (by rw [nc23]; decide)]; exact g116_23
  have g119_24 : cs24[119]? = some (.inl (ecy E 6, 6, .inr (.inr (.inr (.inr (va_up (va_up (fun _ => none) 0 (some (b + 144))) 1 (some (b + 146)))))))) := by rw [ec24, List.getElem?_append_left (by rw [nc23]; decide)]; exact g119_23
  have o24 : cs24[148]? = some (e_X4_init E (b + 149)) := by rw [ec24, List.getElem?_append_right (by rw [nc23]; decide), nc23]; rfl
  refine cr_aast (t := 6) (n := 6) (f := (va_up (va_up (fun _ => none) 0 (some (b + 144))) 1 (some (b + 146)))) (j := 119) (qk := 148) hx hb hK hC (fun q h => Or.inr h) (g119_24) rfl (o24) rfl rfl rfl (by unfold vp_in; decide) dX6_init_134 (fun H locs hC => ?_)
  obtain ⟨cs25, ec25⟩ : ∃ z : List va_E, z = cs24.set 119 (.inl (ecy E 6, 6, .inr (.inr (.inr (.inr (va_up (va_up (va_up (fun _ => none) 0 (some (b + 144))) 1 (some (b + 146))) 2 (some (b + 148)))))))) := ⟨_, rfl⟩
  replace hC : CR E (fun q => q = h0 ∨ b ≤ q) h0 b (.inr (6, [.ref (b + 0), .ref (b + 38), .ref (b + 76), .int (0 : Int32), .ref (b + 114), .ref (b + 116), .int (0 : Int32), .ref (b + 117), .ref (b + 119)])) cs25 s.heap H locs := by rw [ec25]; exact hC
  have nc25 : cs25.length = 150 := by rw [ec25, List.length_set, nc24]
  have g116_25 : cs25[116]? = some (.inl (ecy E 5, 6, .inr (.inr (.inr (.inr (va_up (va_up (va_up (va_up (va_up (va_up (fun _ => none) 0 (some (b + 120))) 1 (some (b + 124))) 2 (some (b + 128))) 3 (some (b + 132))) 4 (some (b + 136))) 5 (some (b + 140)))))))) := by rw [ec25, List.getElem?_set_ne (by decide)]; exact g116_24
  have g119_25 : cs25[119]? = some (.inl (ecy E 6, 6, .inr (.inr (.inr (.inr (va_up (va_up (va_up (fun _ => none) 0 (some (b + 144))) 1 (some (b + 146))) 2 (some (b + 148)))))))) := by rw [ec25, List.getElem?_set_self (by rw [nc24]; decide)]
  refine lv_iinc (v := (3 : Int32)) (lv' := [(1, .int (3 : Int32)), (0, .ref h0)]) hx hb dX6_init_135 hl (k := 0) rfl (by decide) (by decide) rfl (fun ls hl => ?_)
  refine lv_goto (tgt := 116) hx hb dX6_init_138 (by decide) ?_
  refine lv_iload_n hx hb dX6_init_116 rfl (lv_at hl 0 rfl) ?_
  refine lv_bipush (v := (6 : Int32)) hx hb dX6_init_117 (by decide) ?_
  refine lv_icmp_ge (tgt := 141) hx hb dX6_init_119 (by decide) (fun h => absurd h (by decide)) (fun _ => ?_)
  refine lv_aload_n hx hb dX6_init_122 rfl (lv_at hl 1 rfl) ?_
  refine cr_get hx hb hB hown hK hC rfl in_RX6 8 (by decide) q_3dcb828b rfl dX6_init_123 ?_
  refine lv_iload_n hx hb dX6_init_126 rfl (lv_at hl 0 rfl) ?_
  refine cr_new (ci := 4) (fs := [.int 0, .int 0, .null]) (C := RX4) (T := TX4) (N := 3) (a := b + 150) hx hb hB hown hK hC in_RX4 tyX4 tyX4_ok q_377c885b q_3900f4a8 q_2b384744 rfl (fun j hj => by rcases (show j = 0 ∨ j = 1 ∨ j = 2 by omega) with rfl | rfl | rfl <;> rfl) (by rw [nc25]) (Nat.le_of_ble_eq_true rfl) (Nat.le_of_ble_eq_true rfl) dX6_init_127 (fun H hC => ?_)
  refine W.widen (k := 151) (n := 1688) (Nat.le_of_ble_eq_true rfl) (Nat.le_of_ble_eq_true rfl) ?_
  refine lv_dup hx hb dX6_init_130 rfl ?_
  refine cr_callv (a := (b + 150)) (b1 := (b + 151)) (va_runIN (own := RX6) (host := "WoundEggs") (As := []) (rest := [.ref (b + 150), .int (3 : Int32), .ref (b + 119)]) ⟨hx, hb, hml, hown, hB⟩ (kc_X4_init l E (b + 150) (b + 151)) ⟨va_cnB 0 hB (big_code q_550b83d2) rfl rfl rfl (hN.2.2.2 _ (List.mem_of_getElem? (i := 4) rfl)) (hB _ q_2b384744) ⟨by decide +kernel, by decide +kernel, by decide +kernel⟩ ⟨Nat.le_of_ble_eq_true rfl, Nat.le_of_ble_eq_true rfl⟩, rfl, hB _ q_2b51a235⟩ ⟨PC.blind E (b + 150) (b + 151) _ _ NWC.calling, fun U hU hWm => ⟨rfl, by rw [hU]; have h := hC.2.1 150 _ (by rw [List.getElem?_append_right (by rw [nc25]; exact Nat.le_refl _)]; rw [nc25]; rfl); exact h, by rw [hU, hC.2.2.1, List.length_append, List.length_singleton, nc25], by omega, hK.moved hWm.alike, hN.moved hWm⟩⟩ rfl rfl hl.1 rfl (lv_room (Nat.le_of_ble_eq_true rfl)) dX6_init_131 ⟨Nat.le_of_ble_eq_true rfl, Nat.le_of_ble_eq_true rfl⟩) (fun _ h => h) hC (fun q h => Or.inr h) (by rw [nc25]) rfl (fun H locs hC => ?_)
  refine W.widen (k := 152) (n := 1748) (Nat.le_of_ble_eq_true rfl) (Nat.le_of_ble_eq_true rfl) ?_
  obtain ⟨cs26, ec26⟩ : ∃ z : List va_E, z = cs25 ++ ((e_X4_init E (b + 151) :: c_X4_init E (b + 151)) : List va_E) := ⟨_, rfl⟩
  rw [← ec26] at hC
  have nc26 : cs26.length = 152 := by rw [ec26, List.length_append, nc25]; rfl
  have g116_26 : cs26[116]? = some (.inl (ecy E 5, 6, .inr (.inr (.inr (.inr (va_up (va_up (va_up (va_up (va_up (va_up (fun _ => none) 0 (some (b + 120))) 1 (some (b + 124))) 2 (some (b + 128))) 3 (some (b + 132))) 4 (some (b + 136))) 5 (some (b + 140)))))))) := by rw [ec26, List.getElem?_append_left (by rw [nc25]; decide)]; exact g116_25
  have g119_26 : cs26[119]? = some (.inl (ecy E 6, 6, .inr (.inr (.inr (.inr (va_up (va_up (va_up (fun _ => none) 0 (some (b + 144))) 1 (some (b + 146))) 2 (some (b + 148)))))))) := by rw [ec26, List.getElem?_append_left (by rw [nc25]; decide)]; exact g119_25
  have o26 : cs26[150]? = some (e_X4_init E (b + 151)) := by rw [ec26, List.getElem?_append_right (by rw [nc25]; decide), nc25]; rfl
  refine cr_aast (t := 6) (n := 6) (f := (va_up (va_up (va_up (fun _ => none) 0 (some (b + 144))) 1 (some (b + 146))) 2 (some (b + 148)))) (j := 119) (qk := 150) hx hb hK hC (fun q h => Or.inr h) (g119_26) rfl (o26) rfl rfl rfl (by unfold vp_in; decide) dX6_init_134 (fun H locs hC => ?_)
  obtain ⟨cs27, ec27⟩ : ∃ z : List va_E, z = cs26.set 119 (.inl (ecy E 6, 6, .inr (.inr (.inr (.inr (va_up (va_up (va_up (va_up (fun _ => none) 0 (some (b + 144))) 1 (some (b + 146))) 2 (some (b + 148))) 3 (some (b + 150)))))))) := ⟨_, rfl⟩
  replace hC : CR E (fun q => q = h0 ∨ b ≤ q) h0 b (.inr (6, [.ref (b + 0), .ref (b + 38), .ref (b + 76), .int (0 : Int32), .ref (b + 114), .ref (b + 116), .int (0 : Int32), .ref (b + 117), .ref (b + 119)])) cs27 s.heap H locs := by rw [ec27]; exact hC
  have nc27 : cs27.length = 152 := by rw [ec27, List.length_set, nc26]
  have g116_27 : cs27[116]? = some (.inl (ecy E 5, 6, .inr (.inr (.inr (.inr (va_up (va_up (va_up (va_up (va_up (va_up (fun _ => none) 0 (some (b + 120))) 1 (some (b + 124))) 2 (some (b + 128))) 3 (some (b + 132))) 4 (some (b + 136))) 5 (some (b + 140)))))))) := by rw [ec27, List.getElem?_set_ne (by decide)]; exact g116_26
  have g119_27 : cs27[119]? = some (.inl (ecy E 6, 6, .inr (.inr (.inr (.inr (va_up (va_up (va_up (va_up (fun _ => none) 0 (some (b + 144))) 1 (some (b + 146))) 2 (some (b + 148))) 3 (some (b + 150)))))))) := by rw [ec27, List.getElem?_set_self (by rw [nc26]; decide)]
  refine lv_iinc (v := (4 : Int32)) (lv' := [(1, .int (4 : Int32)), (0, .ref h0)]) hx hb dX6_init_135 hl (k := 0) rfl (by decide) (by decide) rfl (fun ls hl => ?_)
  refine lv_goto (tgt := 116) hx hb dX6_init_138 (by decide) ?_
  refine lv_iload_n hx hb dX6_init_116 rfl (lv_at hl 0 rfl) ?_
  refine lv_bipush (v := (6 : Int32)) hx hb dX6_init_117 (by decide) ?_
  refine lv_icmp_ge (tgt := 141) hx hb dX6_init_119 (by decide) (fun h => absurd h (by decide)) (fun _ => ?_)
  refine lv_aload_n hx hb dX6_init_122 rfl (lv_at hl 1 rfl) ?_
  refine cr_get hx hb hB hown hK hC rfl in_RX6 8 (by decide) q_3dcb828b rfl dX6_init_123 ?_
  refine lv_iload_n hx hb dX6_init_126 rfl (lv_at hl 0 rfl) ?_
  refine cr_new (ci := 4) (fs := [.int 0, .int 0, .null]) (C := RX4) (T := TX4) (N := 3) (a := b + 152) hx hb hB hown hK hC in_RX4 tyX4 tyX4_ok q_377c885b q_3900f4a8 q_2b384744 rfl (fun j hj => by rcases (show j = 0 ∨ j = 1 ∨ j = 2 by omega) with rfl | rfl | rfl <;> rfl) (by rw [nc27]) (Nat.le_of_ble_eq_true rfl) (Nat.le_of_ble_eq_true rfl) dX6_init_127 (fun H hC => ?_)
  refine W.widen (k := 153) (n := 1751) (Nat.le_of_ble_eq_true rfl) (Nat.le_of_ble_eq_true rfl) ?_
  refine lv_dup hx hb dX6_init_130 rfl ?_
  refine cr_callv (a := (b + 152)) (b1 := (b + 153)) (va_runIN (own := RX6) (host := "WoundEggs") (As := []) (rest := [.ref (b + 152), .int (4 : Int32), .ref (b + 119)]) ⟨hx, hb, hml, hown, hB⟩ (kc_X4_init l E (b + 152) (b + 153)) ⟨va_cnB 0 hB (big_code q_550b83d2) rfl rfl rfl (hN.2.2.2 _ (List.mem_of_getElem? (i := 4) rfl)) (hB _ q_2b384744) ⟨by decide +kernel, by decide +kernel, by decide +kernel⟩ ⟨Nat.le_of_ble_eq_true rfl, Nat.le_of_ble_eq_true rfl⟩, rfl, hB _ q_2b51a235⟩ ⟨PC.blind E (b + 152) (b + 153) _ _ NWC.calling, fun U hU hWm => ⟨rfl, by rw [hU]; have h := hC.2.1 152 _ (by rw [List.getElem?_append_right (by rw [nc27]; exact Nat.le_refl _)]; rw [nc27]; rfl); exact h, by rw [hU, hC.2.2.1, List.length_append, List.length_singleton, nc27], by omega, hK.moved hWm.alike, hN.moved hWm⟩⟩ rfl rfl hl.1 rfl (lv_room (Nat.le_of_ble_eq_true rfl)) dX6_init_131 ⟨Nat.le_of_ble_eq_true rfl, Nat.le_of_ble_eq_true rfl⟩) (fun _ h => h) hC (fun q h => Or.inr h) (by rw [nc27]) rfl (fun H locs hC => ?_)
  refine W.widen (k := 154) (n := 1811) (Nat.le_of_ble_eq_true rfl) (Nat.le_of_ble_eq_true rfl) ?_
  obtain ⟨cs28, ec28⟩ : ∃ z : List va_E, z = cs27 ++ ((e_X4_init E (b + 153) :: c_X4_init E (b + 153)) : List va_E) := ⟨_, rfl⟩
  rw [← ec28] at hC
  have nc28 : cs28.length = 154 := by rw [ec28, List.length_append, nc27]; rfl
  have g116_28 : cs28[116]? = some (.inl (ecy E 5, 6, .inr (.inr (.inr (.inr (va_up (va_up (va_up (va_up (va_up (va_up (fun _ => none) 0 (some (b + 120))) 1 (some (b + 124))) 2 (some (b + 128))) 3 (some (b + 132))) 4 (some (b + 136))) 5 (some (b + 140)))))))) := by rw [ec28, List.getElem?_append_left (by rw [nc27]; decide)]; exact g116_27
  have g119_28 : cs28[119]? = some (.inl (ecy E 6, 6, .inr (.inr (.inr (.inr (va_up (va_up (va_up (va_up (fun _ => none) 0 (some (b + 144))) 1 (some (b + 146))) 2 (some (b + 148))) 3 (some (b + 150)))))))) := by rw [ec28, List.getElem?_append_left (by rw [nc27]; decide)]; exact g119_27
  have o28 : cs28[152]? = some (e_X4_init E (b + 153)) := by rw [ec28, List.getElem?_append_right (by rw [nc27]; decide), nc27]; rfl
  refine cr_aast (t := 6) (n := 6) (f := (va_up (va_up (va_up (va_up (fun _ => none) 0 (some (b + 144))) 1 (some (b + 146))) 2 (some (b + 148))) 3 (some (b + 150)))) (j := 119) (qk := 152) hx hb hK hC (fun q h => Or.inr h) (g119_28) rfl (o28) rfl rfl rfl (by unfold vp_in; decide) dX6_init_134 (fun H locs hC => ?_)
  obtain ⟨cs29, ec29⟩ : ∃ z : List va_E, z = cs28.set 119 (.inl (ecy E 6, 6, .inr (.inr (.inr (.inr (va_up (va_up (va_up (va_up (va_up (fun _ => none) 0 (some (b + 144))) 1 (some (b + 146))) 2 (some (b + 148))) 3 (some (b + 150))) 4 (some (b + 152)))))))) := ⟨_, rfl⟩
  replace hC : CR E (fun q => q = h0 ∨ b ≤ q) h0 b (.inr (6, [.ref (b + 0), .ref (b + 38), .ref (b + 76), .int (0 : Int32), .ref (b + 114), .ref (b + 116), .int (0 : Int32), .ref (b + 117), .ref (b + 119)])) cs29 s.heap H locs := by rw [ec29]; exact hC
  have nc29 : cs29.length = 154 := by rw [ec29, List.length_set, nc28]
  have g116_29 : cs29[116]? = some (.inl (ecy E 5, 6, .inr (.inr (.inr (.inr (va_up (va_up (va_up (va_up (va_up (va_up (fun _ => none) 0 (some (b + 120))) 1 (some (b + 124))) 2 (some (b + 128))) 3 (some (b + 132))) 4 (some (b + 136))) 5 (some (b + 140)))))))) := by rw [ec29, List.getElem?_set_ne (by decide)]; exact g116_28
  have g119_29 : cs29[119]? = some (.inl (ecy E 6, 6, .inr (.inr (.inr (.inr (va_up (va_up (va_up (va_up (va_up (fun _ => none) 0 (some (b + 144))) 1 (some (b + 146))) 2 (some (b + 148))) 3 (some (b + 150))) 4 (some (b + 152)))))))) := by rw [ec29, List.getElem?_set_self (by rw [nc28]; decide)]
  refine lv_iinc (v := (5 : Int32)) (lv' := [(1, .int (5 : Int32)), (0, .ref h0)]) hx hb dX6_init_135 hl (k := 0) rfl (by decide) (by decide) rfl (fun ls hl => ?_)
  refine lv_goto (tgt := 116) hx hb dX6_init_138 (by decide) ?_
  refine lv_iload_n hx hb dX6_init_116 rfl (lv_at hl 0 rfl) ?_
  refine lv_bipush (v := (6 : Int32)) hx hb dX6_init_117 (by decide) ?_
  refine lv_icmp_ge (tgt := 141) hx hb dX6_init_119 (by decide) (fun h => absurd h (by decide)) (fun _ => ?_)
  refine lv_aload_n hx hb dX6_init_122 rfl (lv_at hl 1 rfl) ?_
  refine cr_get hx hb hB hown hK hC rfl in_RX6 8 (by decide) q_3dcb828b rfl dX6_init_123 ?_
  refine lv_iload_n hx hb dX6_init_126 rfl (lv_at hl 0 rfl) ?_
  refine cr_new (ci := 4) (fs := [.int 0, .int 0, .null]) (C := RX4) (T := TX4) (N := 3) (a := b + 154) hx hb hB hown hK hC in_RX4 tyX4 tyX4_ok q_377c885b q_3900f4a8 q_2b384744 rfl (fun j hj => by rcases (show j = 0 ∨ j = 1 ∨ j = 2 by omega) with rfl | rfl | rfl <;> rfl) (by rw [nc29]) (Nat.le_of_ble_eq_true rfl) (Nat.le_of_ble_eq_true rfl) dX6_init_127 (fun H hC => ?_)
  refine W.widen (k := 155) (n := 1814) (Nat.le_of_ble_eq_true rfl) (Nat.le_of_ble_eq_true rfl) ?_
  refine lv_dup hx hb dX6_init_130 rfl ?_
  refine cr_callv (a := (b + 154)) (b1 := (b + 155)) (va_runIN (own := RX6) (host := "WoundEggs") (As := []) (rest := [.ref (b + 154), .int (5 : Int32), .ref (b + 119)]) ⟨hx, hb, hml, hown, hB⟩ (kc_X4_init l E (b + 154) (b + 155)) ⟨va_cnB 0 hB (big_code q_550b83d2) rfl rfl rfl (hN.2.2.2 _ (List.mem_of_getElem? (i := 4) rfl)) (hB _ q_2b384744) ⟨by decide +kernel, by decide +kernel, by decide +kernel⟩ ⟨Nat.le_of_ble_eq_true rfl, Nat.le_of_ble_eq_true rfl⟩, rfl, hB _ q_2b51a235⟩ ⟨PC.blind E (b + 154) (b + 155) _ _ NWC.calling, fun U hU hWm => ⟨rfl, by rw [hU]; have h := hC.2.1 154 _ (by rw [List.getElem?_append_right (by rw [nc29]; exact Nat.le_refl _)]; rw [nc29]; rfl); exact h, by rw [hU, hC.2.2.1, List.length_append, List.length_singleton, nc29], by omega, hK.moved hWm.alike, hN.moved hWm⟩⟩ rfl rfl hl.1 rfl (lv_room (Nat.le_of_ble_eq_true rfl)) dX6_init_131 ⟨Nat.le_of_ble_eq_true rfl, Nat.le_of_ble_eq_true rfl⟩) (fun _ h => h) hC (fun q h => Or.inr h) (by rw [nc29]) rfl (fun H locs hC => ?_)
  refine W.widen (k := 156) (n := 1874) (Nat.le_of_ble_eq_true rfl) (Nat.le_of_ble_eq_true rfl) ?_
  obtain ⟨cs30, ec30⟩ : ∃ z : List va_E, z = cs29 ++ ((e_X4_init E (b + 155) :: c_X4_init E (b + 155)) : List va_E) := ⟨_, rfl⟩
  rw [← ec30] at hC
  have nc30 : cs30.length = 156 := by rw [ec30, List.length_append, nc29]; rfl
  have g116_30 : cs30[116]? = some (.inl (ecy E 5, 6, .inr (.inr (.inr (.inr (va_up (va_up (va_up (va_up (va_up (va_up (fun _ => none) 0 (some (b + 120))) 1 (some (b + 124))) 2 (some (b + 128))) 3 (some (b + 132))) 4 (some (b + 136))) 5 (some (b + 140)))))))) := by rw [ec30, List.getElem?_append_left (by rw [nc29]; decide)]; exact g116_29
  have g119_30 : cs30[119]? = some (.inl (ecy E 6, 6, .inr (.inr (.inr (.inr (va_up (va_up (va_up (va_up (va_up (fun _ => none) 0 (some (b + 144))) 1 (some (b + 146))) 2 (some (b + 148))) 3 (some (b + 150))) 4 (some (b + 152)))))))) := by rw [ec30, List.getElem?_append_left (by rw [nc29]; decide)]; exact g119_29
  have o30 : cs30[154]? = some (e_X4_init E (b + 155)) := by rw [ec30, List.getElem?_append_right (by rw [nc29]; decide), nc29]; rfl
  refine cr_aast (t := 6) (n := 6) (f := (va_up (va_up (va_up (va_up (va_up (fun _ => none) 0 (some (b + 144))) 1 (some (b + 146))) 2 (some (b + 148))) 3 (some (b + 150))) 4 (some (b + 152)))) (j := 119) (qk := 154) hx hb hK hC (fun q h => Or.inr h) (g119_30) rfl (o30) rfl rfl rfl (by unfold vp_in; decide) dX6_init_134 (fun H locs hC => ?_)
  obtain ⟨cs31, ec31⟩ : ∃ z : List va_E, z = cs30.set 119 (.inl (ecy E 6, 6, .inr (.inr (.inr (.inr (va_up (va_up (va_up (va_up (va_up (va_up (fun _ => none) 0 (some (b + 144))) 1 (some (b + 146))) 2 (some (b + 148))) 3 (some (b + 150))) 4 (some (b + 152))) 5 (some (b + 154)))))))) := ⟨_, rfl⟩
  replace hC : CR E (fun q => q = h0 ∨ b ≤ q) h0 b (.inr (6, [.ref (b + 0), .ref (b + 38), .ref (b + 76), .int (0 : Int32), .ref (b + 114), .ref (b + 116), .int (0 : Int32), .ref (b + 117), .ref (b + 119)])) cs31 s.heap H locs := by rw [ec31]; exact hC
  have nc31 : cs31.length = 156 := by rw [ec31, List.length_set, nc30]
  have g116_31 : cs31[116]? = some (.inl (ecy E 5, 6, .inr (.inr (.inr (.inr (va_up (va_up (va_up (va_up (va_up (va_up (fun _ => none) 0 (some (b + 120))) 1 (some (b + 124))) 2 (some (b + 128))) 3 (some (b + 132))) 4 (some (b + 136))) 5 (some (b + 140)))))))) := by rw [ec31, List.getElem?_set_ne (by decide)]; exact g116_30
  have g119_31 : cs31[119]? = some (.inl (ecy E 6, 6, .inr (.inr (.inr (.inr (va_up (va_up (va_up (va_up (va_up (va_up (fun _ => none) 0 (some (b + 144))) 1 (some (b + 146))) 2 (some (b + 148))) 3 (some (b + 150))) 4 (some (b + 152))) 5 (some (b + 154)))))))) := by rw [ec31, List.getElem?_set_self (by rw [nc30]; decide)]
  refine lv_iinc (v := (6 : Int32)) (lv' := [(1, .int (6 : Int32)), (0, .ref h0)]) hx hb dX6_init_135 hl (k := 0) rfl (by decide) (by decide) rfl (fun ls hl => ?_)
  refine lv_goto (tgt := 116) hx hb dX6_init_138 (by decide) ?_
  refine lv_iload_n hx hb dX6_init_116 rfl (lv_at hl 0 rfl) ?_
  refine lv_bipush (v := (6 : Int32)) hx hb dX6_init_117 (by decide) ?_
  refine lv_icmp_ge (tgt := 141) hx hb dX6_init_119 (by decide) (fun _ => ?_) (fun h => absurd (by decide) h)
  have hC : CR E (fun q => q = h0 ∨ b ≤ q) h0 b (e_X6_init E b) (c_X6_init E b) s.heap H locs := by
    have h : cs31 = c_X6_init E b := by rw [ec31, ec30, ec29, ec28, ec27, ec26, ec25, ec24, ec23, ec22, ec21, ec20, ec19, ec18, ec17, ec16, ec15, ec14, ec13, ec12, ec11, ec10, ec9, ec8, ec7, ec6, ec5, ec4, ec3, ec2, ec1]; rfl
    rw [← h]; exact hC
  exact cr_ret hx hb hr hlocks hC dX6_init_141
