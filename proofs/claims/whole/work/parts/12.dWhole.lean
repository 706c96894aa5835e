theorem vk_congr {N : Nat} {len : List Nat} {byt : List (List Int32)} {aK aV bK bV : Nat → Nat} {A : Nat → Prop} {U : State} {H : Heap} (h : vk_S N len byt aK aV A U H) (h1 : ∀ i, i < N → aK i = bK i) (h2 : ∀ i, i < N → aV i = bV i) : vk_S N len byt bK bV A U H :=
  ⟨fun i hi => by rw [← h1 i hi, ← h2 i hi]; exact h.1 i hi, fun i j hi hj e => h.2 i j hi hj (by rw [h1 i hi, h1 j hj]; exact e)⟩
theorem nest_in : ∀ q ∈ NEST, Cond.methodLinkNest q.1 q.2.1 q.2.2 "WoundEggs" ∈ lw_tbl := by decide +kernel
theorem nestc_in : ∀ q ∈ NESTC, Cond.methodLinkNest q.1 q.2.1 q.2.2 "WoundEggs" ∈ lw_tbl := by decide +kernel
theorem strs_in : ∀ q ∈ STRS, Cond.stringRef q.1 q.2.1 q.2.2.1 ∈ lw_tbl := by decide +kernel
theorem inst_in0 : Cond.instantiable RX0 5 ∈ BIG := bigm (by decide +kernel) rfl
theorem inst_in1 : Cond.instantiable RX1 2 ∈ BIG := bigm (by decide +kernel) rfl
theorem inst_in2 : Cond.instantiable RX2 8 ∈ BIG := bigm (by decide +kernel) rfl
theorem inst_in3 : Cond.instantiable RX3 6 ∈ BIG := bigm (by decide +kernel) rfl
theorem inst_in4 : Cond.instantiable RX4 3 ∈ BIG := bigm (by decide +kernel) rfl
theorem inst_in5 : Cond.instantiable RX5 3 ∈ BIG := bigm (by decide +kernel) rfl
theorem inst_in6 : Cond.instantiable RX6 9 ∈ BIG := bigm (by decide +kernel) rfl
theorem inst_in7 : Cond.instantiable RX7 45 ∈ BIG := bigm (by decide +kernel) rfl
theorem cls_start {s : State} {args : Array Value} (hB : ∀ w ∈ BIG, w.before args s = true) : ∃ (dC : Nat → ClassId) (dI : Nat → Nat → Nat), ∀ (c : Nat) (q : vw_C), vwCl[c]? = some q → u_Kn s q.1 q.2.1 q.2.2 (dC c) (dI c) := by
  obtain ⟨c0, i0, h0⟩ := u_known (C := RX0) (T := TX0) (N := 5) hB in_RX0 (hB _ inst_in0)
  obtain ⟨c1, i1, h1⟩ := u_known (C := RX1) (T := TX1) (N := 2) hB in_RX1 (hB _ inst_in1)
  obtain ⟨c2, i2, h2⟩ := u_known (C := RX2) (T := TX2) (N := 8) hB in_RX2 (hB _ inst_in2)
  obtain ⟨c3, i3, h3⟩ := u_known (C := RX3) (T := TX3) (N := 6) hB in_RX3 (hB _ inst_in3)
  obtain ⟨c4, i4, h4⟩ := u_known (C := RX4) (T := TX4) (N := 3) hB in_RX4 (hB _ inst_in4)
  obtain ⟨c5, i5, h5⟩ := u_known (C := RX5) (T := TX5) (N := 3) hB in_RX5 (hB _ inst_in5)
  obtain ⟨c6, i6, h6⟩ := u_known (C := RX6) (T := TX6) (N := 9) hB in_RX6 (hB _ inst_in6)
  obtain ⟨c7, i7, h7⟩ := u_known (C := RX7) (T := TX7) (N := 45) hB in_RX7 (hB _ inst_in7)
  refine ⟨fun k => match k with | 0 => c0 | 1 => c1 | 2 => c2 | 3 => c3 | 4 => c4 | 5 => c5 | 6 => c6 | _ => c7, fun k => match k with | 0 => i0 | 1 => i1 | 2 => i2 | 3 => i3 | 4 => i4 | 5 => i5 | 6 => i6 | _ => i7, ?_⟩
  intro k q hq
  match k, hq with
  | 0, hq => cases hq; exact h0
  | 1, hq => cases hq; exact h1
  | 2, hq => cases hq; exact h2
  | 3, hq => cases hq; exact h3
  | 4, hq => cases hq; exact h4
  | 5, hq => cases hq; exact h5
  | 6, hq => cases hq; exact h6
  | 7, hq => cases hq; exact h7
  | k + 8, hq => simp [vwCl] at hq
theorem arr_start {s : State} {b : Nat} (hts : ∀ w ∈ lw_tbl, w.before #[Value.ref b] s = true) : ∃ cy : Nat → ClassId, ∀ (k : Nat) (q : ClassId × FieldType), [(cy 0, FieldType.int), (cy 1, .long), (cy 2, .boolean), (cy 3, .byte), (cy 4, .array .int), (cy 5, .object "WoundEggs$Store"), (cy 6, .object "WoundEggs$Tape")][k]? = some q → ArrOfT s q.1 q.2 ∧ va_RA s q.1 q.2 := by
  obtain ⟨c0, k0, m0, a0, b0, d0⟩ := Cond.arrayClass_spec (hts (.arrayClass .int) (by decide +kernel))
  obtain ⟨c1, k1, m1, a1, b1, d1⟩ := Cond.arrayClass_spec (hts (.arrayClass .long) (by decide +kernel))
  obtain ⟨c2, k2, m2, a2, b2, d2⟩ := Cond.arrayClass_spec (hts (.arrayClass .boolean) (by decide +kernel))
  obtain ⟨c3, k3, m3, a3, b3, d3⟩ := Cond.arrayClass_spec (hts (.arrayClass .byte) (by decide +kernel))
  obtain ⟨m4, c4, k4, e4, f4, b4, d4, a4⟩ := arrayOverA_spec (hts (.arrayOver (.array .int)) (by decide +kernel))
  obtain ⟨m5, c5, k5, e5, f5, b5, d5, a5⟩ := Cond.arrayOver_spec (hts (.arrayOver (.object "WoundEggs$Store")) (by decide +kernel))
  obtain ⟨m6, c6, k6, e6, f6, b6, d6, a6⟩ := Cond.arrayOver_spec (hts (.arrayOver (.object "WoundEggs$Tape")) (by decide +kernel))
  refine ⟨fun k => match k with | 0 => c0 | 1 => c1 | 2 => c2 | 3 => c3 | 4 => c4 | 5 => c5 | _ => c6, ?_⟩
  intro k q hq
  match k, hq with
  | 0, hq => cases hq; exact ⟨fun n z => ⟨fun q hq => by (cases hq), k0, b0, m0, d0⟩, a0⟩
  | 1, hq => cases hq; exact ⟨fun n z => ⟨fun q hq => by (cases hq), k1, b1, m1, d1⟩, a1⟩
  | 2, hq => cases hq; exact ⟨fun n z => ⟨fun q hq => by (cases hq), k2, b2, m2, d2⟩, a2⟩
  | 3, hq => cases hq; exact ⟨fun n z => ⟨fun q hq => by (cases hq), k3, b3, m3, d3⟩, a3⟩
  | 4, hq => cases hq; exact ⟨fun n z => ⟨fun q hq => by (cases hq), k4, b4, m4, d4⟩, a4⟩
  | 5, hq => cases hq; exact ⟨fun n z => ⟨fun q hq => by (cases hq), k5, b5, m5, d5⟩, k5, m5, b5, d5, e5, a5⟩
  | 6, hq => cases hq; exact ⟨fun n z => ⟨fun q hq => by (cases hq), k6, b6, m6, d6⟩, k6, m6, b6, d6, e6, a6⟩
  | k + 7, hq => simp at hq
set_option maxHeartbeats 4000000 in
set_option maxRecDepth 100000 in
theorem stat_start {s : State} {b B : Nat} {D : va_G} {cy : Nat → ClassId} {A : Nat → Prop} (hA : ∀ a : Nat, a < s.heap.size → ¬ A a) (hts : ∀ w ∈ lw_tbl, w.before #[Value.ref b] s = true) (hgv : (Jvm.Cond.and given_1 narrow_1).before #[Value.ref b] s = true) : ∃ est : Nat → Nat, Stat (mkE D B cy A est) s s.heap := by
  obtain ⟨adK, adV, hS, hE⟩ := str_start hA hgv
  obtain ⟨⟨tA, a1, a2⟩, tB, b1, b2⟩ := tab_start hA hgv
  have fl := flat_of_before _ hgv
  refine ⟨fun k => if k = 0 then tA else if k = 1 then tB else if k < 20 then adK (k - 10) else adV (k - 20), ?_⟩
  have eK : ∀ i, i < 9 → adK i = adS (mkE D B cy A (fun k => if k = 0 then tA else if k = 1 then tB else if k < 20 then adK (k - 10) else adV (k - 20))) i := fun i hi => by
    show adK i = if 10 + i = 0 then tA else if 10 + i = 1 then tB else if 10 + i < 20 then adK (10 + i - 10) else adV (10 + i - 20)
    rw [if_neg (by omega), if_neg (by omega), if_pos (by omega), show 10 + i - 10 = i by omega]
  have eV : ∀ i, i < 9 → adV i = adB (mkE D B cy A (fun k => if k = 0 then tA else if k = 1 then tB else if k < 20 then adK (k - 10) else adV (k - 20))) i := fun i hi => by
    show adV i = if 20 + i = 0 then tA else if 20 + i = 1 then tB else if 20 + i < 20 then adK (20 + i - 10) else adV (20 + i - 20)
    rw [if_neg (by omega), if_neg (by omega), if_neg (by omega), show 20 + i - 20 = i by omega]
  have hev : ∀ q ∈ STRS, (Term.string q.1 q.2.1).eval #[Value.ref b] s none [] s = some (.ref (adK q.2.2.2)) := by
    refine List.forall_mem_cons.mpr ⟨hE 0 (by decide), List.forall_mem_cons.mpr ⟨hE 1 (by decide), List.forall_mem_cons.mpr ⟨hE 2 (by decide), List.forall_mem_cons.mpr ⟨hE 3 (by decide), List.forall_mem_cons.mpr ⟨hE 4 (by decide), List.forall_mem_cons.mpr ⟨hE 5 (by decide), List.forall_mem_cons.mpr ⟨hE 6 (by decide), List.forall_mem_cons.mpr ⟨hE 7 (by decide), List.forall_mem_cons.mpr ⟨hE 8 (by decide), List.forall_mem_cons.mpr ⟨?_, List.forall_mem_cons.mpr ⟨?_, fun _ h => absurd h List.not_mem_nil⟩⟩⟩⟩⟩⟩⟩⟩⟩⟩⟩
    · exact eq_ref (fl (.eq (.string "WoundEggs$Store" 74) (.string "WoundEggsModel" 160)) (by decide +kernel)) (hE 4 (by decide))
    · exact eq_ref (fl (.eq (.string "WoundEggs$Store" 80) (.string "WoundEggsModel" 165)) (by decide +kernel)) (hE 5 (by decide))
  have h9 : ∀ q ∈ STRS, q.2.2.2 < 9 := by decide
  refine ⟨⟨va_Zref (hts (.laysStatic RX6 "ABOVE" "[I") (by decide +kernel)) (hts (.initialized RX6) (by decide +kernel)) a1 hA, a2⟩, ⟨va_Zref (hts (.laysStatic RX0 "BODY" "[I") (by decide +kernel)) (hts (.initialized RX0) (by decide +kernel)) b1 hA, b2⟩,
    ⟨va_Zof (hts (.laysStatic RJ0 "COMPACT_STRINGS" "Z") (by decide +kernel)) (hts (.initialized RJ0) (by decide +kernel)) (va_eqi (fl (.eq (.static RJ0 "COMPACT_STRINGS" "Z") (.int 1)) (by decide +kernel))) hA, vk_congr hS eK eV⟩,
    fun q hq => va_Nw.of rfl (hts _ (nest_in q hq)), va_Nw.of rfl (hts (.fieldLinkNest RX0 43 RX6 "ABOVE" "[I" "WoundEggs") (by decide +kernel)), fun q hq => ?_, va_Zqof (hts (.laysStatic RJ3 "SIOOBE_FORMATTER" "Ljava/util/function/BiFunction;") (by decide +kernel)) (hts (.initialized RJ3) (by decide +kernel)) (fl (.isRef (.static RJ3 "SIOOBE_FORMATTER" "Ljava/util/function/BiFunction;")) (by decide +kernel)) hA⟩
  rw [← eK _ (h9 q hq)]
  exact vk_R.of (hts _ (strs_in q hq)) (hev q hq)
theorem cr_call0 {p : Program} {l : Launch} {e : Env} {R : Room} {s : State} {m : MethodId} {args : Array Value} {below : List Frame} {meth : Method} {c : Code} {H : Heap} {locs : List Loc} {cells slots : Nat} {Q : State → Prop} {pc : Nat} {ls : Array Slot} {rest st0 : List Value} {E : WE} {H0 : Heap} {A : Nat → Prop} {h0 b : Nat} {e0 : va_E} {mc ms : Nat} {e1' : va_E} {cs1 : List va_E} {av : Array Value} {free : Addr → Prop} (hr : va_Run p l e R s m args below meth c H locs cells slots mc ms (F0 m pc ls st0) rest (QC E h0 b e1' cs1 av) free) (hfree : ∀ q, free q → q = h0 ∨ b ≤ q) (hC : CR E A h0 b e0 [] H0 H locs) (hA : ∀ q, b ≤ q → A q) (hA0 : A h0) (kk : ∀ (H1 : Heap) (locs1 : List Loc), CR E A h0 b e1' cs1 H0 H1 locs1 → W p l e R s m args below meth c H1 locs1 (cells + mc) (slots + ms) Q (F0 m (pc + 3) ls rest)) : W p l e R s m args below meth c H locs cells slots Q (F0 m pc ls st0) := by
  intro T hT X
  obtain ⟨v, st₀, t, T', L, q0, X', hL, q1, q2, ⟨⟨hv, g1, g2, g3⟩, hz, hk⟩, st⟩ := hr T hT X
  cases hv
  rw [q0] at hz hk
  obtain ⟨h1, h2, h3, h4, h5⟩ := hC
  have ho : ∀ q, q < H.size → q ≠ h0 → t.heap[q]? = H[q]? := fun q x1 x2 => hk q x1 (by rintro (z | z); exact x2 z; simp at h3; omega)
  have hC1 : CR E A h0 b e1' cs1 H0 T'.heap (locs ++ L) := by
    rw [q1]
    refine ⟨g1, g2, g3, h4, ⟨Nat.le_trans h5.1 hz, fun q x1 x2 => (ho q (Nat.lt_of_lt_of_le x1 h5.1) (fun z => x2 (by rw [z]; exact hA0))).trans (h5.2.1 q x1 x2), fun q hq => ?_⟩⟩
    rcases List.mem_append.mp hq with h | h
    · exact h5.2.2 q h
    · exact (hfree _ (hL q h)).elim (fun z => by rw [z]; exact hA0) (fun z => hA _ z)
  obtain ⟨t2, a1, c1⟩ := kk T'.heap (locs ++ L) hC1 T' rfl X'
  exact ⟨t2, st t2 a1, c1⟩
theorem cd_X6 : Cond.code yX6_init cX6_init 2 none ∈ BIG := bigm (by decide +kernel) rfl
theorem cd_X7 : Cond.code yX7_init cX7_init 2 none ∈ BIG := bigm (by decide +kernel) rfl
set_option maxHeartbeats 8000000 in
set_option maxRecDepth 100000 in
theorem whole_start {p : Program} {e : Env} {s : State} {m : MethodId} {below : List Frame} {meth : Method} {c : Code} (l : Launch) (hflags : l.flags = flags0) {b L : Nat} {xs : Nat → Int32} (hL : L ≤ 3072) (C0 : lw_At p s m meth c b L xs) : W p l e room_1 s m #[Value.ref b] below meth c s.heap [] 0 0 (lw_Z below #[Value.ref b] s) (entryFrame m ([Value.ref b] : List Value).toArray 4) := by
  obtain ⟨hx, hb, hr, hml, hown, hts, hX, hbl, hlocks, hgv⟩ := id C0
  have hB : ∀ w ∈ BIG, w.before #[Value.ref b] s = true := fun w h => hts w (big_tbl w h)
  obtain ⟨B, hBs⟩ : ∃ B : Nat, B = s.heap.size := ⟨_, rfl⟩
  obtain ⟨A, hAe⟩ : ∃ A : Nat → Prop, A = fun q : Nat => s.heap.size ≤ q := ⟨_, rfl⟩
  have hA : ∀ q : Nat, B ≤ q → A q := fun q h => by rw [hAe]; show s.heap.size ≤ q; rw [← hBs]; exact h
  have hAn : ∀ a : Nat, a < s.heap.size → ¬ A a := fun a h => by rw [hAe]; exact Nat.not_le.mpr h
  obtain ⟨dC, dI, hKc⟩ := cls_start hB
  obtain ⟨cy, hKa⟩ := arr_start hts
  obtain ⟨est, hZ⟩ := stat_start (D := (dC, dI)) (B := B) (cy := cy) hAn hts hgv
  obtain ⟨E, hE⟩ : ∃ E : WE, E = mkE (dC, dI) B cy A est := ⟨_, rfl⟩
  have hK : va_K (eD E) vwCl (wtys E) s := by rw [hE]; exact ⟨hKc, hKa⟩
  have hZ : Stat E s s.heap := by rw [hE]; exact hZ
  have hN : NWC s := ⟨va_AO.of (hts (.arrayOver (.object "WoundEggs$Store")) (by decide +kernel)), va_AO.of (hts (.arrayOver (.object "WoundEggs$Tape")) (by decide +kernel)), va_AOA.of (hts (.arrayOver (.array .int)) (by decide +kernel)), fun q hq => va_Nw.of rfl (hts _ (nestc_in q hq))⟩
  obtain ⟨μ', hf⟩ := pure_main xs hL
  have hl := lv_entry ([.ref b]) (n := 4) (Nat.le_of_ble_eq_true rfl)
  rw [lg_entry_eq]
  generalize (lg_sl ([.ref b]) ++ List.replicate (4 - (lg_sl ([.ref b])).length) Slot.unset).toArray = ls at hl ⊢
  have hl : lv_has ls 4 [(0, .ref b)] := hl
  have hKn := hK.1 6 _ rfl
  refine W.newcK (n := 9) hx hb hown (hts (.classLink R_law 7 RX6) (by decide +kernel)) (hts (.instantiable RX6 9) (by decide +kernel)) (hts (.initialized RX6) (by decide +kernel)) rfl dL_law_0 (Nat.le_of_ble_eq_true rfl) (Nat.le_of_ble_eq_true rfl) hKn.2.1 hBs.symm fun H kC hkC e1 z1 o1 => ?_
  have hC : CR E A B (B + 1) (.inr (6, [.null, .null, .null, .int 0, .null, .null, .int 0, .null, .null])) [] s.heap H [] := by
    refine ⟨⟨_, rfl, (u_born tyX6 hB in_RX6 hKn hkC e1 tyX6_ok).to (fun j hj => by rcases (show j = 0 ∨ j = 1 ∨ j = 2 ∨ j = 3 ∨ j = 4 ∨ j = 5 ∨ j = 6 ∨ j = 7 ∨ j = 8 by omega) with rfl | rfl | rfl | rfl | rfl | rfl | rfl | rfl | rfl <;> rfl)⟩, fun k e h => by simp at h, z1, Nat.lt_succ_self _, ⟨by rw [z1, hBs]; exact Nat.le_succ _, fun q h1 _ => o1 q (by rw [hBs]; exact h1), fun _ h => by cases h⟩⟩
  refine W.eq (g2 := F0 m 3 ls [.ref B]) rfl ?_
  refine W.widen (k := 1) (n := 9) (Nat.le_of_ble_eq_true rfl) (Nat.le_of_ble_eq_true rfl) ?_
  refine lv_dup hx hb dL_law_3 rfl ?_
  refine cr_call0 (va_runI (own := R_law) (As := []) (rest := [.ref B]) ⟨hx, hb, hml, hown, hB⟩ (kc_X6_init l E B (B + 1)) (cwI 0 hB (big_code cd_X6) rfl rfl rfl (hts (.initialized RX6) (by decide +kernel)) (hts (.methodLink R_law 9 yX6_init) (by decide +kernel)) (hts (.instanceMethod yX6_init) (by decide +kernel)) rfl ⟨by decide +kernel, by decide +kernel, by decide +kernel⟩ ⟨Nat.le_of_ble_eq_true rfl, Nat.le_of_ble_eq_true rfl⟩) ⟨PC.blind E B (B + 1) _ _ NWC.calling, fun U hU hWm => ⟨rfl, by rw [hU]; exact hC.1, by rw [hU]; exact hC.2.2.1, Nat.lt_succ_self _, hK.moved hWm.alike, hN.moved hWm⟩⟩ rfl rfl hl.1 rfl (lv_room (Nat.le_of_ble_eq_true rfl)) dL_law_4 ⟨Nat.le_of_ble_eq_true rfl, Nat.le_of_ble_eq_true rfl⟩) (fun _ h => h) hC (fun q h => hA q (by omega)) (hA B (Nat.le_refl _)) (fun H locs hC => ?_)
  refine W.widen (k := 157) (n := 1883) (Nat.le_of_ble_eq_true rfl) (Nat.le_of_ble_eq_true rfl) ?_
  rw [fl_X6] at hC
  refine lv_astore_n (lv' := [(1, .ref B), (0, .ref b)]) hx hb dL_law_7 rfl hl (by decide) rfl (fun ls hl => ?_)
  refine cr_new (ci := 7) (fs := [.int 0, .null, .null, .null, .null, .null, .null, .null, .null, .int 0, .int 0, .int 0, .null, .int 0, .int 0, .int 0, .int 0, .int 0, .int 0, .null, .null, .null, .null, .null, .null, .int 0, .null, .int 0, .null, .null, .null, .int 0, .null, .null, .int 0, .null, .null, .int 0, .null, .int 0, .null, .null, .null, .null, .null]) (C := RX7) (T := TX7) (N := 45) (a := B + 157) hx hb hB hown hK hC in_RX7 tyX7 tyX7_ok (bigm (by decide +kernel) rfl) inst_in7 (bigm (by decide +kernel) rfl) rfl (fun j hj => by rcases (show j = 0 ∨ j = 1 ∨ j = 2 ∨ j = 3 ∨ j = 4 ∨ j = 5 ∨ j = 6 ∨ j = 7 ∨ j = 8 ∨ j = 9 ∨ j = 10 ∨ j = 11 ∨ j = 12 ∨ j = 13 ∨ j = 14 ∨ j = 15 ∨ j = 16 ∨ j = 17 ∨ j = 18 ∨ j = 19 ∨ j = 20 ∨ j = 21 ∨ j = 22 ∨ j = 23 ∨ j = 24 ∨ j = 25 ∨ j = 26 ∨ j = 27 ∨ j = 28 ∨ j = 29 ∨ j = 30 ∨ j = 31 ∨ j = 32 ∨ j = 33 ∨ j = 34 ∨ j = 35 ∨ j = 36 ∨ j = 37 ∨ j = 38 ∨ j = 39 ∨ j = 40 ∨ j = 41 ∨ j = 42 ∨ j = 43 ∨ j = 44 by omega) with rfl | rfl | rfl | rfl | rfl | rfl | rfl | rfl | rfl | rfl | rfl | rfl | rfl | rfl | rfl | rfl | rfl | rfl | rfl | rfl | rfl | rfl | rfl | rfl | rfl | rfl | rfl | rfl | rfl | rfl | rfl | rfl | rfl | rfl | rfl | rfl | rfl | rfl | rfl | rfl | rfl | rfl | rfl | rfl | rfl <;> rfl) (by rw [len_c6]) (Nat.le_of_ble_eq_true rfl) (Nat.le_of_ble_eq_true rfl) dL_law_8 (fun H hC => ?_)
  refine W.widen (k := 158) (n := 1928) (Nat.le_of_ble_eq_true rfl) (Nat.le_of_ble_eq_true rfl) ?_
  refine lv_dup hx hb dL_law_11 rfl ?_
  refine cr_callv (a := B + 157) (b1 := B + 158) (va_runI (own := R_law) (As := []) (rest := [.ref (B + 157)]) ⟨hx, hb, hml, hown, hB⟩ (kc_X7_init l E (B + 157) (B + 158)) (cwI 0 hB (big_code cd_X7) rfl rfl rfl (hts (.initialized RX7) (by decide +kernel)) (hts (.methodLink R_law 12 yX7_init) (by decide +kernel)) (hts (.instanceMethod yX7_init) (by decide +kernel)) rfl ⟨by decide +kernel, by decide +kernel, by decide +kernel⟩ ⟨Nat.le_of_ble_eq_true rfl, Nat.le_of_ble_eq_true rfl⟩) ⟨PC.blind E (B + 157) (B + 158) _ _ NWC.calling, fun U hU hWm => ⟨rfl, by rw [hU]; have h := hC.2.1 156 _ (by rw [List.getElem?_append_right (by rw [len_c6]; exact Nat.le_refl _), len_c6]; rfl); rw [show B + 1 + 156 = B + 157 by omega] at h; exact h, by rw [hU, hC.2.2.1, List.length_append, List.length_singleton, len_c6], by omega, hK.moved hWm.alike, hN.moved hWm⟩⟩ rfl rfl hl.1 rfl (lv_room (Nat.le_of_ble_eq_true rfl)) dL_law_12 ⟨Nat.le_of_ble_eq_true rfl, Nat.le_of_ble_eq_true rfl⟩) (fun _ h => h) hC (fun q h => hA q (by omega)) (by rw [len_c6]) rfl (fun H locs hC => ?_)
  refine W.widen (k := 400) (n := 8000) (Nat.le_of_ble_eq_true rfl) (Nat.le_of_ble_eq_true rfl) ?_
  rw [fl_X7] at hC
  refine lv_astore_n (lv' := [(2, .ref (B + 157)), (1, .ref B), (0, .ref b)]) hx hb dL_law_15 rfl hl (by decide) rfl (fun ls hl => ?_)
  have hWd : Wd E mem0 s H := by
    rw [hE] at hC hK ⊢
    exact wd0 hA hK hC
  have hAE : eA E = fun q : Nat => s.heap.size ≤ q := by rw [hE]; exact hAe
  have e1 : ead E 1 = B := by rw [hE]; rfl
  have e2 : ead E 2000 = B + 157 := by rw [hE]; rfl
  have hV : va_S (eA E) s.heap H locs := by
    rw [hAE, ← hAe]
    exact hC.2.2.2.2
  refine law_walk l C0 E hAE hZ mem0 μ' hf H locs ls hWd hV ?_
  rw [e1, e2]
  exact hl
