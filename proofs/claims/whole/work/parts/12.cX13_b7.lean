theorem MS_c {μ μ' : Mem} {σ : SG} (hf : ∀ i, mfld i → gI μ' 2000 i = gI μ 2000 i) (hr : ∀ k, 2001 ≤ k → k ≤ 2036 → k ≠ 2012 → gI μ' k = gI μ k) (hM : MS μ σ) : MS μ' σ := by
  unfold MS at hM ⊢
  rw [hf 0 (by unfold mfld; omega), hf 9 (by unfold mfld; omega), hf 10 (by unfold mfld; omega), hf 18 (by unfold mfld; omega), hf 27 (by unfold mfld; omega), hf 31 (by unfold mfld; omega), hf 34 (by unfold mfld; omega), hr 2008 (by omega) (by omega) (by omega), hr 2028 (by omega) (by omega) (by omega), hr 2029 (by omega) (by omega) (by omega), hr 2030 (by omega) (by omega) (by omega), hr 2032 (by omega) (by omega) (by omega), hr 2033 (by omega) (by omega) (by omega), hr 2035 (by omega) (by omega) (by omega), hr 2036 (by omega) (by omega) (by omega)]
  refine ⟨hM.1, fun e he => ⟨fun c hc => ?_, (hM.2.1 e he).2⟩, hM.2.2⟩
  rw [hr (2001 + c) (by omega) (by omega) (by omega)]
  exact (hM.2.1 e he).1 c hc
/-- a step that leaves states, images and stores as they are -/
theorem R_glob {T T' : PT} {μ μ' : Mem} (hR : RR T μ) (h0 : T'.1 0 = T.1 0) (h1 : T'.1 1 = T.1 1) (h3 : T'.2.2 = T.2.2) (e39 : T'.1 2 39 0 = T.1 2 39 0) (e17 : T'.1 2 17 0 = T.1 2 17 0)
    (gx : ∀ k, (k = 1 ∨ (100 ≤ k ∧ k < 300) ∨ (1000 ≤ k ∧ k < 1100)) → gI μ' k = gI μ k)
    (gm : ∀ k, 2000 < k → k ≤ 2040 → k ≠ 2012 → k ≠ 2038 → gI μ' k = gI μ k)
    (gf : ∀ i, i ≠ 11 → i ≠ 37 → gI μ' 2000 i = gI μ 2000 i)
    (X3 : gI μ' 2 1 = nI (T'.1 2 11 0) ∧ ∀ i, i < T'.1 2 11 0 → gI μ' 3 i = nI (T'.1 2 12 i))
    (X5 : gI μ' 5 1 = nI (T'.1 2 37 0) ∧ ∀ i, i < T'.1 2 37 0 → i < 20 → gI μ' 6 i = nI (T'.1 2 38 i))
    (X6 : ∀ t, t < 6 → gI μ' (1100 + 2 * t) 0 = nI (T'.1 2 42 t) - 1 ∧ gI μ' (1100 + 2 * t) 1 = nI (T'.1 2 43 t) ∧ ∀ i, i < 60 → gL μ' ((1100 + 2 * t) + 1) i = T'.2.1 t i)
    (M3 : gI μ' 2000 11 = nI (T'.1 2 11 0) ∧ ∀ i, i < T'.1 2 11 0 → gI μ' 2012 i = nI (T'.1 2 12 i))
    (M5 : gI μ' 2000 37 = nI (T'.1 2 37 0) ∧ ∀ i, i < T'.1 2 37 0 → i < 20 → gI μ' 2038 i = nI (T'.1 2 38 i))
    (M6 : ∀ t, t < 6 → gI μ' 2042 t = nI (T'.1 2 42 t) - 1 ∧ gI μ' 2043 t = nI (T'.1 2 43 t) ∧ ∀ i, i < 60 → gL μ' 2044 (60 * t + i) = T'.2.1 t i)
    (o3 : T'.1 2 11 0 ≤ 100 ∧ ∀ i, i < T'.1 2 11 0 → T'.1 2 12 i ≤ 127) (o5 : T'.1 2 37 0 ≤ 100000) (o6 : ∀ t, t < 6 → T'.1 2 42 t ≤ 5 ∧ T'.1 2 43 t ≤ 60 ∧ (T'.1 2 42 t = 0 → T'.1 2 43 t = 0)) : RR T' μ' := by
  obtain ⟨⟨x1, ⟨x2, x2'⟩, _, ⟨x4, x4'⟩, _, _⟩, ⟨m1, ⟨m2, m2'⟩, _, ⟨m4, c, m4', m4c, m4''⟩, _, _⟩, o1, ⟨o2, o2'⟩, _, ⟨o4, o4'⟩, _, _⟩ := hR
  refine ⟨⟨?_, ?_, X3, ?_, X5, X6⟩, ⟨?_, ?_, M3, ?_, M5, M6⟩, ?_, ?_, o3, ?_, o5, o6⟩
  · rw [h0]; exact XS_c (fun k q1 q2 => gx k (by omega)) x1 o1.n
  · rw [h1, e39, gx 1 (by omega)]
    exact ⟨x2, fun h => XS_c (fun k q1 q2 => gx k (by omega)) (x2' h) (o2' h).n⟩
  · rw [h3, e17, gx 1 (by omega)]
    exact ⟨x4, fun k hk => XC_c (fun j q1 q2 => gx j (by omega)) (x4' k hk)⟩
  · rw [h0]
    exact MS_c (fun i hi => gf i (by unfold mfld at hi; omega) (by unfold mfld at hi; omega)) (fun k q1 q2 q3 => gm k (by omega) (by omega) q3 (by omega)) m1
  · rw [h1, e39, gf 39 (by omega) (by omega)]
    refine ⟨m2, fun h => ?_⟩
    have q := m2' h
    unfold IM at q ⊢
    rw [gm 2040 (by omega) (by omega) (by omega) (by omega)]
    exact q
  · rw [h3, e17, gf 17 (by omega) (by omega), gf 25 (by omega) (by omega)]
    refine ⟨m4, c, m4', m4c, fun k hk => ⟨MC_c (fun j q1 q2 => gm j (by omega) (by omega) (by omega) (by omega)) (m4'' k hk).1, ?_⟩⟩
    rw [gm 2022 (by omega) (by omega) (by omega) (by omega)]
    exact (m4'' k hk).2
  · rw [h0, e17]; exact o1
  · rw [h1, e39, e17]; exact ⟨o2, o2'⟩
  · rw [h3, e17]; exact ⟨o4, o4'⟩
/-- what is shown of each method that changes more than now -/
def Step (μ : Mem) {α : Type} (fx fm : Mem → Option (α × Mem)) : Prop := ∃ r μ1 μ2 T', fx μ = some (r, μ1) ∧ fm μ1 = some (r, μ2) ∧ RR T' μ2
theorem Same.step {T : PT} {μ : Mem} {α : Type} {fx fm : Mem → Option (α × Mem)} (h : Same T μ fx fm) : Step μ fx fm := by
  obtain ⟨r, μ1, μ2, σ, h1, h2, h3⟩ := h
  exact ⟨r, μ1, μ2, _, h1, h2, h3⟩
theorem step_q {T : PT} {μ : Mem} {α : Type} {r : α} {fx fm : Mem → Option (α × Mem)} (hR : RR T μ) (h1 : fx μ = some (r, μ)) (h2 : fm μ = some (r, μ)) : Step μ fx fm := ⟨r, μ, μ, T, h1, h2, hR⟩
def glo (T : PT) (γ : SG) : PT := (fun a => if a = 2 then γ else T.1 a, T.2)
theorem glo_2 (T : PT) (γ : SG) : (glo T γ).1 2 = γ := rfl
theorem glo_0 (T : PT) (γ : SG) : (glo T γ).1 0 = T.1 0 := rfl
theorem glo_1 (T : PT) (γ : SG) : (glo T γ).1 1 = T.1 1 := rfl
theorem glo_r (T : PT) (γ : SG) : (glo T γ).2 = T.2 := rfl
theorem nar7 {n : Nat} (h : n ≤ 127) : vp_nar .byte (nI n).toInt8.toInt32 = nI n := (by decide +kernel : ∀ n, n < 128 → vp_nar .byte (nI n).toInt8.toInt32 = nI n) n (by omega)
theorem s_feed {T : PT} {μ : Mem} (hR : RR T μ) (a : Int32) : Step μ (fun μ => f_X6_feed μ a) (fun μ => f_X7_feed μ a) := by
  obtain ⟨⟨x1, x2, ⟨x3, x3'⟩, x4, x5, x6⟩, ⟨m1, m2, ⟨m3, m3'⟩, m4, m5, m6⟩, o1, o2, ⟨o3, o3'⟩, o4, o5, o6⟩ := id hR
  rcases arg a (lo := 0) (hi := 127) (A := 0) (B := 127) (C := 0) (D := 127) rfl rfl rfl rfl with ⟨n, _, hn, _, rfl, hx, hm⟩ | ⟨hn, hx, hm⟩
  · obtain ⟨H, hHd⟩ : ∃ H, H = T.1 2 11 0 := ⟨_, rfl⟩
    rw [← hHd] at x3 x3' m3 m3' o3 o3'
    by_cases h : H = 100
    · refine step_q (r := -4) hR ?_ ?_
      · show f_X6_feed μ _ = _
        unfold f_X6_feed f_X5_add; rw [hx]
        simp (disch := omega) only [ofN, lC_lt, lC_ge, lC_eq, lC_gt, lC_le, T_ltL, F_ltL, T_leL, F_leL, T_eqL, F_eqL, m1_0, lN_add, nI_lE, lN_i, ↓reduceIte, bind_s, T_lt, F_lt, T_le, F_le, T_eq, F_eq, F_neg, T_ltm, F_lem, F_ltm, nI_add, nI_mul, nI_sub, ldI_n, stI_n, aix_n, ldL_n, stL_n, ldF_n, gI_atE, gI_ne1, gI_ne2, gL_atE, gL_ne1, gL_ne2, gL_s, gI_s, w7T, w7F1, w7F2, and31, K0, K1, K2, K3, K4, K5, K6, K7, K8, K9, K10, K11, K12, K14, K16, K18, K20, K24, K29, K30, K31, K32, K33, K36, K38, K40, K41, K42, K48, K50, K51, K54, K57, K59, K60, K63, K70, K71, K84, K94, K97, K100, K101, K104, K108, K112, K120, K121, K122, K123, K124, K125, K127, K255, K300, K1000, K9999, K99999, K2147483647, x3, h]
      · show f_X7_feed μ _ = _
        unfold f_X7_feed; rw [hm]
        simp (disch := omega) only [ofN, lC_lt, lC_ge, lC_eq, lC_gt, lC_le, T_ltL, F_ltL, T_leL, F_leL, T_eqL, F_eqL, m1_0, lN_add, nI_lE, lN_i, ↓reduceIte, bind_s, T_lt, F_lt, T_le, F_le, T_eq, F_eq, F_neg, T_ltm, F_lem, F_ltm, nI_add, nI_mul, nI_sub, ldI_n, stI_n, aix_n, ldL_n, stL_n, ldF_n, gI_atE, gI_ne1, gI_ne2, gL_atE, gL_ne1, gL_ne2, gL_s, gI_s, w7T, w7F1, w7F2, and31, K0, K1, K2, K3, K4, K5, K6, K7, K8, K9, K10, K11, K12, K14, K16, K18, K20, K24, K29, K30, K31, K32, K33, K36, K38, K40, K41, K42, K48, K50, K51, K54, K57, K59, K60, K63, K70, K71, K84, K94, K97, K100, K101, K104, K108, K112, K120, K121, K122, K123, K124, K125, K127, K255, K300, K1000, K9999, K99999, K2147483647, m3, h]
    · refine ⟨nI (H + 1), sI (sI μ 3 H (nI n)) 2 1 (nI (H + 1)), sI (sI (sI (sI μ 3 H (nI n)) 2 1 (nI (H + 1))) 2000 11 (nI (H + 1))) 2012 H (nI n), glo T (up (up (T.1 2) 12 H n) 11 0 (H + 1)), ?_, ?_, ?_⟩
      · show f_X6_feed μ _ = _
        unfold f_X6_feed f_X5_add; rw [hx]
        simp (disch := omega) only [ofN, lC_lt, lC_ge, lC_eq, lC_gt, lC_le, T_ltL, F_ltL, T_leL, F_leL, T_eqL, F_eqL, m1_0, lN_add, nI_lE, lN_i, ↓reduceIte, bind_s, T_lt, F_lt, T_le, F_le, T_eq, F_eq, F_neg, T_ltm, F_lem, F_ltm, nI_add, nI_mul, nI_sub, ldI_n, stI_n, aix_n, ldL_n, stL_n, ldF_n, gI_atE, gI_ne1, gI_ne2, gL_atE, gL_ne1, gL_ne2, gL_s, gI_s, w7T, w7F1, w7F2, and31, K0, K1, K2, K3, K4, K5, K6, K7, K8, K9, K10, K11, K12, K14, K16, K18, K20, K24, K29, K30, K31, K32, K33, K36, K38, K40, K41, K42, K48, K50, K51, K54, K57, K59, K60, K63, K70, K71, K84, K94, K97, K100, K101, K104, K108, K112, K120, K121, K122, K123, K124, K125, K127, K255, K300, K1000, K9999, K99999, K2147483647, x3, nar7]
      · show f_X7_feed _ _ = _
        unfold f_X7_feed; rw [hm]
        simp (disch := omega) only [ofN, lC_lt, lC_ge, lC_eq, lC_gt, lC_le, T_ltL, F_ltL, T_leL, F_leL, T_eqL, F_eqL, m1_0, lN_add, nI_lE, lN_i, ↓reduceIte, bind_s, T_lt, F_lt, T_le, F_le, T_eq, F_eq, F_neg, T_ltm, F_lem, F_ltm, nI_add, nI_mul, nI_sub, ldI_n, stI_n, aix_n, ldL_n, stL_n, ldF_n, gI_atE, gI_ne1, gI_ne2, gL_atE, gL_ne1, gL_ne2, gL_s, gI_s, w7T, w7F1, w7F2, and31, K0, K1, K2, K3, K4, K5, K6, K7, K8, K9, K10, K11, K12, K14, K16, K18, K20, K24, K29, K30, K31, K32, K33, K36, K38, K40, K41, K42, K48, K50, K51, K54, K57, K59, K60, K63, K70, K71, K84, K94, K97, K100, K101, K104, K108, K112, K120, K121, K122, K123, K124, K125, K127, K255, K300, K1000, K9999, K99999, K2147483647, m3]
      · refine R_glob hR (glo_0 _ _) (glo_1 _ _) (by rw [glo_r]) (by rw [glo_2]; simp (disch := omega) only [gI_atE, gI_ne1, gI_ne2, gL_atE, gL_ne1, gL_ne2, gL_s, gI_s, up_atE, up_n1, up_n2]) (by rw [glo_2]; simp (disch := omega) only [gI_atE, gI_ne1, gI_ne2, gL_atE, gL_ne1, gL_ne2, gL_s, gI_s, up_atE, up_n1, up_n2]) (fun k hk => by funext x; simp (disch := omega) only [gI_atE, gI_ne1, gI_ne2, gL_atE, gL_ne1, gL_ne2, gL_s, gI_s, up_atE, up_n1, up_n2]) (fun k q1 q2 q3 q4 => by funext x; simp (disch := omega) only [gI_atE, gI_ne1, gI_ne2, gL_atE, gL_ne1, gL_ne2, gL_s, gI_s, up_atE, up_n1, up_n2]) (fun i q1 q2 => by simp (disch := omega) only [gI_atE, gI_ne1, gI_ne2, gL_atE, gL_ne1, gL_ne2, gL_s, gI_s, up_atE, up_n1, up_n2]) ?_ ?_ ?_ ?_ ?_ ?_ ?_ ?_ ?_
        all_goals rw [glo_2]
        all_goals try rw [glo_r]
        · refine ⟨by simp (disch := omega) only [gI_atE, gI_ne1, gI_ne2, gL_atE, gL_ne1, gL_ne2, gL_s, gI_s, up_atE, up_n1, up_n2], fun i hi => ?_⟩
          simp (disch := omega) only [gI_atE, gI_ne1, gI_ne2, gL_atE, gL_ne1, gL_ne2, gL_s, gI_s, up_atE, up_n1, up_n2] at hi
          by_cases q : i = H
          · simp (disch := omega) only [gI_atE, gI_ne1, gI_ne2, gL_atE, gL_ne1, gL_ne2, gL_s, gI_s, up_atE, up_n1, up_n2]
          · simp (disch := omega) only [gI_atE, gI_ne1, gI_ne2, gL_atE, gL_ne1, gL_ne2, gL_s, gI_s, up_atE, up_n1, up_n2]; exact x3' i (by omega)
        · simp (disch := omega) only [gI_atE, gI_ne1, gI_ne2, gL_atE, gL_ne1, gL_ne2, gL_s, gI_s, up_atE, up_n1, up_n2]; exact x5
        · intro t ht
          have := x6 t ht
          simp (disch := omega) only [gI_atE, gI_ne1, gI_ne2, gL_atE, gL_ne1, gL_ne2, gL_s, gI_s, up_atE, up_n1, up_n2]; exact this
        · refine ⟨by simp (disch := omega) only [gI_atE, gI_ne1, gI_ne2, gL_atE, gL_ne1, gL_ne2, gL_s, gI_s, up_atE, up_n1, up_n2], fun i hi => ?_⟩
          simp (disch := omega) only [gI_atE, gI_ne1, gI_ne2, gL_atE, gL_ne1, gL_ne2, gL_s, gI_s, up_atE, up_n1, up_n2] at hi
          by_cases q : i = H
          · simp (disch := omega) only [gI_atE, gI_ne1, gI_ne2, gL_atE, gL_ne1, gL_ne2, gL_s, gI_s, up_atE, up_n1, up_n2]
          · simp (disch := omega) only [gI_atE, gI_ne1, gI_ne2, gL_atE, gL_ne1, gL_ne2, gL_s, gI_s, up_atE, up_n1, up_n2]; exact m3' i (by omega)
        · simp (disch := omega) only [gI_atE, gI_ne1, gI_ne2, gL_atE, gL_ne1, gL_ne2, gL_s, gI_s, up_atE, up_n1, up_n2]; exact m5
        · intro t ht
          have := m6 t ht
          simp (disch := omega) only [gI_atE, gI_ne1, gI_ne2, gL_atE, gL_ne1, gL_ne2, gL_s, gI_s, up_atE, up_n1, up_n2]; exact this
        · refine ⟨by ((try simp (disch := omega) only [gI_atE, gI_ne1, gI_ne2, up_atE, up_n1, up_n2]) <;> omega), fun i hi => ?_⟩
          simp (disch := omega) only [gI_atE, gI_ne1, gI_ne2, gL_atE, gL_ne1, gL_ne2, gL_s, gI_s, up_atE, up_n1, up_n2] at hi
          by_cases q : i = H
          · ((try simp (disch := omega) only [gI_atE, gI_ne1, gI_ne2, up_atE, up_n1, up_n2]) <;> omega)
          · have := o3' i (by omega)
            ((try simp (disch := omega) only [gI_atE, gI_ne1, gI_ne2, up_atE, up_n1, up_n2]) <;> omega)
        · simp (disch := omega) only [gI_atE, gI_ne1, gI_ne2, gL_atE, gL_ne1, gL_ne2, gL_s, gI_s, up_atE, up_n1, up_n2]; exact o5
        · intro t ht
          have := o6 t ht
          simp (disch := omega) only [gI_atE, gI_ne1, gI_ne2, gL_atE, gL_ne1, gL_ne2, gL_s, gI_s, up_atE, up_n1, up_n2]; exact this
  · refine step_q (r := -2) hR ?_ ?_
    · show f_X6_feed μ a = _
      unfold f_X6_feed; rw [hx]; rfl
    · show f_X7_feed μ a = _
      unfold f_X7_feed; rw [hm]; rfl
/-! tapes -/
/-- a step that changes tapes alone -/
theorem R_tape {T T' : PT} {μ μ' : Mem} (hR : RR T μ) (h0 : T'.1 0 = T.1 0) (h1 : T'.1 1 = T.1 1) (h3 : T'.2.2 = T.2.2) (h2 : ∀ f i, f ≠ 42 → f ≠ 43 → T'.1 2 f i = T.1 2 f i)
    (gi : ∀ k, ¬ (1100 ≤ k ∧ k < 1112) → k ≠ 2042 → k ≠ 2043 → gI μ' k = gI μ k)
    (X6 : ∀ t, t < 6 → gI μ' (1100 + 2 * t) 0 = nI (T'.1 2 42 t) - 1 ∧ gI μ' (1100 + 2 * t) 1 = nI (T'.1 2 43 t) ∧ ∀ i, i < 60 → gL μ' ((1100 + 2 * t) + 1) i = T'.2.1 t i)
    (M6 : ∀ t, t < 6 → gI μ' 2042 t = nI (T'.1 2 42 t) - 1 ∧ gI μ' 2043 t = nI (T'.1 2 43 t) ∧ ∀ i, i < 60 → gL μ' 2044 (60 * t + i) = T'.2.1 t i)
    (o6 : ∀ t, t < 6 → T'.1 2 42 t ≤ 5 ∧ T'.1 2 43 t ≤ 60 ∧ (T'.1 2 42 t = 0 → T'.1 2 43 t = 0)) : RR T' μ' := by
  obtain ⟨⟨_, _, x3, _, x5, _⟩, ⟨_, _, m3, _, m5, _⟩, _, _, o3, _, o5, _⟩ := id hR
  refine R_glob hR h0 h1 h3 (h2 39 0 (by omega) (by omega)) (h2 17 0 (by omega) (by omega)) (fun k hk => gi k (by omega) (by omega) (by omega)) (fun k q1 q2 q3 q4 => gi k (by omega) (by omega) (by omega)) (fun i q1 q2 => by rw [gi 2000 (by omega) (by omega) (by omega)]) ?_ ?_ X6 ?_ ?_ M6 ?_ ?_ o6
  · rw [h2 11 0 (by omega) (by omega), gi 2 (by omega) (by omega) (by omega), gi 3 (by omega) (by omega) (by omega)]
    exact ⟨x3.1, fun i hi => by rw [h2 12 i (by omega) (by omega)]; exact x3.2 i hi⟩
  · rw [h2 37 0 (by omega) (by omega), gi 5 (by omega) (by omega) (by omega), gi 6 (by omega) (by omega) (by omega)]
    exact ⟨x5.1, fun i hi hi' => by rw [h2 38 i (by omega) (by omega)]; exact x5.2 i hi hi'⟩
  · rw [h2 11 0 (by omega) (by omega), gi 2000 (by omega) (by omega) (by omega), gi 2012 (by omega) (by omega) (by omega)]
    exact ⟨m3.1, fun i hi => by rw [h2 12 i (by omega) (by omega)]; exact m3.2 i hi⟩
  · rw [h2 37 0 (by omega) (by omega), gi 2000 (by omega) (by omega) (by omega), gi 2038 (by omega) (by omega) (by omega)]
    exact ⟨m5.1, fun i hi hi' => by rw [h2 38 i (by omega) (by omega)]; exact m5.2 i hi hi'⟩
  · rw [h2 11 0 (by omega) (by omega)]
    exact ⟨o3.1, fun i hi => by rw [h2 12 i (by omega) (by omega)]; exact o3.2 i hi⟩
  · rw [h2 37 0 (by omega) (by omega)]; exact o5
def kept (s : Nat) (v : Int64) : Int64 := if s = 0 then v.toInt32.toInt8.toInt32.toInt64 else if s = 1 then v.toInt32.toInt16.toInt32.toInt64 else if s = 2 then v.toInt32.toInt64 else if s = 3 then v else if v = 0 then 0 else 1
theorem kept_4 {v : Int64} (hv : ¬ v = 0) : kept 4 v = 1 := by
  unfold kept
  rw [if_neg (by decide), if_neg (by decide), if_neg (by decide), if_neg (by decide), if_neg hv]
theorem kept6 {μ : Mem} {k s : Nat} {v : Int64} (h : gI μ k 0 = nI s) (hs : s ≤ 4) : f_X4_asItem μ k v = some (kept s v) := by
  by_cases hv : v = 0
  · subst hv
    unfold f_X4_asItem
    rw [h]
    rcases (show s = 0 ∨ s = 1 ∨ s = 2 ∨ s = 3 ∨ s = 4 by omega) with rfl | rfl | rfl | rfl | rfl <;> rfl
  · rcases (show s = 0 ∨ s = 1 ∨ s = 2 ∨ s = 3 ∨ s = 4 by omega) with rfl | rfl | rfl | rfl | rfl
    · unfold f_X4_asItem; rw [h]; rfl
    · unfold f_X4_asItem; rw [h]; rfl
    · unfold f_X4_asItem; rw [h]; rfl
    · unfold f_X4_asItem; rw [h]; rfl
    · rw [kept_4 hv]
      unfold f_X4_asItem
      rw [h]
      simp only [bind_s]
      rw [if_neg (by decide), if_neg (by decide), if_neg (by decide), if_pos (by decide), if_neg (fun q => hv ((cmp_eq v 0).mp q))]
theorem kept7 {μ : Mem} {s : Nat} {v : Int64} (hs : s ≤ 4) : f_X7_kept μ (nI s) v = some (kept s v) := by
  by_cases hv : v = 0
  · subst hv
    unfold f_X7_kept
    rcases (show s = 0 ∨ s = 1 ∨ s = 2 ∨ s = 3 ∨ s = 4 by omega) with rfl | rfl | rfl | rfl | rfl <;> rfl
  · rcases (show s = 0 ∨ s = 1 ∨ s = 2 ∨ s = 3 ∨ s = 4 by omega) with rfl | rfl | rfl | rfl | rfl
    · rfl
    · rfl
    · rfl
    · rfl
    · rw [kept_4 hv]
      unfold f_X7_kept
      rw [if_neg (by decide), if_neg (by decide), if_neg (by decide), if_neg (by decide), if_neg (fun q => hv ((cmp_eq v 0).mp q))]
def tapT (T : PT) (g : Nat → Nat → Int64) : PT := (T.1, g, T.2.2)
theorem s_item {T : PT} {μ : Mem} (hR : RR T μ) (a b : Int32) (v : Int64) : Step μ (fun μ => f_X6_item μ a b v) (fun μ => f_X7_item μ a b v) := by
  obtain ⟨⟨_, _, _, _, _, x6⟩, ⟨_, _, _, _, _, m6⟩, _, _, _, _, _, o6⟩ := id hR
  rcases arg a (lo := 0) (hi := 5) (A := 0) (B := 5) (C := 0) (D := 5) rfl rfl rfl rfl with ⟨t, _, ht, _, rfl, hax, ham⟩ | ⟨_, hax, ham⟩
  · obtain ⟨L, hL, _, hLx, hLm, hs⟩ := tapeF hR (t := t) (by omega)
    rcases hs with ⟨_, h0, hsx, hsm⟩ | ⟨s, hs4, _, hsx, hsm⟩
    · refine step_q (r := -11) hR ?_ ?_
      · show f_X6_item μ _ _ _ = _
        unfold f_X6_item; rw [hax]
        simp (disch := omega) only [ofN, lC_lt, lC_ge, lC_eq, lC_gt, lC_le, T_ltL, F_ltL, T_leL, F_leL, T_eqL, F_eqL, m1_0, lN_add, nI_lE, lN_i, ↓reduceIte, bind_s, T_lt, F_lt, T_le, F_le, T_eq, F_eq, F_neg, T_ltm, F_lem, F_ltm, nI_add, nI_mul, nI_sub, ldI_n, stI_n, aix_n, ldL_n, stL_n, ldF_n, gI_atE, gI_ne1, gI_ne2, gL_atE, gL_ne1, gL_ne2, gL_s, gI_s, w7T, w7F1, w7F2, and31, K0, K1, K2, K3, K4, K5, K6, K7, K8, K9, K10, K11, K12, K14, K16, K18, K20, K24, K29, K30, K31, K32, K33, K36, K38, K40, K41, K42, K48, K50, K51, K54, K57, K59, K60, K63, K70, K71, K84, K94, K97, K100, K101, K104, K108, K112, K120, K121, K122, K123, K124, K125, K127, K255, K300, K1000, K9999, K99999, K2147483647, hsx]
      · show f_X7_item μ _ _ _ = _
        unfold f_X7_item f_X7_isTape; rw [ham]
        simp (disch := omega) only [ofN, lC_lt, lC_ge, lC_eq, lC_gt, lC_le, T_ltL, F_ltL, T_leL, F_leL, T_eqL, F_eqL, m1_0, lN_add, nI_lE, lN_i, ↓reduceIte, bind_s, T_lt, F_lt, T_le, F_le, T_eq, F_eq, F_neg, T_ltm, F_lem, F_ltm, nI_add, nI_mul, nI_sub, ldI_n, stI_n, aix_n, ldL_n, stL_n, ldF_n, gI_atE, gI_ne1, gI_ne2, gL_atE, gL_ne1, gL_ne2, gL_s, gI_s, w7T, w7F1, w7F2, and31, K0, K1, K2, K3, K4, K5, K6, K7, K8, K9, K10, K11, K12, K14, K16, K18, K20, K24, K29, K30, K31, K32, K33, K36, K38, K40, K41, K42, K48, K50, K51, K54, K57, K59, K60, K63, K70, K71, K84, K94, K97, K100, K101, K104, K108, K112, K120, K121, K122, K123, K124, K125, K127, K255, K300, K1000, K9999, K99999, K2147483647, hsm]
    · rcases argL b (L := L) (by omega) with ⟨i, hi, rfl⟩ | ⟨hbx, hbm⟩
      · refine ⟨nI 1, sL μ (1100 + 2 * t + 1) i (kept s v), sL (sL μ (1100 + 2 * t + 1) i (kept s v)) 2044 (60 * t + i) (kept s v), tapT T (fun x y => if x = t ∧ y = i then kept s v else T.2.1 x y), ?_, ?_, ?_⟩
        · show f_X6_item μ _ _ _ = _
          unfold f_X6_item; rw [hax]
          have hk := kept6 (v := v) hsx hs4
          simp (disch := omega) only [ofN, lC_lt, lC_ge, lC_eq, lC_gt, lC_le, T_ltL, F_ltL, T_leL, F_leL, T_eqL, F_eqL, m1_0, lN_add, nI_lE, lN_i, ↓reduceIte, bind_s, T_lt, F_lt, T_le, F_le, T_eq, F_eq, F_neg, T_ltm, F_lem, F_ltm, nI_add, nI_mul, nI_sub, ldI_n, stI_n, aix_n, ldL_n, stL_n, ldF_n, gI_atE, gI_ne1, gI_ne2, gL_atE, gL_ne1, gL_ne2, gL_s, gI_s, w7T, w7F1, w7F2, and31, K0, K1, K2, K3, K4, K5, K6, K7, K8, K9, K10, K11, K12, K14, K16, K18, K20, K24, K29, K30, K31, K32, K33, K36, K38, K40, K41, K42, K48, K50, K51, K54, K57, K59, K60, K63, K70, K71, K84, K94, K97, K100, K101, K104, K108, K112, K120, K121, K122, K123, K124, K125, K127, K255, K300, K1000, K9999, K99999, K2147483647, hLx, hsx, L0, L1, L2, L3, L4, L5, L6, L9, L29, L30, L60, L127, L9999, L1000000000, w6T, hk]
        · show f_X7_item _ _ _ _ = _
          unfold f_X7_item f_X7_isTape; rw [ham]
          simp (disch := omega) only [ofN, lC_lt, lC_ge, lC_eq, lC_gt, lC_le, T_ltL, F_ltL, T_leL, F_leL, T_eqL, F_eqL, m1_0, lN_add, nI_lE, lN_i, ↓reduceIte, bind_s, T_lt, F_lt, T_le, F_le, T_eq, F_eq, F_neg, T_ltm, F_lem, F_ltm, nI_add, nI_mul, nI_sub, ldI_n, stI_n, aix_n, ldL_n, stL_n, ldF_n, gI_atE, gI_ne1, gI_ne2, gL_atE, gL_ne1, gL_ne2, gL_s, gI_s, w7T, w7F1, w7F2, and31, K0, K1, K2, K3, K4, K5, K6, K7, K8, K9, K10, K11, K12, K14, K16, K18, K20, K24, K29, K30, K31, K32, K33, K36, K38, K40, K41, K42, K48, K50, K51, K54, K57, K59, K60, K63, K70, K71, K84, K94, K97, K100, K101, K104, K108, K112, K120, K121, K122, K123, K124, K125, K127, K255, K300, K1000, K9999, K99999, K2147483647, hsm, hLm, kept7]
        · refine R_tape hR rfl rfl rfl (fun f i _ _ => rfl) (fun k _ _ _ => rfl) (fun t' ht' => ⟨(x6 t' ht').1, (x6 t' ht').2.1, fun j hj => ?_⟩) (fun t' ht' => ⟨(m6 t' ht').1, (m6 t' ht').2.1, fun j hj => ?_⟩) o6
          · have := (x6 t' ht').2.2 j hj
            show gL (sL (sL μ (1100 + 2 * t + 1) i (kept s v)) 2044 (60 * t + i) (kept s v)) _ j = if t' = t ∧ j = i then kept s v else T.2.1 t' j
            by_cases h : t' = t ∧ j = i
            · rw [if_pos h]; simp (disch := omega) only [gI_atE, gI_ne1, gI_ne2, gL_atE, gL_ne1, gL_ne2, gL_s, gI_s, up_atE, up_n1, up_n2]
            · rw [if_neg h, ← this]
              by_cases h2 : t' = t
              · simp (disch := omega) only [gI_atE, gI_ne1, gI_ne2, gL_atE, gL_ne1, gL_ne2, gL_s, gI_s, up_atE, up_n1, up_n2]
              · simp (disch := omega) only [gI_atE, gI_ne1, gI_ne2, gL_atE, gL_ne1, gL_ne2, gL_s, gI_s, up_atE, up_n1, up_n2]
          · have := (m6 t' ht').2.2 j hj
            show gL (sL (sL μ (1100 + 2 * t + 1) i (kept s v)) 2044 (60 * t + i) (kept s v)) _ _ = if t' = t ∧ j = i then kept s v else T.2.1 t' j
            by_cases h : t' = t ∧ j = i
            · rw [if_pos h]; simp (disch := omega) only [gI_atE, gI_ne1, gI_ne2, gL_atE, gL_ne1, gL_ne2, gL_s, gI_s, up_atE, up_n1, up_n2]
            · rw [if_neg h, ← this]; simp (disch := omega) only [gI_atE, gI_ne1, gI_ne2, gL_atE, gL_ne1, gL_ne2, gL_s, gI_s, up_atE, up_n1, up_n2]
      · refine step_q (r := -13) hR ?_ ?_
        · show f_X6_item μ _ _ _ = _
          unfold f_X6_item; rw [hax]
          simp only [bind_s]
          rw [if_neg (by decide), aix_n (by omega) (by omega)]
          simp only [bind_s]
          rw [hsx, if_pos (nI_pos' (by omega)), hLx, hbx]; rfl
        · show f_X7_item μ _ _ _ = _
          unfold f_X7_item f_X7_isTape; rw [ham]
          simp only [bind_s]
          rw [if_neg (by decide), ldI_n (by omega) (by omega)]
          simp only [bind_s]
          rw [hsm, if_pos (nI_pos' (by omega)), ldI_n (by omega) (by omega)]
          simp only [bind_s]
          rw [hLm, hbm]; rfl
  · refine step_q (r := -1) hR ?_ ?_
    · show f_X6_item μ a b v = _
      unfold f_X6_item; rw [hax]; rfl
    · show f_X7_item μ a b v = _
      unfold f_X7_item f_X7_isTape; rw [ham]; rfl
