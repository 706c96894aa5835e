theorem s_undo {T : PT} {μ : Mem} (hR : RR T μ) : Same T μ f_X6_undo f_X7_undo := by
  obtain ⟨⟨x1, ⟨x2, x2'⟩, _⟩, ⟨m1, ⟨m2, m2'⟩, _⟩, o1, ⟨o2, o2'⟩, _⟩ := id hR
  by_cases h : T.1 2 39 0 = 0
  · rw [h] at x2 m2
    refine same_q (r := -3) hR ?_ ?_
    · unfold f_X6_undo
      simp (disch := omega) only [ofN, lC_lt, lC_ge, lC_eq, lC_gt, lC_le, T_ltL, F_ltL, T_leL, F_leL, T_eqL, F_eqL, m1_0, lN_add, nI_lE, lN_i, ↓reduceIte, bind_s, T_lt, F_lt, T_le, F_le, T_eq, F_eq, F_neg, T_ltm, F_lem, F_ltm, nI_add, nI_mul, nI_sub, ldI_n, stI_n, aix_n, ldL_n, stL_n, ldF_n, gI_atE, gI_ne1, gI_ne2, gL_atE, gL_ne1, gL_ne2, gL_s, gI_s, w7T, w7F1, w7F2, and31, K0, K1, K2, K3, K4, K5, K6, K7, K8, K9, K10, K11, K12, K14, K16, K18, K20, K24, K29, K30, K31, K32, K33, K36, K38, K40, K41, K42, K48, K50, K51, K54, K57, K59, K60, K63, K70, K71, K84, K94, K97, K100, K101, K104, K108, K112, K120, K121, K122, K123, K124, K125, K127, K255, K300, K1000, K9999, K99999, K2147483647, x2]
    · unfold f_X7_undo
      simp (disch := omega) only [ofN, lC_lt, lC_ge, lC_eq, lC_gt, lC_le, T_ltL, F_ltL, T_leL, F_leL, T_eqL, F_eqL, m1_0, lN_add, nI_lE, lN_i, ↓reduceIte, bind_s, T_lt, F_lt, T_le, F_le, T_eq, F_eq, F_neg, T_ltm, F_lem, F_ltm, nI_add, nI_mul, nI_sub, ldI_n, stI_n, aix_n, ldL_n, stL_n, ldF_n, gI_atE, gI_ne1, gI_ne2, gL_atE, gL_ne1, gL_ne2, gL_s, gI_s, w7T, w7F1, w7F2, and31, K0, K1, K2, K3, K4, K5, K6, K7, K8, K9, K10, K11, K12, K14, K16, K18, K20, K24, K29, K30, K31, K32, K33, K36, K38, K40, K41, K42, K48, K50, K51, K54, K57, K59, K60, K63, K70, K71, K84, K94, K97, K100, K101, K104, K108, K112, K120, K121, K122, K123, K124, K125, K127, K255, K300, K1000, K9999, K99999, K2147483647, m2]
  · have h1 : T.1 2 39 0 = 1 := by omega
    have ho := o2' h1
    obtain ⟨ν, e1, e2, e3⟩ := bec (p := 100) (q := 200) (by omega) (x2' h1) ho.n
    obtain ⟨ξ, f1, f2, f3⟩ := again_ok (μ := ν) (k := 2040) (σ := T.1 1) (.inl rfl) (by have q := m2' h1; unfold IM at q ⊢; rw [e2.1 2040 (by omega)]; exact q) ho
    rw [h1] at x2 m2
    have m2v : gI ν 2000 39 = nI 1 := by rw [e2.1 2000 (by omega)]; exact m2
    refine same_n (r := nI (T.1 1 0 0)) (σ := T.1 1) (μ1 := ν) (μ2 := ξ) hR ?_ ?_ (fun k q1 q2 => ⟨e2.1 k (by omega), e2.2 k⟩) e3 f2 f3 ho
    · unfold f_X6_undo
      simp (disch := omega) only [ofN, lC_lt, lC_ge, lC_eq, lC_gt, lC_le, T_ltL, F_ltL, T_leL, F_leL, T_eqL, F_eqL, m1_0, lN_add, nI_lE, lN_i, ↓reduceIte, bind_s, T_lt, F_lt, T_le, F_le, T_eq, F_eq, F_neg, T_ltm, F_lem, F_ltm, nI_add, nI_mul, nI_sub, ldI_n, stI_n, aix_n, ldL_n, stL_n, ldF_n, gI_atE, gI_ne1, gI_ne2, gL_atE, gL_ne1, gL_ne2, gL_s, gI_s, w7T, w7F1, w7F2, and31, K0, K1, K2, K3, K4, K5, K6, K7, K8, K9, K10, K11, K12, K14, K16, K18, K20, K24, K29, K30, K31, K32, K33, K36, K38, K40, K41, K42, K48, K50, K51, K54, K57, K59, K60, K63, K70, K71, K84, K94, K97, K100, K101, K104, K108, K112, K120, K121, K122, K123, K124, K125, K127, K255, K300, K1000, K9999, K99999, K2147483647, x2, e1]
      rw [e3.1.1]
    · unfold f_X7_undo
      simp (disch := omega) only [ofN, lC_lt, lC_ge, lC_eq, lC_gt, lC_le, T_ltL, F_ltL, T_leL, F_leL, T_eqL, F_eqL, m1_0, lN_add, nI_lE, lN_i, ↓reduceIte, bind_s, T_lt, F_lt, T_le, F_le, T_eq, F_eq, F_neg, T_ltm, F_lem, F_ltm, nI_add, nI_mul, nI_sub, ldI_n, stI_n, aix_n, ldL_n, stL_n, ldF_n, gI_atE, gI_ne1, gI_ne2, gL_atE, gL_ne1, gL_ne2, gL_s, gI_s, w7T, w7F1, w7F2, and31, K0, K1, K2, K3, K4, K5, K6, K7, K8, K9, K10, K11, K12, K14, K16, K18, K20, K24, K29, K30, K31, K32, K33, K36, K38, K40, K41, K42, K48, K50, K51, K54, K57, K59, K60, K63, K70, K71, K84, K94, K97, K100, K101, K104, K108, K112, K120, K121, K122, K123, K124, K125, K127, K255, K300, K1000, K9999, K99999, K2147483647, m2v, f1]
      rw [f3.1.1]
/-- a step that leaves text, stores, acts and tapes as they are -/
theorem R_st {T T' : PT} {μ μ' : Mem} (hR : RR T μ) (h3 : T'.2 = T.2) (h2 : ∀ f i, f ≠ 39 → T'.1 2 f i = T.1 2 f i)
    (gx : ∀ k, (2 ≤ k ∧ k < 8) ∨ (1000 ≤ k ∧ k < 1112) ∨ k = 2012 ∨ (2019 ≤ k ∧ k ≤ 2024) ∨ k = 2038 ∨ (2042 ≤ k ∧ k ≤ 2044) → gI μ' k = gI μ k)
    (g1 : gI μ' 1 6 = gI μ 1 6) (gf : ∀ i, i = 11 ∨ i = 17 ∨ i = 25 ∨ i = 37 → gI μ' 2000 i = gI μ 2000 i) (gl : ∀ k, gL μ' k = gL μ k)
    (X1 : XS μ' 100 (T'.1 0)) (X2 : gI μ' 1 3 = nI (T'.1 2 39 0) ∧ (T'.1 2 39 0 = 1 → XS μ' 200 (T'.1 1)))
    (M1 : MS μ' (T'.1 0)) (M2 : gI μ' 2000 39 = nI (T'.1 2 39 0) ∧ (T'.1 2 39 0 = 1 → IM μ' 2040 (T'.1 1)))
    (o1 : okS 9999 (T.1 2 17 0) (T'.1 0)) (o2 : T'.1 2 39 0 ≤ 1 ∧ (T'.1 2 39 0 = 1 → okS 9999 (T.1 2 17 0) (T'.1 1))) : RR T' μ' := by
  obtain ⟨⟨_, _, ⟨x3, x3'⟩, ⟨x4, x4'⟩, ⟨x5, x5'⟩, x6⟩, ⟨_, _, ⟨m3, m3'⟩, ⟨m4, c, m4', m4c, m4''⟩, ⟨m5, m5'⟩, m6⟩, _, _, ⟨o3, o3'⟩, ⟨o4, o4'⟩, o5, o6⟩ := hR
  have e11 := h2 11 0 (by omega)
  have e17 := h2 17 0 (by omega)
  have e37 := h2 37 0 (by omega)
  have e12 := fun i => h2 12 i (by omega)
  have e38 := fun i => h2 38 i (by omega)
  have e42 := fun i => h2 42 i (by omega)
  have e43 := fun i => h2 43 i (by omega)
  refine ⟨⟨X1, X2, ?_, ?_, ?_, ?_⟩, ⟨M1, M2, ?_, ?_, ?_, ?_⟩, ?_, ?_, ?_, ?_, ?_, ?_⟩
  · rw [e11, gx 2 (by omega), gx 3 (by omega)]; exact ⟨x3, fun i hi => by rw [e12]; exact x3' i hi⟩
  · rw [e17, g1, h3]; exact ⟨x4, fun k hk => XC_c (fun j q1 q2 => gx j (by omega)) (x4' k hk)⟩
  · rw [e37, gx 5 (by omega), gx 6 (by omega)]; exact ⟨x5, fun i hi hi' => by rw [e38]; exact x5' i hi hi'⟩
  · intro t ht
    rw [e42, e43, h3, gx _ (by omega), gl]; exact x6 t ht
  · rw [e11, gf 11 (by omega), gx 2012 (by omega)]; exact ⟨m3, fun i hi => by rw [e12]; exact m3' i hi⟩
  · rw [e17, h3, gf 17 (by omega), gf 25 (by omega)]
    refine ⟨m4, c, m4', m4c, fun k hk => ⟨MC_c (fun j q1 q2 => gx j (by omega)) (m4'' k hk).1, ?_⟩⟩
    rw [gx 2022 (by omega)]
    exact (m4'' k hk).2
  · rw [e37, gf 37 (by omega), gx 2038 (by omega)]; exact ⟨m5, fun i hi hi' => by rw [e38]; exact m5' i hi hi'⟩
  · intro t ht
    rw [e42, e43, h3, gx 2042 (by omega), gx 2043 (by omega), gl]; exact m6 t ht
  · rw [e17]; exact o1
  · rw [e17]; exact o2
  · rw [e11]; exact ⟨o3, fun i hi => by rw [e12]; exact o3' i hi⟩
  · rw [e17, h3]; exact ⟨o4, o4'⟩
  · rw [e37]; exact o5
  · intro t ht
    rw [e42, e43]; exact o6 t ht
theorem s_image {T : PT} {μ : Mem} (hR : RR T μ) : Step μ f_X6_image f_X7_image := by
  obtain ⟨⟨x1, ⟨x2, x2'⟩, _⟩, ⟨m1, ⟨m2, m2'⟩, _⟩, o1, ⟨o2, o2'⟩, _⟩ := id hR
  obtain ⟨ν, e1, e2, e3⟩ := bec (p := 200) (q := 100) (by omega) x1 o1.n
  obtain ⟨ν1, hν1⟩ : ∃ ν1, ν1 = sI (sI ν 1 3 (nI 1)) 2000 39 (nI 1) := ⟨_, rfl⟩
  have hν1c : ∀ k, k ≠ 1 → k ≠ 2000 → gI ν1 k = gI ν k := fun k q1 q2 => by rw [hν1, gI_sI_ne q2, gI_sI_ne q1]
  have hM1 : MS ν1 (T.1 0) := by
    refine MS_c (fun i hi => ?_) (fun k q1 q2 _ => by rw [hν1c k (by omega) (by omega), e2.1 k (by omega)]) m1
    unfold mfld at hi
    rw [hν1, gI_ne2 (by omega), gI_ne1 (by omega), e2.1 2000 (by omega)]
  obtain ⟨ξ, f1, f2, f3, f4⟩ := keep_ok (μ := ν1) (k := 2040) (.inl rfl) hM1 o1
  have hx : ∀ k, k ≠ 1 → k ≠ 2000 → k ≠ 2040 → ¬ (200 ≤ k ∧ k < 260) → gI ξ k = gI μ k := fun k q1 q2 q3 q4 => by rw [f2 k q3, hν1c k q1 q2, e2.1 k q4]
  have h20 : ∀ i, i ≠ 39 → gI ξ 2000 i = gI μ 2000 i := fun i hi => by rw [f2 2000 (by omega), hν1, gI_ne2 hi, gI_ne1 (by omega), e2.1 2000 (by omega)]
  refine ⟨nI (T.1 0 0 0), sI ν 1 3 (nI 1), ξ, (fun a => if a = 1 then T.1 0 else if a = 2 then up (T.1 2) 39 0 1 else T.1 a, T.2), ?_, ?_, ?_⟩
  · unfold f_X6_image
    simp (disch := omega) only [ofN, lC_lt, lC_ge, lC_eq, lC_gt, lC_le, T_ltL, F_ltL, T_leL, F_leL, T_eqL, F_eqL, m1_0, lN_add, nI_lE, lN_i, ↓reduceIte, bind_s, T_lt, F_lt, T_le, F_le, T_eq, F_eq, F_neg, T_ltm, F_lem, F_ltm, nI_add, nI_mul, nI_sub, ldI_n, stI_n, aix_n, ldL_n, stL_n, ldF_n, gI_atE, gI_ne1, gI_ne2, gL_atE, gL_ne1, gL_ne2, gL_s, gI_s, w7T, w7F1, w7F2, and31, K0, K1, K2, K3, K4, K5, K6, K7, K8, K9, K10, K11, K12, K14, K16, K18, K20, K24, K29, K30, K31, K32, K33, K36, K38, K40, K41, K42, K48, K50, K51, K54, K57, K59, K60, K63, K70, K71, K84, K94, K97, K100, K101, K104, K108, K112, K120, K121, K122, K123, K124, K125, K127, K255, K300, K1000, K9999, K99999, K2147483647, e1]
    rw [e2.1 100 (by omega), x1.1.1]
  · unfold f_X7_image
    simp (disch := omega) only [ofN, lC_lt, lC_ge, lC_eq, lC_gt, lC_le, T_ltL, F_ltL, T_leL, F_leL, T_eqL, F_eqL, m1_0, lN_add, nI_lE, lN_i, ↓reduceIte, bind_s, T_lt, F_lt, T_le, F_le, T_eq, F_eq, F_neg, T_ltm, F_lem, F_ltm, nI_add, nI_mul, nI_sub, ldI_n, stI_n, aix_n, ldL_n, stL_n, ldF_n, gI_atE, gI_ne1, gI_ne2, gL_atE, gL_ne1, gL_ne2, gL_s, gI_s, w7T, w7F1, w7F2, and31, K0, K1, K2, K3, K4, K5, K6, K7, K8, K9, K10, K11, K12, K14, K16, K18, K20, K24, K29, K30, K31, K32, K33, K36, K38, K40, K41, K42, K48, K50, K51, K54, K57, K59, K60, K63, K70, K71, K84, K94, K97, K100, K101, K104, K108, K112, K120, K121, K122, K123, K124, K125, K127, K255, K300, K1000, K9999, K99999, K2147483647]
    rw [← hν1, f1]
    simp (disch := omega) only [ofN, lC_lt, lC_ge, lC_eq, lC_gt, lC_le, T_ltL, F_ltL, T_leL, F_leL, T_eqL, F_eqL, m1_0, lN_add, nI_lE, lN_i, ↓reduceIte, bind_s, T_lt, F_lt, T_le, F_le, T_eq, F_eq, F_neg, T_ltm, F_lem, F_ltm, nI_add, nI_mul, nI_sub, ldI_n, stI_n, aix_n, ldL_n, stL_n, ldF_n, gI_atE, gI_ne1, gI_ne2, gL_atE, gL_ne1, gL_ne2, gL_s, gI_s, w7T, w7F1, w7F2, and31, K0, K1, K2, K3, K4, K5, K6, K7, K8, K9, K10, K11, K12, K14, K16, K18, K20, K24, K29, K30, K31, K32, K33, K36, K38, K40, K41, K42, K48, K50, K51, K54, K57, K59, K60, K63, K70, K71, K84, K94, K97, K100, K101, K104, K108, K112, K120, K121, K122, K123, K124, K125, K127, K255, K300, K1000, K9999, K99999, K2147483647]
    rw [h20 0 (by omega), m1.1.1]
  · refine R_st hR rfl (fun f i hf => ?_) (fun k hk => hx k (by omega) (by omega) (by omega) (by omega)) ?_ (fun i hi => h20 i (by omega)) (fun k => ?_) ?_ ⟨?_, fun _ => ?_⟩ ?_ ⟨?_, fun _ => ?_⟩ o1 ⟨?_, fun _ => o1⟩
    · show up (T.1 2) 39 0 1 f i = _
      rw [up_n1 hf]
    · rw [f2 1 (by omega), hν1, gI_ne1 (by omega), gI_ne2 (by omega), e2.1 1 (by omega)]
    · rw [f3, hν1]
      show gL ν k = _
      rw [e2.2]
    · exact XS_c (fun k q1 q2 => hx k (by omega) (by omega) (by omega) (by omega)) x1 o1.n
    · show _ = nI (up (T.1 2) 39 0 1 39 0)
      rw [up_at, f2 1 (by omega), hν1, gI_ne1 (by omega), gI_at]
    · exact XS_c (fun k q1 q2 => by rw [f2 k (by omega), hν1c k (by omega) (by omega)]) e3 o1.n
    · show MS ξ (T.1 0)
      refine MS_c (fun i hi => h20 i (by unfold mfld at hi; omega)) (fun k q1 q2 _ => hx k (by omega) (by omega) (by omega) (by omega)) m1
    · show _ = nI (up (T.1 2) 39 0 1 39 0)
      rw [up_at, f2 2000 (by omega), hν1, gI_at]
    · exact f4
    · show up (T.1 2) 39 0 1 39 0 ≤ 1
      rw [up_at]; omega
