theorem XO_add {μ : Mem} {k i : Nat} {a b c : Int32} (h : 100 ≤ k ∧ k + 1 + 1 + i < 160) : XO μ (addM μ k i a b c) := by
  unfold addM
  exact XO.trans (XO.trans (XO.trans (XO_s (by omega)) (XO_s (by omega))) (XO_s (by omega))) (XO_s (by omega))
theorem s_hear {T : PT} {μ : Mem} (hR : RR T μ) (a b c : Int32) : Same T μ (fun μ => f_X6_hear μ a b c) (fun μ => f_X7_hear μ a b c) := by
  obtain ⟨⟨x1, _⟩, ⟨m1, _⟩, o1, _⟩ := id hR
  have hE := o1.1.1
  have hH := o1.2.2.1.1
  have hxc : gI μ (100 + 10) 1 = nI (T.1 0 27 0) := x1.2.2.1.1
  have hmc : gI μ 2000 27 = nI (T.1 0 27 0) := m1.2.2.1.1
  have hmE : gI μ 2000 0 = nI (T.1 0 0 0) := m1.1.1
  by_cases ha : a = -1
  · subst ha
    refine same_n (r := 0) (σ := up (T.1 0) 27 0 0) (μ1 := sI μ (100 + 10) 1 (nI 0)) (μ2 := sI (sI μ (100 + 10) 1 (nI 0)) 2000 27 (nI 0)) hR ?_ ?_ (XO_s (by omega)) (XS_zero x1 o1.n (by omega)) (MO_f (by unfold mfld; omega)) (MS_zero (MS_X (fun k hk => gI_sI_ne (by omega)) m1) (by omega)) (okS_zero o1 (by omega))
    · show f_X6_hear μ _ _ _ = _
      unfold f_X6_hear f_X1_empty; rw [if_pos rfl]; rfl
    · show f_X7_hear _ _ _ _ = _
      unfold f_X7_hear; rw [if_pos rfl]; rfl
  rcases oneS (S := 100) (E := T.1 0 0 0) (by omega) a with ⟨e, he, rfl, hx, hm⟩ | ⟨hn, hx, hm⟩
  · rcases arg b (lo := 0) (hi := 60) (A := 0) (B := 60) (C := 0) (D := 60) rfl rfl rfl rfl with ⟨n, _, hn, _, rfl, hbx, hbm⟩ | ⟨_, hbx, hbm⟩
    · by_cases h6 : T.1 0 27 0 = 6
      · refine same_q (r := -4) hR ?_ ?_
        · show f_X6_hear μ _ _ _ = _
          unfold f_X6_hear
          rw [if_neg ha, hx μ x1.1.1, hbx]
          by_cases hc : c = 0
          · subst hc
            simp (disch := omega) only [ofN, lC_lt, lC_ge, lC_eq, lC_gt, lC_le, T_ltL, F_ltL, T_leL, F_leL, T_eqL, F_eqL, m1_0, lN_add, nI_lE, lN_i, ↓reduceIte, bind_s, T_lt, F_lt, T_le, F_le, T_eq, F_eq, F_neg, T_ltm, F_lem, F_ltm, nI_add, nI_mul, nI_sub, ldI_n, stI_n, aix_n, ldL_n, stL_n, ldF_n, gI_atE, gI_ne1, gI_ne2, gL_atE, gL_ne1, gL_ne2, gL_s, gI_s, w7T, w7F1, w7F2, and31, K0, K1, K2, K3, K4, K5, K6, K7, K8, K9, K10, K11, K12, K14, K16, K18, K20, K24, K29, K30, K31, K32, K33, K36, K38, K40, K41, K42, K48, K50, K51, K54, K57, K59, K60, K63, K70, K71, K84, K94, K97, K100, K101, K104, K108, K112, K120, K121, K122, K123, K124, K125, K127, K255, K300, K1000, K9999, K99999, K2147483647, f_X6_hear_62, f_X1_add, hxc, h6]
          · have hc' : (c = nI 0) = False := eq_false hc
            simp (disch := omega) only [ofN, lC_lt, lC_ge, lC_eq, lC_gt, lC_le, T_ltL, F_ltL, T_leL, F_leL, T_eqL, F_eqL, m1_0, lN_add, nI_lE, lN_i, ↓reduceIte, bind_s, T_lt, F_lt, T_le, F_le, T_eq, F_eq, F_neg, T_ltm, F_lem, F_ltm, nI_add, nI_mul, nI_sub, ldI_n, stI_n, aix_n, ldL_n, stL_n, ldF_n, gI_atE, gI_ne1, gI_ne2, gL_atE, gL_ne1, gL_ne2, gL_s, gI_s, w7T, w7F1, w7F2, and31, K0, K1, K2, K3, K4, K5, K6, K7, K8, K9, K10, K11, K12, K14, K16, K18, K20, K24, K29, K30, K31, K32, K33, K36, K38, K40, K41, K42, K48, K50, K51, K54, K57, K59, K60, K63, K70, K71, K84, K94, K97, K100, K101, K104, K108, K112, K120, K121, K122, K123, K124, K125, K127, K255, K300, K1000, K9999, K99999, K2147483647, f_X6_hear_62, f_X1_add, hxc, h6, hc']
        · show f_X7_hear μ _ _ _ = _
          unfold f_X7_hear
          rw [if_neg ha, hm μ m1.1.1, hbm]
          simp (disch := omega) only [ofN, lC_lt, lC_ge, lC_eq, lC_gt, lC_le, T_ltL, F_ltL, T_leL, F_leL, T_eqL, F_eqL, m1_0, lN_add, nI_lE, lN_i, ↓reduceIte, bind_s, T_lt, F_lt, T_le, F_le, T_eq, F_eq, F_neg, T_ltm, F_lem, F_ltm, nI_add, nI_mul, nI_sub, ldI_n, stI_n, aix_n, ldL_n, stL_n, ldF_n, gI_atE, gI_ne1, gI_ne2, gL_atE, gL_ne1, gL_ne2, gL_s, gI_s, w7T, w7F1, w7F2, and31, K0, K1, K2, K3, K4, K5, K6, K7, K8, K9, K10, K11, K12, K14, K16, K18, K20, K24, K29, K30, K31, K32, K33, K36, K38, K40, K41, K42, K48, K50, K51, K54, K57, K59, K60, K63, K70, K71, K84, K94, K97, K100, K101, K104, K108, K112, K120, K121, K122, K123, K124, K125, K127, K255, K300, K1000, K9999, K99999, K2147483647, hmc, h6]
      · obtain ⟨so, hs, hso⟩ : ∃ so : Nat, so ≤ 1 ∧ ((so = 0 ∧ c = 0) ∨ (so = 1 ∧ ¬ c = 0)) := by
          by_cases hc : c = 0
          · exact ⟨0, by omega, .inl ⟨rfl, hc⟩⟩
          · exact ⟨1, by omega, .inr ⟨rfl, hc⟩⟩
        obtain ⟨H, hHd⟩ : ∃ H, H = T.1 0 27 0 := ⟨_, rfl⟩
        have hX := XS_heard (e := e) (n := n) (so := so) x1 o1.n (by omega)
        rw [← hHd] at hX hxc hmc h6 hH
        refine same_n (r := nI (H + 1)) (σ := up (up (up (up (T.1 0) 28 H e) 29 H n) 30 H so) 27 0 (H + 1)) (μ1 := addM μ (100 + 10) H (nI e) (nI n) (nI so)) (μ2 := sI (sI (sI (sI (addM μ (100 + 10) H (nI e) (nI n) (nI so)) 2028 H (nI e)) 2029 H (nI n)) 2000 27 (nI (H + 1))) 2030 H (nI so)) hR ?_ ?_ (XO_add (by omega)) hX ?_ (MS_heard (MS_X (fun k hk => addM_ne (by omega) (by omega)) m1) hHd (by omega)) ?_
        · show f_X6_hear μ _ _ _ = _
          unfold f_X6_hear
          rw [if_neg ha, hx μ x1.1.1, hbx]
          rcases hso with ⟨rfl, rfl⟩ | ⟨rfl, hc⟩
          · simp (disch := omega) only [ofN, lC_lt, lC_ge, lC_eq, lC_gt, lC_le, T_ltL, F_ltL, T_leL, F_leL, T_eqL, F_eqL, m1_0, lN_add, nI_lE, lN_i, ↓reduceIte, bind_s, T_lt, F_lt, T_le, F_le, T_eq, F_eq, F_neg, T_ltm, F_lem, F_ltm, nI_add, nI_mul, nI_sub, ldI_n, stI_n, aix_n, ldL_n, stL_n, ldF_n, gI_atE, gI_ne1, gI_ne2, gL_atE, gL_ne1, gL_ne2, gL_s, gI_s, w7T, w7F1, w7F2, and31, K0, K1, K2, K3, K4, K5, K6, K7, K8, K9, K10, K11, K12, K14, K16, K18, K20, K24, K29, K30, K31, K32, K33, K36, K38, K40, K41, K42, K48, K50, K51, K54, K57, K59, K60, K63, K70, K71, K84, K94, K97, K100, K101, K104, K108, K112, K120, K121, K122, K123, K124, K125, K127, K255, K300, K1000, K9999, K99999, K2147483647, f_X6_hear_62, f_X1_add, hxc, addM]
          · have hc' : (c = nI 0) = False := eq_false hc
            simp (disch := omega) only [ofN, lC_lt, lC_ge, lC_eq, lC_gt, lC_le, T_ltL, F_ltL, T_leL, F_leL, T_eqL, F_eqL, m1_0, lN_add, nI_lE, lN_i, ↓reduceIte, bind_s, T_lt, F_lt, T_le, F_le, T_eq, F_eq, F_neg, T_ltm, F_lem, F_ltm, nI_add, nI_mul, nI_sub, ldI_n, stI_n, aix_n, ldL_n, stL_n, ldF_n, gI_atE, gI_ne1, gI_ne2, gL_atE, gL_ne1, gL_ne2, gL_s, gI_s, w7T, w7F1, w7F2, and31, K0, K1, K2, K3, K4, K5, K6, K7, K8, K9, K10, K11, K12, K14, K16, K18, K20, K24, K29, K30, K31, K32, K33, K36, K38, K40, K41, K42, K48, K50, K51, K54, K57, K59, K60, K63, K70, K71, K84, K94, K97, K100, K101, K104, K108, K112, K120, K121, K122, K123, K124, K125, K127, K255, K300, K1000, K9999, K99999, K2147483647, f_X6_hear_62, f_X1_add, hxc, hc', addM]
        · show f_X7_hear _ _ _ _ = _
          unfold f_X7_hear
          rw [if_neg ha, hm _ (by rw [addM_ne (by omega) (by omega)]; exact m1.1.1), hbm]
          rcases hso with ⟨rfl, rfl⟩ | ⟨rfl, hc⟩
          · simp (disch := omega) only [ofN, lC_lt, lC_ge, lC_eq, lC_gt, lC_le, T_ltL, F_ltL, T_leL, F_leL, T_eqL, F_eqL, m1_0, lN_add, nI_lE, lN_i, ↓reduceIte, bind_s, T_lt, F_lt, T_le, F_le, T_eq, F_eq, F_neg, T_ltm, F_lem, F_ltm, nI_add, nI_mul, nI_sub, ldI_n, stI_n, aix_n, ldL_n, stL_n, ldF_n, gI_atE, gI_ne1, gI_ne2, gL_atE, gL_ne1, gL_ne2, gL_s, gI_s, w7T, w7F1, w7F2, and31, K0, K1, K2, K3, K4, K5, K6, K7, K8, K9, K10, K11, K12, K14, K16, K18, K20, K24, K29, K30, K31, K32, K33, K36, K38, K40, K41, K42, K48, K50, K51, K54, K57, K59, K60, K63, K70, K71, K84, K94, K97, K100, K101, K104, K108, K112, K120, K121, K122, K123, K124, K125, K127, K255, K300, K1000, K9999, K99999, K2147483647, f_X7_hear_91, hmc, addM]
          · have hc' : (c = nI 0) = False := eq_false hc
            simp (disch := omega) only [ofN, lC_lt, lC_ge, lC_eq, lC_gt, lC_le, T_ltL, F_ltL, T_leL, F_leL, T_eqL, F_eqL, m1_0, lN_add, nI_lE, lN_i, ↓reduceIte, bind_s, T_lt, F_lt, T_le, F_le, T_eq, F_eq, F_neg, T_ltm, F_lem, F_ltm, nI_add, nI_mul, nI_sub, ldI_n, stI_n, aix_n, ldL_n, stL_n, ldF_n, gI_atE, gI_ne1, gI_ne2, gL_atE, gL_ne1, gL_ne2, gL_s, gI_s, w7T, w7F1, w7F2, and31, K0, K1, K2, K3, K4, K5, K6, K7, K8, K9, K10, K11, K12, K14, K16, K18, K20, K24, K29, K30, K31, K32, K33, K36, K38, K40, K41, K42, K48, K50, K51, K54, K57, K59, K60, K63, K70, K71, K84, K94, K97, K100, K101, K104, K108, K112, K120, K121, K122, K123, K124, K125, K127, K255, K300, K1000, K9999, K99999, K2147483647, f_X7_hear_91, hmc, hc', addM]
        · exact MO.trans (MO.trans (MO.trans (MO_s (by unfold mrow; omega)) (MO_s (by unfold mrow; omega))) (MO_f (by unfold mfld; omega))) (MO_s (by unfold mrow; omega))
        · refine okS_rows (okS_rows (okS_rows (okS_rows o1 (.inr (.inr (.inr (.inl ⟨by omega, by omega⟩))))) (.inr (.inr (.inr (.inl ⟨by omega, by ((try simp (disch := omega) only [gI_atE, gI_ne1, gI_ne2, up_atE, up_n1, up_n2]) <;> omega)⟩))))) (.inr (.inr (.inr (.inl ⟨by omega, by ((try simp (disch := omega) only [gI_atE, gI_ne1, gI_ne2, up_atE, up_n1, up_n2]) <;> omega)⟩))))) (.inl ⟨rfl, rfl, by omega, fun x hx => ?_⟩)
          by_cases h : x = H
          · refine ⟨?_, ?_, ?_⟩ <;> ((try simp (disch := omega) only [gI_atE, gI_ne1, gI_ne2, up_atE, up_n1, up_n2]) <;> omega)
          · have := o1.2.2.1.2 x (by omega)
            refine ⟨?_, ?_, ?_⟩ <;> ((try simp (disch := omega) only [gI_atE, gI_ne1, gI_ne2, up_atE, up_n1, up_n2]) <;> omega)
    · refine same_q (r := -2) hR ?_ ?_
      · show f_X6_hear μ _ b c = _
        unfold f_X6_hear; rw [if_neg ha, hx μ x1.1.1, hbx]; rfl
      · show f_X7_hear μ _ b c = _
        unfold f_X7_hear; rw [if_neg ha, hm μ m1.1.1, hbm]; rfl
  · refine same_q (r := -1) hR ?_ ?_
    · show f_X6_hear μ a b c = _
      unfold f_X6_hear; rw [if_neg ha, hx μ x1.1.1]; rfl
    · show f_X7_hear μ a b c = _
      unfold f_X7_hear; rw [if_neg ha, hm μ m1.1.1]; rfl
theorem s_book {T : PT} {μ : Mem} (hR : RR T μ) (a b : Int32) : Same T μ (fun μ => f_X6_book μ a b) (fun μ => f_X7_book μ a b) := by
  obtain ⟨⟨x1, _⟩, ⟨m1, _⟩, o1, _⟩ := id hR
  have hE := o1.1.1
  have hH := o1.2.2.2.2.1
  have hxc : gI μ (100 + 50) 1 = nI (T.1 0 34 0) := x1.2.2.2.2.1
  have hmc : gI μ 2000 34 = nI (T.1 0 34 0) := m1.2.2.2.2.1
  by_cases ha : a = -1
  · subst ha
    refine same_n (r := 0) (σ := up (T.1 0) 34 0 0) (μ1 := sI μ (100 + 50) 1 (nI 0)) (μ2 := sI (sI μ (100 + 50) 1 (nI 0)) 2000 34 (nI 0)) hR ?_ ?_ (XO_s (by omega)) (XS_zero x1 o1.n (by omega)) (MO_f (by unfold mfld; omega)) (MS_zero (MS_X (fun k hk => gI_sI_ne (by omega)) m1) (by omega)) (okS_zero o1 (by omega))
    · show f_X6_book μ _ _ = _
      unfold f_X6_book f_X1_empty; rw [if_pos rfl]; rfl
    · show f_X7_book _ _ _ = _
      unfold f_X7_book; rw [if_pos rfl]; rfl
  rcases oneS (S := 100) (E := T.1 0 0 0) (by omega) a with ⟨e, he, rfl, hx, hm⟩ | ⟨hn, hx, hm⟩
  · rcases arg b (lo := 0) (hi := 9999) (A := 0) (B := 9999) (C := 0) (D := 9999) rfl rfl rfl rfl with ⟨n, _, hn, _, rfl, hbx, hbm⟩ | ⟨_, hbx, hbm⟩
    · by_cases h6 : T.1 0 34 0 = 8
      · refine same_q (r := -4) hR ?_ ?_
        · show f_X6_book μ _ _ = _
          unfold f_X6_book
          rw [if_neg ha, hx μ x1.1.1, hbx]
          simp (disch := omega) only [ofN, lC_lt, lC_ge, lC_eq, lC_gt, lC_le, T_ltL, F_ltL, T_leL, F_leL, T_eqL, F_eqL, m1_0, lN_add, nI_lE, lN_i, ↓reduceIte, bind_s, T_lt, F_lt, T_le, F_le, T_eq, F_eq, F_neg, T_ltm, F_lem, F_ltm, nI_add, nI_mul, nI_sub, ldI_n, stI_n, aix_n, ldL_n, stL_n, ldF_n, gI_atE, gI_ne1, gI_ne2, gL_atE, gL_ne1, gL_ne2, gL_s, gI_s, w7T, w7F1, w7F2, and31, K0, K1, K2, K3, K4, K5, K6, K7, K8, K9, K10, K11, K12, K14, K16, K18, K20, K24, K29, K30, K31, K32, K33, K36, K38, K40, K41, K42, K48, K50, K51, K54, K57, K59, K60, K63, K70, K71, K84, K94, K97, K100, K101, K104, K108, K112, K120, K121, K122, K123, K124, K125, K127, K255, K300, K1000, K9999, K99999, K2147483647, f_X1_add, hxc, h6]
        · show f_X7_book μ _ _ = _
          unfold f_X7_book
          rw [if_neg ha, hm μ m1.1.1, hbm]
          simp (disch := omega) only [ofN, lC_lt, lC_ge, lC_eq, lC_gt, lC_le, T_ltL, F_ltL, T_leL, F_leL, T_eqL, F_eqL, m1_0, lN_add, nI_lE, lN_i, ↓reduceIte, bind_s, T_lt, F_lt, T_le, F_le, T_eq, F_eq, F_neg, T_ltm, F_lem, F_ltm, nI_add, nI_mul, nI_sub, ldI_n, stI_n, aix_n, ldL_n, stL_n, ldF_n, gI_atE, gI_ne1, gI_ne2, gL_atE, gL_ne1, gL_ne2, gL_s, gI_s, w7T, w7F1, w7F2, and31, K0, K1, K2, K3, K4, K5, K6, K7, K8, K9, K10, K11, K12, K14, K16, K18, K20, K24, K29, K30, K31, K32, K33, K36, K38, K40, K41, K42, K48, K50, K51, K54, K57, K59, K60, K63, K70, K71, K84, K94, K97, K100, K101, K104, K108, K112, K120, K121, K122, K123, K124, K125, K127, K255, K300, K1000, K9999, K99999, K2147483647, hmc, h6]
      · obtain ⟨H, hHd⟩ : ∃ H, H = T.1 0 34 0 := ⟨_, rfl⟩
        have hX := XS_book (w := e) (n := n) (v := 0) x1 o1.n (by omega)
        rw [← hHd] at hX hxc hmc h6 hH
        refine same_n (r := nI (H + 1)) (σ := up (up (up (T.1 0) 35 H e) 36 H n) 34 0 (H + 1)) (μ1 := addM μ (100 + 50) H (nI e) (nI n) 0) (μ2 := sI (sI (sI (addM μ (100 + 50) H (nI e) (nI n) 0) 2035 H (nI e)) 2000 34 (nI (H + 1))) 2036 H (nI n)) hR ?_ ?_ (XO_add (by omega)) hX ?_ (MS_book (MS_X (fun k hk => addM_ne (by omega) (by omega)) m1) hHd (by omega)) ?_
        · show f_X6_book μ _ _ = _
          unfold f_X6_book
          rw [if_neg ha, hx μ x1.1.1, hbx]
          simp (disch := omega) only [ofN, lC_lt, lC_ge, lC_eq, lC_gt, lC_le, T_ltL, F_ltL, T_leL, F_leL, T_eqL, F_eqL, m1_0, lN_add, nI_lE, lN_i, ↓reduceIte, bind_s, T_lt, F_lt, T_le, F_le, T_eq, F_eq, F_neg, T_ltm, F_lem, F_ltm, nI_add, nI_mul, nI_sub, ldI_n, stI_n, aix_n, ldL_n, stL_n, ldF_n, gI_atE, gI_ne1, gI_ne2, gL_atE, gL_ne1, gL_ne2, gL_s, gI_s, w7T, w7F1, w7F2, and31, K0, K1, K2, K3, K4, K5, K6, K7, K8, K9, K10, K11, K12, K14, K16, K18, K20, K24, K29, K30, K31, K32, K33, K36, K38, K40, K41, K42, K48, K50, K51, K54, K57, K59, K60, K63, K70, K71, K84, K94, K97, K100, K101, K104, K108, K112, K120, K121, K122, K123, K124, K125, K127, K255, K300, K1000, K9999, K99999, K2147483647, f_X1_add, hxc, addM]
        · show f_X7_book _ _ _ = _
          unfold f_X7_book
          rw [if_neg ha, hm _ (by rw [addM_ne (by omega) (by omega)]; exact m1.1.1), hbm]
          simp (disch := omega) only [ofN, lC_lt, lC_ge, lC_eq, lC_gt, lC_le, T_ltL, F_ltL, T_leL, F_leL, T_eqL, F_eqL, m1_0, lN_add, nI_lE, lN_i, ↓reduceIte, bind_s, T_lt, F_lt, T_le, F_le, T_eq, F_eq, F_neg, T_ltm, F_lem, F_ltm, nI_add, nI_mul, nI_sub, ldI_n, stI_n, aix_n, ldL_n, stL_n, ldF_n, gI_atE, gI_ne1, gI_ne2, gL_atE, gL_ne1, gL_ne2, gL_s, gI_s, w7T, w7F1, w7F2, and31, K0, K1, K2, K3, K4, K5, K6, K7, K8, K9, K10, K11, K12, K14, K16, K18, K20, K24, K29, K30, K31, K32, K33, K36, K38, K40, K41, K42, K48, K50, K51, K54, K57, K59, K60, K63, K70, K71, K84, K94, K97, K100, K101, K104, K108, K112, K120, K121, K122, K123, K124, K125, K127, K255, K300, K1000, K9999, K99999, K2147483647, hmc, addM]
        · exact MO.trans (MO.trans (MO_s (by unfold mrow; omega)) (MO_f (by unfold mfld; omega))) (MO_s (by unfold mrow; omega))
        · refine okS_rows (okS_rows (okS_rows o1 (.inr (.inr (.inr (.inr (.inr ⟨by omega, by omega⟩)))))) (.inr (.inr (.inr (.inr (.inr ⟨by omega, by ((try simp (disch := omega) only [gI_atE, gI_ne1, gI_ne2, up_atE, up_n1, up_n2]) <;> omega)⟩)))))) (.inr (.inr (.inl ⟨rfl, rfl, by omega, fun x hx => ?_⟩)))
          by_cases h : x = H
          · refine ⟨?_, ?_⟩ <;> ((try simp (disch := omega) only [gI_atE, gI_ne1, gI_ne2, up_atE, up_n1, up_n2]) <;> omega)
          · have := o1.2.2.2.2.2 x (by omega)
            refine ⟨?_, ?_⟩ <;> ((try simp (disch := omega) only [gI_atE, gI_ne1, gI_ne2, up_atE, up_n1, up_n2]) <;> omega)
    · refine same_q (r := -2) hR ?_ ?_
      · show f_X6_book μ _ b = _
        unfold f_X6_book; rw [if_neg ha, hx μ x1.1.1, hbx]; rfl
      · show f_X7_book μ _ b = _
        unfold f_X7_book; rw [if_neg ha, hm μ m1.1.1, hbm]; rfl
  · refine same_q (r := -1) hR ?_ ?_
    · show f_X6_book μ a b = _
      unfold f_X6_book; rw [if_neg ha, hx μ x1.1.1]; rfl
    · show f_X7_book μ a b = _
      unfold f_X7_book; rw [if_neg ha, hm μ m1.1.1]; rfl
/-- the end of plan, where a row comes -/
theorem plan_fin {T : PT} {μ : Mem} (hR : RR T μ) {w n H : Nat} {b v : Int32} {fx fm : Mem → Option (Int32 × Mem)} (hw : w ≤ 3) (hv : w ≠ 0 → b = nI n) (hv' : w ≠ 0 → v = nI n) (c1 : w = 1 ∨ w = 2 → n < T.1 0 0 0) (c3 : w = 3 → n ≤ 127) (hHd : H = T.1 0 31 0) (hP : H < 10)
    (h1 : fx μ = some (nI (H + 1), addM μ (100 + 30) H (nI w) b 0))
    (h2 : fm (addM μ (100 + 30) H (nI w) b 0) = some (nI (H + 1), sI (sI (sI (addM μ (100 + 30) H (nI w) b 0) 2032 H (nI w)) 2000 31 (nI (H + 1))) 2033 H v)) : Same T μ fx fm := by
  obtain ⟨⟨x1, _⟩, ⟨m1, _⟩, o1, _⟩ := id hR
  have hE := o1.1.1
  have hX := XS_plan (w := w) (n := n) (v := b) x1 o1.n (by omega) hv
  rw [← hHd] at hX
  refine same_n (r := nI (H + 1)) (σ := up (up (up (T.1 0) 32 H w) 33 H n) 31 0 (H + 1)) (μ1 := addM μ (100 + 30) H (nI w) b 0) (μ2 := sI (sI (sI (addM μ (100 + 30) H (nI w) b 0) 2032 H (nI w)) 2000 31 (nI (H + 1))) 2033 H v) hR h1 h2 (XO_add (by omega)) hX ?_ (MS_plan (MS_X (fun k hk => addM_ne (by omega) (by omega)) m1) hHd (by omega) hv') ?_
  · exact MO.trans (MO.trans (MO_s (by unfold mrow; omega)) (MO_f (by unfold mfld; omega))) (MO_s (by unfold mrow; omega))
  · refine okS_rows (okS_rows (okS_rows o1 (.inr (.inr (.inr (.inr (.inl ⟨by omega, by omega⟩)))))) (.inr (.inr (.inr (.inr (.inl ⟨by omega, by ((try simp (disch := omega) only [gI_atE, gI_ne1, gI_ne2, up_atE, up_n1, up_n2]) <;> omega)⟩)))))) (.inr (.inl ⟨rfl, rfl, by omega, fun x hx => ?_⟩))
    by_cases h : x = H
    · refine ⟨?_, ?_, ?_⟩ <;> ((try simp (disch := omega) only [gI_atE, gI_ne1, gI_ne2, up_atE, up_n1, up_n2]) <;> omega)
    · have := o1.2.2.2.1.2 x (by omega)
      refine ⟨?_, ?_, ?_⟩ <;> ((try simp (disch := omega) only [gI_atE, gI_ne1, gI_ne2, up_atE, up_n1, up_n2]) <;> omega)
theorem s_plan {T : PT} {μ : Mem} (hR : RR T μ) (a b : Int32) : Same T μ (fun μ => f_X6_plan μ a b) (fun μ => f_X7_plan μ a b) := by
  obtain ⟨⟨x1, _⟩, ⟨m1, _⟩, o1, _⟩ := id hR
  have hE := o1.1.1
  have hH := o1.2.2.2.1.1
  have hxc : gI μ (100 + 30) 1 = nI (T.1 0 31 0) := x1.2.2.2.1.1
  have hmc : gI μ 2000 31 = nI (T.1 0 31 0) := m1.2.2.2.1.1
  have hmE : gI μ 2000 0 = nI (T.1 0 0 0) := m1.1.1
  by_cases ha : a = -1
  · subst ha
    refine same_n (r := 0) (σ := up (T.1 0) 31 0 0) (μ1 := sI μ (100 + 30) 1 (nI 0)) (μ2 := sI (sI μ (100 + 30) 1 (nI 0)) 2000 31 (nI 0)) hR ?_ ?_ (XO_s (by omega)) (XS_zero x1 o1.n (by omega)) (MO_f (by unfold mfld; omega)) (MS_zero (MS_X (fun k hk => gI_sI_ne (by omega)) m1) (by omega)) (okS_zero o1 (by omega))
    · show f_X6_plan μ _ _ = _
      unfold f_X6_plan f_X1_empty; rw [if_pos rfl]; rfl
    · show f_X7_plan _ _ _ = _
      unfold f_X7_plan; rw [if_pos rfl]; rfl
  rcases arg a (lo := 0) (hi := 3) (A := 0) (B := 3) (C := 0) (D := 3) rfl rfl rfl rfl with ⟨w, _, hw, _, rfl, hax, ham⟩ | ⟨_, hax, ham⟩
  · obtain ⟨H, hHd⟩ : ∃ H, H = T.1 0 31 0 := ⟨_, rfl⟩
    rw [← hHd] at hxc hmc hH
    rcases (show w = 0 ∨ (w = 1 ∨ w = 2) ∨ w = 3 by omega) with rfl | hw12 | rfl
    · by_cases h10 : H = 10
      · refine same_q (r := -4) hR ?_ ?_
        · show f_X6_plan μ _ _ = _
          unfold f_X6_plan; rw [if_neg ha, hax]
          simp (disch := omega) only [ofN, lC_lt, lC_ge, lC_eq, lC_gt, lC_le, T_ltL, F_ltL, T_leL, F_leL, T_eqL, F_eqL, m1_0, lN_add, nI_lE, lN_i, ↓reduceIte, bind_s, T_lt, F_lt, T_le, F_le, T_eq, F_eq, F_neg, T_ltm, F_lem, F_ltm, nI_add, nI_mul, nI_sub, ldI_n, stI_n, aix_n, ldL_n, stL_n, ldF_n, gI_atE, gI_ne1, gI_ne2, gL_atE, gL_ne1, gL_ne2, gL_s, gI_s, w7T, w7F1, w7F2, and31, K0, K1, K2, K3, K4, K5, K6, K7, K8, K9, K10, K11, K12, K14, K16, K18, K20, K24, K29, K30, K31, K32, K33, K36, K38, K40, K41, K42, K48, K50, K51, K54, K57, K59, K60, K63, K70, K71, K84, K94, K97, K100, K101, K104, K108, K112, K120, K121, K122, K123, K124, K125, K127, K255, K300, K1000, K9999, K99999, K2147483647, f_X6_plan_40, f_X6_plan_53, f_X6_plan_73, f_X1_add, hxc]
        · show f_X7_plan μ _ _ = _
          unfold f_X7_plan; rw [if_neg ha, ham]
          simp (disch := omega) only [ofN, lC_lt, lC_ge, lC_eq, lC_gt, lC_le, T_ltL, F_ltL, T_leL, F_leL, T_eqL, F_eqL, m1_0, lN_add, nI_lE, lN_i, ↓reduceIte, bind_s, T_lt, F_lt, T_le, F_le, T_eq, F_eq, F_neg, T_ltm, F_lem, F_ltm, nI_add, nI_mul, nI_sub, ldI_n, stI_n, aix_n, ldL_n, stL_n, ldF_n, gI_atE, gI_ne1, gI_ne2, gL_atE, gL_ne1, gL_ne2, gL_s, gI_s, w7T, w7F1, w7F2, and31, K0, K1, K2, K3, K4, K5, K6, K7, K8, K9, K10, K11, K12, K14, K16, K18, K20, K24, K29, K30, K31, K32, K33, K36, K38, K40, K41, K42, K48, K50, K51, K54, K57, K59, K60, K63, K70, K71, K84, K94, K97, K100, K101, K104, K108, K112, K120, K121, K122, K123, K124, K125, K127, K255, K300, K1000, K9999, K99999, K2147483647, f_X7_plan_40, f_X7_plan_58, hmc]
      · refine plan_fin (w := 0) (n := 0) (v := nI 0) (H := H) (b := b) hR (by omega) (by omega) (by omega) (by omega) (by omega) hHd (by omega) ?_ ?_
        · show f_X6_plan μ _ _ = _
          unfold f_X6_plan; rw [if_neg ha, hax]
          simp (disch := omega) only [ofN, lC_lt, lC_ge, lC_eq, lC_gt, lC_le, T_ltL, F_ltL, T_leL, F_leL, T_eqL, F_eqL, m1_0, lN_add, nI_lE, lN_i, ↓reduceIte, bind_s, T_lt, F_lt, T_le, F_le, T_eq, F_eq, F_neg, T_ltm, F_lem, F_ltm, nI_add, nI_mul, nI_sub, ldI_n, stI_n, aix_n, ldL_n, stL_n, ldF_n, gI_atE, gI_ne1, gI_ne2, gL_atE, gL_ne1, gL_ne2, gL_s, gI_s, w7T, w7F1, w7F2, and31, K0, K1, K2, K3, K4, K5, K6, K7, K8, K9, K10, K11, K12, K14, K16, K18, K20, K24, K29, K30, K31, K32, K33, K36, K38, K40, K41, K42, K48, K50, K51, K54, K57, K59, K60, K63, K70, K71, K84, K94, K97, K100, K101, K104, K108, K112, K120, K121, K122, K123, K124, K125, K127, K255, K300, K1000, K9999, K99999, K2147483647, f_X6_plan_40, f_X6_plan_53, f_X6_plan_73, f_X1_add, hxc, addM]
        · show f_X7_plan _ _ _ = _
          unfold f_X7_plan; rw [if_neg ha, ham]
          simp (disch := omega) only [ofN, lC_lt, lC_ge, lC_eq, lC_gt, lC_le, T_ltL, F_ltL, T_leL, F_leL, T_eqL, F_eqL, m1_0, lN_add, nI_lE, lN_i, ↓reduceIte, bind_s, T_lt, F_lt, T_le, F_le, T_eq, F_eq, F_neg, T_ltm, F_lem, F_ltm, nI_add, nI_mul, nI_sub, ldI_n, stI_n, aix_n, ldL_n, stL_n, ldF_n, gI_atE, gI_ne1, gI_ne2, gL_atE, gL_ne1, gL_ne2, gL_s, gI_s, w7T, w7F1, w7F2, and31, K0, K1, K2, K3, K4, K5, K6, K7, K8, K9, K10, K11, K12, K14, K16, K18, K20, K24, K29, K30, K31, K32, K33, K36, K38, K40, K41, K42, K48, K50, K51, K54, K57, K59, K60, K63, K70, K71, K84, K94, K97, K100, K101, K104, K108, K112, K120, K121, K122, K123, K124, K125, K127, K255, K300, K1000, K9999, K99999, K2147483647, f_X7_plan_40, f_X7_plan_58, f_X7_plan_104, hmc, addM]
    · rcases oneS (S := 100) (E := T.1 0 0 0) (by omega) b with ⟨e, he, rfl, hx, hm⟩ | ⟨hn, hx, hm⟩
      · by_cases h10 : H = 10
        · refine same_q (r := -4) hR ?_ ?_
          · show f_X6_plan μ _ _ = _
            unfold f_X6_plan; rw [if_neg ha, hax]
            rcases hw12 with rfl | rfl <;> simp (disch := omega) only [ofN, lC_lt, lC_ge, lC_eq, lC_gt, lC_le, T_ltL, F_ltL, T_leL, F_leL, T_eqL, F_eqL, m1_0, lN_add, nI_lE, lN_i, ↓reduceIte, bind_s, T_lt, F_lt, T_le, F_le, T_eq, F_eq, F_neg, T_ltm, F_lem, F_ltm, nI_add, nI_mul, nI_sub, ldI_n, stI_n, aix_n, ldL_n, stL_n, ldF_n, gI_atE, gI_ne1, gI_ne2, gL_atE, gL_ne1, gL_ne2, gL_s, gI_s, w7T, w7F1, w7F2, and31, K0, K1, K2, K3, K4, K5, K6, K7, K8, K9, K10, K11, K12, K14, K16, K18, K20, K24, K29, K30, K31, K32, K33, K36, K38, K40, K41, K42, K48, K50, K51, K54, K57, K59, K60, K63, K70, K71, K84, K94, K97, K100, K101, K104, K108, K112, K120, K121, K122, K123, K124, K125, K127, K255, K300, K1000, K9999, K99999, K2147483647, f_X6_plan_40, ↓(hx μ x1.1.1), f_X6_plan_53, f_X6_plan_73, f_X1_add, hxc]
          · show f_X7_plan μ _ _ = _
            unfold f_X7_plan; rw [if_neg ha, ham]
            rcases hw12 with rfl | rfl <;> simp (disch := omega) only [ofN, lC_lt, lC_ge, lC_eq, lC_gt, lC_le, T_ltL, F_ltL, T_leL, F_leL, T_eqL, F_eqL, m1_0, lN_add, nI_lE, lN_i, ↓reduceIte, bind_s, T_lt, F_lt, T_le, F_le, T_eq, F_eq, F_neg, T_ltm, F_lem, F_ltm, nI_add, nI_mul, nI_sub, ldI_n, stI_n, aix_n, ldL_n, stL_n, ldF_n, gI_atE, gI_ne1, gI_ne2, gL_atE, gL_ne1, gL_ne2, gL_s, gI_s, w7T, w7F1, w7F2, and31, K0, K1, K2, K3, K4, K5, K6, K7, K8, K9, K10, K11, K12, K14, K16, K18, K20, K24, K29, K30, K31, K32, K33, K36, K38, K40, K41, K42, K48, K50, K51, K54, K57, K59, K60, K63, K70, K71, K84, K94, K97, K100, K101, K104, K108, K112, K120, K121, K122, K123, K124, K125, K127, K255, K300, K1000, K9999, K99999, K2147483647, ↓(hm μ m1.1.1), f_X7_plan_40, f_X7_plan_58, hmc]
        · refine plan_fin (w := w) (n := e) (v := nI e) (H := H) (b := nI e) hR (by omega) (fun _ => rfl) (fun _ => rfl) (fun _ => he) (by omega) hHd (by omega) ?_ ?_
          · show f_X6_plan μ _ _ = _
            unfold f_X6_plan; rw [if_neg ha, hax]
            rcases hw12 with rfl | rfl <;> simp (disch := omega) only [ofN, lC_lt, lC_ge, lC_eq, lC_gt, lC_le, T_ltL, F_ltL, T_leL, F_leL, T_eqL, F_eqL, m1_0, lN_add, nI_lE, lN_i, ↓reduceIte, bind_s, T_lt, F_lt, T_le, F_le, T_eq, F_eq, F_neg, T_ltm, F_lem, F_ltm, nI_add, nI_mul, nI_sub, ldI_n, stI_n, aix_n, ldL_n, stL_n, ldF_n, gI_atE, gI_ne1, gI_ne2, gL_atE, gL_ne1, gL_ne2, gL_s, gI_s, w7T, w7F1, w7F2, and31, K0, K1, K2, K3, K4, K5, K6, K7, K8, K9, K10, K11, K12, K14, K16, K18, K20, K24, K29, K30, K31, K32, K33, K36, K38, K40, K41, K42, K48, K50, K51, K54, K57, K59, K60, K63, K70, K71, K84, K94, K97, K100, K101, K104, K108, K112, K120, K121, K122, K123, K124, K125, K127, K255, K300, K1000, K9999, K99999, K2147483647, f_X6_plan_40, ↓(hx μ x1.1.1), f_X6_plan_53, f_X6_plan_73, f_X1_add, hxc, addM]
          · show f_X7_plan _ _ _ = _
            unfold f_X7_plan; rw [if_neg ha, ham]
            rcases hw12 with rfl | rfl <;> simp (disch := omega) only [ofN, lC_lt, lC_ge, lC_eq, lC_gt, lC_le, T_ltL, F_ltL, T_leL, F_leL, T_eqL, F_eqL, m1_0, lN_add, nI_lE, lN_i, ↓reduceIte, bind_s, T_lt, F_lt, T_le, F_le, T_eq, F_eq, F_neg, T_ltm, F_lem, F_ltm, nI_add, nI_mul, nI_sub, ldI_n, stI_n, aix_n, ldL_n, stL_n, ldF_n, gI_atE, gI_ne1, gI_ne2, gL_atE, gL_ne1, gL_ne2, gL_s, gI_s, w7T, w7F1, w7F2, and31, K0, K1, K2, K3, K4, K5, K6, K7, K8, K9, K10, K11, K12, K14, K16, K18, K20, K24, K29, K30, K31, K32, K33, K36, K38, K40, K41, K42, K48, K50, K51, K54, K57, K59, K60, K63, K70, K71, K84, K94, K97, K100, K101, K104, K108, K112, K120, K121, K122, K123, K124, K125, K127, K255, K300, K1000, K9999, K99999, K2147483647, f_X7_isOne, hmE, f_X7_plan_40, f_X7_plan_58, f_X7_plan_104, hmc, addM]
      · refine same_q (r := -1) hR ?_ ?_
        · show f_X6_plan μ _ _ = _
          unfold f_X6_plan; rw [if_neg ha, hax]
          rcases hw12 with rfl | rfl <;> simp (disch := omega) only [ofN, lC_lt, lC_ge, lC_eq, lC_gt, lC_le, T_ltL, F_ltL, T_leL, F_leL, T_eqL, F_eqL, m1_0, lN_add, nI_lE, lN_i, ↓reduceIte, bind_s, T_lt, F_lt, T_le, F_le, T_eq, F_eq, F_neg, T_ltm, F_lem, F_ltm, nI_add, nI_mul, nI_sub, ldI_n, stI_n, aix_n, ldL_n, stL_n, ldF_n, gI_atE, gI_ne1, gI_ne2, gL_atE, gL_ne1, gL_ne2, gL_s, gI_s, w7T, w7F1, w7F2, and31, K0, K1, K2, K3, K4, K5, K6, K7, K8, K9, K10, K11, K12, K14, K16, K18, K20, K24, K29, K30, K31, K32, K33, K36, K38, K40, K41, K42, K48, K50, K51, K54, K57, K59, K60, K63, K70, K71, K84, K94, K97, K100, K101, K104, K108, K112, K120, K121, K122, K123, K124, K125, K127, K255, K300, K1000, K9999, K99999, K2147483647, f_X6_plan_40, ↓(hx μ x1.1.1)]
        · show f_X7_plan μ _ _ = _
          unfold f_X7_plan; rw [if_neg ha, ham]
          rcases hw12 with rfl | rfl <;> simp (disch := omega) only [ofN, lC_lt, lC_ge, lC_eq, lC_gt, lC_le, T_ltL, F_ltL, T_leL, F_leL, T_eqL, F_eqL, m1_0, lN_add, nI_lE, lN_i, ↓reduceIte, bind_s, T_lt, F_lt, T_le, F_le, T_eq, F_eq, F_neg, T_ltm, F_lem, F_ltm, nI_add, nI_mul, nI_sub, ldI_n, stI_n, aix_n, ldL_n, stL_n, ldF_n, gI_atE, gI_ne1, gI_ne2, gL_atE, gL_ne1, gL_ne2, gL_s, gI_s, w7T, w7F1, w7F2, and31, K0, K1, K2, K3, K4, K5, K6, K7, K8, K9, K10, K11, K12, K14, K16, K18, K20, K24, K29, K30, K31, K32, K33, K36, K38, K40, K41, K42, K48, K50, K51, K54, K57, K59, K60, K63, K70, K71, K84, K94, K97, K100, K101, K104, K108, K112, K120, K121, K122, K123, K124, K125, K127, K255, K300, K1000, K9999, K99999, K2147483647, ↓(hm μ m1.1.1)]
    · rcases arg b (lo := 0) (hi := 127) (A := 0) (B := 127) (C := 0) (D := 127) rfl rfl rfl rfl with ⟨n, _, hn, _, rfl, hbx, hbm⟩ | ⟨_, hbx, hbm⟩
      · by_cases h10 : H = 10
        · refine same_q (r := -4) hR ?_ ?_
          · show f_X6_plan μ _ _ = _
            unfold f_X6_plan; rw [if_neg ha, hax]
            simp (disch := omega) only [ofN, lC_lt, lC_ge, lC_eq, lC_gt, lC_le, T_ltL, F_ltL, T_leL, F_leL, T_eqL, F_eqL, m1_0, lN_add, nI_lE, lN_i, ↓reduceIte, bind_s, T_lt, F_lt, T_le, F_le, T_eq, F_eq, F_neg, T_ltm, F_lem, F_ltm, nI_add, nI_mul, nI_sub, ldI_n, stI_n, aix_n, ldL_n, stL_n, ldF_n, gI_atE, gI_ne1, gI_ne2, gL_atE, gL_ne1, gL_ne2, gL_s, gI_s, w7T, w7F1, w7F2, and31, K0, K1, K2, K3, K4, K5, K6, K7, K8, K9, K10, K11, K12, K14, K16, K18, K20, K24, K29, K30, K31, K32, K33, K36, K38, K40, K41, K42, K48, K50, K51, K54, K57, K59, K60, K63, K70, K71, K84, K94, K97, K100, K101, K104, K108, K112, K120, K121, K122, K123, K124, K125, K127, K255, K300, K1000, K9999, K99999, K2147483647, f_X6_plan_40, f_X6_plan_53, ↓hbx, f_X6_plan_73, f_X1_add, hxc]
          · show f_X7_plan μ _ _ = _
            unfold f_X7_plan; rw [if_neg ha, ham]
            simp (disch := omega) only [ofN, lC_lt, lC_ge, lC_eq, lC_gt, lC_le, T_ltL, F_ltL, T_leL, F_leL, T_eqL, F_eqL, m1_0, lN_add, nI_lE, lN_i, ↓reduceIte, bind_s, T_lt, F_lt, T_le, F_le, T_eq, F_eq, F_neg, T_ltm, F_lem, F_ltm, nI_add, nI_mul, nI_sub, ldI_n, stI_n, aix_n, ldL_n, stL_n, ldF_n, gI_atE, gI_ne1, gI_ne2, gL_atE, gL_ne1, gL_ne2, gL_s, gI_s, w7T, w7F1, w7F2, and31, K0, K1, K2, K3, K4, K5, K6, K7, K8, K9, K10, K11, K12, K14, K16, K18, K20, K24, K29, K30, K31, K32, K33, K36, K38, K40, K41, K42, K48, K50, K51, K54, K57, K59, K60, K63, K70, K71, K84, K94, K97, K100, K101, K104, K108, K112, K120, K121, K122, K123, K124, K125, K127, K255, K300, K1000, K9999, K99999, K2147483647, f_X7_plan_40, f_X7_plan_58, hmc]
        · refine plan_fin (w := 3) (n := n) (v := nI n) (H := H) (b := nI n) hR (by omega) (fun _ => rfl) (fun _ => rfl) (by omega) (fun _ => hn) hHd (by omega) ?_ ?_
          · show f_X6_plan μ _ _ = _
            unfold f_X6_plan; rw [if_neg ha, hax]
            simp (disch := omega) only [ofN, lC_lt, lC_ge, lC_eq, lC_gt, lC_le, T_ltL, F_ltL, T_leL, F_leL, T_eqL, F_eqL, m1_0, lN_add, nI_lE, lN_i, ↓reduceIte, bind_s, T_lt, F_lt, T_le, F_le, T_eq, F_eq, F_neg, T_ltm, F_lem, F_ltm, nI_add, nI_mul, nI_sub, ldI_n, stI_n, aix_n, ldL_n, stL_n, ldF_n, gI_atE, gI_ne1, gI_ne2, gL_atE, gL_ne1, gL_ne2, gL_s, gI_s, w7T, w7F1, w7F2, and31, K0, K1, K2, K3, K4, K5, K6, K7, K8, K9, K10, K11, K12, K14, K16, K18, K20, K24, K29, K30, K31, K32, K33, K36, K38, K40, K41, K42, K48, K50, K51, K54, K57, K59, K60, K63, K70, K71, K84, K94, K97, K100, K101, K104, K108, K112, K120, K121, K122, K123, K124, K125, K127, K255, K300, K1000, K9999, K99999, K2147483647, f_X6_plan_40, f_X6_plan_53, ↓hbx, f_X6_plan_73, f_X1_add, hxc, addM]
          · show f_X7_plan _ _ _ = _
            unfold f_X7_plan; rw [if_neg ha, ham]
            simp (disch := omega) only [ofN, lC_lt, lC_ge, lC_eq, lC_gt, lC_le, T_ltL, F_ltL, T_leL, F_leL, T_eqL, F_eqL, m1_0, lN_add, nI_lE, lN_i, ↓reduceIte, bind_s, T_lt, F_lt, T_le, F_le, T_eq, F_eq, F_neg, T_ltm, F_lem, F_ltm, nI_add, nI_mul, nI_sub, ldI_n, stI_n, aix_n, ldL_n, stL_n, ldF_n, gI_atE, gI_ne1, gI_ne2, gL_atE, gL_ne1, gL_ne2, gL_s, gI_s, w7T, w7F1, w7F2, and31, K0, K1, K2, K3, K4, K5, K6, K7, K8, K9, K10, K11, K12, K14, K16, K18, K20, K24, K29, K30, K31, K32, K33, K36, K38, K40, K41, K42, K48, K50, K51, K54, K57, K59, K60, K63, K70, K71, K84, K94, K97, K100, K101, K104, K108, K112, K120, K121, K122, K123, K124, K125, K127, K255, K300, K1000, K9999, K99999, K2147483647, f_X7_plan_40, f_X7_plan_58, f_X7_plan_104, hmc, addM]
      · refine same_q (r := -2) hR ?_ ?_
        · show f_X6_plan μ _ _ = _
          unfold f_X6_plan; rw [if_neg ha, hax]
          simp (disch := omega) only [ofN, lC_lt, lC_ge, lC_eq, lC_gt, lC_le, T_ltL, F_ltL, T_leL, F_leL, T_eqL, F_eqL, m1_0, lN_add, nI_lE, lN_i, ↓reduceIte, bind_s, T_lt, F_lt, T_le, F_le, T_eq, F_eq, F_neg, T_ltm, F_lem, F_ltm, nI_add, nI_mul, nI_sub, ldI_n, stI_n, aix_n, ldL_n, stL_n, ldF_n, gI_atE, gI_ne1, gI_ne2, gL_atE, gL_ne1, gL_ne2, gL_s, gI_s, w7T, w7F1, w7F2, and31, K0, K1, K2, K3, K4, K5, K6, K7, K8, K9, K10, K11, K12, K14, K16, K18, K20, K24, K29, K30, K31, K32, K33, K36, K38, K40, K41, K42, K48, K50, K51, K54, K57, K59, K60, K63, K70, K71, K84, K94, K97, K100, K101, K104, K108, K112, K120, K121, K122, K123, K124, K125, K127, K255, K300, K1000, K9999, K99999, K2147483647, f_X6_plan_40, f_X6_plan_53, ↓hbx]
        · show f_X7_plan μ _ _ = _
          unfold f_X7_plan; rw [if_neg ha, ham]
          simp (disch := omega) only [ofN, lC_lt, lC_ge, lC_eq, lC_gt, lC_le, T_ltL, F_ltL, T_leL, F_leL, T_eqL, F_eqL, m1_0, lN_add, nI_lE, lN_i, ↓reduceIte, bind_s, T_lt, F_lt, T_le, F_le, T_eq, F_eq, F_neg, T_ltm, F_lem, F_ltm, nI_add, nI_mul, nI_sub, ldI_n, stI_n, aix_n, ldL_n, stL_n, ldF_n, gI_atE, gI_ne1, gI_ne2, gL_atE, gL_ne1, gL_ne2, gL_s, gI_s, w7T, w7F1, w7F2, and31, K0, K1, K2, K3, K4, K5, K6, K7, K8, K9, K10, K11, K12, K14, K16, K18, K20, K24, K29, K30, K31, K32, K33, K36, K38, K40, K41, K42, K48, K50, K51, K54, K57, K59, K60, K63, K70, K71, K84, K94, K97, K100, K101, K104, K108, K112, K120, K121, K122, K123, K124, K125, K127, K255, K300, K1000, K9999, K99999, K2147483647, f_X7_plan_40, ↓hbm]
  · refine same_q (r := -1) hR ?_ ?_
    · show f_X6_plan μ a b = _
      unfold f_X6_plan; rw [if_neg ha, hax]; rfl
    · show f_X7_plan μ a b = _
      unfold f_X7_plan; rw [if_neg ha, ham]; rfl
